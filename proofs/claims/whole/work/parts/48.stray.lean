-- STRAY
theorem iAnd_nn (z : Int) : 0 ≤ iAnd z 2147483647 ∧ iAnd z 2147483647 < 2147483648 := by
  unfold iAnd i2
  dsimp only
  have h1 : (Int32.ofInt z &&& Int32.ofInt 2147483647).toBitVec.toNat ≤ 2147483647 := by
    rw [Int32.toBitVec_and, BitVec.toNat_and]
    exact Nat.le_trans Nat.and_le_right (by decide)
  have h2 : (Int32.ofInt z &&& Int32.ofInt 2147483647).toInt = ((Int32.ofInt z &&& Int32.ofInt 2147483647).toBitVec.toNat : Int) := by
    show (Int32.ofInt z &&& Int32.ofInt 2147483647).toBitVec.toInt = _
    rw [BitVec.toInt_eq_toNat_of_lt]
    omega
  rw [h2]
  omega
def lcg (z : Int) : Int := w32 (w32 (z * 1664525) + 1013904223)
def plc (z : Int) (P : Nat) : Int := iRem (iDiv (iAnd z 2147483647) 256) P
theorem plc_b (z : Int) {P : Nat} (h : 0 < P) (h8 : P ≤ 8) : 0 ≤ plc z P ∧ plc z P < P := by
  have h1 := iAnd_nn z
  unfold plc
  rw [iDiv_eq h1.1 h1.2 (by omega) (by omega), iRem_eq (by omega) (by omega) (by omega) (by omega)]
  exact ⟨Int.emod_nonneg _ (by omega), Int.emod_lt_of_pos _ (by omega)⟩
def zz (z : Int) : Nat → Int
  | 0 => z
  | k + 1 => lcg (zz z k)
def st1 (A : II) (D : Nat → Int) (y : LF) (p : Int) : LF := if lAge y + D (8 * (lAt y).toNat + p.toNat) ≤ A 7 2 then goL D y p else y
def stX (A : II) (D : Nat → Int) (n P : Nat) (z : Int) : Nat → LF
  | 0 => tkA A false n (A 7 3, 0, 0, z0)
  | k + 1 => tkA A false n (st1 A D (stX A D n P z k) (plc (zz z (k + 1)) P))
theorem okL_st1 {A : II} {D : Nat → Int} {y : LF} {p : Int} (hS : okSt A) (hD : bD D) (hy : okL y) (hp : 0 ≤ p ∧ p < 8) : okL (st1 A D y p) := by
  unfold st1
  split
  · rename_i h; exact okL_go hS hD hy hp h
  · exact hy
theorem okL_stX {A : II} {D : Nat → Int} {n P : Nat} {z : Int} (hA : okA A n) (hS : okSt A) (hD : bD D) (hP : 0 < P) (hP8 : P ≤ 8) : ∀ k, okL (stX A D n P z k)
  | 0 => okL_tkA hA (okL_z hS) n (Nat.le_refl n)
  | k + 1 => by
    have hp := plc_b (zz z (k + 1)) hP hP8
    exact okL_tkA hA (okL_st1 hS hD (okL_stX hA hS hD hP hP8 k) (by omega)) n (Nat.le_refl n)

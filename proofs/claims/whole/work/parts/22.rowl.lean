-- ROWS: an equation of WP an instruction (general)
theorem step_nm {m pc len pc' : Nat} {i : Instr} {ls ls' : LL} {st st' : List PV} {g g' : GG} {I I' : II} {cc : ByteArray} (hm : mCode m = cc) (hd : decode cc pc = .ok (i, len)) (h : stepI m i len pc ls st g I = nx pc' ls' st' g' I') : step m pc ls st g I = nx pc' ls' st' g' I' := step_nx (by rw [hm]; exact hd) h
theorem step_zm {m pc len : Nat} {i : Instr} {ls : LL} {st : List PV} {g : GG} {I : II} {cc : ByteArray} (hm : mCode m = cc) (hd : decode cc pc = .ok (i, len)) (h : stepI m i len pc ls st g I = none) : step m pc ls st g I = none := step_none (by rw [hm]; exact hd) h
theorem step_om {m pc len : Nat} {i : Instr} {ls : LL} {st : List PV} {g : GG} {I : II} {r : RS} {cc : ByteArray} (hm : mCode m = cc) (hd : decode cc pc = .ok (i, len)) (hc : iCls i ≠ 0) (h : stepI m i len pc ls st g I = r) : step m pc ls st g I = r := step_oth (by rw [hm]; exact hd) hc h
theorem i2_add (a b : Int) : i2 (fun x y => x + y) a b = w32 (a + b) := by
  unfold i2 w32
  dsimp only
  rw [← Int32.ofInt_add, Int32.toInt_ofInt]
theorem i2_sub (a b : Int) : i2 (fun x y => x - y) a b = w32 (a - b) := by
  unfold i2 w32
  dsimp only
  rw [← Int32.ofInt_sub, Int32.toInt_ofInt]
theorem i2_mul (a b : Int) : i2 (fun x y => x * y) a b = w32 (a * b) := by
  unfold i2 w32
  dsimp only
  rw [← Int32.ofInt_mul, Int32.toInt_ofInt]
theorem i1_neg (a : Int) : i1 (fun x => -x) a = w32 (-a) := by
  unfold i1 w32
  dsimp only
  rw [← Int32.ofInt_neg, Int32.toInt_ofInt]
theorem l2_add (a b : Int) : l2 (fun x y => x + y) a b = w64 (a + b) := by
  unfold l2 w64
  dsimp only
  rw [← Int64.ofInt_add, Int64.toInt_ofInt]
theorem l2_sub (a b : Int) : l2 (fun x y => x - y) a b = w64 (a - b) := by
  unfold l2 w64
  dsimp only
  rw [← Int64.ofInt_sub, Int64.toInt_ofInt]
theorem l2_mul (a b : Int) : l2 (fun x y => x * y) a b = w64 (a * b) := by
  unfold l2 w64
  dsimp only
  rw [← Int64.ofInt_mul, Int64.toInt_ofInt]
def iAnd (a b : Int) : Int := i2 (fun x y => x &&& y) a b
def iShl (a b : Int) : Int := i2 (fun x y => x <<< (y &&& 31)) a b
def iShr (a b : Int) : Int := i2 (fun x y => x >>> (y &&& 31)) a b
def iUshr (a b : Int) : Int := i2 (fun x y => (x.toUInt32 >>> (y.toUInt32 &&& Int32.toUInt32 31)).toInt32) a b
def iDiv (a b : Int) : Int := i2 (fun x y => x / y) a b
def iRem (a b : Int) : Int := i2 (fun x y => x - x / y * y) a b
def iI2b (a : Int) : Int := i1 (fun x => x.toInt8.toInt32) a
def iI2c (a : Int) : Int := i1 (fun x => (x.toUInt32 % 65536).toInt32) a
def lAnd (a b : Int) : Int := l2 (fun x y => x &&& y) a b
def lOr (a b : Int) : Int := l2 (fun x y => x ||| y) a b
def lDiv (a b : Int) : Int := l2 (fun x y => x / y) a b
def lRem (a b : Int) : Int := l2 (fun x y => x - x / y * y) a b
def lShl (a b : Int) : Int := l3 (fun x y => x <<< (y.toInt64 &&& 63)) a b
def lShr (a b : Int) : Int := l3 (fun x y => x >>> (y.toInt64 &&& 63)) a b
def lUshr (a b : Int) : Int := l3 (fun x y => (x.toUInt64 >>> (y.toInt64.toUInt64 &&& Int64.toUInt64 63)).toInt64) a b
def isTh (g : GG) (a : Nat) : Prop := (gK g a).1 = 0 ∧ (gK g a).2 ∈ [0, 1, 2, 3, 6, 9]
def WPv (d : Nat) (tg : List (Nat × Nat)) (b : Nat) (as : List PV) (g : GG) (I : II) (Q : QQ) : Prop := ∃ m, tg.lookup (gK g b).2 = some m ∧ WP d m 0 (entryL m (vr (some b) :: as)) [] g I Q
section ROWL
variable {d m pc k tgt : Nat} {cc : ByteArray} {ls ls' : LL} {st : List PV} {g : GG} {I : II} {Q : QQ}
theorem and_if {c : Prop} [Decidable c] {A : Prop} (h : c → WP d m pc ls st g I Q = A) (hn : ¬ c → WP d m pc ls st g I Q = False) : WP d m pc ls st g I Q = (c ∧ A) := by
  by_cases hc : c
  · rw [h hc]; exact propext ⟨fun q => ⟨hc, q⟩, fun q => q.2⟩
  · rw [hn hc]; exact propext ⟨False.elim, fun q => hc q.1⟩
theorem R_iconst {n : Int} (hm : mCode m = cc) (hd : decode cc pc = .ok (.iconst n, 1)) (hn : -1 ≤ n ∧ n ≤ 5) : WP d m pc ls st g I Q = WP d m (pc + 1) ls (vi n :: st) g I Q := WP_nx (step_nm hm hd (if_pos ⟨rfl, hn⟩))
theorem R_bipush {n : Int} (hm : mCode m = cc) (hd : decode cc pc = .ok (.bipush n, 2)) (hn : -128 ≤ n ∧ n < 128) : WP d m pc ls st g I Q = WP d m (pc + 2) ls (vi n :: st) g I Q := WP_nx (step_nm hm hd (if_pos ⟨rfl, hn⟩))
theorem R_sipush {n : Int} (hm : mCode m = cc) (hd : decode cc pc = .ok (.sipush n, 3)) (hn : -32768 ≤ n ∧ n < 32768) : WP d m pc ls st g I Q = WP d m (pc + 3) ls (vi n :: st) g I Q := WP_nx (step_nm hm hd (if_pos ⟨rfl, hn⟩))
theorem R_lconst {n : Fin 2} {z : Int} (hm : mCode m = cc) (hd : decode cc pc = .ok (.lconst n, 1)) (hz : ((n : Nat) : Int) = z) : WP d m pc ls st g I Q = WP d m (pc + 1) ls (vl z :: st) g I Q := by
  subst hz
  exact WP_nx (step_nm hm hd rfl)
theorem R_ldc {z : Int} (hm : mCode m = cc) (hd : decode cc pc = .ok (.ldc k, 2)) (hc : CT.lookup (mOwn m, k) = some (0, z)) : WP d m pc ls st g I Q = WP d m (pc + 2) ls (vi z :: st) g I Q := WP_nx (step_nm hm hd (by show s_ldc 2 _ _ _ _ _ _ _ _ = _; unfold s_ldc; rw [hc]; rfl))
theorem R_ldcS {z : Int} (hm : mCode m = cc) (hd : decode cc pc = .ok (.ldc k, 2)) (hc : CT.lookup (mOwn m, k) = some (1, z)) : WP d m pc ls st g I Q = WP d m (pc + 2) ls (vr (some 1) :: st) g I Q := WP_nx (step_nm hm hd (by show s_ldc 2 _ _ _ _ _ _ _ _ = _; unfold s_ldc; rw [hc]; rfl))
theorem R_ldcw {z : Int} (hm : mCode m = cc) (hd : decode cc pc = .ok (.ldc_w k, 3)) (hc : CT.lookup (mOwn m, k) = some (0, z)) : WP d m pc ls st g I Q = WP d m (pc + 3) ls (vi z :: st) g I Q := WP_nx (step_nm hm hd (by show s_ldc 3 _ _ _ _ _ _ _ _ = _; unfold s_ldc; rw [hc]; rfl))
theorem R_ldc2 {z : Int} (hm : mCode m = cc) (hd : decode cc pc = .ok (.ldc2_w k, 3)) (hc : CT.lookup (mOwn m, k) = some (2, z)) : WP d m pc ls st g I Q = WP d m (pc + 3) ls (vl z :: st) g I Q := WP_nx (step_nm hm hd (by show s_ldc2 _ _ _ _ _ _ _ _ = _; unfold s_ldc2; rw [hc]; rfl))
theorem R_iload_n {k : Fin 4} {x : Int} (hm : mCode m = cc) (hd : decode cc pc = .ok (.iload_n k, 1)) (hl : ls[(k : Nat)]? = some (some (vi x))) : WP d m pc ls st g I Q = WP d m (pc + 1) ls (vi x :: st) g I Q := WP_nx (step_nm hm hd (by show s_ild 1 _ _ _ _ _ _ _ = _; unfold s_ild; rw [hl]; rfl))
theorem R_iload {x : Int} (hm : mCode m = cc) (hd : decode cc pc = .ok (.iload k, 2)) (hl : ls[k]? = some (some (vi x))) : WP d m pc ls st g I Q = WP d m (pc + 2) ls (vi x :: st) g I Q := WP_nx (step_nm hm hd (by show s_ild 2 _ _ _ _ _ _ _ = _; unfold s_ild; rw [hl]; rfl))
theorem R_lload_n {k : Fin 4} {x : Int} (hm : mCode m = cc) (hd : decode cc pc = .ok (.lload_n k, 1)) (hl : ls[(k : Nat)]? = some (some (vl x))) : WP d m pc ls st g I Q = WP d m (pc + 1) ls (vl x :: st) g I Q := WP_nx (step_nm hm hd (by show s_lld 1 _ _ _ _ _ _ _ = _; unfold s_lld; rw [hl]; rfl))
theorem R_lload {x : Int} (hm : mCode m = cc) (hd : decode cc pc = .ok (.lload k, 2)) (hl : ls[k]? = some (some (vl x))) : WP d m pc ls st g I Q = WP d m (pc + 2) ls (vl x :: st) g I Q := WP_nx (step_nm hm hd (by show s_lld 2 _ _ _ _ _ _ _ = _; unfold s_lld; rw [hl]; rfl))
theorem R_aload_n {k : Fin 4} {x : Option Nat} (hm : mCode m = cc) (hd : decode cc pc = .ok (.aload_n k, 1)) (hl : ls[(k : Nat)]? = some (some (vr x))) : WP d m pc ls st g I Q = WP d m (pc + 1) ls (vr x :: st) g I Q := WP_nx (step_nm hm hd (by show s_ald 1 _ _ _ _ _ _ _ = _; unfold s_ald; rw [hl]; rfl))
theorem R_aload {x : Option Nat} (hm : mCode m = cc) (hd : decode cc pc = .ok (.aload k, 2)) (hl : ls[k]? = some (some (vr x))) : WP d m pc ls st g I Q = WP d m (pc + 2) ls (vr x :: st) g I Q := WP_nx (step_nm hm hd (by show s_ald 2 _ _ _ _ _ _ _ = _; unfold s_ald; rw [hl]; rfl))
theorem R_istore_n {k : Fin 4} {x : Int} (hm : mCode m = cc) (hd : decode cc pc = .ok (.istore_n k, 1)) (hk : (k : Nat) < ls.length) (hl : sto ls k (vi x) = ls') : WP d m pc ls (vi x :: st) g I Q = WP d m (pc + 1) ls' st g I Q := by
  subst hl
  exact WP_nx (step_nm hm hd (if_pos ⟨rfl, hk⟩))
theorem R_istore {x : Int} (hm : mCode m = cc) (hd : decode cc pc = .ok (.istore k, 2)) (hk : k < ls.length) (hl : sto ls k (vi x) = ls') : WP d m pc ls (vi x :: st) g I Q = WP d m (pc + 2) ls' st g I Q := by
  subst hl
  exact WP_nx (step_nm hm hd (if_pos ⟨rfl, hk⟩))
theorem R_lstore_n {k : Fin 4} {x : Int} (hm : mCode m = cc) (hd : decode cc pc = .ok (.lstore_n k, 1)) (hk : (k : Nat) + 1 < ls.length) (hl : sto2 ls k (vl x) = ls') : WP d m pc ls (vl x :: st) g I Q = WP d m (pc + 1) ls' st g I Q := by
  subst hl
  exact WP_nx (step_nm hm hd (if_pos ⟨rfl, hk⟩))
theorem R_lstore {x : Int} (hm : mCode m = cc) (hd : decode cc pc = .ok (.lstore k, 2)) (hk : k + 1 < ls.length) (hl : sto2 ls k (vl x) = ls') : WP d m pc ls (vl x :: st) g I Q = WP d m (pc + 2) ls' st g I Q := by
  subst hl
  exact WP_nx (step_nm hm hd (if_pos ⟨rfl, hk⟩))
theorem R_astore_n {k : Fin 4} {x : Nat} (hm : mCode m = cc) (hd : decode cc pc = .ok (.astore_n k, 1)) (hk : (k : Nat) < ls.length) (hl : sto ls k (vr (some x)) = ls') : WP d m pc ls (vr (some x) :: st) g I Q = WP d m (pc + 1) ls' st g I Q := by
  subst hl
  exact WP_nx (step_nm hm hd (if_pos ⟨rfl, hk⟩))
theorem R_astore {x : Nat} (hm : mCode m = cc) (hd : decode cc pc = .ok (.astore k, 2)) (hk : k < ls.length) (hl : sto ls k (vr (some x)) = ls') : WP d m pc ls (vr (some x) :: st) g I Q = WP d m (pc + 2) ls' st g I Q := by
  subst hl
  exact WP_nx (step_nm hm hd (if_pos ⟨rfl, hk⟩))
theorem R_iinc {n x : Int} (hm : mCode m = cc) (hd : decode cc pc = .ok (.iinc k n, 3)) (hk : ls[k]? = some (some (vi x))) (hl : sto ls k (vi (w32 (x + n))) = ls') : WP d m pc ls st g I Q = WP d m (pc + 3) ls' st g I Q := by
  subst hl
  exact WP_nx (step_nm hm hd (by show s_iinc _ _ _ _ _ _ _ _ = _; unfold s_iinc; rw [hk]; dsimp only; rw [if_pos rfl]; rw [show i2 (fun x1 x2 => x1 + x2) x n = w32 (x + n) from i2_add x n]))
theorem R_iadd {a b : Int} (hm : mCode m = cc) (hd : decode cc pc = .ok (.iadd, 1)) : WP d m pc ls (vi b :: vi a :: st) g I Q = WP d m (pc + 1) ls (vi (w32 (a + b)) :: st) g I Q := by rw [← i2_add]; exact WP_nx (step_nm hm hd rfl)
theorem R_isub {a b : Int} (hm : mCode m = cc) (hd : decode cc pc = .ok (.isub, 1)) : WP d m pc ls (vi b :: vi a :: st) g I Q = WP d m (pc + 1) ls (vi (w32 (a - b)) :: st) g I Q := by rw [← i2_sub]; exact WP_nx (step_nm hm hd rfl)
theorem R_imul {a b : Int} (hm : mCode m = cc) (hd : decode cc pc = .ok (.imul, 1)) : WP d m pc ls (vi b :: vi a :: st) g I Q = WP d m (pc + 1) ls (vi (w32 (a * b)) :: st) g I Q := by rw [← i2_mul]; exact WP_nx (step_nm hm hd rfl)
theorem R_ineg {a : Int} (hm : mCode m = cc) (hd : decode cc pc = .ok (.ineg, 1)) : WP d m pc ls (vi a :: st) g I Q = WP d m (pc + 1) ls (vi (w32 (-a)) :: st) g I Q := by rw [← i1_neg]; exact WP_nx (step_nm hm hd rfl)
theorem R_iand {a b : Int} (hm : mCode m = cc) (hd : decode cc pc = .ok (.iand, 1)) : WP d m pc ls (vi b :: vi a :: st) g I Q = WP d m (pc + 1) ls (vi (iAnd a b) :: st) g I Q := WP_nx (step_nm hm hd rfl)
theorem R_ishl {a b : Int} (hm : mCode m = cc) (hd : decode cc pc = .ok (.ishl, 1)) : WP d m pc ls (vi b :: vi a :: st) g I Q = WP d m (pc + 1) ls (vi (iShl a b) :: st) g I Q := WP_nx (step_nm hm hd rfl)
theorem R_ishr {a b : Int} (hm : mCode m = cc) (hd : decode cc pc = .ok (.ishr, 1)) : WP d m pc ls (vi b :: vi a :: st) g I Q = WP d m (pc + 1) ls (vi (iShr a b) :: st) g I Q := WP_nx (step_nm hm hd rfl)
theorem R_iushr {a b : Int} (hm : mCode m = cc) (hd : decode cc pc = .ok (.iushr, 1)) : WP d m pc ls (vi b :: vi a :: st) g I Q = WP d m (pc + 1) ls (vi (iUshr a b) :: st) g I Q := WP_nx (step_nm hm hd rfl)
theorem R_i2b {a : Int} (hm : mCode m = cc) (hd : decode cc pc = .ok (.i2b, 1)) : WP d m pc ls (vi a :: st) g I Q = WP d m (pc + 1) ls (vi (iI2b a) :: st) g I Q := WP_nx (step_nm hm hd rfl)
theorem R_i2c {a : Int} (hm : mCode m = cc) (hd : decode cc pc = .ok (.i2c, 1)) : WP d m pc ls (vi a :: st) g I Q = WP d m (pc + 1) ls (vi (iI2c a) :: st) g I Q := WP_nx (step_nm hm hd rfl)
theorem R_idiv {a b : Int} (hm : mCode m = cc) (hd : decode cc pc = .ok (.idiv, 1)) : WP d m pc ls (vi b :: vi a :: st) g I Q = (b ≠ 0 ∧ WP d m (pc + 1) ls (vi (iDiv a b) :: st) g I Q) := and_if (fun h => WP_nx (step_nm hm hd (if_pos ⟨rfl, h⟩))) (fun h => WP_no (step_zm hm hd (if_neg (fun q => h q.2))))
theorem R_irem {a b : Int} (hm : mCode m = cc) (hd : decode cc pc = .ok (.irem, 1)) : WP d m pc ls (vi b :: vi a :: st) g I Q = (b ≠ 0 ∧ WP d m (pc + 1) ls (vi (iRem a b) :: st) g I Q) := and_if (fun h => WP_nx (step_nm hm hd (if_pos ⟨rfl, h⟩))) (fun h => WP_no (step_zm hm hd (if_neg (fun q => h q.2))))
theorem R_ladd {a b : Int} (hm : mCode m = cc) (hd : decode cc pc = .ok (.ladd, 1)) : WP d m pc ls (vl b :: vl a :: st) g I Q = WP d m (pc + 1) ls (vl (w64 (a + b)) :: st) g I Q := by rw [← l2_add]; exact WP_nx (step_nm hm hd rfl)
theorem R_lsub {a b : Int} (hm : mCode m = cc) (hd : decode cc pc = .ok (.lsub, 1)) : WP d m pc ls (vl b :: vl a :: st) g I Q = WP d m (pc + 1) ls (vl (w64 (a - b)) :: st) g I Q := by rw [← l2_sub]; exact WP_nx (step_nm hm hd rfl)
theorem R_lmul {a b : Int} (hm : mCode m = cc) (hd : decode cc pc = .ok (.lmul, 1)) : WP d m pc ls (vl b :: vl a :: st) g I Q = WP d m (pc + 1) ls (vl (w64 (a * b)) :: st) g I Q := by rw [← l2_mul]; exact WP_nx (step_nm hm hd rfl)
theorem R_land {a b : Int} (hm : mCode m = cc) (hd : decode cc pc = .ok (.land, 1)) : WP d m pc ls (vl b :: vl a :: st) g I Q = WP d m (pc + 1) ls (vl (lAnd a b) :: st) g I Q := WP_nx (step_nm hm hd rfl)
theorem R_lor {a b : Int} (hm : mCode m = cc) (hd : decode cc pc = .ok (.lor, 1)) : WP d m pc ls (vl b :: vl a :: st) g I Q = WP d m (pc + 1) ls (vl (lOr a b) :: st) g I Q := WP_nx (step_nm hm hd rfl)
theorem R_ldiv {a b : Int} (hm : mCode m = cc) (hd : decode cc pc = .ok (.ldiv, 1)) : WP d m pc ls (vl b :: vl a :: st) g I Q = (b ≠ 0 ∧ WP d m (pc + 1) ls (vl (lDiv a b) :: st) g I Q) := and_if (fun h => WP_nx (step_nm hm hd (if_pos ⟨rfl, h⟩))) (fun h => WP_no (step_zm hm hd (if_neg (fun q => h q.2))))
theorem R_lrem {a b : Int} (hm : mCode m = cc) (hd : decode cc pc = .ok (.lrem, 1)) : WP d m pc ls (vl b :: vl a :: st) g I Q = (b ≠ 0 ∧ WP d m (pc + 1) ls (vl (lRem a b) :: st) g I Q) := and_if (fun h => WP_nx (step_nm hm hd (if_pos ⟨rfl, h⟩))) (fun h => WP_no (step_zm hm hd (if_neg (fun q => h q.2))))
theorem R_lshl {a b : Int} (hm : mCode m = cc) (hd : decode cc pc = .ok (.lshl, 1)) : WP d m pc ls (vi b :: vl a :: st) g I Q = WP d m (pc + 1) ls (vl (lShl a b) :: st) g I Q := WP_nx (step_nm hm hd rfl)
theorem R_lshr {a b : Int} (hm : mCode m = cc) (hd : decode cc pc = .ok (.lshr, 1)) : WP d m pc ls (vi b :: vl a :: st) g I Q = WP d m (pc + 1) ls (vl (lShr a b) :: st) g I Q := WP_nx (step_nm hm hd rfl)
theorem R_lushr {a b : Int} (hm : mCode m = cc) (hd : decode cc pc = .ok (.lushr, 1)) : WP d m pc ls (vi b :: vl a :: st) g I Q = WP d m (pc + 1) ls (vl (lUshr a b) :: st) g I Q := WP_nx (step_nm hm hd rfl)
theorem R_lcmp {a b : Int} (hm : mCode m = cc) (hd : decode cc pc = .ok (.lcmp, 1)) : WP d m pc ls (vl b :: vl a :: st) g I Q = WP d m (pc + 1) ls (vi (lcm3 a b) :: st) g I Q := WP_nx (step_nm hm hd rfl)
theorem R_i2l {a : Int} (hm : mCode m = cc) (hd : decode cc pc = .ok (.i2l, 1)) : WP d m pc ls (vi a :: st) g I Q = WP d m (pc + 1) ls (vl a :: st) g I Q := WP_nx (step_nm hm hd rfl)
theorem R_l2i {a : Int} (hm : mCode m = cc) (hd : decode cc pc = .ok (.l2i, 1)) : WP d m pc ls (vl a :: st) g I Q = WP d m (pc + 1) ls (vi (w32 a) :: st) g I Q := WP_nx (step_nm hm hd rfl)
theorem R_goto {off : Int} (hm : mCode m = cc) (hd : decode cc pc = .ok (.goto off, 3)) (ht : (pc : Int) + off = (tgt : Int)) : WP d m pc ls st g I Q = WP d m tgt ls st g I Q := WP_nx (step_nm hm hd (by
  show s_go _ _ _ _ _ _ = _
  unfold s_go
  rw [ht, if_pos (by omega), Int.toNat_natCast]))
theorem R_ifg {cd : Jvm.ClassFile.Cond} {off a : Int} (hm : mCode m = cc) (hd : decode cc pc = .ok (.ifCond cd off, 3)) (ht : (pc : Int) + off = (tgt : Int)) : WP d m pc ls (vi a :: st) g I Q = ((cmpB cd a 0 = true → WP d m tgt ls st g I Q) ∧ (¬ cmpB cd a 0 = true → WP d m (pc + 3) ls st g I Q)) := by
  by_cases h : cmpB cd a 0 = true
  · rw [WP_nx (step_nm (pc' := tgt) (ls' := ls) (st' := st) hm hd (by
      show s_if cd off 3 pc ls (vi a :: st) g I = _
      unfold s_if
      dsimp only
      rw [if_pos ⟨rfl, by omega⟩, if_pos h, ht, Int.toNat_natCast]))]
    exact propext ⟨fun q => ⟨fun _ => q, fun n => absurd h n⟩, fun q => q.1 h⟩
  · rw [WP_nx (step_nm (pc' := pc + 3) (ls' := ls) (st' := st) hm hd (by
      show s_if cd off 3 pc ls (vi a :: st) g I = _
      unfold s_if
      dsimp only
      rw [if_pos ⟨rfl, by omega⟩, if_neg h]))]
    exact propext ⟨fun q => ⟨fun n => absurd n h, fun _ => q⟩, fun q => q.2 h⟩
theorem R_icg {cd : Jvm.ClassFile.Cond} {off a b : Int} (hm : mCode m = cc) (hd : decode cc pc = .ok (.if_icmp cd off, 3)) (ht : (pc : Int) + off = (tgt : Int)) : WP d m pc ls (vi b :: vi a :: st) g I Q = ((cmpB cd a b = true → WP d m tgt ls st g I Q) ∧ (¬ cmpB cd a b = true → WP d m (pc + 3) ls st g I Q)) := by
  by_cases h : cmpB cd a b = true
  · rw [WP_nx (step_nm (pc' := tgt) (ls' := ls) (st' := st) hm hd (by
      show s_icmp cd off 3 pc ls (vi b :: vi a :: st) g I = _
      unfold s_icmp
      dsimp only
      rw [if_pos ⟨rfl, by omega⟩, if_pos h, ht, Int.toNat_natCast]))]
    exact propext ⟨fun q => ⟨fun _ => q, fun n => absurd h n⟩, fun q => q.1 h⟩
  · rw [WP_nx (step_nm (pc' := pc + 3) (ls' := ls) (st' := st) hm hd (by
      show s_icmp cd off 3 pc ls (vi b :: vi a :: st) g I = _
      unfold s_icmp
      dsimp only
      rw [if_pos ⟨rfl, by omega⟩, if_neg h]))]
    exact propext ⟨fun q => ⟨fun n => absurd n h, fun _ => q⟩, fun q => q.2 h⟩
theorem R_if_eq {off a : Int} (hm : mCode m = cc) (hd : decode cc pc = .ok (.ifCond .eq off, 3)) (ht : (pc : Int) + off = (tgt : Int)) : WP d m pc ls (vi a :: st) g I Q = ((a = 0 → WP d m tgt ls st g I Q) ∧ (¬ a = 0 → WP d m (pc + 3) ls st g I Q)) := by rw [R_ifg hm hd ht]; simp only [cmpB, decide_eq_true_eq]
theorem R_if_ne {off a : Int} (hm : mCode m = cc) (hd : decode cc pc = .ok (.ifCond .ne off, 3)) (ht : (pc : Int) + off = (tgt : Int)) : WP d m pc ls (vi a :: st) g I Q = ((a = 0 → WP d m (pc + 3) ls st g I Q) ∧ (¬ a = 0 → WP d m tgt ls st g I Q)) := by rw [R_ifg hm hd ht]; simp only [cmpB, decide_eq_true_eq, ne_eq, Decidable.not_not]; exact propext And.comm
theorem R_if_lt {off a : Int} (hm : mCode m = cc) (hd : decode cc pc = .ok (.ifCond .lt off, 3)) (ht : (pc : Int) + off = (tgt : Int)) : WP d m pc ls (vi a :: st) g I Q = ((a < 0 → WP d m tgt ls st g I Q) ∧ (¬ a < 0 → WP d m (pc + 3) ls st g I Q)) := by rw [R_ifg hm hd ht]; simp only [cmpB, decide_eq_true_eq]
theorem R_if_ge {off a : Int} (hm : mCode m = cc) (hd : decode cc pc = .ok (.ifCond .ge off, 3)) (ht : (pc : Int) + off = (tgt : Int)) : WP d m pc ls (vi a :: st) g I Q = ((a < 0 → WP d m (pc + 3) ls st g I Q) ∧ (¬ a < 0 → WP d m tgt ls st g I Q)) := by rw [R_ifg hm hd ht]; simp only [cmpB, decide_eq_true_eq, Int.not_lt, Int.not_le]; exact propext And.comm
theorem R_if_gt {off a : Int} (hm : mCode m = cc) (hd : decode cc pc = .ok (.ifCond .gt off, 3)) (ht : (pc : Int) + off = (tgt : Int)) : WP d m pc ls (vi a :: st) g I Q = ((0 < a → WP d m tgt ls st g I Q) ∧ (¬ 0 < a → WP d m (pc + 3) ls st g I Q)) := by rw [R_ifg hm hd ht]; simp only [cmpB, decide_eq_true_eq]
theorem R_if_le {off a : Int} (hm : mCode m = cc) (hd : decode cc pc = .ok (.ifCond .le off, 3)) (ht : (pc : Int) + off = (tgt : Int)) : WP d m pc ls (vi a :: st) g I Q = ((0 < a → WP d m (pc + 3) ls st g I Q) ∧ (¬ 0 < a → WP d m tgt ls st g I Q)) := by rw [R_ifg hm hd ht]; simp only [cmpB, decide_eq_true_eq, Int.not_lt, Int.not_le]; exact propext And.comm
theorem R_ic_eq {off a b : Int} (hm : mCode m = cc) (hd : decode cc pc = .ok (.if_icmp .eq off, 3)) (ht : (pc : Int) + off = (tgt : Int)) : WP d m pc ls (vi b :: vi a :: st) g I Q = ((a = b → WP d m tgt ls st g I Q) ∧ (¬ a = b → WP d m (pc + 3) ls st g I Q)) := by rw [R_icg hm hd ht]; simp only [cmpB, decide_eq_true_eq]
theorem R_ic_ne {off a b : Int} (hm : mCode m = cc) (hd : decode cc pc = .ok (.if_icmp .ne off, 3)) (ht : (pc : Int) + off = (tgt : Int)) : WP d m pc ls (vi b :: vi a :: st) g I Q = ((a = b → WP d m (pc + 3) ls st g I Q) ∧ (¬ a = b → WP d m tgt ls st g I Q)) := by rw [R_icg hm hd ht]; simp only [cmpB, decide_eq_true_eq, ne_eq, Decidable.not_not]; exact propext And.comm
theorem R_ic_lt {off a b : Int} (hm : mCode m = cc) (hd : decode cc pc = .ok (.if_icmp .lt off, 3)) (ht : (pc : Int) + off = (tgt : Int)) : WP d m pc ls (vi b :: vi a :: st) g I Q = ((a < b → WP d m tgt ls st g I Q) ∧ (¬ a < b → WP d m (pc + 3) ls st g I Q)) := by rw [R_icg hm hd ht]; simp only [cmpB, decide_eq_true_eq]
theorem R_ic_ge {off a b : Int} (hm : mCode m = cc) (hd : decode cc pc = .ok (.if_icmp .ge off, 3)) (ht : (pc : Int) + off = (tgt : Int)) : WP d m pc ls (vi b :: vi a :: st) g I Q = ((a < b → WP d m (pc + 3) ls st g I Q) ∧ (¬ a < b → WP d m tgt ls st g I Q)) := by rw [R_icg hm hd ht]; simp only [cmpB, decide_eq_true_eq, Int.not_lt, Int.not_le]; exact propext And.comm
theorem R_ic_gt {off a b : Int} (hm : mCode m = cc) (hd : decode cc pc = .ok (.if_icmp .gt off, 3)) (ht : (pc : Int) + off = (tgt : Int)) : WP d m pc ls (vi b :: vi a :: st) g I Q = ((b < a → WP d m tgt ls st g I Q) ∧ (¬ b < a → WP d m (pc + 3) ls st g I Q)) := by rw [R_icg hm hd ht]; simp only [cmpB, decide_eq_true_eq]
theorem R_ic_le {off a b : Int} (hm : mCode m = cc) (hd : decode cc pc = .ok (.if_icmp .le off, 3)) (ht : (pc : Int) + off = (tgt : Int)) : WP d m pc ls (vi b :: vi a :: st) g I Q = ((b < a → WP d m (pc + 3) ls st g I Q) ∧ (¬ b < a → WP d m tgt ls st g I Q)) := by rw [R_icg hm hd ht]; simp only [cmpB, decide_eq_true_eq, Int.not_lt, Int.not_le]; exact propext And.comm
theorem R_tsw {df lo hi off x : Int} {offs : Array Int} {len : Nat} (hm : mCode m = cc) (hd : decode cc pc = .ok (.tableswitch df lo hi offs, len)) (h : ¬ (x < lo ∨ hi < x)) (ho : offs[(x - lo).toNat]? = some off) (ht : (pc : Int) + off = (tgt : Int)) : WP d m pc ls (vi x :: st) g I Q = WP d m tgt ls st g I Q := WP_nx (step_nm hm hd (by
  show s_tsw df lo hi offs pc ls (vi x :: st) g I = _
  unfold s_tsw
  dsimp only
  rw [if_neg h, ho]
  show s_go _ _ _ _ _ _ = _
  unfold s_go
  rw [ht, if_pos (by omega), Int.toNat_natCast]))
theorem R_tswD {df lo hi x : Int} {offs : Array Int} {len : Nat} (hm : mCode m = cc) (hd : decode cc pc = .ok (.tableswitch df lo hi offs, len)) (ht : (pc : Int) + df = (tgt : Int)) (h : x < lo ∨ hi < x) : WP d m pc ls (vi x :: st) g I Q = WP d m tgt ls st g I Q := WP_nx (step_nm hm hd (by
  show s_tsw df lo hi offs pc ls (vi x :: st) g I = _
  unfold s_tsw
  dsimp only
  rw [if_pos h]
  unfold s_go
  rw [ht, if_pos (by omega), Int.toNat_natCast]))
theorem R_lsw {df off x : Int} {ps : Array (Int × Int)} {len : Nat} (hm : mCode m = cc) (hd : decode cc pc = .ok (.lookupswitch df ps, len)) (hp : (ps.toList.zip (ps.toList.drop 1)).all (fun (a, next) => a.1 < next.1) = true) (ho : Op.lookupswitch.offset ps.toList df x = off) (ht : (pc : Int) + off = (tgt : Int)) : WP d m pc ls (vi x :: st) g I Q = WP d m tgt ls st g I Q := WP_nx (step_nm hm hd (by
  show s_lsw df ps pc ls (vi x :: st) g I = _
  unfold s_lsw
  dsimp only
  rw [if_pos hp, ho]
  unfold s_go
  rw [ht, if_pos (by omega), Int.toNat_natCast]))
theorem R_dup {v : PV} (hm : mCode m = cc) (hd : decode cc pc = .ok (.dup, 1)) (hv : cat v = 1) : WP d m pc ls (v :: st) g I Q = WP d m (pc + 1) ls (v :: v :: st) g I Q := WP_nx (step_nm hm hd (if_pos ⟨rfl, hv⟩))
theorem R_dup2 {v w : PV} (hm : mCode m = cc) (hd : decode cc pc = .ok (.dup2, 1)) (hv : cat v = 1) (hw : cat w = 1) : WP d m pc ls (v :: w :: st) g I Q = WP d m (pc + 1) ls (v :: w :: v :: w :: st) g I Q := WP_nx (step_nm hm hd (if_pos ⟨rfl, hv, hw⟩))
theorem R_pop {v : PV} (hm : mCode m = cc) (hd : decode cc pc = .ok (.pop, 1)) (hv : cat v = 1) : WP d m pc ls (v :: st) g I Q = WP d m (pc + 1) ls st g I Q := WP_nx (step_nm hm hd (if_pos ⟨rfl, hv⟩))
end ROWL

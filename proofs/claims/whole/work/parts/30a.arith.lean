-- ARITHMETIC of the words
theorem of32_ne {b : Int} (h1 : 0 < b) (h2 : b < 2147483648) : Int32.ofInt b ≠ -1 := by
  intro h
  have h3 := congrArg Int32.toInt h
  rw [of32 ⟨by omega, h2⟩] at h3
  have h4 : (-1 : Int32).toInt = -1 := by decide
  omega
theorem of64_ne {b : Int} (h1 : 0 < b) (h2 : b < 9223372036854775808) : Int64.ofInt b ≠ -1 := by
  intro h
  have h3 := congrArg Int64.toInt h
  rw [of64 ⟨by omega, h2⟩] at h3
  have h4 : (-1 : Int64).toInt = -1 := by decide
  omega
theorem iDiv_eq {a b : Int} (h1 : 0 ≤ a) (h2 : a < 2147483648) (h3 : 0 < b) (h4 : b < 2147483648) : iDiv a b = a / b := by
  unfold iDiv i2
  dsimp only
  rw [Int32.toInt_div_of_ne_right _ _ (of32_ne h3 h4), of32 ⟨by omega, h2⟩, of32 ⟨by omega, h4⟩, Int.tdiv_eq_ediv_of_nonneg h1]
theorem iRem_eq {a b : Int} (h1 : 0 ≤ a) (h2 : a < 2147483648) (h3 : 0 < b) (h4 : b < 2147483648) : iRem a b = a % b := by
  unfold iRem i2
  dsimp only
  rw [irem_eq_mod, Int32.toInt_mod, of32 ⟨by omega, h2⟩, of32 ⟨by omega, h4⟩, Int.tmod_eq_emod_of_nonneg h1]
theorem lrem_mod (x y : Int64) : x - (x / y) * y = x % y := by
  apply Int64.toInt_inj.mp
  have h1 := Int64.le_toInt (x % y)
  have h2 := Int64.toInt_lt (x % y)
  rw [Int64.toInt_sub, Int64.toInt_mul, Int64.toInt_div, Int.bmod_mul_bmod, Int.sub_bmod_bmod, Int.mul_comm (x.toInt.tdiv y.toInt), ← Int.tmod_def, ← Int64.toInt_mod]
  exact Int.bmod_eq_of_le_mul_two (by omega) (by omega)
theorem lDiv_eq {a b : Int} (h1 : 0 ≤ a) (h2 : a < 9223372036854775808) (h3 : 0 < b) (h4 : b < 9223372036854775808) : lDiv a b = a / b := by
  unfold lDiv l2
  dsimp only
  rw [Int64.toInt_div_of_ne_right _ _ (of64_ne h3 h4), of64 ⟨by omega, h2⟩, of64 ⟨by omega, h4⟩, Int.tdiv_eq_ediv_of_nonneg h1]
theorem lRem_eq {a b : Int} (h1 : 0 ≤ a) (h2 : a < 9223372036854775808) (h3 : 0 < b) (h4 : b < 9223372036854775808) : lRem a b = a % b := by
  unfold lRem l2
  dsimp only
  rw [lrem_mod, Int64.toInt_mod, of64 ⟨by omega, h2⟩, of64 ⟨by omega, h4⟩, Int.tmod_eq_emod_of_nonneg h1]
theorem iShr_tab : ∀ a, a < 128 → ∀ n, n < 32 → iShr ((a : Nat) : Int) ((n : Nat) : Int) = ((a / 2 ^ n : Nat) : Int) := by decide +kernel
theorem iShr_eq {a n : Int} (h1 : 0 ≤ a) (h2 : a < 128) (h3 : 0 ≤ n) (h4 : n < 32) : iShr a n = ((a.toNat / 2 ^ n.toNat : Nat) : Int) := by
  have h := iShr_tab a.toNat (by omega) n.toNat (by omega)
  rw [Int.toNat_of_nonneg h1, Int.toNat_of_nonneg h3] at h
  exact h
theorem lcm3_lt (a b : Int) : (lcm3 a b < 0) = (a < b) := by
  unfold lcm3
  by_cases h1 : b < a
  · rw [if_pos h1]; exact propext ⟨fun h => by omega, fun h => by omega⟩
  · rw [if_neg h1]
    by_cases h2 : a = b
    · rw [if_pos h2]; exact propext ⟨fun h => by omega, fun h => by omega⟩
    · rw [if_neg h2]; exact propext ⟨fun h => by omega, fun h => by omega⟩
theorem lcm3_gt (a b : Int) : (0 < lcm3 a b) = (b < a) := by
  unfold lcm3
  by_cases h1 : b < a
  · rw [if_pos h1]; exact propext ⟨fun h => by omega, fun h => by omega⟩
  · rw [if_neg h1]
    by_cases h2 : a = b
    · rw [if_pos h2]; exact propext ⟨fun h => by omega, fun h => by omega⟩
    · rw [if_neg h2]; exact propext ⟨fun h => by omega, fun h => by omega⟩
theorem lcm3_eq (a b : Int) : (lcm3 a b = 0) = (a = b) := by
  unfold lcm3
  by_cases h1 : b < a
  · rw [if_pos h1]; exact propext ⟨fun h => by omega, fun h => by omega⟩
  · rw [if_neg h1]
    by_cases h2 : a = b
    · rw [if_pos h2]; exact propext ⟨fun h => by omega, fun h => by omega⟩
    · rw [if_neg h2]; exact propext ⟨fun h => by omega, fun h => by omega⟩
-- ONE END: what the pure machine does is a function
theorem wp_and : ∀ (n d m pc : Nat) (ls : LL) (st : List PV) (g : GG) (I : II) (Q Q' : QQ), wp n d m pc ls st g I Q → wp n d m pc ls st g I Q' → wp n d m pc ls st g I (fun v g I => Q v g I ∧ Q' v g I) := by
  intro n
  induction n with
  | zero => intro d m pc ls st g I Q Q' h hw; exact hw
  | succ n ih =>
    intro d m pc ls st g I Q Q' h hw
    unfold wp at h hw ⊢
    split
    · rename_i hs; rw [hs] at hw; exact hw
    · rename_i pc' ls' st' g' I' hs
      rw [hs] at h hw
      exact ⟨hw.1, ih _ _ _ _ _ _ _ _ _ h.2 hw.2⟩
    · rename_i v hs
      rw [hs] at h hw
      exact ⟨h, hw⟩
    · rename_i m' as pc' st' hs
      rw [hs] at h hw
      cases d with
      | zero => exact hw
      | succ d' => exact wp_mono _ _ _ _ _ _ _ _ _ _ (fun v g I hq => ih _ _ _ _ _ _ _ _ _ hq.1 hq.2) (ih _ _ _ _ _ _ _ _ _ h hw)
theorem wp_ex : ∀ (n d m pc : Nat) (ls : LL) (st : List PV) (g : GG) (I : II) (Q : QQ), wp n d m pc ls st g I Q → ∃ v g I, Q v g I := by
  intro n
  induction n with
  | zero => intro d m pc ls st g I Q h; exact False.elim h
  | succ n ih =>
    intro d m pc ls st g I Q h
    unfold wp at h
    split at h
    · exact False.elim h
    · exact ih _ _ _ _ _ _ _ _ h.2
    · exact ⟨_, _, _, h⟩
    · cases d with
      | zero => exact False.elim h
      | succ d' =>
        obtain ⟨v, g1, I1, h1⟩ := ih _ _ _ _ _ _ _ _ h
        exact ih _ _ _ _ _ _ _ _ h1
theorem wp_up {n k d m pc : Nat} {ls : LL} {st : List PV} {g : GG} {I : II} {Q : QQ} (h : wp n d m pc ls st g I Q) : wp (n + k) d m pc ls st g I Q := by
  induction k with
  | zero => exact h
  | succ k ih => exact wp_succ _ _ _ _ _ _ _ _ _ ih
theorem WP_fun {d m pc : Nat} {ls : LL} {st : List PV} {g g' : GG} {I I' : II} {r : Option PV} (H : ∀ Q : QQ, Q r g' I' → WP d m pc ls st g I Q) (Q : QQ) : WP d m pc ls st g I Q = Q r g' I' := by
  refine propext ⟨fun h => ?_, H Q⟩
  obtain ⟨n, hn⟩ := h
  obtain ⟨k, hk⟩ := H (fun v g1 I1 => v = r ∧ g1 = g' ∧ I1 = I') ⟨rfl, rfl, rfl⟩
  have h1 := wp_up (k := k) hn
  have h2 := wp_up (k := n) hk
  rw [Nat.add_comm] at h2
  obtain ⟨v, g1, I1, ⟨rfl, rfl, rfl⟩, h3⟩ := wp_ex _ _ _ _ _ _ _ _ _ (wp_and _ _ _ _ _ _ _ _ _ _ h2 h1)
  exact h3

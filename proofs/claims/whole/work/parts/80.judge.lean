-- judge and count
abbrev jok (A : II) (D : Nat → Int) (P : Nat) (v at' age : Int) : Prop := (0 ≤ v ∧ v < (P : Int)) ∧ age + D (8 * at'.toNat + v.toNat) ≤ A 7 2
def fW (A : II) (D R : Nat → Int) (P : Nat) : Nat → Nat → Int → Int → Int
  | 0, _, _, _ => -9
  | k + 1, i, at', age => if jok A D P (R i) at' age then fW A D R P k (i + 1) (R i) (age + D (8 * at'.toNat + (R i).toNat)) else i
def fO (A : II) (D R : Nat → Int) : Nat → Nat → Int → Int → Int
  | 0, _, _, _ => -9
  | k + 1, i, at', age => if A 7 1 ≤ age + D (8 * at'.toNat + (R i).toNat) then i else fO A D R k (i + 1) (R i) (age + D (8 * at'.toNat + (R i).toNat))
def fJ (A : II) (D R : Nat → Int) (P : Nat) : Nat → Nat → Int → Int → Int
  | 0, _, _, _ => -9
  | k + 1, i, at', age => if jok A D P (R i) at' age then (if A 7 1 ≤ age + D (8 * at'.toNat + (R i).toNat) then (i : Int) else fJ A D R P k (i + 1) (R i) (age + D (8 * at'.toNat + (R i).toNat))) else -9
def fR (A : II) (D R : Nat → Int) (P : Nat) : Nat → Nat → Int → Int → Nat
  | 0, _, _, _ => 0
  | k + 1, i, at', age => if jok A D P (R i) at' age then fR A D R P k (i + 1) (R i) (age + D (8 * at'.toNat + (R i).toNat)) + 1 else 0
theorem fR_W (A : II) (D R : Nat → Int) (P : Nat) : ∀ k i at' age, fR A D R P k i at' age ≤ k ∧ (fW A D R P k i at' age = (i : Int) + fR A D R P k i at' age ∨ (fW A D R P k i at' age = -9 ∧ fR A D R P k i at' age = k))
  | 0, i, at', age => ⟨Nat.le_refl 0, Or.inr ⟨rfl, rfl⟩⟩
  | k + 1, i, at', age => by
    have ih := fR_W A D R P k (i + 1) (R i) (age + D (8 * at'.toNat + (R i).toNat))
    have e1 : fW A D R P (k + 1) i at' age = if jok A D P (R i) at' age then fW A D R P k (i + 1) (R i) (age + D (8 * at'.toNat + (R i).toNat)) else i := rfl
    have e2 : fR A D R P (k + 1) i at' age = if jok A D P (R i) at' age then fR A D R P k (i + 1) (R i) (age + D (8 * at'.toNat + (R i).toNat)) + 1 else 0 := rfl
    rw [e1, e2]
    by_cases c : jok A D P (R i) at' age
    · rw [if_pos c, if_pos c]; omega
    · rw [if_neg c, if_neg c]; omega
theorem fO_J (A : II) (D R : Nat → Int) (P : Nat) : ∀ k i at' age, fO A D R (fR A D R P k i at' age) i at' age = fJ A D R P k i at' age
  | 0, i, at', age => rfl
  | k + 1, i, at', age => by
    have ih := fO_J A D R P k (i + 1) (R i) (age + D (8 * at'.toNat + (R i).toNat))
    have e2 : fR A D R P (k + 1) i at' age = if jok A D P (R i) at' age then fR A D R P k (i + 1) (R i) (age + D (8 * at'.toNat + (R i).toNat)) + 1 else 0 := rfl
    have e3 : fJ A D R P (k + 1) i at' age = if jok A D P (R i) at' age then (if A 7 1 ≤ age + D (8 * at'.toNat + (R i).toNat) then (i : Int) else fJ A D R P k (i + 1) (R i) (age + D (8 * at'.toNat + (R i).toNat))) else -9 := rfl
    rw [e2, e3]
    by_cases c : jok A D P (R i) at' age
    · rw [if_pos c, if_pos c, ← ih]; rfl
    · rw [if_neg c, if_neg c]; rfl
section JU
variable {g : GG} {I : II} {t n P : Nat} {A : II} {D R : Nat → Int}
abbrev okR (R : Nat → Int) : Prop := ∀ j, j < 10 → 0 ≤ R j ∧ R j ≤ 9
theorem lp_fw (hV : CV g I t A n) (hS : okSt A) (hD : bD D) (hI : e64 (I (t + 2)) D) (hP : I t 0 = (P : Int)) (hP8 : P ≤ 8) {N : Nat} (hN : N ≤ 10) (hR : okR R) (hw : ∀ j, j < 10 → I 53 j = R j) (d : Nat) (Q : QQ) : ∀ k i : Nat, i + k = N → ∀ at' age : Int, (0 ≤ at' ∧ at' < 8) → (0 ≤ age ∧ age ≤ 999) → (∀ y, zB y → Q (some (vi (fW A D R P k i at' age))) g (mcx I y)) → WP (d + 2) m_X5_firstWrong 16 [some (vr (some 47)), some (vr (some t)), some (vr (some 53)), some (vi N), some (vi i)] [] g (mcx I (at', age, 0, z0)) Q := by
  obtain ⟨ht, hX, hT, hn, s0, s1, s2, s3⟩ := hV
  have hL := WL_m hX
  have hen := hS.2.2.1
  intro k
  induction k with
  | zero =>
    intro i hi at' age hat hag hQ
    obtain rfl : i = N := by omega
    have hq := hQ (at', age, 0, z0) (fun _ _ => rfl)
    have e : fW A D R P 0 i at' age = -9 := rfl
    rw [e] at hq
    rw [H_X5_firstWrong_16]
    simp (config := { contextual := true }) (disch := omega) only [R_X5_firstWrong, hX, true_and, and_true, true_implies, not_true_eq_false, false_implies, not_false_eq_true, false_and, and_false, or_true, true_or, false_or, or_false, implies_true, forall_const, kl_i, kl_n, kl_r, kl_l, tl_s, tl_n, List.cons_append, List.nil_append, Int.cast_ofNat_Int, w32_id, w64_id, le_T, le_F, lt_T, lt_F, eq_T, eq_F, reduceIte, ne_eq, Int.toNat_natCast, bi_0, bi_1, bi_b, Nat.reduceAdd, Nat.reduceEqDiff, Int.reduceToNat, Int.reduceNeg, nle_T, nlt_T, neq_T, neq_F, b2_0, b2_b, both, reduceCtorEq]
    exact hq
  | succ k ih =>
    intro i hi at' age hat hag hQ
    have hRi := hR i (by omega)
    have hwi := hw i (by omega)
    have e1 : fW A D R P (k + 1) i at' age = if jok A D P (R i) at' age then fW A D R P k (i + 1) (R i) (age + D (8 * at'.toNat + (R i).toNat)) else i := rfl
    rw [e1] at hQ
    have ec : ((i + 1 : Nat) : Int) = (i : Int) + 1 := by omega
    have hD' : bD (mcx I (at', age, 0, z0) (t + 2)) := by
      rw [mcx_o (by omega)]
      intro j hj
      rw [hI j hj]
      exact hD j hj
    have h0 : 0 ≤ mcx I (at', age, 0, z0) 48 0 ∧ mcx I (at', age, 0, z0) 48 0 < 8 := by rw [mcx_0]; exact hat
    have h1 : 0 ≤ mcx I (at', age, 0, z0) 48 1 ∧ mcx I (at', age, 0, z0) 48 1 ≤ 1000000 := by rw [mcx_1]; show 0 ≤ age ∧ age ≤ 1000000; omega
    rw [H_X5_firstWrong_16]
    by_cases c1 : 0 ≤ R i ∧ R i < (P : Int)
    · have kc := fun Q => ct_canCome (d := d) hT hL hD' Q (R i) h0 h1 (by omega)
      have kg := fun Q => ct_come (d := d) hT hL hD' Q (R i) h0 h1 (by omega)
      have ed : I (t + 2) (8 * at'.toNat + (R i).toNat) = D (8 * at'.toNat + (R i).toNat) := hI _ (by omega)
      have hd := hD (8 * at'.toNat + (R i).toNat) (by omega)
      have ea : lAt (at', age, (0 : Int), z0) = at' := rfl
      have eg : lAge (at', age, (0 : Int), z0) = age := rfl
      have ew : lWo (at', age, (0 : Int), z0) = 0 := rfl
      have eh : lHad (at', age, (0 : Int), z0) = z0 := rfl
      by_cases c2 : age + D (8 * at'.toNat + (R i).toNat) ≤ A 7 2
      · rw [if_pos ⟨c1, c2⟩] at hQ
        have ih' := ih (i + 1) (by omega) (R i) (age + D (8 * at'.toNat + (R i).toNat)) (by omega) (by omega) hQ
        rw [ec] at ih'
        simp (config := { contextual := true }) (disch := omega) only [R_X5_firstWrong, hX, hT, hP, mcx_o, hwi, ct_isPlace hT, c1, kc, kg, mcx_0, mcx_1, ea, eg, ew, eh, ed, s2, mcx_come, true_and, and_true, true_implies, not_true_eq_false, false_implies, not_false_eq_true, false_and, and_false, or_true, true_or, false_or, or_false, implies_true, forall_const, kl_i, kl_n, kl_r, kl_l, tl_s, tl_n, List.cons_append, List.nil_append, Int.cast_ofNat_Int, w32_id, w64_id, le_T, le_F, lt_T, lt_F, eq_T, eq_F, reduceIte, ne_eq, Int.toNat_natCast, bi_0, bi_1, bi_b, Nat.reduceAdd, Nat.reduceEqDiff, Int.reduceToNat, Int.reduceNeg, nle_T, nlt_T, neq_T, neq_F, b2_0, b2_b, both, reduceCtorEq]
        exact ih'
      · rw [if_neg (fun z => c2 z.2)] at hQ
        have hq := hQ (at', age, 0, z0) (fun _ _ => rfl)
        simp (config := { contextual := true }) (disch := omega) only [R_X5_firstWrong, hX, hT, hP, mcx_o, hwi, ct_isPlace hT, c1, kc, mcx_0, mcx_1, ea, eg, ed, s2, true_and, and_true, true_implies, not_true_eq_false, false_implies, not_false_eq_true, false_and, and_false, or_true, true_or, false_or, or_false, implies_true, forall_const, kl_i, kl_n, kl_r, kl_l, tl_s, tl_n, List.cons_append, List.nil_append, Int.cast_ofNat_Int, w32_id, w64_id, le_T, le_F, lt_T, lt_F, eq_T, eq_F, reduceIte, ne_eq, Int.toNat_natCast, bi_0, bi_1, bi_b, Nat.reduceAdd, Nat.reduceEqDiff, Int.reduceToNat, Int.reduceNeg, nle_T, nlt_T, neq_T, neq_F, b2_0, b2_b, both, reduceCtorEq]
        exact hq
    · rw [if_neg (fun z => c1 z.1)] at hQ
      have hq := hQ (at', age, 0, z0) (fun _ _ => rfl)
      simp (config := { contextual := true }) (disch := omega) only [R_X5_firstWrong, hX, hT, hP, mcx_o, hwi, ct_isPlace hT, c1, true_and, and_true, true_implies, not_true_eq_false, false_implies, not_false_eq_true, false_and, and_false, or_true, true_or, false_or, or_false, implies_true, forall_const, kl_i, kl_n, kl_r, kl_l, tl_s, tl_n, List.cons_append, List.nil_append, Int.cast_ofNat_Int, w32_id, w64_id, le_T, le_F, lt_T, lt_F, eq_T, eq_F, reduceIte, ne_eq, Int.toNat_natCast, bi_0, bi_1, bi_b, Nat.reduceAdd, Nat.reduceEqDiff, Int.reduceToNat, Int.reduceNeg, nle_T, nlt_T, neq_T, neq_F, b2_0, b2_b, both, reduceCtorEq]
      exact hq
theorem ct_fw (hV : CV g I t A n) (hS : okSt A) (hD : bD D) (hI : e64 (I (t + 2)) D) (hP : I t 0 = (P : Int)) (hP8 : P ≤ 8) {N : Nat} (hN : N ≤ 10) (hR : okR R) (hw : ∀ j, j < 10 → I 53 j = R j) (hz : ∀ j, 7 ≤ j → I 49 j = 0) (d : Nat) (Q : QQ) (hQ : ∀ y, zB y → Q (some (vi (fW A D R P N 0 (A 7 3) 0))) g (mcx I y)) : WP (d + 2) m_X5_firstWrong 0 [some (vr (some 47)), some (vr (some t)), some (vr (some 53)), some (vi N), none] [] g I Q := by
  have hV0 := hV
  obtain ⟨ht, hX, hT, hn, s0, s1, s2, s3⟩ := hV0
  have hL := WL_m hX
  have kb := fun Q => ct_begin (d := d) (I := I) hL (by decide) Q (A 7 3)
  rw [fll_z hz] at kb
  have hl := lp_fw hV hS hD hI hP hP8 hN hR hw d Q N 0 (by omega) (A 7 3) 0 hS.2.2.2 (by omega) hQ
  simp (config := { contextual := true }) (disch := omega) only [R_X5_firstWrong, hX, hT, s3, kb, mcx_begin, true_and, and_true, true_implies, not_true_eq_false, false_implies, not_false_eq_true, false_and, and_false, or_true, true_or, false_or, or_false, implies_true, forall_const, kl_i, kl_n, kl_r, kl_l, tl_s, tl_n, List.cons_append, List.nil_append, Int.cast_ofNat_Int, w32_id, w64_id, le_T, le_F, lt_T, lt_F, eq_T, eq_F, reduceIte, ne_eq, Int.toNat_natCast, bi_0, bi_1, bi_b, Nat.reduceAdd, Nat.reduceEqDiff, Int.reduceToNat, Int.reduceNeg, nle_T, nlt_T, neq_T, neq_F, b2_0, b2_b, both, reduceCtorEq]
  exact hl
theorem lp_fo (hV : CV g I t A n) (hS : okSt A) (hD : bD D) (hI : e64 (I (t + 2)) D) (hP8 : P ≤ 8) {N : Nat} (hN : N ≤ 10) (hR : okR R) (hw : ∀ j, j < 10 → I 53 j = R j) {zw : Int} (d : Nat) (Q : QQ) {M : Nat} (hM : M ≤ N) : ∀ k i : Nat, i + k = M → ∀ at' age : Int, (0 ≤ at' ∧ at' < 8) → (0 ≤ age ∧ age ≤ 999 + 100000 * (i : Int)) → (∀ j, i ≤ j → j < M → R j < 8) → (∀ y, zB y → Q (some (vi (fO A D R k i at' age))) g (mcx I y)) → WP (d + 2) m_X5_firstOld 38 [some (vr (some 47)), some (vr (some t)), some (vr (some 53)), some (vi N), some (vi zw), some (vi M), some (vi i)] [] g (mcx I (at', age, 0, z0)) Q := by
  obtain ⟨ht, hX, hT, hn, s0, s1, s2, s3⟩ := hV
  have hL := WL_m hX
  have hol := hS.2.1
  intro k
  induction k with
  | zero =>
    intro i hi at' age hat hag hlt hQ
    obtain rfl : i = M := by omega
    have hq := hQ (at', age, 0, z0) (fun _ _ => rfl)
    have e : fO A D R 0 i at' age = -9 := rfl
    rw [e] at hq
    rw [H_X5_firstOld_38]
    simp (config := { contextual := true }) (disch := omega) only [R_X5_firstOld, hX, true_and, and_true, true_implies, not_true_eq_false, false_implies, not_false_eq_true, false_and, and_false, or_true, true_or, false_or, or_false, implies_true, forall_const, kl_i, kl_n, kl_r, kl_l, tl_s, tl_n, List.cons_append, List.nil_append, Int.cast_ofNat_Int, w32_id, w64_id, le_T, le_F, lt_T, lt_F, eq_T, eq_F, reduceIte, ne_eq, Int.toNat_natCast, bi_0, bi_1, bi_b, Nat.reduceAdd, Nat.reduceEqDiff, Int.reduceToNat, Int.reduceNeg, nle_T, nlt_T, neq_T, neq_F, b2_0, b2_b, both, reduceCtorEq]
    exact hq
  | succ k ih =>
    intro i hi at' age hat hag hlt hQ
    have hRi := hR i (by omega)
    have hR8 := hlt i (by omega) (by omega)
    have hwi := hw i (by omega)
    have e1 : fO A D R (k + 1) i at' age = if A 7 1 ≤ age + D (8 * at'.toNat + (R i).toNat) then (i : Int) else fO A D R k (i + 1) (R i) (age + D (8 * at'.toNat + (R i).toNat)) := rfl
    rw [e1] at hQ
    have ec : ((i + 1 : Nat) : Int) = (i : Int) + 1 := by omega
    have hD' : bD (mcx I (at', age, 0, z0) (t + 2)) := by
      rw [mcx_o (by omega)]
      intro j hj
      rw [hI j hj]
      exact hD j hj
    have h0 : 0 ≤ mcx I (at', age, 0, z0) 48 0 ∧ mcx I (at', age, 0, z0) 48 0 < 8 := by rw [mcx_0]; exact hat
    have h1 : 0 ≤ mcx I (at', age, 0, z0) 48 1 ∧ mcx I (at', age, 0, z0) 48 1 ≤ 1000000 := by rw [mcx_1]; show 0 ≤ age ∧ age ≤ 1000000; omega
    have kg := fun Q => ct_come (d := d) hT hL hD' Q (R i) h0 h1 (by omega)
    have ed : I (t + 2) (8 * at'.toNat + (R i).toNat) = D (8 * at'.toNat + (R i).toNat) := hI _ (by omega)
    have hd := hD (8 * at'.toNat + (R i).toNat) (by omega)
    have ea : lAt (at', age, (0 : Int), z0) = at' := rfl
    have eg : lAge (at', age, (0 : Int), z0) = age := rfl
    have ew : lWo (at', age, (0 : Int), z0) = 0 := rfl
    have eh : lHad (at', age, (0 : Int), z0) = z0 := rfl
    have eg2 : lAge (R i, age + D (8 * at'.toNat + (R i).toNat), (0 : Int), z0) = age + D (8 * at'.toNat + (R i).toNat) := rfl
    rw [H_X5_firstOld_38]
    by_cases c2 : A 7 1 ≤ age + D (8 * at'.toNat + (R i).toNat)
    · rw [if_pos c2] at hQ
      have hq := hQ (R i, age + D (8 * at'.toNat + (R i).toNat), 0, z0) (fun _ _ => rfl)
      simp (config := { contextual := true }) (disch := omega) only [R_X5_firstOld, hX, hT, mcx_o, hwi, kg, mcx_0, mcx_1, ea, eg, ew, eh, eg2, ed, s1, mcx_come, true_and, and_true, true_implies, not_true_eq_false, false_implies, not_false_eq_true, false_and, and_false, or_true, true_or, false_or, or_false, implies_true, forall_const, kl_i, kl_n, kl_r, kl_l, tl_s, tl_n, List.cons_append, List.nil_append, Int.cast_ofNat_Int, w32_id, w64_id, le_T, le_F, lt_T, lt_F, eq_T, eq_F, reduceIte, ne_eq, Int.toNat_natCast, bi_0, bi_1, bi_b, Nat.reduceAdd, Nat.reduceEqDiff, Int.reduceToNat, Int.reduceNeg, nle_T, nlt_T, neq_T, neq_F, b2_0, b2_b, both, reduceCtorEq]
      exact hq
    · rw [if_neg c2] at hQ
      have ih' := ih (i + 1) (by omega) (R i) (age + D (8 * at'.toNat + (R i).toNat)) (by omega) (by omega) (fun j h1 h2 => hlt j (by omega) h2) hQ
      rw [ec] at ih'
      simp (config := { contextual := true }) (disch := omega) only [R_X5_firstOld, hX, hT, mcx_o, hwi, kg, mcx_0, mcx_1, ea, eg, ew, eh, eg2, ed, s1, mcx_come, true_and, and_true, true_implies, not_true_eq_false, false_implies, not_false_eq_true, false_and, and_false, or_true, true_or, false_or, or_false, implies_true, forall_const, kl_i, kl_n, kl_r, kl_l, tl_s, tl_n, List.cons_append, List.nil_append, Int.cast_ofNat_Int, w32_id, w64_id, le_T, le_F, lt_T, lt_F, eq_T, eq_F, reduceIte, ne_eq, Int.toNat_natCast, bi_0, bi_1, bi_b, Nat.reduceAdd, Nat.reduceEqDiff, Int.reduceToNat, Int.reduceNeg, nle_T, nlt_T, neq_T, neq_F, b2_0, b2_b, both, reduceCtorEq]
      exact ih'
theorem fR_lt : ∀ k i at' age j, i ≤ j → j < i + fR A D R P k i at' age → R j < (P : Int)
  | 0, i, at', age, j, h1, h2 => by
    have h2 : j < i + 0 := h2
    omega
  | k + 1, i, at', age, j, h1, h2 => by
    have e2 : fR A D R P (k + 1) i at' age = if jok A D P (R i) at' age then fR A D R P k (i + 1) (R i) (age + D (8 * at'.toNat + (R i).toNat)) + 1 else 0 := rfl
    rw [e2] at h2
    by_cases c : jok A D P (R i) at' age
    · rw [if_pos c] at h2
      by_cases q : j = i
      · rw [q]; exact c.1.2
      · exact fR_lt k (i + 1) (R i) (age + D (8 * at'.toNat + (R i).toNat)) j (by omega) (by omega)
    · rw [if_neg c] at h2
      omega
theorem ct_fo (hV : CV g I t A n) (hS : okSt A) (hD : bD D) (hI : e64 (I (t + 2)) D) (hP : I t 0 = (P : Int)) (hP8 : P ≤ 8) {N : Nat} (hN : N ≤ 10) (hR : okR R) (hw : ∀ j, j < 10 → I 53 j = R j) (hz : ∀ j, 7 ≤ j → I 49 j = 0) (d : Nat) (Q : QQ) (hQ : ∀ y, zB y → Q (some (vi (fJ A D R P N 0 (A 7 3) 0))) g (mcx I y)) : WP (d + 3) m_X5_firstOld 0 [some (vr (some 47)), some (vr (some t)), some (vr (some 53)), some (vi N), none, none, none] [] g I Q := by
  have hV0 := hV
  obtain ⟨ht, hX, hT, hn, s0, s1, s2, s3⟩ := hV0
  have hL := WL_m hX
  have hfr := fR_W A D R P N 0 (A 7 3) 0
  have hfw := fun Q hQ => ct_fw hV hS hD hI hP hP8 hN hR hw hz d Q hQ
  have hfl := fR_lt (A := A) (D := D) (R := R) (P := P) N 0 (A 7 3) 0
  have eJ := fO_J A D R P N 0 (A 7 3) 0
  generalize hr : fR A D R P N 0 (A 7 3) 0 = r at hfr hfl eJ
  rw [← eJ] at hQ
  simp (config := { contextual := true }) (disch := omega) only [R_X5_firstOld, hX, true_and, and_true, true_implies, not_true_eq_false, false_implies, not_false_eq_true, false_and, and_false, or_true, true_or, false_or, or_false, implies_true, forall_const, kl_i, kl_n, kl_r, kl_l, tl_s, tl_n, List.cons_append, List.nil_append, Int.cast_ofNat_Int, w32_id, w64_id, le_T, le_F, lt_T, lt_F, eq_T, eq_F, reduceIte, ne_eq, Int.toNat_natCast, bi_0, bi_1, bi_b, Nat.reduceAdd, Nat.reduceEqDiff, Int.reduceToNat, Int.reduceNeg, nle_T, nlt_T, neq_T, neq_F, b2_0, b2_b, both, reduceCtorEq]
  refine hfw _ (fun y hy => ?_)
  have kb := fun Q => ct_begin (d := d + 1) (I := mcx I y) hL (by decide) Q (A 7 3)
  rw [fll_z (fun j hj => by rw [mcx_h]; exact hy j hj)] at kb
  generalize fW A D R P N 0 (A 7 3) 0 = z at hfr ⊢
  have hl := lp_fo (P := P) hV hS hD hI hP8 hN hR hw (zw := z) (d + 1) Q (M := r) (by omega) r 0 (by omega) (A 7 3) 0 hS.2.2.2 (by omega) (fun j h1 h2 => by have := hfl j h1 (by omega); omega) hQ
  by_cases c : z < 0
  · have er : (r : Int) = (N : Int) := by omega
    rw [er] at hl
    simp (config := { contextual := true }) (disch := omega) only [R_X5_firstOld, hX, hT, mcx_o, s3, kb, mcx_begin, mcx_mcx, true_and, and_true, true_implies, not_true_eq_false, false_implies, not_false_eq_true, false_and, and_false, or_true, true_or, false_or, or_false, implies_true, forall_const, kl_i, kl_n, kl_r, kl_l, tl_s, tl_n, List.cons_append, List.nil_append, Int.cast_ofNat_Int, w32_id, w64_id, le_T, le_F, lt_T, lt_F, eq_T, eq_F, reduceIte, ne_eq, Int.toNat_natCast, bi_0, bi_1, bi_b, Nat.reduceAdd, Nat.reduceEqDiff, Int.reduceToNat, Int.reduceNeg, nle_T, nlt_T, neq_T, neq_F, b2_0, b2_b, both, reduceCtorEq]
    exact hl
  · have er : (r : Int) = z := by omega
    rw [er] at hl
    simp (config := { contextual := true }) (disch := omega) only [R_X5_firstOld, hX, hT, mcx_o, s3, kb, mcx_begin, mcx_mcx, true_and, and_true, true_implies, not_true_eq_false, false_implies, not_false_eq_true, false_and, and_false, or_true, true_or, false_or, or_false, implies_true, forall_const, kl_i, kl_n, kl_r, kl_l, tl_s, tl_n, List.cons_append, List.nil_append, Int.cast_ofNat_Int, w32_id, w64_id, le_T, le_F, lt_T, lt_F, eq_T, eq_F, reduceIte, ne_eq, Int.toNat_natCast, bi_0, bi_1, bi_b, Nat.reduceAdd, Nat.reduceEqDiff, Int.reduceToNat, Int.reduceNeg, nle_T, nlt_T, neq_T, neq_F, b2_0, b2_b, both, reduceCtorEq]
    exact hl
/-- the model's look -/
theorem lp_mj (hW : WM g) (hS : okSt A) (hD : bD D) (h72 : I 72 = D) (hP : I 57 14 = (P : Int)) (hP8 : P ≤ 8) (hs : I 66 = A 7) {N : Nat} (hN : N ≤ 10) (hR : okR R) (hw : I 89 = R) {b : Int} (hb : b = 0 ∨ b = 1) (d : Nat) (Q : QQ) : ∀ k i : Nat, i + k = N → ∀ at' age : Int, (0 ≤ at' ∧ at' < 8) → (0 ≤ age ∧ age ≤ 999) → WP (d + 1) m_X12_judge 43 [some (vr (some 57)), some (vi b), some (vi N), some (vi at'), some (vi age), some (vi i)] [] g I Q = Q (some (vi (if b = 0 then fW A D R P k i at' age else fJ A D R P k i at' age))) g I := by
  have hen := hS.2.2.1
  intro k
  induction k with
  | zero =>
    intro i hi at' age hat hag
    obtain rfl : i = N := by omega
    have e : (if b = 0 then fW A D R P 0 i at' age else fJ A D R P 0 i at' age) = -9 := by split <;> rfl
    rw [e, H_X12_judge_43]
    simp (config := { contextual := true }) (disch := omega) only [R_X12_judge_b0, R_X12_judge_b1, hW, true_and, and_true, true_implies, not_true_eq_false, false_implies, not_false_eq_true, false_and, and_false, or_true, true_or, false_or, or_false, implies_true, forall_const, kl_i, kl_n, kl_r, kl_l, tl_s, tl_n, List.cons_append, List.nil_append, Int.cast_ofNat_Int, w32_id, w64_id, le_T, le_F, lt_T, lt_F, eq_T, eq_F, reduceIte, ne_eq, Int.toNat_natCast, bi_0, bi_1, bi_b, Nat.reduceAdd, Nat.reduceEqDiff, Int.reduceToNat, Int.reduceNeg, nle_T, nlt_T, neq_T, neq_F, b2_0, b2_b, both, reduceCtorEq]
  | succ k ih =>
    intro i hi at' age hat hag
    have hRi := hR i (by omega)
    have e1 : fW A D R P (k + 1) i at' age = if jok A D P (R i) at' age then fW A D R P k (i + 1) (R i) (age + D (8 * at'.toNat + (R i).toNat)) else i := rfl
    have e2 : fJ A D R P (k + 1) i at' age = if jok A D P (R i) at' age then (if A 7 1 ≤ age + D (8 * at'.toNat + (R i).toNat) then (i : Int) else fJ A D R P k (i + 1) (R i) (age + D (8 * at'.toNat + (R i).toNat))) else -9 := rfl
    rw [e1, e2]
    have ec : ((i + 1 : Nat) : Int) = (i : Int) + 1 := by omega
    rw [H_X12_judge_43]
    by_cases c1 : 0 ≤ R i ∧ R i < (P : Int)
    · have hd := hD (8 * at'.toNat + (R i).toNat) (by omega)
      by_cases c2 : age + D (8 * at'.toNat + (R i).toNat) ≤ A 7 2
      · have cj : jok A D P (R i) at' age := ⟨c1, c2⟩
        have ih' := ih (i + 1) (by omega) (R i) (age + D (8 * at'.toNat + (R i).toNat)) (by omega) (by omega)
        rw [ec] at ih'
        rcases hb with rfl | rfl
        · rw [if_pos cj]
          simp (config := { contextual := true }) (disch := omega) only [R_X12_judge_b0, R_X12_judge_b1, hW, hP, hw, ct_misPlace hW, c1, ct_farOf hW, h72, hs, ih', true_and, and_true, true_implies, not_true_eq_false, false_implies, not_false_eq_true, false_and, and_false, or_true, true_or, false_or, or_false, implies_true, forall_const, kl_i, kl_n, kl_r, kl_l, tl_s, tl_n, List.cons_append, List.nil_append, Int.cast_ofNat_Int, w32_id, w64_id, le_T, le_F, lt_T, lt_F, eq_T, eq_F, reduceIte, ne_eq, Int.toNat_natCast, bi_0, bi_1, bi_b, Nat.reduceAdd, Nat.reduceEqDiff, Int.reduceToNat, Int.reduceNeg, nle_T, nlt_T, neq_T, neq_F, b2_0, b2_b, both, reduceCtorEq]
        · rw [if_pos cj]
          have h10 : ¬ (1 : Int) = 0 := by omega
          rw [if_neg h10] at ih' ⊢
          by_cases c3 : A 7 1 ≤ age + D (8 * at'.toNat + (R i).toNat)
          · rw [if_pos cj, if_pos c3]
            simp (config := { contextual := true }) (disch := omega) only [R_X12_judge_b0, R_X12_judge_b1, hW, hP, hw, ct_misPlace hW, c1, ct_farOf hW, h72, hs, true_and, and_true, true_implies, not_true_eq_false, false_implies, not_false_eq_true, false_and, and_false, or_true, true_or, false_or, or_false, implies_true, forall_const, kl_i, kl_n, kl_r, kl_l, tl_s, tl_n, List.cons_append, List.nil_append, Int.cast_ofNat_Int, w32_id, w64_id, le_T, le_F, lt_T, lt_F, eq_T, eq_F, reduceIte, ne_eq, Int.toNat_natCast, bi_0, bi_1, bi_b, Nat.reduceAdd, Nat.reduceEqDiff, Int.reduceToNat, Int.reduceNeg, nle_T, nlt_T, neq_T, neq_F, b2_0, b2_b, both, reduceCtorEq]
          · rw [if_pos cj, if_neg c3]
            simp (config := { contextual := true }) (disch := omega) only [R_X12_judge_b0, R_X12_judge_b1, hW, hP, hw, ct_misPlace hW, c1, ct_farOf hW, h72, hs, ih', true_and, and_true, true_implies, not_true_eq_false, false_implies, not_false_eq_true, false_and, and_false, or_true, true_or, false_or, or_false, implies_true, forall_const, kl_i, kl_n, kl_r, kl_l, tl_s, tl_n, List.cons_append, List.nil_append, Int.cast_ofNat_Int, w32_id, w64_id, le_T, le_F, lt_T, lt_F, eq_T, eq_F, reduceIte, ne_eq, Int.toNat_natCast, bi_0, bi_1, bi_b, Nat.reduceAdd, Nat.reduceEqDiff, Int.reduceToNat, Int.reduceNeg, nle_T, nlt_T, neq_T, neq_F, b2_0, b2_b, both, reduceCtorEq]
      · have cj : ¬ jok A D P (R i) at' age := fun z => c2 z.2
        rw [if_neg cj, if_neg cj]
        rcases hb with rfl | rfl
        · simp (config := { contextual := true }) (disch := omega) only [R_X12_judge_b0, R_X12_judge_b1, hW, hP, hw, ct_misPlace hW, c1, ct_farOf hW, h72, hs, true_and, and_true, true_implies, not_true_eq_false, false_implies, not_false_eq_true, false_and, and_false, or_true, true_or, false_or, or_false, implies_true, forall_const, kl_i, kl_n, kl_r, kl_l, tl_s, tl_n, List.cons_append, List.nil_append, Int.cast_ofNat_Int, w32_id, w64_id, le_T, le_F, lt_T, lt_F, eq_T, eq_F, reduceIte, ne_eq, Int.toNat_natCast, bi_0, bi_1, bi_b, Nat.reduceAdd, Nat.reduceEqDiff, Int.reduceToNat, Int.reduceNeg, nle_T, nlt_T, neq_T, neq_F, b2_0, b2_b, both, reduceCtorEq]
        · simp (config := { contextual := true }) (disch := omega) only [R_X12_judge_b0, R_X12_judge_b1, hW, hP, hw, ct_misPlace hW, c1, ct_farOf hW, h72, hs, true_and, and_true, true_implies, not_true_eq_false, false_implies, not_false_eq_true, false_and, and_false, or_true, true_or, false_or, or_false, implies_true, forall_const, kl_i, kl_n, kl_r, kl_l, tl_s, tl_n, List.cons_append, List.nil_append, Int.cast_ofNat_Int, w32_id, w64_id, le_T, le_F, lt_T, lt_F, eq_T, eq_F, reduceIte, ne_eq, Int.toNat_natCast, bi_0, bi_1, bi_b, Nat.reduceAdd, Nat.reduceEqDiff, Int.reduceToNat, Int.reduceNeg, nle_T, nlt_T, neq_T, neq_F, b2_0, b2_b, both, reduceCtorEq]
    · have cj : ¬ jok A D P (R i) at' age := fun z => c1 z.1
      rw [if_neg cj, if_neg cj]
      rcases hb with rfl | rfl
      · simp (config := { contextual := true }) (disch := omega) only [R_X12_judge_b0, R_X12_judge_b1, hW, hP, hw, ct_misPlace hW, c1, true_and, and_true, true_implies, not_true_eq_false, false_implies, not_false_eq_true, false_and, and_false, or_true, true_or, false_or, or_false, implies_true, forall_const, kl_i, kl_n, kl_r, kl_l, tl_s, tl_n, List.cons_append, List.nil_append, Int.cast_ofNat_Int, w32_id, w64_id, le_T, le_F, lt_T, lt_F, eq_T, eq_F, reduceIte, ne_eq, Int.toNat_natCast, bi_0, bi_1, bi_b, Nat.reduceAdd, Nat.reduceEqDiff, Int.reduceToNat, Int.reduceNeg, nle_T, nlt_T, neq_T, neq_F, b2_0, b2_b, both, reduceCtorEq]
      · simp (config := { contextual := true }) (disch := omega) only [R_X12_judge_b0, R_X12_judge_b1, hW, hP, hw, ct_misPlace hW, c1, true_and, and_true, true_implies, not_true_eq_false, false_implies, not_false_eq_true, false_and, and_false, or_true, true_or, false_or, or_false, implies_true, forall_const, kl_i, kl_n, kl_r, kl_l, tl_s, tl_n, List.cons_append, List.nil_append, Int.cast_ofNat_Int, w32_id, w64_id, le_T, le_F, lt_T, lt_F, eq_T, eq_F, reduceIte, ne_eq, Int.toNat_natCast, bi_0, bi_1, bi_b, Nat.reduceAdd, Nat.reduceEqDiff, Int.reduceToNat, Int.reduceNeg, nle_T, nlt_T, neq_T, neq_F, b2_0, b2_b, both, reduceCtorEq]
end JU

-- CALLS: findMeans of the model
section MM
variable {g : GG} {I : II} {n P : Nat} {A : II} {D : Nat → Int}
/-- what the model's means rest on -/
abbrev MW (g : GG) (I : II) (P : Nat) (A : II) (D : Nat → Int) : Prop := WM g ∧ (I 57 14 = (P : Int) ∧ P ≤ 8) ∧ I 67 = A 8 ∧ I 68 = A 9 ∧ I 66 = A 7 ∧ (0 ≤ A 7 3 ∧ A 7 3 < 8) ∧ I 72 = D ∧ bD D ∧ okW A
theorem lp_p (hM : MW g I P A D) {W : Int} (hW : 0 ≤ W ∧ W ≤ 72) (hsg : sgm (A 8) P ≤ 72) {k m miles N : Nat} (hk : k ≤ 5) (hm : m ≤ miles) (hmi : miles ≤ 999) {E : Nat → Int} (hE : ∀ j, j ≤ miles → E (1000 * k + j) = mn A D P W k (j / 2)) (d : Nat) (Q : QQ) (hQ : ∀ l11 l12 l13 l14 l15, WP (d + 1) m_X12_findMeans 177 [some (vr (some 57)), some (vi miles), some (vi N), some (vl (uk W k)), none, some (vi W), some (vi ((k : Int) + 1)), some (vi m), some (vl (smp A D (uk W k) (mn A D P W k) (m / 2) P)), none, some (vi P), l11, l12, l13, l14, l15] [] g (pr I 87 E) Q) : ∀ c p : Nat, p + c = P → ∀ l11 l12 l13 l14 l15, WP (d + 1) m_X12_findMeans 55 [some (vr (some 57)), some (vi miles), some (vi N), some (vl (uk W k)), none, some (vi W), some (vi ((k : Int) + 1)), some (vi m), some (vl (smp A D (uk W k) (mn A D P W k) (m / 2) p)), none, some (vi p), l11, l12, l13, l14, l15] [] g (pr I 87 E) Q := by
  obtain ⟨hWM, ⟨hP, hP8⟩, r8, r9, r7, ⟨hh1, hh2⟩, r72, hD, hb⟩ := hM
  intro c
  induction c with
  | zero =>
    intro p hp l11 l12 l13 l14 l15
    obtain rfl : p = P := by omega
    refine Eq.mp (Eq.symm ?_) (hQ l11 l12 l13 l14 l15)
    rw [H_X12_findMeans_55]
    simp (config := { contextual := true }) (disch := omega) only [R_X12_findMeans_b0, R_X12_findMeans_b1, R_X12_findMeans_b2, hWM, hP, pr_o, true_and, and_true, true_implies, not_true_eq_false, false_implies, not_false_eq_true, false_and, and_false, or_true, true_or, false_or, or_false, implies_true, forall_const, kl_i, kl_n, kl_r, kl_l, tl_s, tl_n, List.cons_append, List.nil_append, Int.cast_ofNat_Int, w32_id, w64_id, le_T, le_F, lt_T, lt_F, eq_T, eq_F, reduceIte, ne_eq, Int.toNat_natCast, bi_0, bi_1, bi_b, Nat.reduceAdd, Nat.reduceEqDiff, Int.reduceToNat, Int.reduceNeg, nle_T, nlt_T, neq_T, neq_F, b2_0, b2_b, both, reduceCtorEq]
  | succ c ih =>
    intro p hp l11 l12 l13 l14 l15
    have hd := hD (8 * (A 7 3).toNat + p) (by omega)
    have ih' := fun l14 l15 => ih (p + 1) (by omega) (some (vi (2 * D (8 * (A 7 3).toNat + p)))) (some (vl (mn A D P W k (m / 2)))) none l14 l15
    have e1 : smp A D (uk W k) (mn A D P W k) (m / 2) (p + 1) = smp A D (uk W k) (mn A D P W k) (m / 2) p + tpm A D (uk W k) (mn A D P W k) (m / 2) p := rfl
    have ec : ((p + 1 : Nat) : Int) = (p : Int) + 1 := by omega
    rw [e1, ec] at ih'
    have hu := uk_b hW.1 hW.2 k
    have hub := ub_b k (by omega)
    have hf := mn_b (A := A) (D := D) (P := P) hb (fun p hp => (hD _ (by omega)).1) hP8 hW hsg k (by omega)
    have b1 := tpm_in (f := mn A D P W k) (h := m / 2) hb (by omega : p < 8) hd.1 hu (fun j _ => hf j)
    have b2 := tpm_b (f := mn A D P W k) (h := m / 2) hb (by omega : p < 8) hd.1 hu (fun j _ => hf j)
    have b3 := smp_b (f := mn A D P W k) (h := m / 2) hb (fun p hp => (hD _ (by omega)).1) hu (fun j _ => hf j) p (by omega)
    have w1 := (hb p (by omega)).1
    have wsg := sgm_b (f := A 8) (c := 9) p (fun j hj => (hb j (by omega)).1)
    have b4 : A 8 p * (99 * ub k + mb k) ≤ 9 * (99 * ub k + mb k) := Int.mul_le_mul_of_nonneg_right w1.2 (by omega)
    have b5 : sgm (A 8) p * (99 * ub k + mb k) ≤ 72 * (99 * ub k + mb k) := Int.mul_le_mul_of_nonneg_right (by omega) (by omega)
    have f1 := hf (m / 2)
    have td : tpm A D (uk W k) (mn A D P W k) (m / 2) p = A 8 p * (if D (8 * (A 7 3).toNat + p) ≤ ((m / 2 : Nat) : Int) then max (mn A D P W k (m / 2)) (A 9 p * uk W k + mn A D P W k (m / 2 - (D (8 * (A 7 3).toNat + p)).toNat)) else mn A D P W k (m / 2)) := rfl
    have hE1 := hE m hm
    have ei : (1000 * ((k : Int) + 1 - 1) + (m : Int)).toNat = 1000 * k + m := by omega
    have ek : (k : Int) + 1 - 1 = (k : Int) := by omega
    have ei2 : (1000 * (k : Int) + (m : Int)).toNat = 1000 * k + m := by omega
    rw [H_X12_findMeans_55]
    by_cases c : D (8 * (A 7 3).toNat + p) ≤ ((m / 2 : Nat) : Int)
    · rw [if_pos c] at td b1
      have f2 := hf (m / 2 - (D (8 * (A 7 3).toNat + p)).toNat)
      have hE2 := hE (m - 2 * (D (8 * (A 7 3).toNat + p)).toNat) (by omega)
      rw [show (m - 2 * (D (8 * (A 7 3).toNat + p)).toNat) / 2 = m / 2 - (D (8 * (A 7 3).toNat + p)).toNat by omega] at hE2
      have ei3 : (1000 * (k : Int) + (m : Int) - 2 * D (8 * (A 7 3).toNat + p)).toNat = 1000 * k + (m - 2 * (D (8 * (A 7 3).toNat + p)).toNat) := by omega
      rw [td] at b2 ih'
      by_cases cm : mn A D P W k (m / 2) < A 9 p * uk W k + mn A D P W k (m / 2 - (D (8 * (A 7 3).toNat + p)).toNat)
      · have emx : max (mn A D P W k (m / 2)) (A 9 p * uk W k + mn A D P W k (m / 2 - (D (8 * (A 7 3).toNat + p)).toNat)) = A 9 p * uk W k + mn A D P W k (m / 2 - (D (8 * (A 7 3).toNat + p)).toNat) := by omega
        rw [emx] at ih' b2 b1
        simp (config := { contextual := true }) (disch := omega) only [R_X12_findMeans_b0, R_X12_findMeans_b1, R_X12_findMeans_b2, hWM, hP, pr_o, pr_s, r8, r9, r7, r72, ct_farOf hWM, ek, ei2, ei3, hE1, hE2, lcm3_eq, lcm3_gt, lcm3_lt, true_and, and_true, true_implies, not_true_eq_false, false_implies, not_false_eq_true, false_and, and_false, or_true, true_or, false_or, or_false, implies_true, forall_const, kl_i, kl_n, kl_r, kl_l, tl_s, tl_n, List.cons_append, List.nil_append, Int.cast_ofNat_Int, w32_id, w64_id, le_T, le_F, lt_T, lt_F, eq_T, eq_F, reduceIte, ne_eq, Int.toNat_natCast, bi_0, bi_1, bi_b, Nat.reduceAdd, Nat.reduceEqDiff, Int.reduceToNat, Int.reduceNeg, nle_T, nlt_T, neq_T, neq_F, b2_0, b2_b, both, reduceCtorEq]
        exact ih' _ _
      · have emx : max (mn A D P W k (m / 2)) (A 9 p * uk W k + mn A D P W k (m / 2 - (D (8 * (A 7 3).toNat + p)).toNat)) = mn A D P W k (m / 2) := by omega
        rw [emx] at ih' b2 b1
        simp (config := { contextual := true }) (disch := omega) only [R_X12_findMeans_b0, R_X12_findMeans_b1, R_X12_findMeans_b2, hWM, hP, pr_o, pr_s, r8, r9, r7, r72, ct_farOf hWM, ek, ei2, ei3, hE1, hE2, lcm3_eq, lcm3_gt, lcm3_lt, true_and, and_true, true_implies, not_true_eq_false, false_implies, not_false_eq_true, false_and, and_false, or_true, true_or, false_or, or_false, implies_true, forall_const, kl_i, kl_n, kl_r, kl_l, tl_s, tl_n, List.cons_append, List.nil_append, Int.cast_ofNat_Int, w32_id, w64_id, le_T, le_F, lt_T, lt_F, eq_T, eq_F, reduceIte, ne_eq, Int.toNat_natCast, bi_0, bi_1, bi_b, Nat.reduceAdd, Nat.reduceEqDiff, Int.reduceToNat, Int.reduceNeg, nle_T, nlt_T, neq_T, neq_F, b2_0, b2_b, both, reduceCtorEq]
        exact ih' _ _
    · rw [if_neg c] at td b1
      rw [td] at b2 ih'
      simp (config := { contextual := true }) (disch := omega) only [R_X12_findMeans_b0, R_X12_findMeans_b1, R_X12_findMeans_b2, hWM, hP, pr_o, pr_s, r8, r9, r7, r72, ct_farOf hWM, ek, ei2, hE1, lcm3_eq, lcm3_gt, lcm3_lt, true_and, and_true, true_implies, not_true_eq_false, false_implies, not_false_eq_true, false_and, and_false, or_true, true_or, false_or, or_false, implies_true, forall_const, kl_i, kl_n, kl_r, kl_l, tl_s, tl_n, List.cons_append, List.nil_append, Int.cast_ofNat_Int, w32_id, w64_id, le_T, le_F, lt_T, lt_F, eq_T, eq_F, reduceIte, ne_eq, Int.toNat_natCast, bi_0, bi_1, bi_b, Nat.reduceAdd, Nat.reduceEqDiff, Int.reduceToNat, Int.reduceNeg, nle_T, nlt_T, neq_T, neq_F, b2_0, b2_b, both, reduceCtorEq]
      exact ih' _ _
theorem lp_m (hM : MW g I P A D) {W : Int} (hW : 0 ≤ W ∧ W ≤ 72) (hsg : sgm (A 8) P ≤ 72) {k miles N : Nat} (hk : k ≤ 5) (hmi : miles ≤ 999) (d : Nat) (Q : QQ) : ∀ (c m : Nat), m + c = miles + 1 → ∀ (E : Nat → Int), (∀ j, j ≤ miles → E (1000 * k + j) = mn A D P W k (j / 2)) → (∀ j, j < m → E (1000 * (k + 1) + j) = mn A D P W (k + 1) (j / 2)) → (∀ (E' : Nat → Int) (l7 l8 l9 l10 l11 l12 l13 l14 l15 : Option PV), (∀ j, j ≤ miles → E' (1000 * (k + 1) + j) = mn A D P W (k + 1) (j / 2)) → WP (d + 1) m_X12_findMeans 199 [some (vr (some 57)), some (vi miles), some (vi N), some (vl (uk W k)), none, some (vi W), some (vi ((k : Int) + 1)), l7, l8, l9, l10, l11, l12, l13, l14, l15] [] g (pr I 87 E') Q) → ∀ l8 l9 l10 l11 l12 l13 l14 l15, WP (d + 1) m_X12_findMeans 43 [some (vr (some 57)), some (vi miles), some (vi N), some (vl (uk W k)), none, some (vi W), some (vi ((k : Int) + 1)), some (vi m), l8, l9, l10, l11, l12, l13, l14, l15] [] g (pr I 87 E) Q := by
  have hWM := hM.1
  intro c
  induction c with
  | zero =>
    intro m hm E hE hE2 hQ l8 l9 l10 l11 l12 l13 l14 l15
    have hq := fun l7 l8 l9 l10 l11 l12 l13 l14 l15 => hQ E l7 l8 l9 l10 l11 l12 l13 l14 l15 (fun j hj => hE2 j (by omega))
    refine Eq.mp (Eq.symm ?_) (hq (some (vi m)) l8 l9 l10 l11 l12 l13 l14 l15)
    rw [H_X12_findMeans_43]
    simp (config := { contextual := true }) (disch := omega) only [R_X12_findMeans_b0, R_X12_findMeans_b1, R_X12_findMeans_b2, hWM, true_and, and_true, true_implies, not_true_eq_false, false_implies, not_false_eq_true, false_and, and_false, or_true, true_or, false_or, or_false, implies_true, forall_const, kl_i, kl_n, kl_r, kl_l, tl_s, tl_n, List.cons_append, List.nil_append, Int.cast_ofNat_Int, w32_id, w64_id, le_T, le_F, lt_T, lt_F, eq_T, eq_F, reduceIte, ne_eq, Int.toNat_natCast, bi_0, bi_1, bi_b, Nat.reduceAdd, Nat.reduceEqDiff, Int.reduceToNat, Int.reduceNeg, nle_T, nlt_T, neq_T, neq_F, b2_0, b2_b, both, reduceCtorEq]
  | succ c ih =>
    intro m hm E hE hE2 hQ l8 l9 l10 l11 l12 l13 l14 l15
    have es : smp A D (uk W k) (mn A D P W k) (m / 2) 0 = 0 := rfl
    have ec : ((m + 1 : Nat) : Int) = (m : Int) + 1 := by omega
    have em : mn A D P W (k + 1) (m / 2) = smp A D (uk W k) (mn A D P W k) (m / 2) P := rfl
    have ei : (1000 * ((k : Int) + 1) + (m : Int)).toNat = 1000 * (k + 1) + m := by omega
    have ih' := ih (m + 1) (by omega) (uf E (1000 * (k + 1) + m) (smp A D (uk W k) (mn A D P W k) (m / 2) P)) (fun j hj => by rw [uf_o (by omega)]; exact hE j hj) (fun j hj => by
      by_cases e : j = m
      · subst e; rw [uf_s, em]
      · rw [uf_o (by omega)]; exact hE2 j (by omega)) hQ
    rw [ec] at ih'
    have hp := lp_p hM hW hsg (N := N) hk (by omega : m ≤ miles) hmi hE d Q (by
      intro l11 l12 l13 l14 l15
      have h2 := ih' (some (vl (smp A D (uk W k) (mn A D P W k) (m / 2) P))) none (some (vi P)) l11 l12 l13 l14 l15
      simp (config := { contextual := true }) (disch := omega) only [R_X12_findMeans_b0, R_X12_findMeans_b1, R_X12_findMeans_b2, hWM, pr_s, pr_o, up_pr, pr_pr, ei, true_and, and_true, true_implies, not_true_eq_false, false_implies, not_false_eq_true, false_and, and_false, or_true, true_or, false_or, or_false, implies_true, forall_const, kl_i, kl_n, kl_r, kl_l, tl_s, tl_n, List.cons_append, List.nil_append, Int.cast_ofNat_Int, w32_id, w64_id, le_T, le_F, lt_T, lt_F, eq_T, eq_F, reduceIte, ne_eq, Int.toNat_natCast, bi_0, bi_1, bi_b, Nat.reduceAdd, Nat.reduceEqDiff, Int.reduceToNat, Int.reduceNeg, nle_T, nlt_T, neq_T, neq_F, b2_0, b2_b, both, reduceCtorEq]
      exact h2) P 0 (by omega)
    rw [es] at hp
    rw [H_X12_findMeans_43]
    simp (config := { contextual := true }) (disch := omega) only [R_X12_findMeans_b0, R_X12_findMeans_b1, R_X12_findMeans_b2, hWM, true_and, and_true, true_implies, not_true_eq_false, false_implies, not_false_eq_true, false_and, and_false, or_true, true_or, false_or, or_false, implies_true, forall_const, kl_i, kl_n, kl_r, kl_l, tl_s, tl_n, List.cons_append, List.nil_append, Int.cast_ofNat_Int, w32_id, w64_id, le_T, le_F, lt_T, lt_F, eq_T, eq_F, reduceIte, ne_eq, Int.toNat_natCast, bi_0, bi_1, bi_b, Nat.reduceAdd, Nat.reduceEqDiff, Int.reduceToNat, Int.reduceNeg, nle_T, nlt_T, neq_T, neq_F, b2_0, b2_b, both, reduceCtorEq]
    exact hp _ _ _ _ _
theorem lp_k (hM : MW g I P A D) {W : Int} (hW : 0 ≤ W ∧ W ≤ 72) (hsg : sgm (A 8) P ≤ 72) {miles N : Nat} (hN : N ≤ 6) (hmi : miles ≤ 999) (d : Nat) (Q : QQ) (hQ : ∀ (E' : Nat → Int), (∀ j, j ≤ miles → E' (1000 * N + j) = mn A D P W N (j / 2)) → Q (some (vl (uk W N))) g (pr I 87 E')) : ∀ (c k : Nat), k + c = N → ∀ (E : Nat → Int), (∀ j, j ≤ miles → E (1000 * k + j) = mn A D P W k (j / 2)) → ∀ l7 l8 l9 l10 l11 l12 l13 l14 l15, WP (d + 1) m_X12_findMeans 34 [some (vr (some 57)), some (vi miles), some (vi N), some (vl (uk W k)), none, some (vi W), some (vi ((k : Int) + 1)), l7, l8, l9, l10, l11, l12, l13, l14, l15] [] g (pr I 87 E) Q := by
  have hWM := hM.1
  intro c
  induction c with
  | zero =>
    intro k hk E hE l7 l8 l9 l10 l11 l12 l13 l14 l15
    obtain rfl : k = N := by omega
    have hq := hQ E hE
    rw [H_X12_findMeans_34]
    simp (config := { contextual := true }) (disch := omega) only [R_X12_findMeans_b0, R_X12_findMeans_b1, R_X12_findMeans_b2, hWM, true_and, and_true, true_implies, not_true_eq_false, false_implies, not_false_eq_true, false_and, and_false, or_true, true_or, false_or, or_false, implies_true, forall_const, kl_i, kl_n, kl_r, kl_l, tl_s, tl_n, List.cons_append, List.nil_append, Int.cast_ofNat_Int, w32_id, w64_id, le_T, le_F, lt_T, lt_F, eq_T, eq_F, reduceIte, ne_eq, Int.toNat_natCast, bi_0, bi_1, bi_b, Nat.reduceAdd, Nat.reduceEqDiff, Int.reduceToNat, Int.reduceNeg, nle_T, nlt_T, neq_T, neq_F, b2_0, b2_b, both, reduceCtorEq]
    exact hq
  | succ c ih =>
    intro k hk E hE l7 l8 l9 l10 l11 l12 l13 l14 l15
    have hu1 := uk_b hW.1 hW.2 (k + 1)
    have hub1 := ub_b (k + 1) (by omega)
    have eu : uk W (k + 1) = uk W k * W := rfl
    have hu := uk_b hW.1 hW.2 k
    have hub := ub_b k (by omega)
    have ec : ((k + 1 : Nat) : Int) = (k : Int) + 1 := by omega
    have hm := lp_m hM hW hsg (N := N) (by omega : k ≤ 5) hmi d Q (miles + 1) 0 (by omega) E hE (fun j hj => by omega) (by
      intro E' l7 l8 l9 l10 l11 l12 l13 l14 l15 hE'
      have h2 := ih (k + 1) (by omega) E' hE' l7 l8 l9 l10 l11 l12 l13 l14 l15
      rw [eu, ec] at h2
      rw [eu] at hu1
      simp (config := { contextual := true }) (disch := omega) only [R_X12_findMeans_b0, R_X12_findMeans_b1, R_X12_findMeans_b2, hWM, true_and, and_true, true_implies, not_true_eq_false, false_implies, not_false_eq_true, false_and, and_false, or_true, true_or, false_or, or_false, implies_true, forall_const, kl_i, kl_n, kl_r, kl_l, tl_s, tl_n, List.cons_append, List.nil_append, Int.cast_ofNat_Int, w32_id, w64_id, le_T, le_F, lt_T, lt_F, eq_T, eq_F, reduceIte, ne_eq, Int.toNat_natCast, bi_0, bi_1, bi_b, Nat.reduceAdd, Nat.reduceEqDiff, Int.reduceToNat, Int.reduceNeg, nle_T, nlt_T, neq_T, neq_F, b2_0, b2_b, both, reduceCtorEq]
      exact h2)
    rw [H_X12_findMeans_34]
    simp (config := { contextual := true }) (disch := omega) only [R_X12_findMeans_b0, R_X12_findMeans_b1, R_X12_findMeans_b2, hWM, true_and, and_true, true_implies, not_true_eq_false, false_implies, not_false_eq_true, false_and, and_false, or_true, true_or, false_or, or_false, implies_true, forall_const, kl_i, kl_n, kl_r, kl_l, tl_s, tl_n, List.cons_append, List.nil_append, Int.cast_ofNat_Int, w32_id, w64_id, le_T, le_F, lt_T, lt_F, eq_T, eq_F, reduceIte, ne_eq, Int.toNat_natCast, bi_0, bi_1, bi_b, Nat.reduceAdd, Nat.reduceEqDiff, Int.reduceToNat, Int.reduceNeg, nle_T, nlt_T, neq_T, neq_F, b2_0, b2_b, both, reduceCtorEq]
    exact hm _ _ _ _ _ _ _ _
theorem lp_z0 (hM : MW g I P A D) {W : Int} {miles N : Nat} (hmi : miles ≤ 999) (d : Nat) (Q : QQ) {l7 l8 l9 l10 l11 l12 l13 l14 l15 : Option PV} (hQ : ∀ (E : Nat → Int), (∀ j, j ≤ miles → E j = 0) → WP (d + 1) m_X12_findMeans 31 [some (vr (some 57)), some (vi miles), some (vi N), some (vl 1), none, some (vi W), some (vi ((miles : Int) + 1)), l7, l8, l9, l10, l11, l12, l13, l14, l15] [] g (pr I 87 E) Q) : ∀ (c m : Nat), m + c = miles + 1 → ∀ (E : Nat → Int), (∀ j, j < m → E j = 0) → WP (d + 1) m_X12_findMeans 11 [some (vr (some 57)), some (vi miles), some (vi N), some (vl 1), none, some (vi W), some (vi m), l7, l8, l9, l10, l11, l12, l13, l14, l15] [] g (pr I 87 E) Q := by
  have hWM := hM.1
  intro c
  induction c with
  | zero =>
    intro m hm E hE
    have hq := hQ E (fun j hj => hE j (by omega))
    have ec : (m : Int) = (miles : Int) + 1 := by omega
    refine Eq.mp (Eq.symm ?_) hq
    rw [ec, H_X12_findMeans_11]
    simp (config := { contextual := true }) (disch := omega) only [R_X12_findMeans_b0, R_X12_findMeans_b1, R_X12_findMeans_b2, hWM, true_and, and_true, true_implies, not_true_eq_false, false_implies, not_false_eq_true, false_and, and_false, or_true, true_or, false_or, or_false, implies_true, forall_const, kl_i, kl_n, kl_r, kl_l, tl_s, tl_n, List.cons_append, List.nil_append, Int.cast_ofNat_Int, w32_id, w64_id, le_T, le_F, lt_T, lt_F, eq_T, eq_F, reduceIte, ne_eq, Int.toNat_natCast, bi_0, bi_1, bi_b, Nat.reduceAdd, Nat.reduceEqDiff, Int.reduceToNat, Int.reduceNeg, nle_T, nlt_T, neq_T, neq_F, b2_0, b2_b, both, reduceCtorEq]
  | succ c ih =>
    intro m hm E hE
    have ec : ((m + 1 : Nat) : Int) = (m : Int) + 1 := by omega
    have ih' := ih (m + 1) (by omega) (uf E m 0) (fun j hj => by
      by_cases e : j = m
      · subst e; rw [uf_s]
      · rw [uf_o e]; exact hE j (by omega))
    rw [ec] at ih'
    rw [H_X12_findMeans_11]
    simp (config := { contextual := true }) (disch := omega) only [R_X12_findMeans_b0, R_X12_findMeans_b1, R_X12_findMeans_b2, hWM, pr_s, pr_o, up_pr, pr_pr, true_and, and_true, true_implies, not_true_eq_false, false_implies, not_false_eq_true, false_and, and_false, or_true, true_or, false_or, or_false, implies_true, forall_const, kl_i, kl_n, kl_r, kl_l, tl_s, tl_n, List.cons_append, List.nil_append, Int.cast_ofNat_Int, w32_id, w64_id, le_T, le_F, lt_T, lt_F, eq_T, eq_F, reduceIte, ne_eq, Int.toNat_natCast, bi_0, bi_1, bi_b, Nat.reduceAdd, Nat.reduceEqDiff, Int.reduceToNat, Int.reduceNeg, nle_T, nlt_T, neq_T, neq_F, b2_0, b2_b, both, reduceCtorEq]
    exact ih'
theorem ct_findMeans (hM : MW g I P A D) (hsg : sgm (A 8) 8 ≤ 72) (hse : sgm (A 8) 8 = sgm (A 8) P) {miles N : Nat} (hN : N ≤ 6) (hmi : miles ≤ 999) (d : Nat) (Q : QQ) (hQ : ∀ (E' : Nat → Int), (∀ j, j ≤ miles → E' (1000 * N + j) = mn A D P (sgm (A 8) P) N (j / 2)) → Q (some (vl (uk (sgm (A 8) P) N))) g (pr I 87 E')) : WP (d + 1) m_X12_findMeans 0 [some (vr (some 57)), some (vi miles), some (vi N), none, none, none, none, none, none, none, none, none, none, none, none, none] [] g I Q := by
  have hM0 := hM
  obtain ⟨hWM, ⟨hP, hP8⟩, r8, r9, r7, ⟨hh1, hh2⟩, r72, hD, hb⟩ := hM0
  have hs0 := sgm_b (f := A 8) (c := 9) P (fun j hj => (hb j (by omega)).1)
  have ka := fun Q => ct_maW (I := I) hWM r8 hb d Q
  rw [hse] at ka hsg
  have hz := lp_z0 hM (W := sgm (A 8) P) (N := N) hmi d Q (l7 := none) (l8 := none) (l9 := none) (l10 := none) (l11 := none) (l12 := none) (l13 := none) (l14 := none) (l15 := none) (by
    intro E hE
    have h2 := lp_k hM ⟨hs0.1, hsg⟩ hsg hN hmi d Q hQ N 0 (by omega) E (fun j hj => by rw [show 1000 * 0 + j = j by omega]; exact hE j hj) none none none none none none none none none
    have e1 : uk (sgm (A 8) P) 0 = 1 := rfl
    have e2 : ((0 : Nat) : Int) + 1 = 1 := rfl
    rw [e1, e2] at h2
    simp (config := { contextual := true }) (disch := omega) only [R_X12_findMeans_b0, R_X12_findMeans_b1, R_X12_findMeans_b2, hWM, true_and, and_true, true_implies, not_true_eq_false, false_implies, not_false_eq_true, false_and, and_false, or_true, true_or, false_or, or_false, implies_true, forall_const, kl_i, kl_n, kl_r, kl_l, tl_s, tl_n, List.cons_append, List.nil_append, Int.cast_ofNat_Int, w32_id, w64_id, le_T, le_F, lt_T, lt_F, eq_T, eq_F, reduceIte, ne_eq, Int.toNat_natCast, bi_0, bi_1, bi_b, Nat.reduceAdd, Nat.reduceEqDiff, Int.reduceToNat, Int.reduceNeg, nle_T, nlt_T, neq_T, neq_F, b2_0, b2_b, both, reduceCtorEq]
    exact h2) (miles + 1) 0 (by omega) (I 87) (fun j hj => by omega)
  rw [pr_id] at hz
  simp (config := { contextual := true }) (disch := omega) only [R_X12_findMeans_b0, R_X12_findMeans_b1, R_X12_findMeans_b2, hWM, ka, true_and, and_true, true_implies, not_true_eq_false, false_implies, not_false_eq_true, false_and, and_false, or_true, true_or, false_or, or_false, implies_true, forall_const, kl_i, kl_n, kl_r, kl_l, tl_s, tl_n, List.cons_append, List.nil_append, Int.cast_ofNat_Int, w32_id, w64_id, le_T, le_F, lt_T, lt_F, eq_T, eq_F, reduceIte, ne_eq, Int.toNat_natCast, bi_0, bi_1, bi_b, Nat.reduceAdd, Nat.reduceEqDiff, Int.reduceToNat, Int.reduceNeg, nle_T, nlt_T, neq_T, neq_F, b2_0, b2_b, both, reduceCtorEq]
  exact hz
end MM

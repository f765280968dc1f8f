-- THE START: the class's object is made
theorem WT_fr {g g' : GG} {t : Nat} (h : WT g t) (hK : ∀ a, a ≤ t + 11 → gK g' a = gK g a) (hR : ∀ k, gR g' t k = gR g t k ∧ gR g' (t + 10) k = gR g (t + 10) k) : WT g' t := by
  have a1 : ∀ k, gR g' t k = gR g t k := fun k => (hR k).1
  have a2 : ∀ k, gR g' (t + 10) k = gR g (t + 10) k := fun k => (hR k).2
  unfold WT
  simp (disch := omega) only [hK, a1, a2]
  exact h
theorem TN_fr {g g' : GG} {t : Nat} (h : TN g t) (hK : ∀ a, a < gN g → gK g' a = gK g a) (hR : ∀ k, gR g' (t + 3) k = gR g (t + 3) k) (hN : gN g ≤ gN g') : TN g' t := by
  intro i hi
  obtain ⟨b, b1, b2, b3, b4⟩ := h i hi
  exact ⟨b, by rw [hR]; exact b1, b2, by omega, by unfold isTh; rw [hK b b3]; exact b4⟩
theorem TR_0 {g g' : GG} {I I' A : II} {T P w : Nat} (h : TR g I T A P w 0) (hI : ∀ a, T ≤ a → a ≤ T + 11 → I' a = I a) : TR g' I' T A P w 0 := by
  obtain ⟨a1, a6, a7, a8, a9⟩ := h
  unfold TR
  rw [hI T (by omega) (by omega), hI (T + 1) (by omega) (by omega), hI (T + 2) (by omega) (by omega), hI (T + 4) (by omega) (by omega), hI (T + 5) (by omega) (by omega), hI (T + 6) (by omega) (by omega), hI (T + 7) (by omega) (by omega), hI (T + 8) (by omega) (by omega), hI (T + 9) (by omega) (by omega), hI (T + 10) (by omega) (by omega), hI (T + 11) (by omega) (by omega)]
  exact ⟨a1, a6, a7, fun i hi => by omega, a9⟩
/-- what making the class's object leaves -/
def XI (g : GG) (I : II) (g' : GG) (I' : II) : Prop := WX g' ∧ (gR g' 5 0 = some 6 ∧ gR g' 5 1 = some 19) ∧ (WT g' 6 ∧ WT g' 19 ∧ WT g' 32) ∧ (TN g' 6 ∧ TN g' 19 ∧ TN g' 32) ∧ TR g' I' 6 A0 4 0 0 ∧ (gN g' = 57 ∧ gS g' ≤ gS g + 2000) ∧ (∀ a, a < 5 → gK g' a = gK g a) ∧ (∀ a k, a < 5 → gR g' a k = gR g a k) ∧ (∀ a, a < 5 → I' a = I a) ∧ (I' 5 3 = 0 ∧ I' 5 7 = 0 ∧ I' 5 9 = 0) ∧ I' 52 = z0 ∧ I' 53 = z0 ∧ I' 56 = z0 ∧ I' 49 = z0
theorem via {Q : QQ} {g : GG} {I : II} (h : ∀ G J, G = g → J = I → Q none G J) : Q none g I := h g I rfl rfl
theorem cg_eta (g : GG) : g = cg (gK g) (gR g) (gN g) (gS g) := rfl
section XIN
variable {I : II} {K : Nat → Nat × Nat} {R : Nat → Nat → Option Nat} {S : Nat}
theorem ct_xinit (hk : K 5 = (0, 10)) (d : Nat) (Q : QQ) (hQ : ∀ g' I', XI (cg K R 6 S) I g' I' → Q none g' I') : WP (d + 5) m_X11_init 0 [some (vr (some 5))] [] (cg K R 6 S) I Q := by
  simp (config := { maxSteps := 2000000 }) (disch := omega) only [R_X11_init_b0, R_X11_init_b1, hk, cg_new, cg_put, cg_N, cg_K, uK_s, uK_o, inew_pr, up_pr, pr_s, pr_o, pr_pr, true_and, and_true, true_implies, not_true_eq_false, false_implies, not_false_eq_true, false_and, and_false, or_true, true_or, false_or, or_false, implies_true, forall_const, kl_i, kl_n, kl_r, kl_l, tl_s, tl_n, List.cons_append, List.nil_append, Int.cast_ofNat_Int, w32_id, w64_id, le_T, le_F, lt_T, lt_F, eq_T, eq_F, reduceIte, ne_eq, Int.toNat_natCast, bi_0, bi_1, bi_b, Nat.reduceAdd, Nat.reduceEqDiff, Int.reduceToNat, Int.reduceNeg, nle_T, nlt_T, neq_T, neq_F, b2_0, b2_b, both, reduceCtorEq]
  refine ct_told6 uK_s (pr_s _ _ _) d _ (fun g1 I1 h1 => ?_)
  obtain ⟨w1, t1, r1, ⟨n1, s1⟩, k1, f1, i1⟩ := h1
  have n1 : gN g1 = 19 := n1
  have k15 : gK g1 5 = (0, 10) := by rw [k1 5 (by omega), cg_K, uK_o (by omega)]; exact hk
  have k16 : gK g1 6 = (0, 8) := w1.1
  have e1 := cg_eta g1
  rw [n1] at e1
  rw [e1]
  simp (config := { maxSteps := 2000000 }) (disch := omega) only [R_X11_init_b0, R_X11_init_b1, k15, k16, cg_new, cg_put, cg_N, cg_K, uK_s, uK_o, inew_pr, up_pr, pr_s, pr_o, pr_pr, true_and, and_true, true_implies, not_true_eq_false, false_implies, not_false_eq_true, false_and, and_false, or_true, true_or, false_or, or_false, implies_true, forall_const, kl_i, kl_n, kl_r, kl_l, tl_s, tl_n, List.cons_append, List.nil_append, Int.cast_ofNat_Int, w32_id, w64_id, le_T, le_F, lt_T, lt_F, eq_T, eq_F, reduceIte, ne_eq, Int.toNat_natCast, bi_0, bi_1, bi_b, Nat.reduceAdd, Nat.reduceEqDiff, Int.reduceToNat, Int.reduceNeg, nle_T, nlt_T, neq_T, neq_F, b2_0, b2_b, both, reduceCtorEq]
  refine ct_told19 uK_s (pr_s _ _ _) d _ (fun g2 I2 h2 => ?_)
  obtain ⟨w2, t2, r2, ⟨n2, s2⟩, k2, f2, i2⟩ := h2
  have n2 : gN g2 = 32 := n2
  have k25 : gK g2 5 = (0, 10) := by rw [k2 5 (by omega), cg_K, uK_o (by omega)]; exact k15
  have k26 : gK g2 19 = (0, 8) := w2.1
  have e2 := cg_eta g2
  rw [n2] at e2
  rw [e2]
  simp (config := { maxSteps := 2000000 }) (disch := omega) only [R_X11_init_b0, R_X11_init_b1, k25, k26, cg_new, cg_put, cg_N, cg_K, uK_s, uK_o, inew_pr, up_pr, pr_s, pr_o, pr_pr, true_and, and_true, true_implies, not_true_eq_false, false_implies, not_false_eq_true, false_and, and_false, or_true, true_or, false_or, or_false, implies_true, forall_const, kl_i, kl_n, kl_r, kl_l, tl_s, tl_n, List.cons_append, List.nil_append, Int.cast_ofNat_Int, w32_id, w64_id, le_T, le_F, lt_T, lt_F, eq_T, eq_F, reduceIte, ne_eq, Int.toNat_natCast, bi_0, bi_1, bi_b, Nat.reduceAdd, Nat.reduceEqDiff, Int.reduceToNat, Int.reduceNeg, nle_T, nlt_T, neq_T, neq_F, b2_0, b2_b, both, reduceCtorEq]
  refine ct_told32 uK_s (pr_s _ _ _) d _ (fun g3 I3 h3 => ?_)
  obtain ⟨w3, t3, r3, ⟨n3, s3⟩, k3, f3, i3⟩ := h3
  have n3 : gN g3 = 45 := n3
  have k35 : gK g3 5 = (0, 10) := by rw [k3 5 (by omega), cg_K, uK_o (by omega)]; exact k25
  have k36 : gK g3 32 = (0, 8) := w3.1
  have e3 := cg_eta g3
  rw [n3] at e3
  rw [e3]
  simp (config := { maxSteps := 2000000 }) (disch := omega) only [R_X11_init_b0, R_X11_init_b1, R_X7_init, R_X5_init, R_X4_init, k35, k36, cg_new, cg_put, cg_N, cg_K, uK_s, uK_o, inew_pr, up_pr, pr_s, pr_o, pr_pr, true_and, and_true, true_implies, not_true_eq_false, false_implies, not_false_eq_true, false_and, and_false, or_true, true_or, false_or, or_false, implies_true, forall_const, kl_i, kl_n, kl_r, kl_l, tl_s, tl_n, List.cons_append, List.nil_append, Int.cast_ofNat_Int, w32_id, w64_id, le_T, le_F, lt_T, lt_F, eq_T, eq_F, reduceIte, ne_eq, Int.toNat_natCast, bi_0, bi_1, bi_b, Nat.reduceAdd, Nat.reduceEqDiff, Int.reduceToNat, Int.reduceNeg, nle_T, nlt_T, neq_T, neq_F, b2_0, b2_b, both, reduceCtorEq]
  refine via (fun G J hG hJ => ?_)
  rw [cg_S] at s1 s2 s3
  have hK3 : ∀ a, a < 45 → gK G a = gK g3 a := fun a ha => by
    rw [hG, cg_K]
    clear s1 s2 s3 hG hJ hQ
    simp (disch := omega) only [uK_o]
  have hR3 : ∀ a k, ¬ a = 5 → a < 45 → gR G a k = gR g3 a k := fun a k h5 ha => by
    rw [hG, cg_R]
    clear s1 s2 s3 hG hJ hQ
    simp (disch := omega) only [uR_o, nR_o]
  have hI3 : ∀ a, ¬ a = 5 → a < 45 → J a = I3 a := fun a h5 ha => by
    rw [hJ]
    clear s1 s2 s3 hG hJ hQ
    simp (disch := omega) only [pr_o]
  have hK2 : ∀ a, a < 32 → gK G a = gK g2 a := fun a ha => by rw [hK3 a (by omega), k3 a (by omega), cg_K, uK_o (by omega)]
  have hR2 : ∀ a k, ¬ a = 5 → a < 32 → gR G a k = gR g2 a k := fun a k h5 ha => by rw [hR3 a k h5 (by omega), f3 a k ha, cg_R, nR_o (by omega), uR_o h5]
  have hI2 : ∀ a, ¬ a = 5 → a < 32 → J a = I2 a := fun a h5 ha => by rw [hI3 a h5 (by omega), i3 a ha, pr_o (by omega)]
  have hK1 : ∀ a, a < 19 → gK G a = gK g1 a := fun a ha => by rw [hK2 a (by omega), k2 a (by omega), cg_K, uK_o (by omega)]
  have hR1 : ∀ a k, ¬ a = 5 → a < 19 → gR G a k = gR g1 a k := fun a k h5 ha => by rw [hR2 a k h5 (by omega), f2 a k ha, cg_R, nR_o (by omega), uR_o h5]
  have hI1 : ∀ a, ¬ a = 5 → a < 19 → J a = I1 a := fun a h5 ha => by rw [hI2 a h5 (by omega), i2 a ha, pr_o (by omega)]
  have nG : gN G = 57 := by rw [hG]; rfl
  refine hQ G J ⟨?_, ⟨?_, ?_⟩, ⟨WT_fr w1 (fun a ha => hK1 a (by omega)) (fun k => ⟨hR1 6 k (by omega) (by omega), hR1 16 k (by omega) (by omega)⟩), WT_fr w2 (fun a ha => hK2 a (by omega)) (fun k => ⟨hR2 19 k (by omega) (by omega), hR2 29 k (by omega) (by omega)⟩), WT_fr w3 (fun a ha => hK3 a (by omega)) (fun k => ⟨hR3 32 k (by omega) (by omega), hR3 42 k (by omega) (by omega)⟩)⟩, ⟨TN_fr t1 (fun a ha => hK1 a (by omega)) (fun k => hR1 9 k (by omega) (by omega)) (by omega), TN_fr t2 (fun a ha => hK2 a (by omega)) (fun k => hR2 22 k (by omega) (by omega)) (by omega), TN_fr t3 (fun a ha => hK3 a (by omega)) (fun k => hR3 35 k (by omega) (by omega)) (by omega)⟩, TR_0 r1 (fun a h1 h2 => hI1 a (by omega) (by omega)), ⟨nG, ?_⟩, fun a ha => ?_, fun a k ha => ?_, fun a ha => ?_, ?_, ?_, ?_, ?_, ?_⟩
  · rw [hG]
    exact ⟨k35, rfl, rfl, rfl, rfl, rfl, rfl, rfl, rfl, rfl, rfl, rfl, rfl, rfl, rfl, rfl, rfl, rfl, rfl, rfl, rfl, rfl, rfl, rfl, rfl⟩
  · rw [hG]
    exact (f3 5 0 (by omega)).trans (f2 5 0 (by omega))
  · rw [hG]
    exact f3 5 1 (by omega)
  · rw [hG, cg_S, cg_S]
    clear hG hJ hQ
    omega
  · rw [hK1 a (by omega), k1 a (by omega), cg_K, uK_o (by omega), cg_K]
  · rw [hR1 a k (by omega) (by omega), f1 a k (by omega), cg_R, nR_o (by omega), cg_R]
  · rw [hI1 a (by omega) (by omega), i1 a (by omega), pr_o (by omega)]
  · rw [hJ]
    exact ⟨rfl, rfl, rfl⟩
  · rw [hJ]
    rfl
  · rw [hJ]
    rfl
  · rw [hJ]
    rfl
  · rw [hJ]
    rfl
end XIN

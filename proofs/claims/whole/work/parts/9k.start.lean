-- THE START: the model's object is made; the law up to its loop (wip/whole/mk9k.py)
theorem A0_7 : uf (uf (uf (uf (fun _ => 0) 0 100) 1 300) 2 400) 3 0 = A0 7 := by
  funext j
  have e : A0 7 j = if j = 0 then 100 else if j = 1 then 300 else if j = 2 then 400 else 0 := rfl
  rw [e]
  by_cases c0 : j = 0
  · subst c0; rfl
  rw [if_neg c0]
  by_cases c1 : j = 1
  · subst c1; rfl
  rw [if_neg c1]
  by_cases c2 : j = 2
  · subst c2; rfl
  rw [if_neg c2]
  by_cases c3 : j = 3
  · subst c3; rfl
  rw [uf_o c3, uf_o c2, uf_o c1, uf_o c0]
/-- what making the model's object leaves -/
def MI (g : GG) (I : II) (g' : GG) (I' : II) : Prop := WM g' ∧ MR I' A0 ∧ (gN g' = 90 ∧ gS g' ≤ gS g + 9000) ∧ (∀ a, a < 57 → gK g' a = gK g a) ∧ (∀ a k, a < 57 → gR g' a k = gR g a k) ∧ (∀ a, a < 57 → I' a = I a) ∧ (I' 57 27 = 0 ∧ I' 57 31 = 0 ∧ I' 57 48 = 0) ∧ I' 73 = z0 ∧ I' 89 = z0 ∧ I' 58 = z0 ∧ I' 81 = z0
section MIN
variable {I : II} {K : Nat → Nat × Nat} {R : Nat → Nat → Option Nat} {S : Nat}
theorem ct_minit (hk : K 57 = (0, 11)) (hI : I 57 = fun _ => 0) (d : Nat) (Q : QQ) (hQ : ∀ g' I', MI (cg K R 58 S) I g' I' → Q none g' I') : WP (d + 1) m_X12_init 0 [some (vr (some 57))] [] (cg K R 58 S) I Q := by
  simp (config := { maxSteps := 2000000 }) (disch := omega) only [R_X12_init_b0, R_X12_init_b1, R_X12_init_b2, hk, hI, cg_new, cg_put, cg_N, cg_K, uK_s, uK_o, inew_pr, up_pr, pr_s, pr_o, pr_pr, true_and, and_true, true_implies, not_true_eq_false, false_implies, not_false_eq_true, false_and, and_false, or_true, true_or, false_or, or_false, implies_true, forall_const, kl_i, kl_n, kl_r, kl_l, tl_s, tl_n, List.cons_append, List.nil_append, Int.cast_ofNat_Int, w32_id, w64_id, le_T, le_F, lt_T, lt_F, eq_T, eq_F, reduceIte, ne_eq, Int.toNat_natCast, bi_0, bi_1, bi_b, Nat.reduceAdd, Nat.reduceEqDiff, Int.reduceToNat, Int.reduceNeg, nle_T, nlt_T, neq_T, neq_F, b2_0, b2_b, both, reduceCtorEq]
  refine via (fun G J hG hJ => hQ G J ⟨?_, ⟨?_, ?_, ?_, ?_, ?_, ?_, ?_, ?_, ?_, ?_, ?_, ?_, ?_, ?_, ?_, ?_, ?_, ?_, ?_, ?_, ?_, ?_⟩, ⟨?_, ?_⟩, fun a ha => ?_, fun a k ha => ?_, fun a ha => ?_, ?_, ?_, ?_, ?_, ?_⟩)
  · rw [hG]
    exact ⟨hk, rfl, rfl, rfl, rfl, rfl, rfl, rfl, rfl, rfl, rfl, rfl, rfl, rfl, rfl, rfl, rfl, rfl, rfl, rfl, rfl, rfl, rfl, rfl, rfl, rfl, rfl, rfl, rfl, rfl, rfl, rfl, rfl, rfl, rfl, rfl, rfl, rfl, rfl, rfl, rfl, rfl, rfl, rfl, rfl, rfl, rfl, rfl, rfl, rfl, rfl, rfl, rfl, rfl, rfl, rfl, rfl, rfl, rfl, rfl, rfl, rfl, rfl, rfl, rfl⟩
  · rw [hJ, A0_z (by clear hJ hG hQ; omega)]
    rfl
  · rw [hJ, A0_z (by clear hJ hG hQ; omega)]
    rfl
  · rw [hJ, A0_z (by clear hJ hG hQ; omega)]
    rfl
  · rw [hJ, A0_z (by clear hJ hG hQ; omega)]
    rfl
  · rw [hJ, A0_z (by clear hJ hG hQ; omega)]
    rfl
  · rw [hJ, A0_z (by clear hJ hG hQ; omega)]
    rfl
  · rw [hJ, A0_z (by clear hJ hG hQ; omega)]
    rfl
  · rw [hJ]
    exact A0_7
  · rw [hJ, A0_z (by clear hJ hG hQ; omega)]
    rfl
  · rw [hJ, A0_z (by clear hJ hG hQ; omega)]
    rfl
  · rw [hJ, A0_z (by clear hJ hG hQ; omega)]
    rfl
  · rw [hJ, A0_z (by clear hJ hG hQ; omega)]
    rfl
  · rw [hJ, A0_z (by clear hJ hG hQ; omega)]
    rfl
  · rw [hJ, A0_z (by clear hJ hG hQ; omega)]
    rfl
  · rw [hJ]
    rfl
  · rw [hJ]
    rfl
  · rw [hJ]
    rfl
  · rw [hJ]
    rfl
  · rw [hJ]
    rfl
  · rw [hJ]
    rfl
  · rw [hJ]
    rfl
  · rw [hJ]
    rfl
  · rw [hG]
    rfl
  · rw [hG, cg_S, cg_S]
    clear hG hJ hQ
    omega
  · rw [hG, cg_K, cg_K]
    clear hG hJ hQ
    simp (disch := omega) only [uK_o]
  · rw [hG, cg_R, cg_R]
    clear hG hJ hQ
    simp (disch := omega) only [uR_o, nR_o]
  · rw [hJ]
    clear hG hJ hQ
    simp (disch := omega) only [pr_o]
  · rw [hJ]
    exact ⟨rfl, rfl, rfl⟩
  · rw [hJ]
    rfl
  · rw [hJ]
    rfl
  · rw [hJ]
    rfl
  · rw [hJ]
    rfl
end MIN
theorem WX_fr {g g' : GG} (h : WX g) (hK : ∀ a, a < 57 → gK g' a = gK g a) (hR : ∀ a k, a < 57 → gR g' a k = gR g a k) : WX g' := by
  unfold WX
  simp (disch := omega) only [hK, hR]
  exact h
def g0 (L : Nat) : GG := ((fun a => if a = 0 then (5, L) else if a = 1 then (0, 12) else if a = 2 then (4, 6) else (9, 0)), ((fun a k => if a = 1 then (if k = 0 then some 2 else none) else none), (5, 0)))
def I0 (xs : Nat → Int32) : II := fun a j => if a = 0 then (xs j).toInt else if a = 2 then KL.getD j 0 else 0
theorem law_start {L : Nat} {xs : Nat → Int32} (Q : QQ) (hQ : ∀ g' I', RR L xs 100 20000 g' I' → WP 1000 m_L_law 18 [some (vr (some 0)), some (vr (some 5)), some (vr (some 57)), some (vi 0)] [] g' I' Q) : WP 1000 m_L_law 0 [some (vr (some 0)), none, none, none] [] (g0 L) (I0 xs) Q := by
  have e0 : g0 L = cg (gK (g0 L)) (gR (g0 L)) 5 0 := rfl
  have k0 : ∀ a, a < 5 → gK (g0 L) a = gK (g0 L) a := fun _ _ => rfl
  rw [e0]
  simp (config := { maxSteps := 2000000 }) (disch := omega) only [R_L_0, cg_new, cg_put, cg_N, cg_K, uK_s, uK_o, inew_pr, true_and, and_true, true_implies, not_true_eq_false, false_implies, not_false_eq_true, false_and, and_false, or_true, true_or, false_or, or_false, implies_true, forall_const, kl_i, kl_n, kl_r, kl_l, tl_s, tl_n, List.cons_append, List.nil_append, Int.cast_ofNat_Int, w32_id, w64_id, le_T, le_F, lt_T, lt_F, eq_T, eq_F, reduceIte, ne_eq, Int.toNat_natCast, bi_0, bi_1, bi_b, Nat.reduceAdd, Nat.reduceEqDiff, Int.reduceToNat, Int.reduceNeg, nle_T, nlt_T, neq_T, neq_F, b2_0, b2_b, both, reduceCtorEq]
  refine ct_xinit uK_s 994 _ (fun g1 I1 h1 => ?_)
  obtain ⟨x1, ⟨x2, x3⟩, ⟨w1, w2, w3⟩, ⟨t1, t2, t3⟩, r1, ⟨n1, s1⟩, fK, fR, fI, ⟨c3, c7, c9⟩, c52, c53, c56, c49⟩ := h1
  rw [cg_S] at s1
  have e1 := cg_eta g1
  rw [n1] at e1
  rw [e1]
  simp (config := { maxSteps := 2000000 }) (disch := omega) only [R_L_0, cg_new, cg_put, cg_N, cg_K, uK_s, uK_o, inew_pr, true_and, and_true, true_implies, not_true_eq_false, false_implies, not_false_eq_true, false_and, and_false, or_true, true_or, false_or, or_false, implies_true, forall_const, kl_i, kl_n, kl_r, kl_l, tl_s, tl_n, List.cons_append, List.nil_append, Int.cast_ofNat_Int, w32_id, w64_id, le_T, le_F, lt_T, lt_F, eq_T, eq_F, reduceIte, ne_eq, Int.toNat_natCast, bi_0, bi_1, bi_b, Nat.reduceAdd, Nat.reduceEqDiff, Int.reduceToNat, Int.reduceNeg, nle_T, nlt_T, neq_T, neq_F, b2_0, b2_b, both, reduceCtorEq]
  refine ct_minit uK_s (pr_s _ _ _) 998 _ (fun g2 I2 h2 => ?_)
  obtain ⟨m1, m2, ⟨n2, s2⟩, hK, hR, hI, ⟨d27, d31, d48⟩, d73, d89, d58, d81⟩ := h2
  rw [cg_S] at s2
  have gK2 : ∀ a, a < 57 → gK g2 a = gK g1 a := fun a ha => by rw [hK a ha, cg_K, uK_o (by omega)]
  have gR2 : ∀ a k, a < 57 → gR g2 a k = gR g1 a k := fun a k ha => by rw [hR a k ha, cg_R, nR_o (by omega)]
  have gI2 : ∀ a, a < 57 → I2 a = I1 a := fun a ha => by rw [hI a ha, pr_o (by omega)]
  have hRR : RR L xs 100 20000 g2 I2 := by
    refine ⟨?_, ⟨by omega, by omega, by omega⟩, 6, 19, A0, 4, 0, 0, 0, 0, Or.inl ⟨rfl, rfl⟩, ⟨by rw [gR2 5 0 (by omega)]; exact x2, by rw [gR2 5 1 (by omega)]; exact x3⟩, ⟨m1, WX_fr x1 gK2 gR2, ⟨WT_fr w1 (fun a ha => gK2 a (by omega)) (fun k => ⟨gR2 6 k (by omega), gR2 16 k (by omega)⟩), WT_fr w2 (fun a ha => gK2 a (by omega)) (fun k => ⟨gR2 19 k (by omega), gR2 29 k (by omega)⟩), WT_fr w3 (fun a ha => gK2 a (by omega)) (fun k => ⟨gR2 32 k (by omega), gR2 42 k (by omega)⟩)⟩, ⟨TN_fr t1 (fun a ha => gK2 a (by omega)) (fun k => gR2 9 k (by omega)) (by omega), TN_fr t2 (fun a ha => gK2 a (by omega)) (fun k => gR2 22 k (by omega)) (by omega), TN_fr t3 (fun a ha => gK2 a (by omega)) (fun k => gR2 35 k (by omega)) (by omega)⟩⟩, m2, TR_0 r1 (fun a h1 h2 => gI2 a (by omega)), okS_0, ⟨by rw [gI2 5 (by omega), c3, d31], Or.inl d31⟩, ?_⟩
    · have k0 : ∀ a, a < 5 → gK g2 a = gK (g0 L) a := fun a ha => by rw [gK2 a (by omega), fK a ha, cg_K, uK_o (by omega)]
      have r0 : ∀ k, gR g2 1 k = gR (g0 L) 1 k := fun k => by rw [gR2 1 k (by omega), fR 1 k (by omega), cg_R, nR_o (by omega)]
      have i0 : ∀ a, a < 5 → I2 a = I0 xs a := fun a ha => by rw [gI2 a (by omega), fI a ha, pr_o (by omega)]
      refine ⟨by rw [k0 0 (by omega)]; rfl, by rw [k0 1 (by omega)]; rfl, by rw [k0 2 (by omega)]; rfl, by rw [r0 0]; rfl, fun j => by rw [i0 0 (by omega)]; rfl, fun j => by rw [i0 2 (by omega)]; rfl, by rw [i0 1 (by omega)]; rfl⟩
    · unfold OT
      rw [gI2 5 (by omega), gI2 52 (by omega), gI2 53 (by omega), gI2 56 (by omega), gI2 49 (by omega), c7, c9, c52, c53, c56, c49, d27, d48, d73, d89, d58, d81]
      exact ⟨⟨rfl, by omega, by omega⟩, fun j _ => ⟨rfl, by rw [z0_0]; omega⟩, ⟨rfl, by omega, by omega⟩, fun j _ => ⟨rfl, by rw [z0_0]; omega⟩, fun _ _ => rfl, fun _ _ => rfl, fun _ _ => rfl⟩
  have hq := hQ g2 I2 hRR
  simp (config := { maxSteps := 2000000 }) (disch := omega) only [R_L_0, true_and, and_true, true_implies, not_true_eq_false, false_implies, not_false_eq_true, false_and, and_false, or_true, true_or, false_or, or_false, implies_true, forall_const, kl_i, kl_n, kl_r, kl_l, tl_s, tl_n, List.cons_append, List.nil_append, Int.cast_ofNat_Int, w32_id, w64_id, le_T, le_F, lt_T, lt_F, eq_T, eq_F, reduceIte, ne_eq, Int.toNat_natCast, bi_0, bi_1, bi_b, Nat.reduceAdd, Nat.reduceEqDiff, Int.reduceToNat, Int.reduceNeg, nle_T, nlt_T, neq_T, neq_F, b2_0, b2_b, both, reduceCtorEq]
  exact hq

-- the class's seekThings
section CLIVE
variable {g : GG} {I : II} {d t n P : Nat} {A : II} {D : Nat → Int}
theorem lp_seek (hV : CV g I t A n) (hTH : TH g I t A n) (hA : okA A n) (hS : okSt A) (hD : bD D) (hp1 : pos1 D) (hI : e64 (I (t + 2)) D) (hP : I t 0 = (P : Int)) (hP8 : P ≤ 8) (far : Bool) (Q : QQ) : ∀ (k i : Nat) (x : LF), i + k = 999 → okL x → WP (d + 5) m_X5_seekThings 10 [some (vr (some 47)), some (vr (some t)), some (vi (b2 far)), some (vi (npA A D n far x P)), some (vi i)] [] g (mcx I x) Q = Q none g (mcx I (sk A D n P far k x)) := by
  have hV0 := hV
  obtain ⟨ht, hX, hT, hn, s0, s1, s2, s3⟩ := hV0
  have hL := WL_m hX
  intro k
  induction k with
  | zero =>
    intro i x hi hx
    rw [H_X5_seekThings_10]
    simp (config := { contextual := true }) (disch := omega) only [R_X5_seekThings, hX, true_and, and_true, true_implies, not_true_eq_false, false_implies, not_false_eq_true, false_and, and_false, or_true, true_or, false_or, or_false, implies_true, forall_const, kl_i, kl_n, kl_r, kl_l, tl_s, tl_n, List.cons_append, List.nil_append, Int.cast_ofNat_Int, w32_id, w64_id, le_T, le_F, lt_T, lt_F, eq_T, eq_F, reduceIte, ne_eq, Int.toNat_natCast, bi_0, bi_1, bi_b, Nat.reduceAdd, Nat.reduceEqDiff, Int.reduceToNat, Int.reduceNeg, nle_T, nlt_T, neq_T, neq_F, b2_0, b2_b, both, reduceCtorEq]
    rfl
  | succ k ih =>
    intro i x hi hx
    by_cases h : npA A D n far x P < 0
    · rw [show sk A D n P far (k + 1) x = x from if_pos h, H_X5_seekThings_10]
      simp (config := { contextual := true }) (disch := omega) only [R_X5_seekThings, hX, true_and, and_true, true_implies, not_true_eq_false, false_implies, not_false_eq_true, false_and, and_false, or_true, true_or, false_or, or_false, implies_true, forall_const, kl_i, kl_n, kl_r, kl_l, tl_s, tl_n, List.cons_append, List.nil_append, Int.cast_ofNat_Int, w32_id, w64_id, le_T, le_F, lt_T, lt_F, eq_T, eq_F, reduceIte, ne_eq, Int.toNat_natCast, bi_0, bi_1, bi_b, Nat.reduceAdd, Nat.reduceEqDiff, Int.reduceToNat, Int.reduceNeg, nle_T, nlt_T, neq_T, neq_F, b2_0, b2_b, both, reduceCtorEq]
    · obtain ⟨g1, g2, g3, g4⟩ := np_go hS hD hp1 hP8 hx h
      rw [show sk A D n P far (k + 1) x = sk A D n P far k (tkA A true n (goL D x (npA A D n far x P))) from if_neg h]
      have hok := okL_tkA (w := true) hA g4 n (Nat.le_refl n)
      have ih' := ih (i + 1) _ (by omega) hok
      have ec : ((i + 1 : Nat) : Int) = (i : Int) + 1 := by omega
      rw [ec] at ih'
      have hAll := fun Q => ct_takeWorthy (d := d) hV hTH hA hS _ g4 Q
      have hnp := fun Q => ct_cnp (d := d) hV hTH hA hS hD hI hP hP8 _ hok far Q
      have hD' : bD (mcx I x (t + 2)) := by
        rw [mcx_o (by omega)]
        intro j hj
        rw [hI j hj]
        exact hD j hj
      obtain ⟨hy1, hy2, hy3⟩ := hx
      have h0 : 0 ≤ mcx I x 48 0 ∧ mcx I x 48 0 < 8 := by rw [mcx_0]; omega
      have h1 : 0 ≤ mcx I x 48 1 ∧ mcx I x 48 1 ≤ 1000000 := by rw [mcx_1]; omega
      have kg := fun Q => ct_come (d := d + 3) hT hL hD' Q (npA A D n far x P) h0 h1 g1
      have eg : (npA A D n far x P, lAge x + D (8 * (lAt x).toNat + (npA A D n far x P).toNat), lWo x, lHad x) = goL D x (npA A D n far x P) := rfl
      have ed : I (t + 2) (8 * (lAt x).toNat + (npA A D n far x P).toNat) = D (8 * (lAt x).toNat + (npA A D n far x P).toNat) := hI _ (by omega)
      rw [H_X5_seekThings_10]
      generalize npA A D n far x P = c at h g1 g2 g3 g4 hok ih' hAll hnp kg eg ed ⊢
      simp (config := { contextual := true }) (disch := omega) only [R_X5_seekThings, hX, kg, mcx_0, mcx_1, mcx_o, ed, mcx_come, eg, hAll, hnp, ih', true_and, and_true, true_implies, not_true_eq_false, false_implies, not_false_eq_true, false_and, and_false, or_true, true_or, false_or, or_false, implies_true, forall_const, kl_i, kl_n, kl_r, kl_l, tl_s, tl_n, List.cons_append, List.nil_append, Int.cast_ofNat_Int, w32_id, w64_id, le_T, le_F, lt_T, lt_F, eq_T, eq_F, reduceIte, ne_eq, Int.toNat_natCast, bi_0, bi_1, bi_b, Nat.reduceAdd, Nat.reduceEqDiff, Int.reduceToNat, Int.reduceNeg, nle_T, nlt_T, neq_T, neq_F, b2_0, b2_b, both, reduceCtorEq]
theorem ct_seek (hV : CV g I t A n) (hTH : TH g I t A n) (hA : okA A n) (hS : okSt A) (hD : bD D) (hp1 : pos1 D) (hI : e64 (I (t + 2)) D) (hP : I t 0 = (P : Int)) (hP8 : P ≤ 8) (far : Bool) (x : LF) (hx : okL x) (Q : QQ) : WP (d + 5) m_X5_seekThings 0 [some (vr (some 47)), some (vr (some t)), some (vi (b2 far)), none, none] [] g (mcx I x) Q = Q none g (mcx I (sk A D n P far 999 x)) := by
  have hnp := fun Q => ct_cnp (d := d) hV hTH hA hS hD hI hP hP8 _ hx far Q
  have h := lp_seek (d := d) hV hTH hA hS hD hp1 hI hP hP8 far Q 999 0 x (by omega) hx
  have hX := hV.2.1
  simp (config := { contextual := true }) (disch := omega) only [R_X5_seekThings, hX, hnp, true_and, and_true, true_implies, not_true_eq_false, false_implies, not_false_eq_true, false_and, and_false, or_true, true_or, false_or, or_false, implies_true, forall_const, kl_i, kl_n, kl_r, kl_l, tl_s, tl_n, List.cons_append, List.nil_append, Int.cast_ofNat_Int, w32_id, w64_id, le_T, le_F, lt_T, lt_F, eq_T, eq_F, reduceIte, ne_eq, Int.toNat_natCast, bi_0, bi_1, bi_b, Nat.reduceAdd, Nat.reduceEqDiff, Int.reduceToNat, Int.reduceNeg, nle_T, nlt_T, neq_T, neq_F, b2_0, b2_b, both, reduceCtorEq]
  exact h
end CLIVE

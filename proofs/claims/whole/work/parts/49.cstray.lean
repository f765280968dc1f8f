-- the class's strayWorth, firstWrong, firstOld
section CSTRAY
variable {g : GG} {I : II} {d t n P : Nat} {A : II} {D : Nat → Int}
theorem lp_cst (hV : CV g I t A n) (hTH : TH g I t A n) (hA : okA A n) (hS : okSt A) (hD : bD D) (hI : e64 (I (t + 2)) D) (hP : I t 0 = (P : Int)) (hP0 : 0 < P) (hP8 : P ≤ 8) (N : Nat) (hN : N ≤ 40) (z : Int) (Q : QQ) : ∀ k i : Nat, i + k = N → ∀ l6, WP (d + 5) m_X5_strayWorth 24 [some (vr (some 47)), some (vr (some t)), some (vi N), some (vi z), some (vi (zz z i)), some (vi i), l6] [] g (mcx I (stX A D n P z i)) Q = Q (some (vi (lWo (stX A D n P z N)))) g (mcx I (stX A D n P z N)) := by
  have hV0 := hV
  obtain ⟨ht, hX, hT, hn, s0, s1, s2, s3⟩ := hV0
  have hL := WL_m hX
  intro k
  induction k with
  | zero =>
    intro i hi l6
    obtain rfl : i = N := by omega
    rw [H_X5_strayWorth_24]
    simp (config := { contextual := true }) (disch := omega) only [R_X5_strayWorth_b0, R_X5_strayWorth_b1, hX, hT, mcx_2, true_and, and_true, true_implies, not_true_eq_false, false_implies, not_false_eq_true, false_and, and_false, or_true, true_or, false_or, or_false, implies_true, forall_const, kl_i, kl_n, kl_r, kl_l, tl_s, tl_n, List.cons_append, List.nil_append, Int.cast_ofNat_Int, w32_id, w64_id, le_T, le_F, lt_T, lt_F, eq_T, eq_F, reduceIte, ne_eq, Int.toNat_natCast, bi_0, bi_1, bi_b, Nat.reduceAdd, Nat.reduceEqDiff, Int.reduceToNat, Int.reduceNeg, nle_T, nlt_T, neq_T, neq_F, b2_0, b2_b, both, reduceCtorEq]
  | succ k ih =>
    intro i hi l6
    have ih' := ih (i + 1) (by omega)
    have hy := okL_stX (z := z) hA hS hD hP0 hP8 i
    have e1 : stX A D n P z (i + 1) = tkA A false n (st1 A D (stX A D n P z i) (plc (zz z (i + 1)) P)) := rfl
    have ec : ((i + 1 : Nat) : Int) = (i : Int) + 1 := by omega
    rw [e1, ec] at ih'
    generalize stX A D n P z i = y at ih' hy ⊢
    have el : w32 (w32 (zz z i * 1664525) + 1013904223) = zz z (i + 1) := rfl
    have em : max 1 (P : Int) = (P : Int) := by omega
    have ep : iRem (iDiv (iAnd (zz z (i + 1)) 2147483647) 256) (P : Int) = plc (zz z (i + 1)) P := rfl
    have hp := plc_b (zz z (i + 1)) hP0 hP8
    have hp8 : 0 ≤ plc (zz z (i + 1)) P ∧ plc (zz z (i + 1)) P < 8 := by omega
    have hD' : bD (mcx I y (t + 2)) := by
      rw [mcx_o (by omega)]
      intro j hj
      rw [hI j hj]
      exact hD j hj
    have hT1 := fun Q => ct_takeOpen (d := d) hV hTH hA hS _ (okL_st1 hS hD hy hp8) Q
    obtain ⟨hy1, hy2, hy3⟩ := hy
    have h0 : 0 ≤ mcx I y 48 0 ∧ mcx I y 48 0 < 8 := by rw [mcx_0]; omega
    have h1 : 0 ≤ mcx I y 48 1 ∧ mcx I y 48 1 ≤ 1000000 := by rw [mcx_1]; omega
    have kc := fun Q => ct_canCome (d := d + 3) hT hL hD' Q (plc (zz z (i + 1)) P) h0 h1 hp8
    have kg := fun Q => ct_come (d := d + 3) hT hL hD' Q (plc (zz z (i + 1)) P) h0 h1 hp8
    generalize plc (zz z (i + 1)) P = p at *
    have ed : I (t + 2) (8 * (lAt y).toNat + p.toNat) = D (8 * (lAt y).toNat + p.toNat) := hI _ (by omega)
    have eg : (p, lAge y + D (8 * (lAt y).toNat + p.toNat), lWo y, lHad y) = goL D y p := rfl
    rw [H_X5_strayWorth_24]
    by_cases c : lAge y + D (8 * (lAt y).toNat + p.toNat) ≤ A 7 2
    · have e2 : st1 A D y p = goL D y p := if_pos c
      rw [e2] at ih' hT1
      simp (config := { contextual := true }) (disch := omega) only [R_X5_strayWorth_b0, R_X5_strayWorth_b1, hX, hT, hP, el, em, ep, kc, kg, mcx_0, mcx_1, mcx_o, ed, s2, mcx_come, eg, hT1, ih', true_and, and_true, true_implies, not_true_eq_false, false_implies, not_false_eq_true, false_and, and_false, or_true, true_or, false_or, or_false, implies_true, forall_const, kl_i, kl_n, kl_r, kl_l, tl_s, tl_n, List.cons_append, List.nil_append, Int.cast_ofNat_Int, w32_id, w64_id, le_T, le_F, lt_T, lt_F, eq_T, eq_F, reduceIte, ne_eq, Int.toNat_natCast, bi_0, bi_1, bi_b, Nat.reduceAdd, Nat.reduceEqDiff, Int.reduceToNat, Int.reduceNeg, nle_T, nlt_T, neq_T, neq_F, b2_0, b2_b, both, reduceCtorEq]
    · have e2 : st1 A D y p = y := if_neg c
      rw [e2] at ih' hT1
      simp (config := { contextual := true }) (disch := omega) only [R_X5_strayWorth_b0, R_X5_strayWorth_b1, hX, hT, hP, el, em, ep, kc, mcx_0, mcx_1, mcx_o, ed, s2, hT1, ih', true_and, and_true, true_implies, not_true_eq_false, false_implies, not_false_eq_true, false_and, and_false, or_true, true_or, false_or, or_false, implies_true, forall_const, kl_i, kl_n, kl_r, kl_l, tl_s, tl_n, List.cons_append, List.nil_append, Int.cast_ofNat_Int, w32_id, w64_id, le_T, le_F, lt_T, lt_F, eq_T, eq_F, reduceIte, ne_eq, Int.toNat_natCast, bi_0, bi_1, bi_b, Nat.reduceAdd, Nat.reduceEqDiff, Int.reduceToNat, Int.reduceNeg, nle_T, nlt_T, neq_T, neq_F, b2_0, b2_b, both, reduceCtorEq]
theorem ct_strayWorth (hV : CV g I t A n) (hTH : TH g I t A n) (hA : okA A n) (hS : okSt A) (hD : bD D) (hI : e64 (I (t + 2)) D) (hP : I t 0 = (P : Int)) (hP0 : 0 < P) (hP8 : P ≤ 8) (hz : ∀ j, 7 ≤ j → I 49 j = 0) (N : Nat) (hN : N ≤ 40) (z : Int) (Q : QQ) : WP (d + 5) m_X5_strayWorth 0 [some (vr (some 47)), some (vr (some t)), some (vi N), some (vi z), none, none, none] [] g I Q = Q (some (vi (lWo (stX A D n P z N)))) g (mcx I (stX A D n P z N)) := by
  have hV0 := hV
  obtain ⟨ht, hX, hT, hn, s0, s1, s2, s3⟩ := hV0
  have hL := WL_m hX
  have kb := fun Q => ct_begin (d := d + 3) (I := I) hL (by decide) Q (A 7 3)
  rw [fll_z hz] at kb
  have kt := fun Q => ct_takeOpen (d := d) hV hTH hA hS _ (okL_z hS) Q
  have kl := lp_cst (d := d) hV hTH hA hS hD hI hP hP0 hP8 N hN z Q N 0 (by omega) none
  have e0 : tkA A false n (A 7 3, 0, 0, z0) = stX A D n P z 0 := rfl
  have ez : zz z 0 = z := rfl
  rw [ez] at kl
  simp (config := { contextual := true }) (disch := omega) only [R_X5_strayWorth_b0, R_X5_strayWorth_b1, hX, hT, s3, kb, mcx_begin, kt, e0, true_and, and_true, true_implies, not_true_eq_false, false_implies, not_false_eq_true, false_and, and_false, or_true, true_or, false_or, or_false, implies_true, forall_const, kl_i, kl_n, kl_r, kl_l, tl_s, tl_n, List.cons_append, List.nil_append, Int.cast_ofNat_Int, w32_id, w64_id, le_T, le_F, lt_T, lt_F, eq_T, eq_F, reduceIte, ne_eq, Int.toNat_natCast, bi_0, bi_1, bi_b, Nat.reduceAdd, Nat.reduceEqDiff, Int.reduceToNat, Int.reduceNeg, nle_T, nlt_T, neq_T, neq_F, b2_0, b2_b, both, reduceCtorEq]
  exact kl
end CSTRAY

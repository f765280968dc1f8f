-- GOES on both sides
section CSG
variable {L : Nat} {xs : Nat → Int32} {g : GG} {I : II} {t dr : Nat} {A : II} {P w n q m : Nat}
theorem cs_goes (hs : SS L xs g I) (hg : 90 ≤ gN g) (h : RQ g I t dr A P w n q m) (a b c : Int) : CS L xs g I m_X11_goes m_X12_goes [some (vi a), some (vi b), some (vi c), none, none, none, none] [some (vi a), some (vi b), some (vi c), none, none, none, none] vi := by
  have hW := h.2.2.1.1
  have hX := h.2.2.1.2.1
  obtain ⟨ht1, ht2, hT⟩ := RQ_t h
  have h50 := h.2.1.1
  obtain ⟨hP, hP'⟩ := RQ_P h
  have hS := RQ_S h
  have hP8 := hS.2.1
  by_cases pc : 0 ≤ c ∧ c < (P : Int)
  case neg =>
    refine CS_r hs hg h (-1) (k := 1) (by omega) (fun Q => ?_) (fun Q => ?_)
    · simp (config := { contextual := true }) (disch := omega) only [R_X11_goes_b0, R_X11_goes_b1, hX, hT, h50, hP, ct_isPlace hT, pc, ct_refuse hX, rfC, true_and, and_true, true_implies, not_true_eq_false, false_implies, not_false_eq_true, false_and, and_false, or_true, true_or, false_or, or_false, implies_true, forall_const, kl_i, kl_n, kl_r, kl_l, tl_s, tl_n, List.cons_append, List.nil_append, Int.cast_ofNat_Int, w32_id, w64_id, le_T, le_F, lt_T, lt_F, eq_T, eq_F, reduceIte, ne_eq, Int.toNat_natCast, bi_0, bi_1, bi_b, Nat.reduceAdd, Nat.reduceEqDiff, Int.reduceToNat, Int.reduceNeg, nle_T, nlt_T, neq_T, neq_F, b2_0, b2_b, both, reduceCtorEq]
    · simp (config := { contextual := true }) (disch := omega) only [R_X12_goes_b0, R_X12_goes_b1, hW, hP', ct_misPlace hW, pc, ct_no hW, pr_o, rfC, rfM, true_and, and_true, true_implies, not_true_eq_false, false_implies, not_false_eq_true, false_and, and_false, or_true, true_or, false_or, or_false, implies_true, forall_const, kl_i, kl_n, kl_r, kl_l, tl_s, tl_n, List.cons_append, List.nil_append, Int.cast_ofNat_Int, w32_id, w64_id, le_T, le_F, lt_T, lt_F, eq_T, eq_F, reduceIte, ne_eq, Int.toNat_natCast, bi_0, bi_1, bi_b, Nat.reduceAdd, Nat.reduceEqDiff, Int.reduceToNat, Int.reduceNeg, nle_T, nlt_T, neq_T, neq_F, b2_0, b2_b, both, reduceCtorEq]
  by_cases c1 : a < 0 ∨ b < 1
  · have c1' : a < 0 ∨ (¬ a < 0 ∧ b < 1) := by omega
    rcases c1' with c2 | ⟨c2, c3⟩
    · refine CS_r hs hg h (-4) (k := 4) (by omega) (fun Q => ?_) (fun Q => ?_)
      · simp (config := { contextual := true }) (disch := omega) only [R_X11_goes_b0, R_X11_goes_b1, hX, hT, h50, hP, ct_isPlace hT, pc, ct_refuse hX, rfC, true_and, and_true, true_implies, not_true_eq_false, false_implies, not_false_eq_true, false_and, and_false, or_true, true_or, false_or, or_false, implies_true, forall_const, kl_i, kl_n, kl_r, kl_l, tl_s, tl_n, List.cons_append, List.nil_append, Int.cast_ofNat_Int, w32_id, w64_id, le_T, le_F, lt_T, lt_F, eq_T, eq_F, reduceIte, ne_eq, Int.toNat_natCast, bi_0, bi_1, bi_b, Nat.reduceAdd, Nat.reduceEqDiff, Int.reduceToNat, Int.reduceNeg, nle_T, nlt_T, neq_T, neq_F, b2_0, b2_b, both, reduceCtorEq]
      · simp (config := { contextual := true }) (disch := omega) only [R_X12_goes_b0, R_X12_goes_b1, hW, hP', ct_misPlace hW, pc, ct_no hW, pr_o, rfC, rfM, true_and, and_true, true_implies, not_true_eq_false, false_implies, not_false_eq_true, false_and, and_false, or_true, true_or, false_or, or_false, implies_true, forall_const, kl_i, kl_n, kl_r, kl_l, tl_s, tl_n, List.cons_append, List.nil_append, Int.cast_ofNat_Int, w32_id, w64_id, le_T, le_F, lt_T, lt_F, eq_T, eq_F, reduceIte, ne_eq, Int.toNat_natCast, bi_0, bi_1, bi_b, Nat.reduceAdd, Nat.reduceEqDiff, Int.reduceToNat, Int.reduceNeg, nle_T, nlt_T, neq_T, neq_F, b2_0, b2_b, both, reduceCtorEq]
    · refine CS_r hs hg h (-4) (k := 4) (by omega) (fun Q => ?_) (fun Q => ?_)
      · simp (config := { contextual := true }) (disch := omega) only [R_X11_goes_b0, R_X11_goes_b1, hX, hT, h50, hP, ct_isPlace hT, pc, ct_refuse hX, rfC, true_and, and_true, true_implies, not_true_eq_false, false_implies, not_false_eq_true, false_and, and_false, or_true, true_or, false_or, or_false, implies_true, forall_const, kl_i, kl_n, kl_r, kl_l, tl_s, tl_n, List.cons_append, List.nil_append, Int.cast_ofNat_Int, w32_id, w64_id, le_T, le_F, lt_T, lt_F, eq_T, eq_F, reduceIte, ne_eq, Int.toNat_natCast, bi_0, bi_1, bi_b, Nat.reduceAdd, Nat.reduceEqDiff, Int.reduceToNat, Int.reduceNeg, nle_T, nlt_T, neq_T, neq_F, b2_0, b2_b, both, reduceCtorEq]
      · simp (config := { contextual := true }) (disch := omega) only [R_X12_goes_b0, R_X12_goes_b1, hW, hP', ct_misPlace hW, pc, ct_no hW, pr_o, rfC, rfM, true_and, and_true, true_implies, not_true_eq_false, false_implies, not_false_eq_true, false_and, and_false, or_true, true_or, false_or, or_false, implies_true, forall_const, kl_i, kl_n, kl_r, kl_l, tl_s, tl_n, List.cons_append, List.nil_append, Int.cast_ofNat_Int, w32_id, w64_id, le_T, le_F, lt_T, lt_F, eq_T, eq_F, reduceIte, ne_eq, Int.toNat_natCast, bi_0, bi_1, bi_b, Nat.reduceAdd, Nat.reduceEqDiff, Int.reduceToNat, Int.reduceNeg, nle_T, nlt_T, neq_T, neq_F, b2_0, b2_b, both, reduceCtorEq]
  by_cases c4 : 999 < a
  · refine CS_r hs hg h (-6) (k := 6) (by omega) (fun Q => ?_) (fun Q => ?_)
    · simp (config := { contextual := true }) (disch := omega) only [R_X11_goes_b0, R_X11_goes_b1, hX, hT, h50, hP, ct_isPlace hT, pc, ct_refuse hX, rfC, true_and, and_true, true_implies, not_true_eq_false, false_implies, not_false_eq_true, false_and, and_false, or_true, true_or, false_or, or_false, implies_true, forall_const, kl_i, kl_n, kl_r, kl_l, tl_s, tl_n, List.cons_append, List.nil_append, Int.cast_ofNat_Int, w32_id, w64_id, le_T, le_F, lt_T, lt_F, eq_T, eq_F, reduceIte, ne_eq, Int.toNat_natCast, bi_0, bi_1, bi_b, Nat.reduceAdd, Nat.reduceEqDiff, Int.reduceToNat, Int.reduceNeg, nle_T, nlt_T, neq_T, neq_F, b2_0, b2_b, both, reduceCtorEq]
    · simp (config := { contextual := true }) (disch := omega) only [R_X12_goes_b0, R_X12_goes_b1, hW, hP', ct_misPlace hW, pc, ct_no hW, pr_o, rfC, rfM, true_and, and_true, true_implies, not_true_eq_false, false_implies, not_false_eq_true, false_and, and_false, or_true, true_or, false_or, or_false, implies_true, forall_const, kl_i, kl_n, kl_r, kl_l, tl_s, tl_n, List.cons_append, List.nil_append, Int.cast_ofNat_Int, w32_id, w64_id, le_T, le_F, lt_T, lt_F, eq_T, eq_F, reduceIte, ne_eq, Int.toNat_natCast, bi_0, bi_1, bi_b, Nat.reduceAdd, Nat.reduceEqDiff, Int.reduceToNat, Int.reduceNeg, nle_T, nlt_T, neq_T, neq_F, b2_0, b2_b, both, reduceCtorEq]
  by_cases c5 : 6 < b
  · refine CS_r hs hg h (-6) (k := 6) (by omega) (fun Q => ?_) (fun Q => ?_)
    · simp (config := { contextual := true }) (disch := omega) only [R_X11_goes_b0, R_X11_goes_b1, hX, hT, h50, hP, ct_isPlace hT, pc, ct_refuse hX, rfC, true_and, and_true, true_implies, not_true_eq_false, false_implies, not_false_eq_true, false_and, and_false, or_true, true_or, false_or, or_false, implies_true, forall_const, kl_i, kl_n, kl_r, kl_l, tl_s, tl_n, List.cons_append, List.nil_append, Int.cast_ofNat_Int, w32_id, w64_id, le_T, le_F, lt_T, lt_F, eq_T, eq_F, reduceIte, ne_eq, Int.toNat_natCast, bi_0, bi_1, bi_b, Nat.reduceAdd, Nat.reduceEqDiff, Int.reduceToNat, Int.reduceNeg, nle_T, nlt_T, neq_T, neq_F, b2_0, b2_b, both, reduceCtorEq]
    · simp (config := { contextual := true }) (disch := omega) only [R_X12_goes_b0, R_X12_goes_b1, hW, hP', ct_misPlace hW, pc, ct_no hW, pr_o, rfC, rfM, true_and, and_true, true_implies, not_true_eq_false, false_implies, not_false_eq_true, false_and, and_false, or_true, true_or, false_or, or_false, implies_true, forall_const, kl_i, kl_n, kl_r, kl_l, tl_s, tl_n, List.cons_append, List.nil_append, Int.cast_ofNat_Int, w32_id, w64_id, le_T, le_F, lt_T, lt_F, eq_T, eq_F, reduceIte, ne_eq, Int.toNat_natCast, bi_0, bi_1, bi_b, Nat.reduceAdd, Nat.reduceEqDiff, Int.reduceToNat, Int.reduceNeg, nle_T, nlt_T, neq_T, neq_F, b2_0, b2_b, both, reduceCtorEq]
  obtain ⟨M, rfl⟩ := Int.eq_ofNat_of_zero_le (by omega : 0 ≤ a)
  obtain ⟨N, hN⟩ := Int.eq_ofNat_of_zero_le (by omega : 0 ≤ b - 1)
  obtain rfl : b = (N : Int) + 1 := by omega
  obtain ⟨p, rfl⟩ := Int.eq_ofNat_of_zero_le pc.1
  obtain ⟨dB, dZ, d1, d8⟩ := DM_ok hS (I 72)
  have hf := RQ_far h (I 72)
  obtain ⟨hb, hse, hs0, hs72⟩ := RQ_W h
  have hC := RQ_CW h dB hf
  have st := (okS_S hS).2.2.2
  have kfm := fun Q => ct_fillMeans hC (half := M / 2) (by omega) (N := N) (by omega) hs72 995 Q
  have hf0 : ∀ j, j ≤ M / 2 → fll (fun _ => 0) 500 (I 54) j = 0 := fun j hj => by unfold fll; rw [if_pos (by omega)]
  have hcm := fun j hj => cmr_mn (A := A) (D := DM A P w (I 72)) (P := P) (W := sgm (A 8) P) (half := M / 2) hf0 N j hj
  have eh : iDiv (M : Int) 2 = ((M / 2 : Nat) : Int) := by rw [iDiv_eq (by omega) (by omega) (by omega) (by omega)]; omega
  have hmb := mn_b (A := A) (D := DM A P w (I 72)) (P := P) hb (fun p hp => (dB _ (by omega)).1) hP8.2 ⟨hs0, hs72⟩ hs72 N (by omega)
  have hub := uk_b hs0 hs72 N
  have hubb := ub_b N (by omega)
  have wp := (hb p (by omega)).2
  have hpu : 0 ≤ A 9 p * uk (sgm (A 8) P) N ∧ A 9 p * uk (sgm (A 8) P) N ≤ 99 * ub N := ⟨Int.mul_nonneg wp.1 hub.1, Int.mul_le_mul wp.2 hub.2 hub.1 (by omega)⟩
  have T := h.2.2.2.2.1.2.2.2.2
  have hs3 := T.1 3 (by omega)
  have hpy := T.2.2.2.1 p (by omega)
  have hd := dB (8 * (A 7 3).toNat + p) (by omega)
  have ed := hf (8 * (A 7 3).toNat + p) (by omega)
  have kf := RQ_ff h
  obtain ⟨r3, r4, r5, r6, r7, r8, r9, r10, r11, r12, r13⟩ := RQ_r h
  by_cases cd : ((M / 2 : Nat) : Int) < DM A P w (I 72) (8 * (A 7 3).toNat + p)
  · refine CS_q hs hg h 0 (I1 := I) (J := pr I 72 (DM A P w (I 72))) (fun Q => ?_) (sm_rf I) (fun Q => ?_) (sm_72 _ _)
    · simp (config := { contextual := true }) (disch := omega) only [R_X11_goes_b0, R_X11_goes_b1, hX, hT, h50, hP, ct_isPlace hT, pc, eh, hs3, ct_miles hT, ed, true_and, and_true, true_implies, not_true_eq_false, false_implies, not_false_eq_true, false_and, and_false, or_true, true_or, false_or, or_false, implies_true, forall_const, kl_i, kl_n, kl_r, kl_l, tl_s, tl_n, List.cons_append, List.nil_append, Int.cast_ofNat_Int, w32_id, w64_id, le_T, le_F, lt_T, lt_F, eq_T, eq_F, reduceIte, ne_eq, Int.toNat_natCast, bi_0, bi_1, bi_b, Nat.reduceAdd, Nat.reduceEqDiff, Int.reduceToNat, Int.reduceNeg, nle_T, nlt_T, neq_T, neq_F, b2_0, b2_b, both, reduceCtorEq]
    · simp (config := { contextual := true }) (disch := omega) only [R_X12_goes_b0, R_X12_goes_b1, hW, hP', ct_misPlace hW, pc, kf, pr_s, pr_o, r7, ct_farOf hW, true_and, and_true, true_implies, not_true_eq_false, false_implies, not_false_eq_true, false_and, and_false, or_true, true_or, false_or, or_false, implies_true, forall_const, kl_i, kl_n, kl_r, kl_l, tl_s, tl_n, List.cons_append, List.nil_append, Int.cast_ofNat_Int, w32_id, w64_id, le_T, le_F, lt_T, lt_F, eq_T, eq_F, reduceIte, ne_eq, Int.toNat_natCast, bi_0, bi_1, bi_b, Nat.reduceAdd, Nat.reduceEqDiff, Int.reduceToNat, Int.reduceNeg, nle_T, nlt_T, neq_T, neq_F, b2_0, b2_b, both, reduceCtorEq]
  have k1 : sm I (pr I 54 (cmr A (DM A P w (I 72)) P (sgm (A 8) P) (M / 2) (fll (fun _ => 0) 500 (I 54)) N)) := sm_pr (sm_rf I) (by unfold okc; omega)
  obtain ⟨I1, hI1⟩ : ∃ I1, I1 = pr I 54 (cmr A (DM A P w (I 72)) P (sgm (A 8) P) (M / 2) (fll (fun _ => 0) 500 (I 54)) N) := ⟨_, rfl⟩
  have h54 : I1 54 (M / 2) = mn A (DM A P w (I 72)) P (sgm (A 8) P) N (M / 2) := by rw [hI1, pr_s, hcm _ (Nat.le_refl _)]
  have h54b : I1 54 (M / 2 - (DM A P w (I 72) (8 * (A 7 3).toNat + p)).toNat) = mn A (DM A P w (I 72)) P (sgm (A 8) P) N (M / 2 - (DM A P w (I 72) (8 * (A 7 3).toNat + p)).toNat) := by rw [hI1, pr_s, hcm _ (Nat.sub_le _ _)]
  have h72 : I1 72 = I 72 := by rw [hI1, pr_o (by omega)]
  have hpy1 : I1 (t + 7) p = A 9 p := by rw [hI1, pr_o (by omega)]; exact hpy
  rw [← hI1] at kfm k1
  have h' := RQ_sm h k1
  have kf' := RQ_ff h'
  rw [h72] at kf'
  obtain ⟨q3, q4, q5, q6, q7, q8, q9, q10, q11, q12, q13⟩ := RQ_r h'
  have hP1 := (RQ_P h').2
  have ks : sm I1 (pr I1 72 (DM A P w (I 72))) := sm_72 _ _
  have h'' := RQ_sm h' ks
  have hM := RQ_MW h'' dB (pr_s _ _ _)
  have ka := fun Q => ct_maW (I := pr I1 72 (DM A P w (I 72))) hW (by rw [pr_o (by omega)]; exact q8) hb 998 Q
  rw [hse] at ka
  have hm0 : sgm (A 8) P = 0 → ∀ k hh, mn A (DM A P w (I 72)) P (sgm (A 8) P) k hh = 0 := fun e => mn_0 (sgm_0 P (fun j hj => (hb j (by omega)).1.1) e)
  generalize DM A P w (I 72) = D at *
  have mb1 := hmb (M / 2)
  have mb2 := hmb (M / 2 - (D (8 * (A 7 3).toNat + p)).toNat)
  have ei : (((M / 2 : Nat) : Int) - D (8 * (A 7 3).toNat + p)).toNat = M / 2 - (D (8 * (A 7 3).toNat + p)).toNat := by omega
  have en : (N : Int) + 1 - 1 = (N : Int) := by omega
  obtain ⟨J, k2, h2⟩ : ∃ J, sm I1 J ∧ ∀ Q : QQ, WP 999 m_X12_goes 0 [some (vr (some 57)), some (vi M), some (vi ((N : Int) + 1)), some (vi p), none, none, none, none] [] g I1 Q = Q (some (vi (if mn A D P (sgm (A 8) P) N (M / 2) ≤ A 9 p * uk (sgm (A 8) P) N + mn A D P (sgm (A 8) P) N (M / 2 - (D (8 * (A 7 3).toNat + p)).toNat) then 1 else 0))) g J := by
    refine WP_ext (fun Q hQ => ?_)
    by_cases cW : sgm (A 8) P = 0
    · have hq := hQ _ ks
      have m0 := hm0 cW
      rw [if_pos (by rw [m0, m0]; omega)] at hq
      simp (config := { contextual := true }) (disch := omega) only [R_X12_goes_b0, R_X12_goes_b1, hW, hP1, ct_misPlace hW, pc, kf', pr_s, pr_o, q7, ct_farOf hW, ka, cW, true_and, and_true, true_implies, not_true_eq_false, false_implies, not_false_eq_true, false_and, and_false, or_true, true_or, false_or, or_false, implies_true, forall_const, kl_i, kl_n, kl_r, kl_l, tl_s, tl_n, List.cons_append, List.nil_append, Int.cast_ofNat_Int, w32_id, w64_id, le_T, le_F, lt_T, lt_F, eq_T, eq_F, reduceIte, ne_eq, Int.toNat_natCast, bi_0, bi_1, bi_b, Nat.reduceAdd, Nat.reduceEqDiff, Int.reduceToNat, Int.reduceNeg, nle_T, nlt_T, neq_T, neq_F, b2_0, b2_b, both, reduceCtorEq]
      exact hq
    · have hfm := ct_findMeans hM (by omega) hse (miles := M) (N := N) (by omega) (by omega) 997
      simp (config := { contextual := true }) (disch := omega) only [R_X12_goes_b0, R_X12_goes_b1, hW, hP1, ct_misPlace hW, pc, kf', pr_s, pr_o, q7, ct_farOf hW, ka, cW, en, true_and, and_true, true_implies, not_true_eq_false, false_implies, not_false_eq_true, false_and, and_false, or_true, true_or, false_or, or_false, implies_true, forall_const, kl_i, kl_n, kl_r, kl_l, tl_s, tl_n, List.cons_append, List.nil_append, Int.cast_ofNat_Int, w32_id, w64_id, le_T, le_F, lt_T, lt_F, eq_T, eq_F, reduceIte, ne_eq, Int.toNat_natCast, bi_0, bi_1, bi_b, Nat.reduceAdd, Nat.reduceEqDiff, Int.reduceToNat, Int.reduceNeg, nle_T, nlt_T, neq_T, neq_F, b2_0, b2_b, both, reduceCtorEq]
      refine hfm _ (fun E' hE => ?_)
      have hE1 := hE M (Nat.le_refl M)
      have hE2 := hE (M - 2 * (D (8 * (A 7 3).toNat + p)).toNat) (by omega)
      rw [show (M - 2 * (D (8 * (A 7 3).toNat + p)).toNat) / 2 = M / 2 - (D (8 * (A 7 3).toNat + p)).toNat by omega] at hE2
      have hq := hQ (pr (pr I1 72 D) 87 E') (sm_pr ks (by unfold okc; omega))
      have ei1 : (1000 * (N : Int) + (M : Int)).toNat = 1000 * N + M := by omega
      have ei2 : (1000 * (N : Int) + (M : Int) - 2 * D (8 * (A 7 3).toNat + p)).toNat = 1000 * N + (M - 2 * (D (8 * (A 7 3).toNat + p)).toNat) := by omega
      generalize mn A D P (sgm (A 8) P) N (M / 2) = u1 at *
      generalize mn A D P (sgm (A 8) P) N (M / 2 - (D (8 * (A 7 3).toNat + p)).toNat) = u2 at *
      generalize uk (sgm (A 8) P) N = v at *
      by_cases cc : u1 ≤ A 9 p * v + u2
      · rw [if_pos cc] at hq
        have cc' : ¬ A 9 p * v + u2 < u1 := by omega
        simp (config := { contextual := true }) (disch := omega) only [R_X12_goes_b0, R_X12_goes_b1, hW, pr_s, pr_o, en, q9, ei1, ei2, hE1, hE2, lcm3_eq, lcm3_gt, lcm3_lt, true_and, and_true, true_implies, not_true_eq_false, false_implies, not_false_eq_true, false_and, and_false, or_true, true_or, false_or, or_false, implies_true, forall_const, kl_i, kl_n, kl_r, kl_l, tl_s, tl_n, List.cons_append, List.nil_append, Int.cast_ofNat_Int, w32_id, w64_id, le_T, le_F, lt_T, lt_F, eq_T, eq_F, reduceIte, ne_eq, Int.toNat_natCast, bi_0, bi_1, bi_b, Nat.reduceAdd, Nat.reduceEqDiff, Int.reduceToNat, Int.reduceNeg, nle_T, nlt_T, neq_T, neq_F, b2_0, b2_b, both, reduceCtorEq]
        exact hq
      · rw [if_neg cc] at hq
        simp (config := { contextual := true }) (disch := omega) only [R_X12_goes_b0, R_X12_goes_b1, hW, pr_s, pr_o, en, q9, ei1, ei2, hE1, hE2, lcm3_eq, lcm3_gt, lcm3_lt, true_and, and_true, true_implies, not_true_eq_false, false_implies, not_false_eq_true, false_and, and_false, or_true, true_or, false_or, or_false, implies_true, forall_const, kl_i, kl_n, kl_r, kl_l, tl_s, tl_n, List.cons_append, List.nil_append, Int.cast_ofNat_Int, w32_id, w64_id, le_T, le_F, lt_T, lt_F, eq_T, eq_F, reduceIte, ne_eq, Int.toNat_natCast, bi_0, bi_1, bi_b, Nat.reduceAdd, Nat.reduceEqDiff, Int.reduceToNat, Int.reduceNeg, nle_T, nlt_T, neq_T, neq_F, b2_0, b2_b, both, reduceCtorEq]
        exact hq
  refine CS_q hs hg h _ (fun Q => ?_) k1 h2 (sm_tr k1 k2)
  generalize mn A D P (sgm (A 8) P) N (M / 2) = u1 at *
  generalize mn A D P (sgm (A 8) P) N (M / 2 - (D (8 * (A 7 3).toNat + p)).toNat) = u2 at *
  generalize uk (sgm (A 8) P) N = v at *
  by_cases cc : u1 ≤ A 9 p * v + u2
  · rw [if_pos cc]
    simp (config := { contextual := true }) (disch := omega) only [R_X11_goes_b0, R_X11_goes_b1, hX, hT, h50, hP, ct_isPlace hT, pc, eh, hs3, ct_miles hT, ed, en, kfm, hpy1, ei, h54, h54b, lcm3_eq, lcm3_gt, lcm3_lt, true_and, and_true, true_implies, not_true_eq_false, false_implies, not_false_eq_true, false_and, and_false, or_true, true_or, false_or, or_false, implies_true, forall_const, kl_i, kl_n, kl_r, kl_l, tl_s, tl_n, List.cons_append, List.nil_append, Int.cast_ofNat_Int, w32_id, w64_id, le_T, le_F, lt_T, lt_F, eq_T, eq_F, reduceIte, ne_eq, Int.toNat_natCast, bi_0, bi_1, bi_b, Nat.reduceAdd, Nat.reduceEqDiff, Int.reduceToNat, Int.reduceNeg, nle_T, nlt_T, neq_T, neq_F, b2_0, b2_b, both, reduceCtorEq]
  · rw [if_neg cc]
    simp (config := { contextual := true }) (disch := omega) only [R_X11_goes_b0, R_X11_goes_b1, hX, hT, h50, hP, ct_isPlace hT, pc, eh, hs3, ct_miles hT, ed, en, kfm, hpy1, ei, h54, h54b, lcm3_eq, lcm3_gt, lcm3_lt, true_and, and_true, true_implies, not_true_eq_false, false_implies, not_false_eq_true, false_and, and_false, or_true, true_or, false_or, or_false, implies_true, forall_const, kl_i, kl_n, kl_r, kl_l, tl_s, tl_n, List.cons_append, List.nil_append, Int.cast_ofNat_Int, w32_id, w64_id, le_T, le_F, lt_T, lt_F, eq_T, eq_F, reduceIte, ne_eq, Int.toNat_natCast, bi_0, bi_1, bi_b, Nat.reduceAdd, Nat.reduceEqDiff, Int.reduceToNat, Int.reduceNeg, nle_T, nlt_T, neq_T, neq_F, b2_0, b2_b, both, reduceCtorEq]
end CSG

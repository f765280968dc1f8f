-- THE LIFE AT HAND: go, have, may, life, nextLife
section LFE
variable {L : Nat} {xs : Nat → Int32} {g : GG} {I : II} {t dr : Nat} {A : II} {P w n q m : Nat}
theorem RQ_life (h : RQ g I t dr A P w n q m) {J A' : II} (hA : ∀ k, k ≤ 12 → A' k = A k) (h14 : ∀ j, j ≤ 4 → A' 14 j = A 14 j) (hJ : ∀ c, ¬ c = t + 10 → ¬ c = t + 11 → ¬ c = 57 → ¬ c = 81 → ¬ c = 72 → J c = I c) (hl : J (t + 10) 0 = A' 14 5 ∧ J (t + 10) 1 = A' 14 6 ∧ J (t + 10) 2 = A' 14 7) (hh : ∀ j, j < 7 → J (t + 11) j = A' 13 j) (h57 : ∀ j, ¬ (35 ≤ j ∧ j ≤ 37) → J 57 j = I 57 j) (hm : J 57 35 = A' 14 5 ∧ J 57 36 = A' 14 6 ∧ J 57 37 = A' 14 7) (h81 : J 81 = A' 13) (hz : ∀ j, 7 ≤ j → J 81 j = 0) (hb : hb7 (A' 13) ∧ ∀ j, n ≤ j → j < 7 → A' 13 j = 0) (hp : (0 ≤ A' 14 5 ∧ A' 14 5 < P) ∧ (0 ≤ A' 14 6 ∧ A' 14 6 ≤ 999)) : RQ g J t dr A' P w n q m := by
  obtain ⟨ht1, ht2, hT⟩ := RQ_t h
  have T := h.2.2.2.2.1
  have M := h.2.2.2.1
  have hS := RQ_S h
  refine RQ_ch h ?_ ?_ ?_ (fun c hc => hJ c (by omega) (by omega) (by omega) (by omega) (by omega)) ⟨h57 31 (by omega), h57 27 (by omega), h57 48 (by omega)⟩ hz
  · rw [MR, hJ 59 (by omega) (by omega) (by omega) (by omega) (by omega), hJ 60 (by omega) (by omega) (by omega) (by omega) (by omega), hJ 61 (by omega) (by omega) (by omega) (by omega) (by omega), hJ 62 (by omega) (by omega) (by omega) (by omega) (by omega), hJ 63 (by omega) (by omega) (by omega) (by omega) (by omega), hJ 64 (by omega) (by omega) (by omega) (by omega) (by omega), hJ 65 (by omega) (by omega) (by omega) (by omega) (by omega), hJ 66 (by omega) (by omega) (by omega) (by omega) (by omega), hJ 67 (by omega) (by omega) (by omega) (by omega) (by omega), hJ 68 (by omega) (by omega) (by omega) (by omega) (by omega), hJ 69 (by omega) (by omega) (by omega) (by omega) (by omega), hJ 70 (by omega) (by omega) (by omega) (by omega) (by omega), hJ 71 (by omega) (by omega) (by omega) (by omega) (by omega), h57 14 (by omega), h57 15 (by omega), h57 16 (by omega), h57 17 (by omega), h57 18 (by omega), hA 0 (by omega), hA 1 (by omega), hA 2 (by omega), hA 3 (by omega), hA 4 (by omega), hA 5 (by omega), hA 6 (by omega), hA 7 (by omega), hA 8 (by omega), hA 9 (by omega), hA 10 (by omega), hA 11 (by omega), hA 12 (by omega), h14 0 (by omega), h14 1 (by omega), h14 2 (by omega), h14 3 (by omega), h14 4 (by omega)]
    obtain ⟨a0, a1, a2, a3, a4, a5, a6, a7, a8, a9, a10, a11, a12, a13, b0, b1, b2, b3, b4, b5⟩ := M
    exact ⟨a0, a1, a2, a3, a4, a5, a6, a7, a8, a9, a10, a11, a12, h81, b0, b1, b2, b3, b4, hm⟩
  · have hc : ∀ c, t ≤ c ∧ c ≤ t + 9 → J c = I c := fun c hc => hJ c (by omega) (by omega) (by omega) (by omega) (by omega)
    refine TR_gen T (fun k hk => hA k (by omega)) (fun c hc => hJ c (by omega) (by omega) (by omega) (by omega) (by omega)) ?_ ?_ ?_ ?_ ?_ ?_ ?_ hl hh
    · rw [hc t (by omega), h14 0 (by omega), h14 1 (by omega), h14 2 (by omega), h14 3 (by omega), h14 4 (by omega)]; exact T.1
    · rw [hc (t + 4) (by omega), hA 7 (by omega)]; exact T.2.2.2.2.1
    · rw [hc (t + 5) (by omega), hA 12 (by omega)]; exact T.2.2.2.2.2.1
    · rw [hc (t + 6) (by omega), hA 8 (by omega)]; exact T.2.2.2.2.2.2.1
    · rw [hc (t + 7) (by omega), hA 9 (by omega)]; exact T.2.2.2.2.2.2.2.1
    · rw [hc (t + 8) (by omega), hA 10 (by omega)]; exact T.2.2.2.2.2.2.2.2.1
    · rw [hc (t + 9) (by omega), hA 11 (by omega)]; exact T.2.2.2.2.2.2.2.2.2.1
  · obtain ⟨s1, s2, s3, s4, s5, s6, s7, s8, s9, s10, s11, s12, s13⟩ := hS
    unfold okS okSt
    rw [h14 0 (by omega), h14 1 (by omega), h14 2 (by omega), h14 3 (by omega), h14 4 (by omega), hA 0 (by omega), hA 1 (by omega), hA 2 (by omega), hA 4 (by omega), hA 7 (by omega), hA 8 (by omega), hA 9 (by omega), hA 10 (by omega), hA 11 (by omega), hA 12 (by omega)]
    exact ⟨s1, s2, s3, okA_c (fun k hk => hA k (by omega)) s4, s5, s6, s7, s8, s9, s10, hb, hp.1, hp.2⟩
theorem cs_go (hs : SS L xs g I) (hg : 90 ≤ gN g) (h : RQ g I t dr A P w n q m) (a : Int) : CS L xs g I m_X11_go m_X12_go [some (vi a)] [some (vi a)] vi := by
  have hW := h.2.2.1.1
  have hX := h.2.2.1.2.1
  obtain ⟨ht1, ht2, hT⟩ := RQ_t h
  have h50 := h.2.1.1
  obtain ⟨hP, hP'⟩ := RQ_P h
  have hS := RQ_S h
  have hP8 := hS.2.1
  by_cases pa : 0 ≤ a ∧ a < (P : Int)
  case neg =>
    refine CS_r hs hg h (-1) (k := 1) (by omega) (fun Q => ?_) (fun Q => ?_)
    · simp (config := { contextual := true }) (disch := omega) only [R_X11_go, hX, hT, h50, hP, ct_isPlace hT, pa, ct_refuse hX, rfC, true_and, and_true, true_implies, not_true_eq_false, false_implies, not_false_eq_true, false_and, and_false, or_true, true_or, false_or, or_false, implies_true, forall_const, kl_i, kl_n, kl_r, kl_l, tl_s, tl_n, List.cons_append, List.nil_append, Int.cast_ofNat_Int, w32_id, w64_id, le_T, le_F, lt_T, lt_F, eq_T, eq_F, reduceIte, ne_eq, Int.toNat_natCast, bi_0, bi_1, bi_b, Nat.reduceAdd, Nat.reduceEqDiff, Int.reduceToNat, Int.reduceNeg, nle_T, nlt_T, neq_T, neq_F, b2_0, b2_b, both, reduceCtorEq]
    · simp (config := { contextual := true }) (disch := omega) only [R_X12_go, hW, hP', ct_misPlace hW, pa, ct_no hW, pr_o, rfC, rfM, true_and, and_true, true_implies, not_true_eq_false, false_implies, not_false_eq_true, false_and, and_false, or_true, true_or, false_or, or_false, implies_true, forall_const, kl_i, kl_n, kl_r, kl_l, tl_s, tl_n, List.cons_append, List.nil_append, Int.cast_ofNat_Int, w32_id, w64_id, le_T, le_F, lt_T, lt_F, eq_T, eq_F, reduceIte, ne_eq, Int.toNat_natCast, bi_0, bi_1, bi_b, Nat.reduceAdd, Nat.reduceEqDiff, Int.reduceToNat, Int.reduceNeg, nle_T, nlt_T, neq_T, neq_F, b2_0, b2_b, both, reduceCtorEq]
  obtain ⟨dB, dZ, d1, d8⟩ := DM_ok hS (I 72)
  have hf := RQ_far h (I 72)
  have T := h.2.2.2.2.1
  obtain ⟨l0, l1, l2⟩ := T.2.2.2.2.2.2.2.2.2.2.1
  have hs2 := T.2.2.2.2.1 2 (by omega)
  obtain ⟨f14, f15, f16, f17, f18, f35, f36, f37⟩ := RQ_f h
  have hz := h.2.2.2.2.2.2.2.2.2.2.2.2.2
  have hat := hS.2.2.2.2.2.2.2.2.2.2.2.1
  have hag := hS.2.2.2.2.2.2.2.2.2.2.2.2
  have hen := (okS_S hS).2.2.1
  have hL : WL g (t + 10) (t + 11) := by simp only [WL, hT, and_self]
  have hD' : bD (I (t + 2)) := fun j hj => by rw [hf j hj]; exact dB j hj
  have kc := fun d Q => ct_canCome (d := d) hT hL hD' Q a (by rw [l0]; omega) (by rw [l1]; omega) (by omega)
  have kg := fun d Q => ct_come (d := d) hT hL hD' Q a (by rw [l0]; omega) (by rw [l1]; omega) (by omega)
  have ed := hf (8 * (A 14 5).toNat + a.toNat) (by omega)
  have kf := fun I1 (e59 : I1 59 = A 0) e60 e61 e14 e15 d Q => ct_ff (I := I1) hW hS e14 e15 e59 e60 e61 d Q
  obtain ⟨m0, m1, m2, m3, m4, m5, m6, m7, m8⟩ := h.2.2.2.1
  have hd := dB (8 * (A 14 5).toNat + a.toNat) (by omega)
  have hPw := (RQ_w h).2
  by_cases c : A 14 6 + DM A P w (I 72) (8 * (A 14 5).toNat + a.toNat) ≤ A 7 2
  · obtain ⟨I1, hI1⟩ : ∃ I1, I1 = pr I (t + 10) (uf (uf (I (t + 10)) 1 (A 14 6 + DM A P w (I 72) (8 * (A 14 5).toNat + a.toNat))) 0 a) := ⟨_, rfl⟩
    have hJ1 : ∀ c, ¬ c = t + 10 → I1 c = I c := fun c hc => by rw [hI1, pr_o hc]
    have e72 : I1 72 = I 72 := hJ1 72 (by omega)
    have kf1 := kf I1 (by rw [hJ1 59 (by omega)]; exact m0) (by rw [hJ1 60 (by omega)]; exact m1) (by rw [hJ1 61 (by omega)]; exact m2) (by rw [hJ1 57 (by omega)]; exact hP') (by rw [hJ1 57 (by omega)]; exact hPw)
    rw [e72] at kf1
    have e66 : I1 66 = A 7 := by rw [hJ1 66 (by omega)]; exact m7
    have e14 : I1 57 14 = (P : Int) := by rw [hJ1 57 (by omega)]; exact hP'
    have e35 : I1 57 35 = A 14 5 := by rw [hJ1 57 (by omega)]; exact f35
    have e36 : I1 57 36 = A 14 6 := by rw [hJ1 57 (by omega)]; exact f36
    generalize hDD : DM A P w (I 72) = D at *
    have kM := fun d Q => ct_mayGo (d := d) (I := pr I1 72 D) hW (by rw [pr_s]; exact dB) Q a (by rw [pr_o (by omega), e35]; omega) (by rw [pr_o (by omega), e36]; omega) (by omega)
    have kT := fun d Q => ct_goesTo (d := d) (I := pr I1 72 D) hW (by rw [pr_s]; exact dB) Q a (by rw [pr_o (by omega), e35]; omega) (by rw [pr_o (by omega), e36]; omega) (by omega)
    refine CS_s hs hg h (A 14 6 + D (8 * (A 14 5).toNat + a.toNat)) (I1 := I1) (J := pr (pr I1 72 D) 57 (uf (uf (I1 57) 36 (A 14 6 + D (8 * (A 14 5).toNat + a.toNat))) 35 a)) (fun Q => ?_) ⟨hJ1 0 (by omega), hJ1 1 (by omega), hJ1 2 (by omega)⟩ (fun Q => ?_) ⟨by rw [pr_o (by omega), pr_o (by omega)]; exact hJ1 0 (by omega), by rw [pr_o (by omega), pr_o (by omega)]; exact hJ1 1 (by omega), by rw [pr_o (by omega), pr_o (by omega)]; exact hJ1 2 (by omega)⟩ (A' := pr A 14 (uf (uf (A 14) 6 (A 14 6 + D (8 * (A 14 5).toNat + a.toNat))) 5 a)) (RQ_life h (fun k hk => pr_o (by omega)) (fun j hj => by rw [pr_s, uf_o (by omega), uf_o (by omega)]) (fun c c1 c2 c3 c4 c5 => by rw [pr_o c3, pr_o c5, hJ1 c c1]) ?_ ?_ ?_ ?_ ?_ ?_ ?_ ?_)
    · simp (config := { contextual := true }) (disch := omega) only [R_X11_go, hX, hT, h50, hP, ct_isPlace hT, pa, kc, kg, l0, l1, ed, hs2, ← hI1, true_and, and_true, true_implies, not_true_eq_false, false_implies, not_false_eq_true, false_and, and_false, or_true, true_or, false_or, or_false, implies_true, forall_const, kl_i, kl_n, kl_r, kl_l, tl_s, tl_n, List.cons_append, List.nil_append, Int.cast_ofNat_Int, w32_id, w64_id, le_T, le_F, lt_T, lt_F, eq_T, eq_F, reduceIte, ne_eq, Int.toNat_natCast, bi_0, bi_1, bi_b, Nat.reduceAdd, Nat.reduceEqDiff, Int.reduceToNat, Int.reduceNeg, nle_T, nlt_T, neq_T, neq_F, b2_0, b2_b, both, reduceCtorEq]
      rw [hI1, pr_s, uf_o (by omega), uf_s]
    · simp (config := { contextual := true }) (disch := omega) only [R_X12_go, hW, e14, ct_misPlace hW, pa, kf1, kM, kT, e66, e35, e36, pr_s, pr_o, uf_o, uf_s, true_and, and_true, true_implies, not_true_eq_false, false_implies, not_false_eq_true, false_and, and_false, or_true, true_or, false_or, or_false, implies_true, forall_const, kl_i, kl_n, kl_r, kl_l, tl_s, tl_n, List.cons_append, List.nil_append, Int.cast_ofNat_Int, w32_id, w64_id, le_T, le_F, lt_T, lt_F, eq_T, eq_F, reduceIte, ne_eq, Int.toNat_natCast, bi_0, bi_1, bi_b, Nat.reduceAdd, Nat.reduceEqDiff, Int.reduceToNat, Int.reduceNeg, nle_T, nlt_T, neq_T, neq_F, b2_0, b2_b, both, reduceCtorEq]
    · rw [pr_o (by omega), pr_o (by omega), pr_s, hI1, pr_s]
      refine ⟨by rw [uf_s, uf_s], by rw [uf_o (by omega), uf_s, uf_o (by omega), uf_s], by rw [uf_o (by omega), uf_o (by omega), uf_o (by omega), uf_o (by omega)]; exact l2⟩
    · intro j hj
      rw [pr_o (by omega), pr_o (by omega), pr_o (by omega), hJ1 (t + 11) (by omega)]
      exact T.2.2.2.2.2.2.2.2.2.2.2 j hj
    · intro j hj
      rw [pr_s, uf_o (by omega), uf_o (by omega), hJ1 57 (by omega)]
    · rw [pr_s, pr_s]
      refine ⟨by rw [uf_s, uf_s], by rw [uf_o (by omega), uf_s, uf_o (by omega), uf_s], by rw [uf_o (by omega), uf_o (by omega), uf_o (by omega), uf_o (by omega), hJ1 57 (by omega)]; exact f37⟩
    · rw [pr_o (by omega), pr_o (by omega), pr_o (by omega), hJ1 81 (by omega)]
      exact (RQ_r h).2.2.2.2.2.2.2.2.2.2
    · intro j hj
      rw [pr_o (by omega), pr_o (by omega), hJ1 81 (by omega)]
      exact hz j hj
    · rw [pr_o (by omega)]; exact hS.2.2.2.2.2.2.2.2.2.2.1
    · rw [pr_s, uf_s, uf_o (by omega), uf_s]
      omega
  · have kf1 := kf (rfC I 3) (by unfold rfC; rw [pr_o (by omega)]; exact m0) (by unfold rfC; rw [pr_o (by omega)]; exact m1) (by unfold rfC; rw [pr_o (by omega)]; exact m2) (by unfold rfC; rw [pr_o (by omega)]; exact hP') (by unfold rfC; rw [pr_o (by omega)]; exact hPw)
    have e72 : rfC I 3 72 = I 72 := by unfold rfC; rw [pr_o (by omega)]
    have e66 : rfC I 3 66 = A 7 := by unfold rfC; rw [pr_o (by omega)]; exact m7
    have e14 : rfC I 3 57 14 = (P : Int) := by unfold rfC; rw [pr_o (by omega)]; exact hP'
    have e35 : rfC I 3 57 35 = A 14 5 := by unfold rfC; rw [pr_o (by omega)]; exact f35
    have e36 : rfC I 3 57 36 = A 14 6 := by unfold rfC; rw [pr_o (by omega)]; exact f36
    have e0 : rfC I 3 0 = I 0 ∧ rfC I 3 1 = I 1 ∧ rfC I 3 2 = I 2 := by unfold rfC; rw [pr_o (by omega), pr_o (by omega), pr_o (by omega)]; exact ⟨rfl, rfl, rfl⟩
    rw [e72] at kf1
    have kM := fun d Q => ct_mayGo (d := d) (I := pr (rfC I 3) 72 (DM A P w (I 72))) hW (by rw [pr_s]; exact dB) Q a (by rw [pr_o (by omega), e35]; omega) (by rw [pr_o (by omega), e36]; omega) (by omega)
    have hq1 := RQ_rf h (k := 3) (by omega)
    have hq2 := RQ_sm hq1 (sm_72 _ (DM A P w (I 72)))
    have hcm : pr (rfM (rfC I 3) 3) 72 (DM A P w (I 72)) = rfM (pr (rfC I 3) 72 (DM A P w (I 72))) 3 := by
      unfold rfM
      rw [pr_o (I := rfC I 3) (a := 72) (b := 58) (by omega), ← pr_c (by omega : 58 < 72)]
    refine CS_s hs hg h (-3) (I1 := rfC I 3) (J := pr (rfM (rfC I 3) 3) 72 (DM A P w (I 72))) (fun Q => ?_) e0 (fun Q => ?_) ⟨by unfold rfM; rw [pr_o (by omega), pr_o (by omega)]; exact e0.1, by unfold rfM; rw [pr_o (by omega), pr_o (by omega)]; exact e0.2.1, by unfold rfM; rw [pr_o (by omega), pr_o (by omega)]; exact e0.2.2⟩ hq2
    · simp (config := { contextual := true }) (disch := omega) only [R_X11_go, hX, hT, h50, hP, ct_isPlace hT, pa, kc, l0, l1, ed, hs2, ct_refuse hX, rfC, true_and, and_true, true_implies, not_true_eq_false, false_implies, not_false_eq_true, false_and, and_false, or_true, true_or, false_or, or_false, implies_true, forall_const, kl_i, kl_n, kl_r, kl_l, tl_s, tl_n, List.cons_append, List.nil_append, Int.cast_ofNat_Int, w32_id, w64_id, le_T, le_F, lt_T, lt_F, eq_T, eq_F, reduceIte, ne_eq, Int.toNat_natCast, bi_0, bi_1, bi_b, Nat.reduceAdd, Nat.reduceEqDiff, Int.reduceToNat, Int.reduceNeg, nle_T, nlt_T, neq_T, neq_F, b2_0, b2_b, both, reduceCtorEq]
    · rw [hcm]
      generalize DM A P w (I 72) = D at *
      generalize rfC I 3 = I3 at *
      simp (config := { contextual := true }) (disch := omega) only [R_X12_go, hW, e14, ct_misPlace hW, pa, kf1, kM, e66, e35, e36, pr_s, pr_o, ct_no hW, rfM, true_and, and_true, true_implies, not_true_eq_false, false_implies, not_false_eq_true, false_and, and_false, or_true, true_or, false_or, or_false, implies_true, forall_const, kl_i, kl_n, kl_r, kl_l, tl_s, tl_n, List.cons_append, List.nil_append, Int.cast_ofNat_Int, w32_id, w64_id, le_T, le_F, lt_T, lt_F, eq_T, eq_F, reduceIte, ne_eq, Int.toNat_natCast, bi_0, bi_1, bi_b, Nat.reduceAdd, Nat.reduceEqDiff, Int.reduceToNat, Int.reduceNeg, nle_T, nlt_T, neq_T, neq_F, b2_0, b2_b, both, reduceCtorEq]
end LFE

-- judge, count on both sides
section JC
variable {L : Nat} {xs : Nat → Int32} {g : GG} {I : II} {t dr : Nat} {A : II} {P w n q m : Nat}
theorem cs_judge (hs : SS L xs g I) (hg : 90 ≤ gN g) (h : RQ g I t dr A P w n q m) (b : Int) : CS L xs g I m_X11_judge m_X12_judge [some (vi b), none] [some (vi b), none, none, none, none] vi := by
  have hW := h.2.2.1.1
  have hX := h.2.2.1.2.1
  obtain ⟨ht1, ht2, hT⟩ := RQ_t h
  have h50 := h.2.1.1
  obtain ⟨hP, hP'⟩ := RQ_P h
  have hS := RQ_S h
  have hP8 := hS.2.1
  obtain ⟨o1, o2, ⟨o3, o3b⟩, o4, o5, o6, o7⟩ := h.2.2.2.2.2.2.2
  by_cases pb : 0 ≤ b ∧ b ≤ 1
  case neg =>
    refine CS_r hs hg h (-2) (k := 2) (by omega) (fun Q => ?_) (fun Q => ?_)
    · by_cases c : b < 0
      · simp (config := { contextual := true }) (disch := omega) only [R_X11_judge, hX, ct_refuse hX, rfC, true_and, and_true, true_implies, not_true_eq_false, false_implies, not_false_eq_true, false_and, and_false, or_true, true_or, false_or, or_false, implies_true, forall_const, kl_i, kl_n, kl_r, kl_l, tl_s, tl_n, List.cons_append, List.nil_append, Int.cast_ofNat_Int, w32_id, w64_id, le_T, le_F, lt_T, lt_F, eq_T, eq_F, reduceIte, ne_eq, Int.toNat_natCast, bi_0, bi_1, bi_b, Nat.reduceAdd, Nat.reduceEqDiff, Int.reduceToNat, Int.reduceNeg, nle_T, nlt_T, neq_T, neq_F, b2_0, b2_b, both, reduceCtorEq]
      · simp (config := { contextual := true }) (disch := omega) only [R_X11_judge, hX, ct_refuse hX, rfC, true_and, and_true, true_implies, not_true_eq_false, false_implies, not_false_eq_true, false_and, and_false, or_true, true_or, false_or, or_false, implies_true, forall_const, kl_i, kl_n, kl_r, kl_l, tl_s, tl_n, List.cons_append, List.nil_append, Int.cast_ofNat_Int, w32_id, w64_id, le_T, le_F, lt_T, lt_F, eq_T, eq_F, reduceIte, ne_eq, Int.toNat_natCast, bi_0, bi_1, bi_b, Nat.reduceAdd, Nat.reduceEqDiff, Int.reduceToNat, Int.reduceNeg, nle_T, nlt_T, neq_T, neq_F, b2_0, b2_b, both, reduceCtorEq]
    · simp (config := { contextual := true }) (disch := omega) only [R_X12_judge_b0, R_X12_judge_b1, hW, ct_isIn, pb, ct_no hW, pr_o, rfC, rfM, true_and, and_true, true_implies, not_true_eq_false, false_implies, not_false_eq_true, false_and, and_false, or_true, true_or, false_or, or_false, implies_true, forall_const, kl_i, kl_n, kl_r, kl_l, tl_s, tl_n, List.cons_append, List.nil_append, Int.cast_ofNat_Int, w32_id, w64_id, le_T, le_F, lt_T, lt_F, eq_T, eq_F, reduceIte, ne_eq, Int.toNat_natCast, bi_0, bi_1, bi_b, Nat.reduceAdd, Nat.reduceEqDiff, Int.reduceToNat, Int.reduceNeg, nle_T, nlt_T, neq_T, neq_F, b2_0, b2_b, both, reduceCtorEq]
  have hb : b = 0 ∨ b = 1 := by omega
  obtain ⟨N, hN⟩ := Int.eq_ofNat_of_zero_le o3b.1
  rw [hN] at o3 o3b
  obtain ⟨dB, dZ, d1, d8⟩ := DM_ok hS (I 72)
  have hf := RQ_far h (I 72)
  have hR : okR (I 89) := fun j hj => (o4 j hj).2
  have hw : ∀ j, j < 10 → I 53 j = I 89 j := fun j hj => (o4 j hj).1
  obtain ⟨I1, ⟨y, hy, k1⟩, h1⟩ : ∃ I1, (∃ y, zB y ∧ I1 = pr (mcx I y) 5 (uf (I 5) 9 0)) ∧ ∀ Q : QQ, WP 999 m_X11_judge 0 [some (vr (some 5)), some (vi b), none] [] g I Q = Q (some (vi (if b = 0 then fW A (DM A P w (I 72)) (I 89) P N 0 (A 7 3) 0 else fJ A (DM A P w (I 72)) (I 89) P N 0 (A 7 3) 0))) g I1 := by
    refine WP_ext (fun Q hQ => ?_)
    rcases hb with rfl | rfl
    · have hfw := ct_fw (RQ_CV h) (okS_S hS) dB hf hP hP8.2 (N := N) (by omega) hR hw o6 996
      simp (config := { contextual := true }) (disch := omega) only [R_X11_judge, hX, hT, h50, o3, true_and, and_true, true_implies, not_true_eq_false, false_implies, not_false_eq_true, false_and, and_false, or_true, true_or, false_or, or_false, implies_true, forall_const, kl_i, kl_n, kl_r, kl_l, tl_s, tl_n, List.cons_append, List.nil_append, Int.cast_ofNat_Int, w32_id, w64_id, le_T, le_F, lt_T, lt_F, eq_T, eq_F, reduceIte, ne_eq, Int.toNat_natCast, bi_0, bi_1, bi_b, Nat.reduceAdd, Nat.reduceEqDiff, Int.reduceToNat, Int.reduceNeg, nle_T, nlt_T, neq_T, neq_F, b2_0, b2_b, both, reduceCtorEq]
      refine hfw _ (fun y hy => ?_)
      have hq := hQ _ ⟨y, hy, rfl⟩
      simp (config := { contextual := true }) (disch := omega) only [R_X11_judge, hX, up_pr, mcx_o, true_and, and_true, true_implies, not_true_eq_false, false_implies, not_false_eq_true, false_and, and_false, or_true, true_or, false_or, or_false, implies_true, forall_const, kl_i, kl_n, kl_r, kl_l, tl_s, tl_n, List.cons_append, List.nil_append, Int.cast_ofNat_Int, w32_id, w64_id, le_T, le_F, lt_T, lt_F, eq_T, eq_F, reduceIte, ne_eq, Int.toNat_natCast, bi_0, bi_1, bi_b, Nat.reduceAdd, Nat.reduceEqDiff, Int.reduceToNat, Int.reduceNeg, nle_T, nlt_T, neq_T, neq_F, b2_0, b2_b, both, reduceCtorEq]
      exact hq
    · have hfo := ct_fo (RQ_CV h) (okS_S hS) dB hf hP hP8.2 (N := N) (by omega) hR hw o6 995
      simp (config := { contextual := true }) (disch := omega) only [R_X11_judge, hX, hT, h50, o3, true_and, and_true, true_implies, not_true_eq_false, false_implies, not_false_eq_true, false_and, and_false, or_true, true_or, false_or, or_false, implies_true, forall_const, kl_i, kl_n, kl_r, kl_l, tl_s, tl_n, List.cons_append, List.nil_append, Int.cast_ofNat_Int, w32_id, w64_id, le_T, le_F, lt_T, lt_F, eq_T, eq_F, reduceIte, ne_eq, Int.toNat_natCast, bi_0, bi_1, bi_b, Nat.reduceAdd, Nat.reduceEqDiff, Int.reduceToNat, Int.reduceNeg, nle_T, nlt_T, neq_T, neq_F, b2_0, b2_b, both, reduceCtorEq]
      refine hfo _ (fun y hy => ?_)
      have hq := hQ _ ⟨y, hy, rfl⟩
      simp (config := { contextual := true }) (disch := omega) only [R_X11_judge, hX, up_pr, mcx_o, true_and, and_true, true_implies, not_true_eq_false, false_implies, not_false_eq_true, false_and, and_false, or_true, true_or, false_or, or_false, implies_true, forall_const, kl_i, kl_n, kl_r, kl_l, tl_s, tl_n, List.cons_append, List.nil_append, Int.cast_ofNat_Int, w32_id, w64_id, le_T, le_F, lt_T, lt_F, eq_T, eq_F, reduceIte, ne_eq, Int.toNat_natCast, bi_0, bi_1, bi_b, Nat.reduceAdd, Nat.reduceEqDiff, Int.reduceToNat, Int.reduceNeg, nle_T, nlt_T, neq_T, neq_F, b2_0, b2_b, both, reduceCtorEq]
      exact hq
  subst k1
  have k1 := sm_mc o6 hy
  have hJo : ∀ a, ¬ a = 5 → ¬ a = 48 → ¬ a = 49 → pr (mcx I y) 5 (uf (I 5) 9 0) a = I a := fun a a1 a2 a3 => by rw [pr_o a1, mcx_o ⟨a2, a3⟩]
  obtain ⟨I1, hI1⟩ : ∃ I1, I1 = pr (mcx I y) 5 (uf (I 5) 9 0) := ⟨_, rfl⟩
  rw [← hI1] at hJo h1
  have e57 : I1 57 = I 57 := hJo 57 (by omega) (by omega) (by omega)
  have m0 := h.2.2.2.1
  have kf := ct_ff (I := I1) hW hS (by rw [e57]; exact hP') (by rw [e57]; exact (RQ_w h).2) (by rw [hJo 59 (by omega) (by omega) (by omega)]; exact m0.1) (by rw [hJo 60 (by omega) (by omega) (by omega)]; exact m0.2.1) (by rw [hJo 61 (by omega) (by omega) (by omega)]; exact m0.2.2.1)
  rw [hJo 72 (by omega) (by omega) (by omega)] at kf
  have r7 := (RQ_r h).2.2.2.2.1
  have hout : OT (pr (pr I1 72 (DM A P w (I 72))) 57 (uf (I 57) 48 0)) := by
    unfold OT
    have p5 : pr (pr I1 72 (DM A P w (I 72))) 57 (uf (I 57) 48 0) 5 = uf (I 5) 9 0 := by rw [pr_o (by omega), pr_o (by omega), hI1, pr_s]
    have p57 : pr (pr I1 72 (DM A P w (I 72))) 57 (uf (I 57) 48 0) 57 = uf (I 57) 48 0 := pr_s _ _ _
    have po : ∀ a, a = 52 ∨ a = 73 ∨ a = 53 ∨ a = 89 ∨ a = 56 ∨ a = 58 ∨ a = 81 → pr (pr I1 72 (DM A P w (I 72))) 57 (uf (I 57) 48 0) a = I a := fun a ha => by rw [pr_o (by omega), pr_o (by omega), hJo a (by omega) (by omega) (by omega)]
    have p49 : pr (pr I1 72 (DM A P w (I 72))) 57 (uf (I 57) 48 0) 49 = lHad y := by rw [pr_o (by omega), pr_o (by omega), hI1, pr_o (by omega), mcx_h]
    rw [p5, p57, p49, po 52 (by omega), po 73 (by omega), po 53 (by omega), po 89 (by omega), po 56 (by omega), po 58 (by omega), po 81 (by omega)]
    exact ⟨by rw [uf_o (by omega), uf_o (by omega)]; exact o1, o2, ⟨by rw [uf_s, uf_s], by rw [uf_s]; omega⟩, o4, o5, hy, o7⟩
  have hfin : RQ g (pr (pr I1 72 (DM A P w (I 72))) 57 (uf (I 57) 48 0)) t dr A P w n q m := by
    refine RQ_ot (RQ_sm h (sm_tr k1 (sm_72 (mcx I y) (DM A P w (I 72))))) (fun a a1 a2 a3 a4 a5 a6 => ?_) ?_ (fun j j1 j2 => ?_) hout
    · rw [pr_o a3, hI1]
      by_cases z : a = 72
      · subst z; rw [pr_s, pr_s]
      · rw [pr_o z, pr_o z, pr_o a1]
    · rw [pr_o (by omega), pr_o (by omega), hI1, pr_s, uf_o (by omega), pr_o (by omega), mcx_o (by omega)]
    · rw [pr_s, uf_o j2, pr_o (by omega), mcx_o (by omega)]
  have hl := fun Q => lp_mj (I := pr (pr I1 72 (DM A P w (I 72))) 57 (uf (I 57) 48 0)) hW (okS_S hS) dB (by rw [pr_o (by omega), pr_s]) (by rw [pr_s, uf_o (by omega)]; exact hP') hP8.2 (by rw [pr_o (by omega), pr_o (by omega), hJo 66 (by omega) (by omega) (by omega)]; exact r7) (N := N) (by omega) hR (by rw [pr_o (by omega), pr_o (by omega), hJo 89 (by omega) (by omega) (by omega)]) hb 998 Q N 0 (by omega) (A 7 3) 0 (okS_S hS).2.2.2 (by omega)
  refine CS_s hs hg h _ (I1 := I1) (J := pr (pr I1 72 (DM A P w (I 72))) 57 (uf (I 57) 48 0)) h1 ⟨hJo 0 (by omega) (by omega) (by omega), hJo 1 (by omega) (by omega) (by omega), hJo 2 (by omega) (by omega) (by omega)⟩ (fun Q => ?_) ⟨by rw [pr_o (by omega), pr_o (by omega)]; exact hJo 0 (by omega) (by omega) (by omega), by rw [pr_o (by omega), pr_o (by omega)]; exact hJo 1 (by omega) (by omega) (by omega), by rw [pr_o (by omega), pr_o (by omega)]; exact hJo 2 (by omega) (by omega) (by omega)⟩ hfin
  have hl := hl Q
  have e66 : I1 66 = A 7 := by rw [hJo 66 (by omega) (by omega) (by omega)]; exact r7
  generalize DM A P w (I 72) = D at *
  simp (config := { contextual := true }) (disch := omega) only [R_X12_judge_b0, R_X12_judge_b1, hW, ct_isIn, pb, kf, e57, hN, e66, up_pr, pr_s, pr_o, true_and, and_true, true_implies, not_true_eq_false, false_implies, not_false_eq_true, false_and, and_false, or_true, true_or, false_or, or_false, implies_true, forall_const, kl_i, kl_n, kl_r, kl_l, tl_s, tl_n, List.cons_append, List.nil_append, Int.cast_ofNat_Int, w32_id, w64_id, le_T, le_F, lt_T, lt_F, eq_T, eq_F, reduceIte, ne_eq, Int.toNat_natCast, bi_0, bi_1, bi_b, Nat.reduceAdd, Nat.reduceEqDiff, Int.reduceToNat, Int.reduceNeg, nle_T, nlt_T, neq_T, neq_F, b2_0, b2_b, both, reduceCtorEq]
  exact hl
theorem lp_th {l hh : Nat} (hL : WL g l hh) (hb : hb7 (I hh)) (d : Nat) (Q : QQ) : ∀ k p : Nat, p + k = 7 → WP d m_X4_timesHad 4 [some (vr (some l)), some (vi (sgm (I hh) p)), some (vi p)] [] g I Q = Q (some (vi (sgm (I hh) 7))) g I := by
  intro k
  induction k with
  | zero =>
    intro p hp
    obtain rfl : p = 7 := by omega
    rw [H_X4_timesHad_4]
    simp (config := { contextual := true }) (disch := omega) only [R_X4_timesHad, hL, true_and, and_true, true_implies, not_true_eq_false, false_implies, not_false_eq_true, false_and, and_false, or_true, true_or, false_or, or_false, implies_true, forall_const, kl_i, kl_n, kl_r, kl_l, tl_s, tl_n, List.cons_append, List.nil_append, Int.cast_ofNat_Int, w32_id, w64_id, le_T, le_F, lt_T, lt_F, eq_T, eq_F, reduceIte, ne_eq, Int.toNat_natCast, bi_0, bi_1, bi_b, Nat.reduceAdd, Nat.reduceEqDiff, Int.reduceToNat, Int.reduceNeg, nle_T, nlt_T, neq_T, neq_F, b2_0, b2_b, both, reduceCtorEq]
  | succ k ih =>
    intro p hp
    have ih' := ih (p + 1) (by omega)
    have e1 : sgm (I hh) (p + 1) = sgm (I hh) p + I hh p := rfl
    have ec : ((p + 1 : Nat) : Int) = (p : Int) + 1 := by omega
    rw [e1, ec] at ih'
    have h1 := sgm_b (f := I hh) (c := 7) p (fun j hj => hb j (by omega))
    have h2 := hb p (by omega)
    rw [H_X4_timesHad_4]
    simp (config := { contextual := true }) (disch := omega) only [R_X4_timesHad, hL, ih', true_and, and_true, true_implies, not_true_eq_false, false_implies, not_false_eq_true, false_and, and_false, or_true, true_or, false_or, or_false, implies_true, forall_const, kl_i, kl_n, kl_r, kl_l, tl_s, tl_n, List.cons_append, List.nil_append, Int.cast_ofNat_Int, w32_id, w64_id, le_T, le_F, lt_T, lt_F, eq_T, eq_F, reduceIte, ne_eq, Int.toNat_natCast, bi_0, bi_1, bi_b, Nat.reduceAdd, Nat.reduceEqDiff, Int.reduceToNat, Int.reduceNeg, nle_T, nlt_T, neq_T, neq_F, b2_0, b2_b, both, reduceCtorEq]
theorem lp_ct (hW : WM g) (hn : I 57 16 = (n : Int)) (hn7 : n ≤ 7) (hb : hb7 (A 13)) (h81 : I 81 = A 13) (d : Nat) (Q : QQ) : ∀ k p : Nat, p + k = n → WP d m_X12_count 118 [some (vr (some 57)), some (vi 8), some (vi (sgm (A 13) p)), some (vi p)] [] g I Q = Q (some (vi (sgm (A 13) n))) g I := by
  intro k
  induction k with
  | zero =>
    intro p hp
    obtain rfl : p = n := by omega
    rw [H_X12_count_118]
    simp (config := { contextual := true }) (disch := omega) only [R_X12_count_b0, R_X12_count_b1, hW, hn, true_and, and_true, true_implies, not_true_eq_false, false_implies, not_false_eq_true, false_and, and_false, or_true, true_or, false_or, or_false, implies_true, forall_const, kl_i, kl_n, kl_r, kl_l, tl_s, tl_n, List.cons_append, List.nil_append, Int.cast_ofNat_Int, w32_id, w64_id, le_T, le_F, lt_T, lt_F, eq_T, eq_F, reduceIte, ne_eq, Int.toNat_natCast, bi_0, bi_1, bi_b, Nat.reduceAdd, Nat.reduceEqDiff, Int.reduceToNat, Int.reduceNeg, nle_T, nlt_T, neq_T, neq_F, b2_0, b2_b, both, reduceCtorEq]
  | succ k ih =>
    intro p hp
    have ih' := ih (p + 1) (by omega)
    have e1 : sgm (A 13) (p + 1) = sgm (A 13) p + A 13 p := rfl
    have ec : ((p + 1 : Nat) : Int) = (p : Int) + 1 := by omega
    rw [e1, ec] at ih'
    have h1 := sgm_b (f := A 13) (c := 7) p (fun j hj => hb j (by omega))
    have h2 := hb p (by omega)
    rw [H_X12_count_118]
    simp (config := { contextual := true }) (disch := omega) only [R_X12_count_b0, R_X12_count_b1, hW, hn, h81, ih', true_and, and_true, true_implies, not_true_eq_false, false_implies, not_false_eq_true, false_and, and_false, or_true, true_or, false_or, or_false, implies_true, forall_const, kl_i, kl_n, kl_r, kl_l, tl_s, tl_n, List.cons_append, List.nil_append, Int.cast_ofNat_Int, w32_id, w64_id, le_T, le_F, lt_T, lt_F, eq_T, eq_F, reduceIte, ne_eq, Int.toNat_natCast, bi_0, bi_1, bi_b, Nat.reduceAdd, Nat.reduceEqDiff, Int.reduceToNat, Int.reduceNeg, nle_T, nlt_T, neq_T, neq_F, b2_0, b2_b, both, reduceCtorEq]
theorem cs_count (hs : SS L xs g I) (hg : 90 ≤ gN g) (h : RQ g I t dr A P w n q m) (a : Int) : CS L xs g I m_X11_count m_X12_count [some (vi a)] [some (vi a), none, none] vi := by
  have hW := h.2.2.1.1
  have hX := h.2.2.1.2.1
  obtain ⟨ht1, ht2, hT⟩ := RQ_t h
  have h50 := h.2.1.1
  obtain ⟨hP, hP'⟩ := RQ_P h
  have hS := RQ_S h
  have hP8 := hS.2.1
  obtain ⟨⟨o1, o1b⟩, o2, ⟨o3, o3b⟩, o4, o5, o6, o7⟩ := h.2.2.2.2.2.2.2
  obtain ⟨hn, hn'⟩ := RQ_n h
  obtain ⟨hq, hq'⟩ := RQ_q h
  obtain ⟨hm, hm'⟩ := RQ_m h
  obtain ⟨hw, hw'⟩ := RQ_w h
  obtain ⟨r3, r4, r5, r6, r7, r8, r9, r10, r11, r12, r13⟩ := RQ_r h
  by_cases c : 11 ≤ a ∧ a ≤ 16
  · have e := o5 (a - 10).toNat (by omega)
    refine CS_q hs hg h (I 58 (a - 10).toNat) (fun Q => ?_) (sm_rf I) (fun Q => ?_) (sm_rf I)
    · simp (config := { contextual := true }) (disch := omega) only [R_X11_count_b0, R_X11_count_b1, hX, e, true_and, and_true, true_implies, not_true_eq_false, false_implies, not_false_eq_true, false_and, and_false, or_true, true_or, false_or, or_false, implies_true, forall_const, kl_i, kl_n, kl_r, kl_l, tl_s, tl_n, List.cons_append, List.nil_append, Int.cast_ofNat_Int, w32_id, w64_id, le_T, le_F, lt_T, lt_F, eq_T, eq_F, reduceIte, ne_eq, Int.toNat_natCast, bi_0, bi_1, bi_b, Nat.reduceAdd, Nat.reduceEqDiff, Int.reduceToNat, Int.reduceNeg, nle_T, nlt_T, neq_T, neq_F, b2_0, b2_b, both, reduceCtorEq]
    · simp (config := { contextual := true }) (disch := omega) only [R_X12_count_b0, R_X12_count_b1, hW, ct_isIn, c, true_and, and_true, true_implies, not_true_eq_false, false_implies, not_false_eq_true, false_and, and_false, or_true, true_or, false_or, or_false, implies_true, forall_const, kl_i, kl_n, kl_r, kl_l, tl_s, tl_n, List.cons_append, List.nil_append, Int.cast_ofNat_Int, w32_id, w64_id, le_T, le_F, lt_T, lt_F, eq_T, eq_F, reduceIte, ne_eq, Int.toNat_natCast, bi_0, bi_1, bi_b, Nat.reduceAdd, Nat.reduceEqDiff, Int.reduceToNat, Int.reduceNeg, nle_T, nlt_T, neq_T, neq_F, b2_0, b2_b, both, reduceCtorEq]
  by_cases c0 : a = 0
  · subst c0
    refine CS_q hs hg h P (fun Q => ?_) (sm_rf I) (fun Q => ?_) (sm_rf I)
    · simp (config := { contextual := true }) (disch := omega) only [R_X11_count_b0, R_X11_count_b1, hX, hT, h50, hP, true_and, and_true, true_implies, not_true_eq_false, false_implies, not_false_eq_true, false_and, and_false, or_true, true_or, false_or, or_false, implies_true, forall_const, kl_i, kl_n, kl_r, kl_l, tl_s, tl_n, List.cons_append, List.nil_append, Int.cast_ofNat_Int, w32_id, w64_id, le_T, le_F, lt_T, lt_F, eq_T, eq_F, reduceIte, ne_eq, Int.toNat_natCast, bi_0, bi_1, bi_b, Nat.reduceAdd, Nat.reduceEqDiff, Int.reduceToNat, Int.reduceNeg, nle_T, nlt_T, neq_T, neq_F, b2_0, b2_b, both, reduceCtorEq]
    · simp (config := { contextual := true }) (disch := omega) only [R_X12_count_b0, R_X12_count_b1, hW, ct_isIn, c, hP', true_and, and_true, true_implies, not_true_eq_false, false_implies, not_false_eq_true, false_and, and_false, or_true, true_or, false_or, or_false, implies_true, forall_const, kl_i, kl_n, kl_r, kl_l, tl_s, tl_n, List.cons_append, List.nil_append, Int.cast_ofNat_Int, w32_id, w64_id, le_T, le_F, lt_T, lt_F, eq_T, eq_F, reduceIte, ne_eq, Int.toNat_natCast, bi_0, bi_1, bi_b, Nat.reduceAdd, Nat.reduceEqDiff, Int.reduceToNat, Int.reduceNeg, nle_T, nlt_T, neq_T, neq_F, b2_0, b2_b, both, reduceCtorEq]
  by_cases c1 : a = 1
  · subst c1
    refine CS_q hs hg h w (fun Q => ?_) (sm_rf I) (fun Q => ?_) (sm_rf I)
    · simp (config := { contextual := true }) (disch := omega) only [R_X11_count_b0, R_X11_count_b1, hX, hT, h50, hw, true_and, and_true, true_implies, not_true_eq_false, false_implies, not_false_eq_true, false_and, and_false, or_true, true_or, false_or, or_false, implies_true, forall_const, kl_i, kl_n, kl_r, kl_l, tl_s, tl_n, List.cons_append, List.nil_append, Int.cast_ofNat_Int, w32_id, w64_id, le_T, le_F, lt_T, lt_F, eq_T, eq_F, reduceIte, ne_eq, Int.toNat_natCast, bi_0, bi_1, bi_b, Nat.reduceAdd, Nat.reduceEqDiff, Int.reduceToNat, Int.reduceNeg, nle_T, nlt_T, neq_T, neq_F, b2_0, b2_b, both, reduceCtorEq]
    · simp (config := { contextual := true }) (disch := omega) only [R_X12_count_b0, R_X12_count_b1, hW, ct_isIn, c, hw', true_and, and_true, true_implies, not_true_eq_false, false_implies, not_false_eq_true, false_and, and_false, or_true, true_or, false_or, or_false, implies_true, forall_const, kl_i, kl_n, kl_r, kl_l, tl_s, tl_n, List.cons_append, List.nil_append, Int.cast_ofNat_Int, w32_id, w64_id, le_T, le_F, lt_T, lt_F, eq_T, eq_F, reduceIte, ne_eq, Int.toNat_natCast, bi_0, bi_1, bi_b, Nat.reduceAdd, Nat.reduceEqDiff, Int.reduceToNat, Int.reduceNeg, nle_T, nlt_T, neq_T, neq_F, b2_0, b2_b, both, reduceCtorEq]
  by_cases c2 : a = 2
  · subst c2
    refine CS_q hs hg h n (fun Q => ?_) (sm_rf I) (fun Q => ?_) (sm_rf I)
    · simp (config := { contextual := true }) (disch := omega) only [R_X11_count_b0, R_X11_count_b1, hX, hT, h50, hn, true_and, and_true, true_implies, not_true_eq_false, false_implies, not_false_eq_true, false_and, and_false, or_true, true_or, false_or, or_false, implies_true, forall_const, kl_i, kl_n, kl_r, kl_l, tl_s, tl_n, List.cons_append, List.nil_append, Int.cast_ofNat_Int, w32_id, w64_id, le_T, le_F, lt_T, lt_F, eq_T, eq_F, reduceIte, ne_eq, Int.toNat_natCast, bi_0, bi_1, bi_b, Nat.reduceAdd, Nat.reduceEqDiff, Int.reduceToNat, Int.reduceNeg, nle_T, nlt_T, neq_T, neq_F, b2_0, b2_b, both, reduceCtorEq]
    · simp (config := { contextual := true }) (disch := omega) only [R_X12_count_b0, R_X12_count_b1, hW, ct_isIn, c, hn', true_and, and_true, true_implies, not_true_eq_false, false_implies, not_false_eq_true, false_and, and_false, or_true, true_or, false_or, or_false, implies_true, forall_const, kl_i, kl_n, kl_r, kl_l, tl_s, tl_n, List.cons_append, List.nil_append, Int.cast_ofNat_Int, w32_id, w64_id, le_T, le_F, lt_T, lt_F, eq_T, eq_F, reduceIte, ne_eq, Int.toNat_natCast, bi_0, bi_1, bi_b, Nat.reduceAdd, Nat.reduceEqDiff, Int.reduceToNat, Int.reduceNeg, nle_T, nlt_T, neq_T, neq_F, b2_0, b2_b, both, reduceCtorEq]
  by_cases c3 : a = 3
  · subst c3
    refine CS_q hs hg h q (fun Q => ?_) (sm_rf I) (fun Q => ?_) (sm_rf I)
    · simp (config := { contextual := true }) (disch := omega) only [R_X11_count_b0, R_X11_count_b1, hX, hT, h50, hq, true_and, and_true, true_implies, not_true_eq_false, false_implies, not_false_eq_true, false_and, and_false, or_true, true_or, false_or, or_false, implies_true, forall_const, kl_i, kl_n, kl_r, kl_l, tl_s, tl_n, List.cons_append, List.nil_append, Int.cast_ofNat_Int, w32_id, w64_id, le_T, le_F, lt_T, lt_F, eq_T, eq_F, reduceIte, ne_eq, Int.toNat_natCast, bi_0, bi_1, bi_b, Nat.reduceAdd, Nat.reduceEqDiff, Int.reduceToNat, Int.reduceNeg, nle_T, nlt_T, neq_T, neq_F, b2_0, b2_b, both, reduceCtorEq]
    · simp (config := { contextual := true }) (disch := omega) only [R_X12_count_b0, R_X12_count_b1, hW, ct_isIn, c, hq', true_and, and_true, true_implies, not_true_eq_false, false_implies, not_false_eq_true, false_and, and_false, or_true, true_or, false_or, or_false, implies_true, forall_const, kl_i, kl_n, kl_r, kl_l, tl_s, tl_n, List.cons_append, List.nil_append, Int.cast_ofNat_Int, w32_id, w64_id, le_T, le_F, lt_T, lt_F, eq_T, eq_F, reduceIte, ne_eq, Int.toNat_natCast, bi_0, bi_1, bi_b, Nat.reduceAdd, Nat.reduceEqDiff, Int.reduceToNat, Int.reduceNeg, nle_T, nlt_T, neq_T, neq_F, b2_0, b2_b, both, reduceCtorEq]
  by_cases c4 : a = 4
  · subst c4
    refine CS_q hs hg h m (fun Q => ?_) (sm_rf I) (fun Q => ?_) (sm_rf I)
    · simp (config := { contextual := true }) (disch := omega) only [R_X11_count_b0, R_X11_count_b1, hX, hT, h50, hm, true_and, and_true, true_implies, not_true_eq_false, false_implies, not_false_eq_true, false_and, and_false, or_true, true_or, false_or, or_false, implies_true, forall_const, kl_i, kl_n, kl_r, kl_l, tl_s, tl_n, List.cons_append, List.nil_append, Int.cast_ofNat_Int, w32_id, w64_id, le_T, le_F, lt_T, lt_F, eq_T, eq_F, reduceIte, ne_eq, Int.toNat_natCast, bi_0, bi_1, bi_b, Nat.reduceAdd, Nat.reduceEqDiff, Int.reduceToNat, Int.reduceNeg, nle_T, nlt_T, neq_T, neq_F, b2_0, b2_b, both, reduceCtorEq]
    · simp (config := { contextual := true }) (disch := omega) only [R_X12_count_b0, R_X12_count_b1, hW, ct_isIn, c, hm', true_and, and_true, true_implies, not_true_eq_false, false_implies, not_false_eq_true, false_and, and_false, or_true, true_or, false_or, or_false, implies_true, forall_const, kl_i, kl_n, kl_r, kl_l, tl_s, tl_n, List.cons_append, List.nil_append, Int.cast_ofNat_Int, w32_id, w64_id, le_T, le_F, lt_T, lt_F, eq_T, eq_F, reduceIte, ne_eq, Int.toNat_natCast, bi_0, bi_1, bi_b, Nat.reduceAdd, Nat.reduceEqDiff, Int.reduceToNat, Int.reduceNeg, nle_T, nlt_T, neq_T, neq_F, b2_0, b2_b, both, reduceCtorEq]
  by_cases c5 : a = 5
  · subst c5
    obtain ⟨hb, hse, hs0, hs72⟩ := RQ_W h
    have ka := fun d Q => ct_aW (I := I) hT hP hP8.2 h.2.2.2.2.1.2.2.2.2.2.2.1 hb d Q
    have kb := fun d Q => ct_maW (I := I) hW r8 hb d Q
    rw [hse] at kb
    refine CS_q hs hg h (sgm (A 8) P) (fun Q => ?_) (sm_rf I) (fun Q => ?_) (sm_rf I)
    · simp (config := { contextual := true }) (disch := omega) only [R_X11_count_b0, R_X11_count_b1, hX, hT, h50, ka, true_and, and_true, true_implies, not_true_eq_false, false_implies, not_false_eq_true, false_and, and_false, or_true, true_or, false_or, or_false, implies_true, forall_const, kl_i, kl_n, kl_r, kl_l, tl_s, tl_n, List.cons_append, List.nil_append, Int.cast_ofNat_Int, w32_id, w64_id, le_T, le_F, lt_T, lt_F, eq_T, eq_F, reduceIte, ne_eq, Int.toNat_natCast, bi_0, bi_1, bi_b, Nat.reduceAdd, Nat.reduceEqDiff, Int.reduceToNat, Int.reduceNeg, nle_T, nlt_T, neq_T, neq_F, b2_0, b2_b, both, reduceCtorEq]
    · simp (config := { contextual := true }) (disch := omega) only [R_X12_count_b0, R_X12_count_b1, hW, ct_isIn, c, kb, true_and, and_true, true_implies, not_true_eq_false, false_implies, not_false_eq_true, false_and, and_false, or_true, true_or, false_or, or_false, implies_true, forall_const, kl_i, kl_n, kl_r, kl_l, tl_s, tl_n, List.cons_append, List.nil_append, Int.cast_ofNat_Int, w32_id, w64_id, le_T, le_F, lt_T, lt_F, eq_T, eq_F, reduceIte, ne_eq, Int.toNat_natCast, bi_0, bi_1, bi_b, Nat.reduceAdd, Nat.reduceEqDiff, Int.reduceToNat, Int.reduceNeg, nle_T, nlt_T, neq_T, neq_F, b2_0, b2_b, both, reduceCtorEq]
  by_cases c6 : a = 6
  · subst c6
    refine CS_q hs hg h (I 57 48) (fun Q => ?_) (sm_rf I) (fun Q => ?_) (sm_rf I)
    · simp (config := { contextual := true }) (disch := omega) only [R_X11_count_b0, R_X11_count_b1, hX, hT, h50, o3, true_and, and_true, true_implies, not_true_eq_false, false_implies, not_false_eq_true, false_and, and_false, or_true, true_or, false_or, or_false, implies_true, forall_const, kl_i, kl_n, kl_r, kl_l, tl_s, tl_n, List.cons_append, List.nil_append, Int.cast_ofNat_Int, w32_id, w64_id, le_T, le_F, lt_T, lt_F, eq_T, eq_F, reduceIte, ne_eq, Int.toNat_natCast, bi_0, bi_1, bi_b, Nat.reduceAdd, Nat.reduceEqDiff, Int.reduceToNat, Int.reduceNeg, nle_T, nlt_T, neq_T, neq_F, b2_0, b2_b, both, reduceCtorEq]
    · simp (config := { contextual := true }) (disch := omega) only [R_X12_count_b0, R_X12_count_b1, hW, ct_isIn, c, true_and, and_true, true_implies, not_true_eq_false, false_implies, not_false_eq_true, false_and, and_false, or_true, true_or, false_or, or_false, implies_true, forall_const, kl_i, kl_n, kl_r, kl_l, tl_s, tl_n, List.cons_append, List.nil_append, Int.cast_ofNat_Int, w32_id, w64_id, le_T, le_F, lt_T, lt_F, eq_T, eq_F, reduceIte, ne_eq, Int.toNat_natCast, bi_0, bi_1, bi_b, Nat.reduceAdd, Nat.reduceEqDiff, Int.reduceToNat, Int.reduceNeg, nle_T, nlt_T, neq_T, neq_F, b2_0, b2_b, both, reduceCtorEq]
  by_cases c7 : a = 7
  · subst c7
    refine CS_q hs hg h (I 57 27) (fun Q => ?_) (sm_rf I) (fun Q => ?_) (sm_rf I)
    · simp (config := { contextual := true }) (disch := omega) only [R_X11_count_b0, R_X11_count_b1, hX, hT, h50, o1, true_and, and_true, true_implies, not_true_eq_false, false_implies, not_false_eq_true, false_and, and_false, or_true, true_or, false_or, or_false, implies_true, forall_const, kl_i, kl_n, kl_r, kl_l, tl_s, tl_n, List.cons_append, List.nil_append, Int.cast_ofNat_Int, w32_id, w64_id, le_T, le_F, lt_T, lt_F, eq_T, eq_F, reduceIte, ne_eq, Int.toNat_natCast, bi_0, bi_1, bi_b, Nat.reduceAdd, Nat.reduceEqDiff, Int.reduceToNat, Int.reduceNeg, nle_T, nlt_T, neq_T, neq_F, b2_0, b2_b, both, reduceCtorEq]
    · simp (config := { contextual := true }) (disch := omega) only [R_X12_count_b0, R_X12_count_b1, hW, ct_isIn, c, true_and, and_true, true_implies, not_true_eq_false, false_implies, not_false_eq_true, false_and, and_false, or_true, true_or, false_or, or_false, implies_true, forall_const, kl_i, kl_n, kl_r, kl_l, tl_s, tl_n, List.cons_append, List.nil_append, Int.cast_ofNat_Int, w32_id, w64_id, le_T, le_F, lt_T, lt_F, eq_T, eq_F, reduceIte, ne_eq, Int.toNat_natCast, bi_0, bi_1, bi_b, Nat.reduceAdd, Nat.reduceEqDiff, Int.reduceToNat, Int.reduceNeg, nle_T, nlt_T, neq_T, neq_F, b2_0, b2_b, both, reduceCtorEq]
  by_cases c8 : a = 8
  · subst c8
    have lh := h.2.2.2.2.1.2.2.2.2.2.2.2.2.2.2.2
    obtain ⟨hb, hb0⟩ := hS.2.2.2.2.2.2.2.2.2.2.1
    have hn7 := (okS_A hS).1
    have hL : WL g (t + 10) (t + 11) := by simp only [WL, hT, and_self]
    have e7 := sgm_z (f := A 13) (n := n) (7 - n) (fun j h1 h2 => hb0 j h1 (by omega))
    rw [show n + (7 - n) = 7 by omega, ← sgm_c 7 (fun j hj => lh j hj)] at e7
    have kt := fun Q => lp_th (I := I) hL (fun j hj => by rw [lh j hj]; exact hb j hj) 998 Q 7 0 (by omega)
    rw [e7] at kt
    have ez : sgm (I (t + 11)) 0 = 0 := rfl
    have ez2 : sgm (A 13) 0 = 0 := rfl
    have ez0 : ((0 : Nat) : Int) = 0 := rfl
    rw [ez, ez0] at kt
    have kc := fun Q => lp_ct hW hn' hn7 hb r13 999 Q n 0 (by omega)
    rw [ez2, ez0] at kc
    refine CS_q hs hg h (sgm (A 13) n) (fun Q => ?_) (sm_rf I) (fun Q => ?_) (sm_rf I)
    · simp (config := { contextual := true }) (disch := omega) only [R_X11_count_b0, R_X11_count_b1, R_X4_timesHad, hX, hT, h50, kt, true_and, and_true, true_implies, not_true_eq_false, false_implies, not_false_eq_true, false_and, and_false, or_true, true_or, false_or, or_false, implies_true, forall_const, kl_i, kl_n, kl_r, kl_l, tl_s, tl_n, List.cons_append, List.nil_append, Int.cast_ofNat_Int, w32_id, w64_id, le_T, le_F, lt_T, lt_F, eq_T, eq_F, reduceIte, ne_eq, Int.toNat_natCast, bi_0, bi_1, bi_b, Nat.reduceAdd, Nat.reduceEqDiff, Int.reduceToNat, Int.reduceNeg, nle_T, nlt_T, neq_T, neq_F, b2_0, b2_b, both, reduceCtorEq]
    · have kc := kc Q
      simp (config := { contextual := true }) (disch := omega) only [R_X12_count_b0, R_X12_count_b1, hW, ct_isIn, c, true_and, and_true, true_implies, not_true_eq_false, false_implies, not_false_eq_true, false_and, and_false, or_true, true_or, false_or, or_false, implies_true, forall_const, kl_i, kl_n, kl_r, kl_l, tl_s, tl_n, List.cons_append, List.nil_append, Int.cast_ofNat_Int, w32_id, w64_id, le_T, le_F, lt_T, lt_F, eq_T, eq_F, reduceIte, ne_eq, Int.toNat_natCast, bi_0, bi_1, bi_b, Nat.reduceAdd, Nat.reduceEqDiff, Int.reduceToNat, Int.reduceNeg, nle_T, nlt_T, neq_T, neq_F, b2_0, b2_b, both, reduceCtorEq]
      exact kc
  · have hb : a < 0 ∨ 8 < a := by omega
    have ha : a < 11 ∨ 16 < a := by omega
    refine CS_q hs hg h (-9) (fun Q => ?_) (sm_rf I) (fun Q => ?_) (sm_rf I)
    · rcases ha with z | z
      · simp (config := { contextual := true }) (disch := omega) only [R_X11_count_b0, R_X11_count_b1, hX, hb, true_and, and_true, true_implies, not_true_eq_false, false_implies, not_false_eq_true, false_and, and_false, or_true, true_or, false_or, or_false, implies_true, forall_const, kl_i, kl_n, kl_r, kl_l, tl_s, tl_n, List.cons_append, List.nil_append, Int.cast_ofNat_Int, w32_id, w64_id, le_T, le_F, lt_T, lt_F, eq_T, eq_F, reduceIte, ne_eq, Int.toNat_natCast, bi_0, bi_1, bi_b, Nat.reduceAdd, Nat.reduceEqDiff, Int.reduceToNat, Int.reduceNeg, nle_T, nlt_T, neq_T, neq_F, b2_0, b2_b, both, reduceCtorEq]
      · simp (config := { contextual := true }) (disch := omega) only [R_X11_count_b0, R_X11_count_b1, hX, hb, true_and, and_true, true_implies, not_true_eq_false, false_implies, not_false_eq_true, false_and, and_false, or_true, true_or, false_or, or_false, implies_true, forall_const, kl_i, kl_n, kl_r, kl_l, tl_s, tl_n, List.cons_append, List.nil_append, Int.cast_ofNat_Int, w32_id, w64_id, le_T, le_F, lt_T, lt_F, eq_T, eq_F, reduceIte, ne_eq, Int.toNat_natCast, bi_0, bi_1, bi_b, Nat.reduceAdd, Nat.reduceEqDiff, Int.reduceToNat, Int.reduceNeg, nle_T, nlt_T, neq_T, neq_F, b2_0, b2_b, both, reduceCtorEq]
    · simp (config := { contextual := true }) (disch := omega) only [R_X12_count_b0, R_X12_count_b1, hW, ct_isIn, c, hb, true_and, and_true, true_implies, not_true_eq_false, false_implies, not_false_eq_true, false_and, and_false, or_true, true_or, false_or, or_false, implies_true, forall_const, kl_i, kl_n, kl_r, kl_l, tl_s, tl_n, List.cons_append, List.nil_append, Int.cast_ofNat_Int, w32_id, w64_id, le_T, le_F, lt_T, lt_F, eq_T, eq_F, reduceIte, ne_eq, Int.toNat_natCast, bi_0, bi_1, bi_b, Nat.reduceAdd, Nat.reduceEqDiff, Int.reduceToNat, Int.reduceNeg, nle_T, nlt_T, neq_T, neq_F, b2_0, b2_b, both, reduceCtorEq]
end JC

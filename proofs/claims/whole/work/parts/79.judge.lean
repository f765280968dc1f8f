-- call, person, row, judge, count
section PPL
variable {L : Nat} {xs : Nat → Int32} {g : GG} {I : II} {t dr : Nat} {A : II} {P w n q m : Nat}
theorem RQ_ot (h : RQ g I t dr A P w n q m) {J : II} (hJ : ∀ a, ¬ a = 5 → ¬ a = 53 → ¬ a = 57 → ¬ a = 89 → ¬ a = 52 → ¬ a = 73 → J a = I a) (h5 : J 5 3 = I 5 3) (h57 : ∀ j, ¬ j = 27 → ¬ j = 48 → J 57 j = I 57 j) (hO : OT J) : RQ g J t dr A P w n q m := by
  obtain ⟨ht1, ht2, hT⟩ := RQ_t h
  obtain ⟨h1, h2, h3, h4, h5', h6, h7, h8⟩ := h
  have hj : ∀ a, (6 ≤ a ∧ a ≤ 51) ∨ (54 ≤ a ∧ a ≤ 71 ∧ ¬ a = 57) ∨ a = 80 ∨ a = 81 ∨ 90 ≤ a → J a = I a := fun a q => hJ a (by omega) (by omega) (by omega) (by omega) (by omega) (by omega)
  refine ⟨h1, h2, h3, ?_, TR_fr h5' (fun a q => hj a (by omega)), h6, IM_fr h7 (fun a q => hj a (by omega)) (fun j _ => by rw [hj 80 (by omega)]) h5 (h57 31 (by omega) (by omega)), hO⟩
  rw [MR, hj 59 (by omega), hj 60 (by omega), hj 61 (by omega), hj 62 (by omega), hj 63 (by omega), hj 64 (by omega), hj 65 (by omega), hj 66 (by omega), hj 67 (by omega), hj 68 (by omega), hj 69 (by omega), hj 70 (by omega), hj 71 (by omega), hj 81 (by omega), h57 14 (by omega) (by omega), h57 15 (by omega) (by omega), h57 16 (by omega) (by omega), h57 17 (by omega) (by omega), h57 18 (by omega) (by omega), h57 35 (by omega) (by omega), h57 36 (by omega) (by omega), h57 37 (by omega) (by omega)]
  exact h4
theorem cs_call (hs : SS L xs g I) (hg : 90 ≤ gN g) (h : RQ g I t dr A P w n q m) (a b c : Int) : CS L xs g I m_X11_call m_X12_call [some (vi a), some (vi b), some (vi c), none] [some (vi a), some (vi b), some (vi c), none, none] vi := by
  have hW := h.2.2.1.1
  have hX := h.2.2.1.2.1
  obtain ⟨ht1, ht2, hT⟩ := RQ_t h
  have h50 := h.2.1.1
  obtain ⟨hP, hP'⟩ := RQ_P h
  have hS := RQ_S h
  have hP8 := hS.2.1
  by_cases pa : 0 ≤ a ∧ a < (P : Int)
  case neg =>
    refine CS_r hs hg h (-1) (k := 1) (by omega) (fun Q => ?_) (fun Q => ?_)
    · simp (config := { contextual := true }) (disch := omega) only [R_X11_call, hX, hT, h50, hP, ct_isPlace hT, pa, ct_refuse hX, rfC, true_and, and_true, true_implies, not_true_eq_false, false_implies, not_false_eq_true, false_and, and_false, or_true, true_or, false_or, or_false, implies_true, forall_const, kl_i, kl_n, kl_r, kl_l, tl_s, tl_n, List.cons_append, List.nil_append, Int.cast_ofNat_Int, w32_id, w64_id, le_T, le_F, lt_T, lt_F, eq_T, eq_F, reduceIte, ne_eq, Int.toNat_natCast, bi_0, bi_1, bi_b, Nat.reduceAdd, Nat.reduceEqDiff, Int.reduceToNat, Int.reduceNeg, nle_T, nlt_T, neq_T, neq_F, b2_0, b2_b, both, reduceCtorEq]
    · simp (config := { contextual := true }) (disch := omega) only [R_X12_call, hW, hP', ct_misPlace hW, pa, ct_no hW, pr_o, rfC, rfM, true_and, and_true, true_implies, not_true_eq_false, false_implies, not_false_eq_true, false_and, and_false, or_true, true_or, false_or, or_false, implies_true, forall_const, kl_i, kl_n, kl_r, kl_l, tl_s, tl_n, List.cons_append, List.nil_append, Int.cast_ofNat_Int, w32_id, w64_id, le_T, le_F, lt_T, lt_F, eq_T, eq_F, reduceIte, ne_eq, Int.toNat_natCast, bi_0, bi_1, bi_b, Nat.reduceAdd, Nat.reduceEqDiff, Int.reduceToNat, Int.reduceNeg, nle_T, nlt_T, neq_T, neq_F, b2_0, b2_b, both, reduceCtorEq]
  by_cases c1 : b < 0
  · refine CS_r hs hg h (-4) (k := 4) (by omega) (fun Q => ?_) (fun Q => ?_)
    · simp (config := { contextual := true }) (disch := omega) only [R_X11_call, hX, hT, h50, hP, ct_isPlace hT, pa, ct_refuse hX, rfC, true_and, and_true, true_implies, not_true_eq_false, false_implies, not_false_eq_true, false_and, and_false, or_true, true_or, false_or, or_false, implies_true, forall_const, kl_i, kl_n, kl_r, kl_l, tl_s, tl_n, List.cons_append, List.nil_append, Int.cast_ofNat_Int, w32_id, w64_id, le_T, le_F, lt_T, lt_F, eq_T, eq_F, reduceIte, ne_eq, Int.toNat_natCast, bi_0, bi_1, bi_b, Nat.reduceAdd, Nat.reduceEqDiff, Int.reduceToNat, Int.reduceNeg, nle_T, nlt_T, neq_T, neq_F, b2_0, b2_b, both, reduceCtorEq]
    · simp (config := { contextual := true }) (disch := omega) only [R_X12_call, hW, hP', ct_misPlace hW, pa, ct_no hW, pr_o, rfC, rfM, true_and, and_true, true_implies, not_true_eq_false, false_implies, not_false_eq_true, false_and, and_false, or_true, true_or, false_or, or_false, implies_true, forall_const, kl_i, kl_n, kl_r, kl_l, tl_s, tl_n, List.cons_append, List.nil_append, Int.cast_ofNat_Int, w32_id, w64_id, le_T, le_F, lt_T, lt_F, eq_T, eq_F, reduceIte, ne_eq, Int.toNat_natCast, bi_0, bi_1, bi_b, Nat.reduceAdd, Nat.reduceEqDiff, Int.reduceToNat, Int.reduceNeg, nle_T, nlt_T, neq_T, neq_F, b2_0, b2_b, both, reduceCtorEq]
  by_cases c2 : c < 0
  · refine CS_r hs hg h (-4) (k := 4) (by omega) (fun Q => ?_) (fun Q => ?_)
    · simp (config := { contextual := true }) (disch := omega) only [R_X11_call, hX, hT, h50, hP, ct_isPlace hT, pa, ct_refuse hX, rfC, true_and, and_true, true_implies, not_true_eq_false, false_implies, not_false_eq_true, false_and, and_false, or_true, true_or, false_or, or_false, implies_true, forall_const, kl_i, kl_n, kl_r, kl_l, tl_s, tl_n, List.cons_append, List.nil_append, Int.cast_ofNat_Int, w32_id, w64_id, le_T, le_F, lt_T, lt_F, eq_T, eq_F, reduceIte, ne_eq, Int.toNat_natCast, bi_0, bi_1, bi_b, Nat.reduceAdd, Nat.reduceEqDiff, Int.reduceToNat, Int.reduceNeg, nle_T, nlt_T, neq_T, neq_F, b2_0, b2_b, both, reduceCtorEq]
    · simp (config := { contextual := true }) (disch := omega) only [R_X12_call, hW, hP', ct_misPlace hW, pa, ct_no hW, pr_o, rfC, rfM, true_and, and_true, true_implies, not_true_eq_false, false_implies, not_false_eq_true, false_and, and_false, or_true, true_or, false_or, or_false, implies_true, forall_const, kl_i, kl_n, kl_r, kl_l, tl_s, tl_n, List.cons_append, List.nil_append, Int.cast_ofNat_Int, w32_id, w64_id, le_T, le_F, lt_T, lt_F, eq_T, eq_F, reduceIte, ne_eq, Int.toNat_natCast, bi_0, bi_1, bi_b, Nat.reduceAdd, Nat.reduceEqDiff, Int.reduceToNat, Int.reduceNeg, nle_T, nlt_T, neq_T, neq_F, b2_0, b2_b, both, reduceCtorEq]
  by_cases c3 : 9 < b
  · refine CS_r hs hg h (-6) (k := 6) (by omega) (fun Q => ?_) (fun Q => ?_)
    · simp (config := { contextual := true }) (disch := omega) only [R_X11_call, hX, hT, h50, hP, ct_isPlace hT, pa, ct_refuse hX, rfC, true_and, and_true, true_implies, not_true_eq_false, false_implies, not_false_eq_true, false_and, and_false, or_true, true_or, false_or, or_false, implies_true, forall_const, kl_i, kl_n, kl_r, kl_l, tl_s, tl_n, List.cons_append, List.nil_append, Int.cast_ofNat_Int, w32_id, w64_id, le_T, le_F, lt_T, lt_F, eq_T, eq_F, reduceIte, ne_eq, Int.toNat_natCast, bi_0, bi_1, bi_b, Nat.reduceAdd, Nat.reduceEqDiff, Int.reduceToNat, Int.reduceNeg, nle_T, nlt_T, neq_T, neq_F, b2_0, b2_b, both, reduceCtorEq]
    · simp (config := { contextual := true }) (disch := omega) only [R_X12_call, hW, hP', ct_misPlace hW, pa, ct_no hW, pr_o, rfC, rfM, true_and, and_true, true_implies, not_true_eq_false, false_implies, not_false_eq_true, false_and, and_false, or_true, true_or, false_or, or_false, implies_true, forall_const, kl_i, kl_n, kl_r, kl_l, tl_s, tl_n, List.cons_append, List.nil_append, Int.cast_ofNat_Int, w32_id, w64_id, le_T, le_F, lt_T, lt_F, eq_T, eq_F, reduceIte, ne_eq, Int.toNat_natCast, bi_0, bi_1, bi_b, Nat.reduceAdd, Nat.reduceEqDiff, Int.reduceToNat, Int.reduceNeg, nle_T, nlt_T, neq_T, neq_F, b2_0, b2_b, both, reduceCtorEq]
  by_cases c4 : 99 < c
  · refine CS_r hs hg h (-6) (k := 6) (by omega) (fun Q => ?_) (fun Q => ?_)
    · simp (config := { contextual := true }) (disch := omega) only [R_X11_call, hX, hT, h50, hP, ct_isPlace hT, pa, ct_refuse hX, rfC, true_and, and_true, true_implies, not_true_eq_false, false_implies, not_false_eq_true, false_and, and_false, or_true, true_or, false_or, or_false, implies_true, forall_const, kl_i, kl_n, kl_r, kl_l, tl_s, tl_n, List.cons_append, List.nil_append, Int.cast_ofNat_Int, w32_id, w64_id, le_T, le_F, lt_T, lt_F, eq_T, eq_F, reduceIte, ne_eq, Int.toNat_natCast, bi_0, bi_1, bi_b, Nat.reduceAdd, Nat.reduceEqDiff, Int.reduceToNat, Int.reduceNeg, nle_T, nlt_T, neq_T, neq_F, b2_0, b2_b, both, reduceCtorEq]
    · simp (config := { contextual := true }) (disch := omega) only [R_X12_call, hW, hP', ct_misPlace hW, pa, ct_no hW, pr_o, rfC, rfM, true_and, and_true, true_implies, not_true_eq_false, false_implies, not_false_eq_true, false_and, and_false, or_true, true_or, false_or, or_false, implies_true, forall_const, kl_i, kl_n, kl_r, kl_l, tl_s, tl_n, List.cons_append, List.nil_append, Int.cast_ofNat_Int, w32_id, w64_id, le_T, le_F, lt_T, lt_F, eq_T, eq_F, reduceIte, ne_eq, Int.toNat_natCast, bi_0, bi_1, bi_b, Nat.reduceAdd, Nat.reduceEqDiff, Int.reduceToNat, Int.reduceNeg, nle_T, nlt_T, neq_T, neq_F, b2_0, b2_b, both, reduceCtorEq]
  obtain ⟨i, rfl⟩ := Int.eq_ofNat_of_zero_le pa.1
  have T := h.2.2.2.2.1
  obtain ⟨r3, r4, r5, r6, r7, r8, r9, r10, r11, r12, r13⟩ := RQ_r h
  have hz := h.2.2.2.2.2.2.2.2.2.2.2.2.2
  have w8 := T.2.2.2.2.2.2.1 i (by omega)
  obtain ⟨I1, hI1⟩ : ∃ I1, I1 = pr (pr I (t + 6) (uf (I (t + 6)) i b)) (t + 7) (uf (I (t + 7)) i c) := ⟨_, rfl⟩
  have hJ1 : ∀ c, ¬ c = t + 6 → ¬ c = t + 7 → I1 c = I c := fun c c1 c2 => by rw [hI1, pr_o c2, pr_o c1]
  have e67 : I1 67 = A 8 := by rw [hJ1 67 (by omega) (by omega)]; exact r8
  have e68 : I1 68 = A 9 := by rw [hJ1 68 (by omega) (by omega)]; exact r9
  have e14 : I1 57 14 = (P : Int) := by rw [hJ1 57 (by omega) (by omega)]; exact hP'
  have hJ : ∀ d, ¬ d = t + 6 → ¬ d = t + 7 → ¬ d = 67 → ¬ d = 68 → pr (pr I1 67 (uf (A 8) i b)) 68 (uf (A 9) i c) d = I d := fun d d1 d2 d3 d4 => by rw [pr_o d4, pr_o d3, hJ1 d d1 d2]
  have hu : ∀ k, ¬ k = 8 → ¬ k = 9 → pr (pr A 8 (uf (A 8) i b)) 9 (uf (A 9) i c) k = A k := fun k k1 k2 => by rw [pr_o k2, pr_o k1]
  refine CS_s hs hg h (A 8 i) (I1 := I1) (J := pr (pr I1 67 (uf (A 8) i b)) 68 (uf (A 9) i c)) (fun Q => ?_) ⟨hJ1 0 (by omega) (by omega), hJ1 1 (by omega) (by omega), hJ1 2 (by omega) (by omega)⟩ (fun Q => ?_) ⟨hJ 0 (by omega) (by omega) (by omega) (by omega), hJ 1 (by omega) (by omega) (by omega) (by omega), hJ 2 (by omega) (by omega) (by omega) (by omega)⟩ (A' := pr (pr A 8 (uf (A 8) i b)) 9 (uf (A 9) i c)) (P' := P) (w' := w) (n' := n) (q' := q) (m' := m) (RQ_ch h ?_ ?_ ?_ (fun d hd => hJ d (by omega) (by omega) (by omega) (by omega)) ⟨by rw [hJ 57 (by omega) (by omega) (by omega) (by omega)], by rw [hJ 57 (by omega) (by omega) (by omega) (by omega)], by rw [hJ 57 (by omega) (by omega) (by omega) (by omega)]⟩ (fun j hj => by rw [hJ 81 (by omega) (by omega) (by omega) (by omega)]; exact hz j hj))
  · simp (config := { contextual := true }) (disch := omega) only [R_X11_call, hX, hT, h50, hP, ct_isPlace hT, pa, w8, up_pr, pr_o, hI1, true_and, and_true, true_implies, not_true_eq_false, false_implies, not_false_eq_true, false_and, and_false, or_true, true_or, false_or, or_false, implies_true, forall_const, kl_i, kl_n, kl_r, kl_l, tl_s, tl_n, List.cons_append, List.nil_append, Int.cast_ofNat_Int, w32_id, w64_id, le_T, le_F, lt_T, lt_F, eq_T, eq_F, reduceIte, ne_eq, Int.toNat_natCast, bi_0, bi_1, bi_b, Nat.reduceAdd, Nat.reduceEqDiff, Int.reduceToNat, Int.reduceNeg, nle_T, nlt_T, neq_T, neq_F, b2_0, b2_b, both, reduceCtorEq]
  · simp (config := { contextual := true }) (disch := omega) only [R_X12_call, hW, e14, ct_misPlace hW, pa, e67, e68, up_pr, pr_o, true_and, and_true, true_implies, not_true_eq_false, false_implies, not_false_eq_true, false_and, and_false, or_true, true_or, false_or, or_false, implies_true, forall_const, kl_i, kl_n, kl_r, kl_l, tl_s, tl_n, List.cons_append, List.nil_append, Int.cast_ofNat_Int, w32_id, w64_id, le_T, le_F, lt_T, lt_F, eq_T, eq_F, reduceIte, ne_eq, Int.toNat_natCast, bi_0, bi_1, bi_b, Nat.reduceAdd, Nat.reduceEqDiff, Int.reduceToNat, Int.reduceNeg, nle_T, nlt_T, neq_T, neq_F, b2_0, b2_b, both, reduceCtorEq]
  · have M := h.2.2.2.1
    rw [MR, hJ 59 (by omega) (by omega) (by omega) (by omega), hJ 60 (by omega) (by omega) (by omega) (by omega), hJ 61 (by omega) (by omega) (by omega) (by omega), hJ 62 (by omega) (by omega) (by omega) (by omega), hJ 63 (by omega) (by omega) (by omega) (by omega), hJ 64 (by omega) (by omega) (by omega) (by omega), hJ 65 (by omega) (by omega) (by omega) (by omega), hJ 66 (by omega) (by omega) (by omega) (by omega), hJ 69 (by omega) (by omega) (by omega) (by omega), hJ 70 (by omega) (by omega) (by omega) (by omega), hJ 71 (by omega) (by omega) (by omega) (by omega), hJ 81 (by omega) (by omega) (by omega) (by omega), hJ 57 (by omega) (by omega) (by omega) (by omega)]
    obtain ⟨a0, a1, a2, a3, a4, a5, a6, a7, a8, a9, a10⟩ := M
    exact ⟨a0, a1, a2, a3, a4, a5, a6, a7, by rw [pr_o (by omega), pr_s, pr_o (by omega), pr_s], by rw [pr_s, pr_s], a10⟩
  · refine TR_gen T (fun k hk => hu k (by omega) (by omega)) (fun c hc => hJ c (by omega) (by omega) (by omega) (by omega)) ?_ ?_ ?_ ?_ ?_ ?_ ?_ ?_ ?_
    · rw [hJ t (by omega) (by omega) (by omega) (by omega)]; exact T.1
    · rw [hJ (t + 4) (by omega) (by omega) (by omega) (by omega)]; exact T.2.2.2.2.1
    · rw [hJ (t + 5) (by omega) (by omega) (by omega) (by omega)]; exact T.2.2.2.2.2.1
    · intro j hj
      rw [pr_o (by omega), pr_o (by omega), hI1, pr_o (by omega), pr_s, pr_o (by omega), pr_s]
      unfold uf
      by_cases z : j = i
      · rw [if_pos z, if_pos z]
      · rw [if_neg z, if_neg z]; exact T.2.2.2.2.2.2.1 j hj
    · intro j hj
      rw [pr_o (by omega), pr_o (by omega), hI1, pr_s, pr_s]
      unfold uf
      by_cases z : j = i
      · rw [if_pos z, if_pos z]
      · rw [if_neg z, if_neg z]; exact T.2.2.2.2.2.2.2.1 j hj
    · rw [hJ (t + 8) (by omega) (by omega) (by omega) (by omega)]; exact T.2.2.2.2.2.2.2.2.1
    · rw [hJ (t + 9) (by omega) (by omega) (by omega) (by omega)]; exact T.2.2.2.2.2.2.2.2.2.1
    · rw [hJ (t + 10) (by omega) (by omega) (by omega) (by omega)]; exact T.2.2.2.2.2.2.2.2.2.2.1
    · rw [hJ (t + 11) (by omega) (by omega) (by omega) (by omega)]; exact T.2.2.2.2.2.2.2.2.2.2.2
  · obtain ⟨s1, s2, s3, s4, s5, s6, s7, s8, s9⟩ := hS
    refine ⟨s1, s2, s3, okA_c (fun k hk => hu k (by omega) (by omega)) s4, s5, s6, s7, fun j hj => ?_, s9⟩
    have := s8 j hj
    rw [pr_o (by omega), pr_s, pr_s]
    unfold uf
    by_cases z : j = i
    · rw [if_pos z, if_pos z]; omega
    · rw [if_neg z, if_neg z]; exact this
theorem cs_person (hs : SS L xs g I) (hg : 90 ≤ gN g) (h : RQ g I t dr A P w n q m) (a b : Int) : CS L xs g I m_X11_person m_X12_person [some (vi a), some (vi b)] [some (vi a), some (vi b), none] vi := by
  have hW := h.2.2.1.1
  have hX := h.2.2.1.2.1
  obtain ⟨ht1, ht2, hT⟩ := RQ_t h
  have h50 := h.2.1.1
  obtain ⟨hP, hP'⟩ := RQ_P h
  have hS := RQ_S h
  have hP8 := hS.2.1
  obtain ⟨hq, hq'⟩ := RQ_q h
  by_cases pa : 0 ≤ a ∧ a < (P : Int)
  case neg =>
    refine CS_r hs hg h (-1) (k := 1) (by omega) (fun Q => ?_) (fun Q => ?_)
    · simp (config := { contextual := true }) (disch := omega) only [R_X11_person_b0, R_X11_person_b1, hX, hT, h50, hP, ct_isPlace hT, pa, ct_refuse hX, rfC, true_and, and_true, true_implies, not_true_eq_false, false_implies, not_false_eq_true, false_and, and_false, or_true, true_or, false_or, or_false, implies_true, forall_const, kl_i, kl_n, kl_r, kl_l, tl_s, tl_n, List.cons_append, List.nil_append, Int.cast_ofNat_Int, w32_id, w64_id, le_T, le_F, lt_T, lt_F, eq_T, eq_F, reduceIte, ne_eq, Int.toNat_natCast, bi_0, bi_1, bi_b, Nat.reduceAdd, Nat.reduceEqDiff, Int.reduceToNat, Int.reduceNeg, nle_T, nlt_T, neq_T, neq_F, b2_0, b2_b, both, reduceCtorEq]
    · simp (config := { contextual := true }) (disch := omega) only [R_X12_person, hW, hP', ct_misPlace hW, pa, ct_no hW, pr_o, rfC, rfM, true_and, and_true, true_implies, not_true_eq_false, false_implies, not_false_eq_true, false_and, and_false, or_true, true_or, false_or, or_false, implies_true, forall_const, kl_i, kl_n, kl_r, kl_l, tl_s, tl_n, List.cons_append, List.nil_append, Int.cast_ofNat_Int, w32_id, w64_id, le_T, le_F, lt_T, lt_F, eq_T, eq_F, reduceIte, ne_eq, Int.toNat_natCast, bi_0, bi_1, bi_b, Nat.reduceAdd, Nat.reduceEqDiff, Int.reduceToNat, Int.reduceNeg, nle_T, nlt_T, neq_T, neq_F, b2_0, b2_b, both, reduceCtorEq]
  by_cases c1 : b < 0
  · have eb : bnd b 0 999 = -4 := if_pos c1
    refine CS_r hs hg h (-4) (k := 4) (by omega) (fun Q => ?_) (fun Q => ?_)
    · simp (config := { contextual := true }) (disch := omega) only [R_X11_person_b0, R_X11_person_b1, hX, hT, h50, hP, ct_isPlace hT, pa, ct_refuse hX, rfC, true_and, and_true, true_implies, not_true_eq_false, false_implies, not_false_eq_true, false_and, and_false, or_true, true_or, false_or, or_false, implies_true, forall_const, kl_i, kl_n, kl_r, kl_l, tl_s, tl_n, List.cons_append, List.nil_append, Int.cast_ofNat_Int, w32_id, w64_id, le_T, le_F, lt_T, lt_F, eq_T, eq_F, reduceIte, ne_eq, Int.toNat_natCast, bi_0, bi_1, bi_b, Nat.reduceAdd, Nat.reduceEqDiff, Int.reduceToNat, Int.reduceNeg, nle_T, nlt_T, neq_T, neq_F, b2_0, b2_b, both, reduceCtorEq]
    · simp (config := { contextual := true }) (disch := omega) only [R_X12_person, hW, hP', ct_misPlace hW, pa, ct_bound, eb, ct_no hW, pr_o, rfC, rfM, true_and, and_true, true_implies, not_true_eq_false, false_implies, not_false_eq_true, false_and, and_false, or_true, true_or, false_or, or_false, implies_true, forall_const, kl_i, kl_n, kl_r, kl_l, tl_s, tl_n, List.cons_append, List.nil_append, Int.cast_ofNat_Int, w32_id, w64_id, le_T, le_F, lt_T, lt_F, eq_T, eq_F, reduceIte, ne_eq, Int.toNat_natCast, bi_0, bi_1, bi_b, Nat.reduceAdd, Nat.reduceEqDiff, Int.reduceToNat, Int.reduceNeg, nle_T, nlt_T, neq_T, neq_F, b2_0, b2_b, both, reduceCtorEq]
  by_cases c2 : 999 < b
  · have eb : bnd b 0 999 = -6 := by unfold bnd; rw [if_neg c1, if_pos c2]
    refine CS_r hs hg h (-6) (k := 6) (by omega) (fun Q => ?_) (fun Q => ?_)
    · simp (config := { contextual := true }) (disch := omega) only [R_X11_person_b0, R_X11_person_b1, hX, hT, h50, hP, ct_isPlace hT, pa, ct_refuse hX, rfC, true_and, and_true, true_implies, not_true_eq_false, false_implies, not_false_eq_true, false_and, and_false, or_true, true_or, false_or, or_false, implies_true, forall_const, kl_i, kl_n, kl_r, kl_l, tl_s, tl_n, List.cons_append, List.nil_append, Int.cast_ofNat_Int, w32_id, w64_id, le_T, le_F, lt_T, lt_F, eq_T, eq_F, reduceIte, ne_eq, Int.toNat_natCast, bi_0, bi_1, bi_b, Nat.reduceAdd, Nat.reduceEqDiff, Int.reduceToNat, Int.reduceNeg, nle_T, nlt_T, neq_T, neq_F, b2_0, b2_b, both, reduceCtorEq]
    · simp (config := { contextual := true }) (disch := omega) only [R_X12_person, hW, hP', ct_misPlace hW, pa, ct_bound, eb, ct_no hW, pr_o, rfC, rfM, true_and, and_true, true_implies, not_true_eq_false, false_implies, not_false_eq_true, false_and, and_false, or_true, true_or, false_or, or_false, implies_true, forall_const, kl_i, kl_n, kl_r, kl_l, tl_s, tl_n, List.cons_append, List.nil_append, Int.cast_ofNat_Int, w32_id, w64_id, le_T, le_F, lt_T, lt_F, eq_T, eq_F, reduceIte, ne_eq, Int.toNat_natCast, bi_0, bi_1, bi_b, Nat.reduceAdd, Nat.reduceEqDiff, Int.reduceToNat, Int.reduceNeg, nle_T, nlt_T, neq_T, neq_F, b2_0, b2_b, both, reduceCtorEq]
  have eb : bnd b 0 999 = 0 := by unfold bnd; rw [if_neg c1, if_neg c2]
  have hq4 := hS.2.2.2.2.2.2.2.2.1.1
  by_cases c3 : q = 4
  · refine CS_r hs hg h (-6) (k := 6) (by omega) (fun Q => ?_) (fun Q => ?_)
    · simp (config := { contextual := true }) (disch := omega) only [R_X11_person_b0, R_X11_person_b1, hX, hT, h50, hP, ct_isPlace hT, pa, hq, ct_refuse hX, rfC, true_and, and_true, true_implies, not_true_eq_false, false_implies, not_false_eq_true, false_and, and_false, or_true, true_or, false_or, or_false, implies_true, forall_const, kl_i, kl_n, kl_r, kl_l, tl_s, tl_n, List.cons_append, List.nil_append, Int.cast_ofNat_Int, w32_id, w64_id, le_T, le_F, lt_T, lt_F, eq_T, eq_F, reduceIte, ne_eq, Int.toNat_natCast, bi_0, bi_1, bi_b, Nat.reduceAdd, Nat.reduceEqDiff, Int.reduceToNat, Int.reduceNeg, nle_T, nlt_T, neq_T, neq_F, b2_0, b2_b, both, reduceCtorEq]
    · simp (config := { contextual := true }) (disch := omega) only [R_X12_person, hW, hP', ct_misPlace hW, pa, ct_bound, eb, hq', ct_no hW, pr_o, rfC, rfM, true_and, and_true, true_implies, not_true_eq_false, false_implies, not_false_eq_true, false_and, and_false, or_true, true_or, false_or, or_false, implies_true, forall_const, kl_i, kl_n, kl_r, kl_l, tl_s, tl_n, List.cons_append, List.nil_append, Int.cast_ofNat_Int, w32_id, w64_id, le_T, le_F, lt_T, lt_F, eq_T, eq_F, reduceIte, ne_eq, Int.toNat_natCast, bi_0, bi_1, bi_b, Nat.reduceAdd, Nat.reduceEqDiff, Int.reduceToNat, Int.reduceNeg, nle_T, nlt_T, neq_T, neq_F, b2_0, b2_b, both, reduceCtorEq]
  have T := h.2.2.2.2.1
  obtain ⟨r3, r4, r5, r6, r7, r8, r9, r10, r11, r12, r13⟩ := RQ_r h
  have hz := h.2.2.2.2.2.2.2.2.2.2.2.2.2
  obtain ⟨I1, hI1⟩ : ∃ I1, I1 = pr (pr (pr I (t + 8) (uf (I (t + 8)) q a)) (t + 9) (uf (I (t + 9)) q b)) t (uf (I t) 11 ((q : Int) + 1)) := ⟨_, rfl⟩
  have hJ1 : ∀ c, ¬ c = t + 8 → ¬ c = t + 9 → ¬ c = t → I1 c = I c := fun c c1 c2 c3 => by rw [hI1, pr_o c3, pr_o c2, pr_o c1]
  have e69 : I1 69 = A 10 := by rw [hJ1 69 (by omega) (by omega) (by omega)]; exact r10
  have e70 : I1 70 = A 11 := by rw [hJ1 70 (by omega) (by omega) (by omega)]; exact r11
  have e57 : I1 57 = I 57 := by rw [hJ1 57 (by omega) (by omega) (by omega)]
  have e14 : I1 57 14 = (P : Int) := by rw [e57]; exact hP'
  have e17 : I1 57 17 = (q : Int) := by rw [e57]; exact hq'
  have hJ : ∀ d, ¬ d = t + 8 → ¬ d = t + 9 → ¬ d = t → ¬ d = 69 → ¬ d = 70 → ¬ d = 57 → pr (pr (pr I1 69 (uf (A 10) q a)) 70 (uf (A 11) q b)) 57 (uf (I 57) 17 ((q : Int) + 1)) d = I d := fun d d1 d2 d3 d4 d5 d6 => by rw [pr_o d6, pr_o d5, pr_o d4, hJ1 d d1 d2 d3]
  have hu : ∀ k, ¬ k = 10 → ¬ k = 11 → ¬ k = 14 → pr (pr (pr A 10 (uf (A 10) q a)) 11 (uf (A 11) q b)) 14 (uf (A 14) 3 ((q : Int) + 1)) k = A k := fun k k1 k2 k3 => by rw [pr_o k3, pr_o k2, pr_o k1]
  refine CS_s hs hg h ((q : Int) + 1) (I1 := I1) (J := pr (pr (pr I1 69 (uf (A 10) q a)) 70 (uf (A 11) q b)) 57 (uf (I 57) 17 ((q : Int) + 1))) (fun Q => ?_) ⟨hJ1 0 (by omega) (by omega) (by omega), hJ1 1 (by omega) (by omega) (by omega), hJ1 2 (by omega) (by omega) (by omega)⟩ (fun Q => ?_) ⟨hJ 0 (by omega) (by omega) (by omega) (by omega) (by omega) (by omega), hJ 1 (by omega) (by omega) (by omega) (by omega) (by omega) (by omega), hJ 2 (by omega) (by omega) (by omega) (by omega) (by omega) (by omega)⟩ (A' := pr (pr (pr A 10 (uf (A 10) q a)) 11 (uf (A 11) q b)) 14 (uf (A 14) 3 ((q : Int) + 1))) (P' := P) (w' := w) (n' := n) (q' := q + 1) (m' := m) (RQ_ch h ?_ ?_ ?_ (fun d hd => hJ d (by omega) (by omega) (by omega) (by omega) (by omega) (by omega)) ⟨by rw [pr_s, uf_o (by omega)], by rw [pr_s, uf_o (by omega)], by rw [pr_s, uf_o (by omega)]⟩ (fun j hj => by rw [hJ 81 (by omega) (by omega) (by omega) (by omega) (by omega) (by omega)]; exact hz j hj))
  · simp (config := { contextual := true }) (disch := omega) only [R_X11_person_b0, R_X11_person_b1, hX, hT, h50, hP, ct_isPlace hT, pa, hq, up_pr, pr_o, pr_s, uf_s, hI1, true_and, and_true, true_implies, not_true_eq_false, false_implies, not_false_eq_true, false_and, and_false, or_true, true_or, false_or, or_false, implies_true, forall_const, kl_i, kl_n, kl_r, kl_l, tl_s, tl_n, List.cons_append, List.nil_append, Int.cast_ofNat_Int, w32_id, w64_id, le_T, le_F, lt_T, lt_F, eq_T, eq_F, reduceIte, ne_eq, Int.toNat_natCast, bi_0, bi_1, bi_b, Nat.reduceAdd, Nat.reduceEqDiff, Int.reduceToNat, Int.reduceNeg, nle_T, nlt_T, neq_T, neq_F, b2_0, b2_b, both, reduceCtorEq]
  · simp (config := { contextual := true }) (disch := omega) only [R_X12_person, hW, e14, ct_misPlace hW, pa, ct_bound, eb, e17, e57, hq', e69, e70, up_pr, pr_o, pr_s, uf_s, true_and, and_true, true_implies, not_true_eq_false, false_implies, not_false_eq_true, false_and, and_false, or_true, true_or, false_or, or_false, implies_true, forall_const, kl_i, kl_n, kl_r, kl_l, tl_s, tl_n, List.cons_append, List.nil_append, Int.cast_ofNat_Int, w32_id, w64_id, le_T, le_F, lt_T, lt_F, eq_T, eq_F, reduceIte, ne_eq, Int.toNat_natCast, bi_0, bi_1, bi_b, Nat.reduceAdd, Nat.reduceEqDiff, Int.reduceToNat, Int.reduceNeg, nle_T, nlt_T, neq_T, neq_F, b2_0, b2_b, both, reduceCtorEq]
  · have M := h.2.2.2.1
    have hj : ∀ d, (59 ≤ d ∧ d ≤ 68) ∨ d = 71 ∨ d = 81 → pr (pr (pr I1 69 (uf (A 10) q a)) 70 (uf (A 11) q b)) 57 (uf (I 57) 17 ((q : Int) + 1)) d = I d := fun d hd => hJ d (by omega) (by omega) (by omega) (by omega) (by omega) (by omega)
    rw [MR, hj 59 (by omega), hj 60 (by omega), hj 61 (by omega), hj 62 (by omega), hj 63 (by omega), hj 64 (by omega), hj 65 (by omega), hj 66 (by omega), hj 67 (by omega), hj 68 (by omega), hj 71 (by omega), hj 81 (by omega)]
    obtain ⟨a0, a1, a2, a3, a4, a5, a6, a7, a8, a9, a10, a11, a12, a13, b0, b1, b2, b3, b4, b5, b6, b7⟩ := M
    have e14' : pr (pr (pr A 10 (uf (A 10) q a)) 11 (uf (A 11) q b)) 14 (uf (A 14) 3 ((q : Int) + 1)) 14 = uf (A 14) 3 ((q : Int) + 1) := pr_s _ _ _
    have e57' : pr (pr (pr I1 69 (uf (A 10) q a)) 70 (uf (A 11) q b)) 57 (uf (I 57) 17 ((q : Int) + 1)) 57 = uf (I 57) 17 ((q : Int) + 1) := pr_s _ _ _
    rw [e14', e57']
    exact ⟨a0, a1, a2, a3, a4, a5, a6, a7, a8, a9, by rw [pr_o (by omega), pr_o (by omega), pr_s, pr_o (by omega), pr_o (by omega), pr_s], by rw [pr_o (by omega), pr_s, pr_o (by omega), pr_s], a12, a13, b0, b1, b2, by rw [uf_s, uf_s], b4, b5, b6, b7⟩
  · have hj : ∀ d, ¬ d = t + 8 → ¬ d = t + 9 → ¬ d = t → d ≤ 56 → pr (pr (pr I1 69 (uf (A 10) q a)) 70 (uf (A 11) q b)) 57 (uf (I 57) 17 ((q : Int) + 1)) d = I d := fun d d1 d2 d3 d4 => hJ d d1 d2 d3 (by omega) (by omega) (by omega)
    refine TR_gen T (fun k hk => hu k (by omega) (by omega) (by omega)) (fun c hc => hJ c (by omega) (by omega) (by omega) (by omega) (by omega) (by omega)) ?_ ?_ ?_ ?_ ?_ ?_ ?_ ?_ ?_
    · rw [pr_o (by omega), pr_o (by omega), pr_o (by omega), hI1, pr_s, pr_s]
      refine ⟨?_, ?_, ?_, ?_, ?_⟩
      · rw [uf_o (by omega), uf_o (by omega)]; exact T.1.1
      · rw [uf_o (by omega), uf_o (by omega)]; exact T.1.2.1
      · rw [uf_o (by omega), uf_o (by omega)]; exact T.1.2.2.1
      · rw [uf_o (by omega), uf_o (by omega)]; exact T.1.2.2.2.1
      · rw [uf_s, uf_s]
    · rw [hj (t + 4) (by omega) (by omega) (by omega) (by omega)]; exact T.2.2.2.2.1
    · rw [hj (t + 5) (by omega) (by omega) (by omega) (by omega)]; exact T.2.2.2.2.2.1
    · rw [hj (t + 6) (by omega) (by omega) (by omega) (by omega)]; exact T.2.2.2.2.2.2.1
    · rw [hj (t + 7) (by omega) (by omega) (by omega) (by omega)]; exact T.2.2.2.2.2.2.2.1
    · intro j hj
      rw [pr_o (by omega), pr_o (by omega), pr_o (by omega), hI1, pr_o (by omega), pr_o (by omega), pr_s, pr_o (by omega), pr_o (by omega), pr_s]
      unfold uf
      by_cases z : j = q
      · rw [if_pos z, if_pos z]
      · rw [if_neg z, if_neg z]; exact T.2.2.2.2.2.2.2.2.1 j hj
    · intro j hj
      rw [pr_o (by omega), pr_o (by omega), pr_o (by omega), hI1, pr_o (by omega), pr_s, pr_o (by omega), pr_s]
      unfold uf
      by_cases z : j = q
      · rw [if_pos z, if_pos z]
      · rw [if_neg z, if_neg z]; exact T.2.2.2.2.2.2.2.2.2.1 j hj
    · rw [hj (t + 10) (by omega) (by omega) (by omega) (by omega)]; exact T.2.2.2.2.2.2.2.2.2.2.1
    · rw [hj (t + 11) (by omega) (by omega) (by omega) (by omega)]; exact T.2.2.2.2.2.2.2.2.2.2.2
  · obtain ⟨s1, s2, s3, s4, s5, s6, s7, s8, s9, s10⟩ := hS
    refine ⟨⟨s1.1, s1.2.1, s1.2.2.1, ?_, s1.2.2.2.2⟩, s2, s3, okA_c (fun k hk => hu k (by omega) (by omega) (by omega)) s4, s5, s6, s7, s8, ⟨by omega, fun j hj => ?_⟩, s10⟩
    · rw [pr_s, uf_s]; omega
    · rw [pr_o (by omega), pr_o (by omega), pr_s, pr_o (by omega), pr_s]
      unfold uf
      by_cases z : j = q
      · rw [if_pos z, if_pos z]; omega
      · rw [if_neg z, if_neg z]; exact s9.2 j (by omega)
theorem cs_row (hs : SS L xs g I) (hg : 90 ≤ gN g) (h : RQ g I t dr A P w n q m) (a : Int) : CS L xs g I m_X11_row m_X12_row [some (vi a)] [some (vi a), none] vi := by
  have hW := h.2.2.1.1
  have hX := h.2.2.1.2.1
  obtain ⟨ht1, ht2, hT⟩ := RQ_t h
  have h50 := h.2.1.1
  obtain ⟨hP, hP'⟩ := RQ_P h
  have hS := RQ_S h
  have hP8 := hS.2.1
  obtain ⟨o1, o2, ⟨o3, o3b⟩, o4, o5, o6, o7⟩ := h.2.2.2.2.2.2.2
  by_cases c1 : a < 0
  · have eb : bnd a 0 9 = -4 := if_pos c1
    refine CS_r hs hg h (-4) (k := 4) (by omega) (fun Q => ?_) (fun Q => ?_)
    · simp (config := { contextual := true }) (disch := omega) only [R_X11_row, hX, ct_refuse hX, rfC, true_and, and_true, true_implies, not_true_eq_false, false_implies, not_false_eq_true, false_and, and_false, or_true, true_or, false_or, or_false, implies_true, forall_const, kl_i, kl_n, kl_r, kl_l, tl_s, tl_n, List.cons_append, List.nil_append, Int.cast_ofNat_Int, w32_id, w64_id, le_T, le_F, lt_T, lt_F, eq_T, eq_F, reduceIte, ne_eq, Int.toNat_natCast, bi_0, bi_1, bi_b, Nat.reduceAdd, Nat.reduceEqDiff, Int.reduceToNat, Int.reduceNeg, nle_T, nlt_T, neq_T, neq_F, b2_0, b2_b, both, reduceCtorEq]
    · simp (config := { contextual := true }) (disch := omega) only [R_X12_row, hW, ct_bound, eb, ct_no hW, pr_o, rfC, rfM, true_and, and_true, true_implies, not_true_eq_false, false_implies, not_false_eq_true, false_and, and_false, or_true, true_or, false_or, or_false, implies_true, forall_const, kl_i, kl_n, kl_r, kl_l, tl_s, tl_n, List.cons_append, List.nil_append, Int.cast_ofNat_Int, w32_id, w64_id, le_T, le_F, lt_T, lt_F, eq_T, eq_F, reduceIte, ne_eq, Int.toNat_natCast, bi_0, bi_1, bi_b, Nat.reduceAdd, Nat.reduceEqDiff, Int.reduceToNat, Int.reduceNeg, nle_T, nlt_T, neq_T, neq_F, b2_0, b2_b, both, reduceCtorEq]
  by_cases c2 : 9 < a
  · have eb : bnd a 0 9 = -6 := by unfold bnd; rw [if_neg c1, if_pos c2]
    refine CS_r hs hg h (-6) (k := 6) (by omega) (fun Q => ?_) (fun Q => ?_)
    · simp (config := { contextual := true }) (disch := omega) only [R_X11_row, hX, ct_refuse hX, rfC, true_and, and_true, true_implies, not_true_eq_false, false_implies, not_false_eq_true, false_and, and_false, or_true, true_or, false_or, or_false, implies_true, forall_const, kl_i, kl_n, kl_r, kl_l, tl_s, tl_n, List.cons_append, List.nil_append, Int.cast_ofNat_Int, w32_id, w64_id, le_T, le_F, lt_T, lt_F, eq_T, eq_F, reduceIte, ne_eq, Int.toNat_natCast, bi_0, bi_1, bi_b, Nat.reduceAdd, Nat.reduceEqDiff, Int.reduceToNat, Int.reduceNeg, nle_T, nlt_T, neq_T, neq_F, b2_0, b2_b, both, reduceCtorEq]
    · simp (config := { contextual := true }) (disch := omega) only [R_X12_row, hW, ct_bound, eb, ct_no hW, pr_o, rfC, rfM, true_and, and_true, true_implies, not_true_eq_false, false_implies, not_false_eq_true, false_and, and_false, or_true, true_or, false_or, or_false, implies_true, forall_const, kl_i, kl_n, kl_r, kl_l, tl_s, tl_n, List.cons_append, List.nil_append, Int.cast_ofNat_Int, w32_id, w64_id, le_T, le_F, lt_T, lt_F, eq_T, eq_F, reduceIte, ne_eq, Int.toNat_natCast, bi_0, bi_1, bi_b, Nat.reduceAdd, Nat.reduceEqDiff, Int.reduceToNat, Int.reduceNeg, nle_T, nlt_T, neq_T, neq_F, b2_0, b2_b, both, reduceCtorEq]
  have eb : bnd a 0 9 = 0 := by unfold bnd; rw [if_neg c1, if_neg c2]
  obtain ⟨k, hk⟩ := Int.eq_ofNat_of_zero_le o3b.1
  rw [hk] at o3 o3b
  by_cases c3 : k = 10
  · subst c3
    have o3 : I 5 9 = 10 := o3
    have hk : I 57 48 = 10 := hk
    refine CS_r hs hg h (-6) (k := 6) (by omega) (fun Q => ?_) (fun Q => ?_)
    · simp (config := { contextual := true }) (disch := omega) only [R_X11_row, hX, o3, ct_refuse hX, rfC, true_and, and_true, true_implies, not_true_eq_false, false_implies, not_false_eq_true, false_and, and_false, or_true, true_or, false_or, or_false, implies_true, forall_const, kl_i, kl_n, kl_r, kl_l, tl_s, tl_n, List.cons_append, List.nil_append, Int.cast_ofNat_Int, w32_id, w64_id, le_T, le_F, lt_T, lt_F, eq_T, eq_F, reduceIte, ne_eq, Int.toNat_natCast, bi_0, bi_1, bi_b, Nat.reduceAdd, Nat.reduceEqDiff, Int.reduceToNat, Int.reduceNeg, nle_T, nlt_T, neq_T, neq_F, b2_0, b2_b, both, reduceCtorEq]
    · simp (config := { contextual := true }) (disch := omega) only [R_X12_row, hW, ct_bound, eb, hk, ct_no hW, pr_o, rfC, rfM, true_and, and_true, true_implies, not_true_eq_false, false_implies, not_false_eq_true, false_and, and_false, or_true, true_or, false_or, or_false, implies_true, forall_const, kl_i, kl_n, kl_r, kl_l, tl_s, tl_n, List.cons_append, List.nil_append, Int.cast_ofNat_Int, w32_id, w64_id, le_T, le_F, lt_T, lt_F, eq_T, eq_F, reduceIte, ne_eq, Int.toNat_natCast, bi_0, bi_1, bi_b, Nat.reduceAdd, Nat.reduceEqDiff, Int.reduceToNat, Int.reduceNeg, nle_T, nlt_T, neq_T, neq_F, b2_0, b2_b, both, reduceCtorEq]
  obtain ⟨I1, hI1⟩ : ∃ I1, I1 = pr (pr I 53 (uf (I 53) k a)) 5 (uf (I 5) 9 ((k : Int) + 1)) := ⟨_, rfl⟩
  have hJ1 : ∀ c, ¬ c = 5 → ¬ c = 53 → I1 c = I c := fun c c1 c2 => by rw [hI1, pr_o c1, pr_o c2]
  have e57 : I1 57 = I 57 := hJ1 57 (by omega) (by omega)
  have e89 : I1 89 = I 89 := hJ1 89 (by omega) (by omega)
  have hJ : ∀ c, ¬ c = 5 → ¬ c = 53 → ¬ c = 57 → ¬ c = 89 → pr (pr I1 89 (uf (I 89) k a)) 57 (uf (I 57) 48 ((k : Int) + 1)) c = I c := fun c c1 c2 c3 c4 => by rw [pr_o c3, pr_o c4, hJ1 c c1 c2]
  refine CS_s hs hg h ((k : Int) + 1) (I1 := I1) (J := pr (pr I1 89 (uf (I 89) k a)) 57 (uf (I 57) 48 ((k : Int) + 1))) (fun Q => ?_) ⟨hJ1 0 (by omega) (by omega), hJ1 1 (by omega) (by omega), hJ1 2 (by omega) (by omega)⟩ (fun Q => ?_) ⟨hJ 0 (by omega) (by omega) (by omega) (by omega), hJ 1 (by omega) (by omega) (by omega) (by omega), hJ 2 (by omega) (by omega) (by omega) (by omega)⟩ (RQ_ot h (fun c c1 c2 c3 c4 c5 c6 => hJ c c1 c2 c3 c4) ?_ (fun j j1 j2 => by rw [pr_s, uf_o j2]) ?_)
  · simp (config := { contextual := true }) (disch := omega) only [R_X11_row, hX, o3, up_pr, pr_o, pr_s, uf_s, hI1, true_and, and_true, true_implies, not_true_eq_false, false_implies, not_false_eq_true, false_and, and_false, or_true, true_or, false_or, or_false, implies_true, forall_const, kl_i, kl_n, kl_r, kl_l, tl_s, tl_n, List.cons_append, List.nil_append, Int.cast_ofNat_Int, w32_id, w64_id, le_T, le_F, lt_T, lt_F, eq_T, eq_F, reduceIte, ne_eq, Int.toNat_natCast, bi_0, bi_1, bi_b, Nat.reduceAdd, Nat.reduceEqDiff, Int.reduceToNat, Int.reduceNeg, nle_T, nlt_T, neq_T, neq_F, b2_0, b2_b, both, reduceCtorEq]
  · simp (config := { contextual := true }) (disch := omega) only [R_X12_row, hW, ct_bound, eb, e57, hk, e89, up_pr, pr_o, pr_s, uf_s, true_and, and_true, true_implies, not_true_eq_false, false_implies, not_false_eq_true, false_and, and_false, or_true, true_or, false_or, or_false, implies_true, forall_const, kl_i, kl_n, kl_r, kl_l, tl_s, tl_n, List.cons_append, List.nil_append, Int.cast_ofNat_Int, w32_id, w64_id, le_T, le_F, lt_T, lt_F, eq_T, eq_F, reduceIte, ne_eq, Int.toNat_natCast, bi_0, bi_1, bi_b, Nat.reduceAdd, Nat.reduceEqDiff, Int.reduceToNat, Int.reduceNeg, nle_T, nlt_T, neq_T, neq_F, b2_0, b2_b, both, reduceCtorEq]
  · rw [pr_o (by omega), pr_o (by omega), hI1, pr_s, uf_o (by omega)]
  · unfold OT
    have e5 : pr (pr I1 89 (uf (I 89) k a)) 57 (uf (I 57) 48 ((k : Int) + 1)) 5 = uf (I 5) 9 ((k : Int) + 1) := by rw [pr_o (by omega), pr_o (by omega), hI1, pr_s]
    have e53 : pr (pr I1 89 (uf (I 89) k a)) 57 (uf (I 57) 48 ((k : Int) + 1)) 53 = uf (I 53) k a := by rw [pr_o (by omega), pr_o (by omega), hI1, pr_o (by omega), pr_s]
    have e89' : pr (pr I1 89 (uf (I 89) k a)) 57 (uf (I 57) 48 ((k : Int) + 1)) 89 = uf (I 89) k a := by rw [pr_o (by omega), pr_s]
    have e57' : pr (pr I1 89 (uf (I 89) k a)) 57 (uf (I 57) 48 ((k : Int) + 1)) 57 = uf (I 57) 48 ((k : Int) + 1) := pr_s _ _ _
    rw [e5, e53, e89', e57', hJ 52 (by omega) (by omega) (by omega) (by omega), hJ 73 (by omega) (by omega) (by omega) (by omega), hJ 56 (by omega) (by omega) (by omega) (by omega), hJ 58 (by omega) (by omega) (by omega) (by omega), hJ 49 (by omega) (by omega) (by omega) (by omega), hJ 81 (by omega) (by omega) (by omega) (by omega)]
    refine ⟨by rw [uf_o (by omega), uf_o (by omega)]; exact o1, o2, ⟨by rw [uf_s, uf_s], by rw [uf_s]; omega⟩, fun j hj => ?_, o5, o6, o7⟩
    unfold uf
    by_cases z : j = k
    · rw [if_pos z, if_pos z]; omega
    · rw [if_neg z, if_neg z]; exact o4 j hj
end PPL

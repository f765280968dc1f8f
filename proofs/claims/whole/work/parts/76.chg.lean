-- CALLS that change what is told or the life at hand
section CHG
variable {L : Nat} {xs : Nat → Int32} {g : GG} {I : II} {t dr : Nat} {A : II} {P w n q m : Nat}
theorem RQ_ch (h : RQ g I t dr A P w n q m) {J A' : II} {P' w' n' q' m' : Nat} (hMR : MR J A') (hTR : TR g J t A' P' w' n') (hok : okS A' P' w' n' q' m') (hJ : ∀ a, (32 ≤ a ∧ a ≤ 56) ∨ a = 5 ∨ a = 58 ∨ a = 73 ∨ a = 80 ∨ 89 ≤ a → J a = I a) (h57 : J 57 31 = I 57 31 ∧ J 57 27 = I 57 27 ∧ J 57 48 = I 57 48) (h81 : ∀ j, 7 ≤ j → J 81 j = 0) : RQ g J t dr A' P' w' n' q' m' := by
  obtain ⟨h1, h2, h3, h4, h5, h6, h7, h8⟩ := h
  have e5 := hJ 5 (by omega)
  refine ⟨h1, h2, h3, hMR, hTR, hok, IM_fr h7 (fun a q => hJ a (by omega)) (fun j _ => by rw [hJ 80 (by omega)]) (by rw [e5]) h57.1, OT_fr h8 ⟨by rw [e5], h57.2.1, hJ 52 (by omega), hJ 73 (by omega)⟩ ⟨by rw [e5], h57.2.2, hJ 53 (by omega), hJ 89 (by omega)⟩ ⟨hJ 56 (by omega), hJ 58 (by omega)⟩ (fun j q => ?_) h81⟩
  rw [hJ 49 (by omega)]
  exact h8.2.2.2.2.2.1 j q
theorem TR_gen (h : TR g I t A P w n) {J A' : II} (hA : ∀ k, k ≤ 6 → A' k = A k) (hJ : ∀ a, a = t + 1 ∨ a = t + 2 ∨ 90 ≤ a → J a = I a) (h0 : J t 0 = A' 14 0 ∧ J t 1 = A' 14 1 ∧ J t 4 = A' 14 2 ∧ J t 7 = A' 14 4 ∧ J t 11 = A' 14 3) (h7 : ∀ j, j < 4 → J (t + 4) j = A' 7 j) (h12 : ∀ j, j < 8 → J (t + 5) j = A' 12 j) (h8 : ∀ j, j < 8 → J (t + 6) j = A' 8 j) (h9 : ∀ j, j < 8 → J (t + 7) j = A' 9 j) (h10 : ∀ j, j < 4 → J (t + 8) j = A' 10 j) (h11 : ∀ j, j < 4 → J (t + 9) j = A' 11 j) (hl : J (t + 10) 0 = A' 14 5 ∧ J (t + 10) 1 = A' 14 6 ∧ J (t + 10) 2 = A' 14 7) (hh : ∀ j, j < 7 → J (t + 11) j = A' 13 j) : TR g J t A' P w n := by
  refine ⟨h0, ?_, ?_, ?_, h7, h12, h8, h9, h10, h11, hl, hh⟩
  · rw [hJ (t + 1) (by omega), hA 0 (by omega), hA 1 (by omega), hA 2 (by omega)]; exact h.2.1
  · unfold DA
    rw [hJ (t + 2) (by omega), hA 0 (by omega), hA 1 (by omega), hA 2 (by omega)]; exact h.2.2.1
  · intro i hi
    obtain ⟨b, h1, h2, h3⟩ := h.2.2.2.1 i hi
    refine ⟨b, h1, h2, ?_⟩
    rw [ThA, hJ b (by omega), hA 3 (by omega), hA 4 (by omega), hA 5 (by omega), hA 6 (by omega)]
    exact h3
theorem okA_c {A' : II} (hA : ∀ k, k ≤ 6 → A' k = A k) (h : okA A n) : okA A' n := by
  unfold okA
  rw [hA 3 (by omega), hA 4 (by omega), hA 5 (by omega), hA 6 (by omega)]
  exact h
theorem opn_c {kd wo ak : Int} {num : Nat} {f h : Nat → Int} (ok : okTh kd num wo ak) (e : ∀ j, j < 7 → f j = h j) : opn kd wo ak num f = opn kd wo ak num h := by
  have e1 := e num ok.2.1
  have e2 : kd = 2 → f ak.toNat = h ak.toNat := fun q => e _ (by have := ok.2.2.2.2 q; have := ok.2.1; have := ok.2.2.2.1; omega)
  unfold opn
  rw [e1]
  refine propext ⟨fun q => ?_, fun q => ?_⟩
  · rcases q with q | ⟨q1, q2, q3⟩
    · exact Or.inl q
    · exact Or.inr ⟨q1, q2, fun z => by rw [← e2 z]; exact q3 z⟩
  · rcases q with q | ⟨q1, q2, q3⟩
    · exact Or.inl q
    · exact Or.inr ⟨q1, q2, fun z => by rw [e2 z]; exact q3 z⟩
theorem cs_set (hs : SS L xs g I) (hg : 90 ≤ gN g) (h : RQ g I t dr A P w n q m) (a b : Int) : CS L xs g I m_X11_set m_X12_set [some (vi a), some (vi b), none] [some (vi a), some (vi b), none, none] vi := by
  have hW := h.2.2.1.1
  have hX := h.2.2.1.2.1
  obtain ⟨ht1, ht2, hT⟩ := RQ_t h
  have h50 := h.2.1.1
  obtain ⟨hP, hP'⟩ := RQ_P h
  have hS := RQ_S h
  have hP8 := hS.2.1
  by_cases pa : 0 ≤ a ∧ a ≤ 3
  case neg =>
    refine CS_r hs hg h (-2) (k := 2) (by omega) (fun Q => ?_) (fun Q => ?_)
    · by_cases c : a < 0
      · simp (config := { contextual := true }) (disch := omega) only [R_X11_set_b0, R_X11_set_b1, hX, ct_refuse hX, rfC, true_and, and_true, true_implies, not_true_eq_false, false_implies, not_false_eq_true, false_and, and_false, or_true, true_or, false_or, or_false, implies_true, forall_const, kl_i, kl_n, kl_r, kl_l, tl_s, tl_n, List.cons_append, List.nil_append, Int.cast_ofNat_Int, w32_id, w64_id, le_T, le_F, lt_T, lt_F, eq_T, eq_F, reduceIte, ne_eq, Int.toNat_natCast, bi_0, bi_1, bi_b, Nat.reduceAdd, Nat.reduceEqDiff, Int.reduceToNat, Int.reduceNeg, nle_T, nlt_T, neq_T, neq_F, b2_0, b2_b, both, reduceCtorEq]
      · simp (config := { contextual := true }) (disch := omega) only [R_X11_set_b0, R_X11_set_b1, hX, ct_refuse hX, rfC, true_and, and_true, true_implies, not_true_eq_false, false_implies, not_false_eq_true, false_and, and_false, or_true, true_or, false_or, or_false, implies_true, forall_const, kl_i, kl_n, kl_r, kl_l, tl_s, tl_n, List.cons_append, List.nil_append, Int.cast_ofNat_Int, w32_id, w64_id, le_T, le_F, lt_T, lt_F, eq_T, eq_F, reduceIte, ne_eq, Int.toNat_natCast, bi_0, bi_1, bi_b, Nat.reduceAdd, Nat.reduceEqDiff, Int.reduceToNat, Int.reduceNeg, nle_T, nlt_T, neq_T, neq_F, b2_0, b2_b, both, reduceCtorEq]
    · simp (config := { contextual := true }) (disch := omega) only [R_X12_set, hW, ct_isIn, pa, ct_no hW, pr_o, rfC, rfM, true_and, and_true, true_implies, not_true_eq_false, false_implies, not_false_eq_true, false_and, and_false, or_true, true_or, false_or, or_false, implies_true, forall_const, kl_i, kl_n, kl_r, kl_l, tl_s, tl_n, List.cons_append, List.nil_append, Int.cast_ofNat_Int, w32_id, w64_id, le_T, le_F, lt_T, lt_F, eq_T, eq_F, reduceIte, ne_eq, Int.toNat_natCast, bi_0, bi_1, bi_b, Nat.reduceAdd, Nat.reduceEqDiff, Int.reduceToNat, Int.reduceNeg, nle_T, nlt_T, neq_T, neq_F, b2_0, b2_b, both, reduceCtorEq]
  by_cases pb : a = 3 ∧ ¬ (0 ≤ b ∧ b < (P : Int))
  · obtain ⟨rfl, pb⟩ := pb
    refine CS_r hs hg h (-1) (k := 1) (by omega) (fun Q => ?_) (fun Q => ?_)
    · simp (config := { contextual := true }) (disch := omega) only [R_X11_set_b0, R_X11_set_b1, hX, hT, h50, hP, ct_isPlace hT, pb, ct_refuse hX, rfC, true_and, and_true, true_implies, not_true_eq_false, false_implies, not_false_eq_true, false_and, and_false, or_true, true_or, false_or, or_false, implies_true, forall_const, kl_i, kl_n, kl_r, kl_l, tl_s, tl_n, List.cons_append, List.nil_append, Int.cast_ofNat_Int, w32_id, w64_id, le_T, le_F, lt_T, lt_F, eq_T, eq_F, reduceIte, ne_eq, Int.toNat_natCast, bi_0, bi_1, bi_b, Nat.reduceAdd, Nat.reduceEqDiff, Int.reduceToNat, Int.reduceNeg, nle_T, nlt_T, neq_T, neq_F, b2_0, b2_b, both, reduceCtorEq]
    · simp (config := { contextual := true }) (disch := omega) only [R_X12_set, hW, hP', ct_misPlace hW, pb, ct_isIn, pa, ct_no hW, pr_o, rfC, rfM, true_and, and_true, true_implies, not_true_eq_false, false_implies, not_false_eq_true, false_and, and_false, or_true, true_or, false_or, or_false, implies_true, forall_const, kl_i, kl_n, kl_r, kl_l, tl_s, tl_n, List.cons_append, List.nil_append, Int.cast_ofNat_Int, w32_id, w64_id, le_T, le_F, lt_T, lt_F, eq_T, eq_F, reduceIte, ne_eq, Int.toNat_natCast, bi_0, bi_1, bi_b, Nat.reduceAdd, Nat.reduceEqDiff, Int.reduceToNat, Int.reduceNeg, nle_T, nlt_T, neq_T, neq_F, b2_0, b2_b, both, reduceCtorEq]
  obtain ⟨i, rfl⟩ := Int.eq_ofNat_of_zero_le pa.1
  obtain ⟨r3, r4, r5, r6, r7, r8, r9, r10, r11, r12, r13⟩ := RQ_r h
  have T := h.2.2.2.2.1
  have hs3 := T.2.2.2.2.1 i (by omega)
  have st := okS_S hS
  obtain ⟨st0, st1, st2, st3⟩ := st
  have hz := h.2.2.2.2.2.2.2.2.2.2.2.2.2
  have hset : ∀ lo, lo = (if i = 2 then (1 : Int) else 0) → lo ≤ b → b ≤ 999 → (i = 3 → 0 ≤ b ∧ b < P) → CS L xs g I m_X11_set m_X12_set [some (vi i), some (vi b), none] [some (vi i), some (vi b), none, none] vi := by
    intro lo hlo h1 h2 h3
    have hi3 : i ≤ 3 := by omega
    have hb0 : 0 ≤ b := by by_cases z : i = 2; rw [if_pos z] at hlo; omega; rw [if_neg z] at hlo; omega
    have hb1 : i = 2 → 1 ≤ b := fun z => by rw [if_pos z] at hlo; omega
    have hu : ∀ k, k ≤ 6 → pr A 7 (uf (A 7) i b) k = A k := fun k hk => pr_o (by omega)
    have hu' : ∀ k, ¬ k = 7 → pr A 7 (uf (A 7) i b) k = A k := fun k hk => pr_o (by omega)
    have hJ : ∀ c, ¬ c = t + 4 → ¬ c = 66 → pr (pr I (t + 4) (uf (I (t + 4)) i b)) 66 (uf (A 7) i b) c = I c := fun c h1 h2 => by rw [pr_o h2, pr_o h1]
    refine CS_s hs hg h (A 7 i) (I1 := pr I (t + 4) (uf (I (t + 4)) i b)) (J := pr (pr I (t + 4) (uf (I (t + 4)) i b)) 66 (uf (A 7) i b)) (fun Q => ?_) ⟨pr_o (by omega), pr_o (by omega), pr_o (by omega)⟩ (fun Q => ?_) ⟨by rw [hJ 0 (by omega) (by omega)], by rw [hJ 1 (by omega) (by omega)], by rw [hJ 2 (by omega) (by omega)]⟩ (A' := pr A 7 (uf (A 7) i b)) (P' := P) (w' := w) (n' := n) (q' := q) (m' := m) (RQ_ch h ?_ ?_ ?_ (fun c hc => hJ c (by omega) (by omega)) ⟨by rw [hJ 57 (by omega) (by omega)], by rw [hJ 57 (by omega) (by omega)], by rw [hJ 57 (by omega) (by omega)]⟩ (fun j hj => by rw [hJ 81 (by omega) (by omega)]; exact hz j hj))
    · rcases (by omega : i = 0 ∨ i = 1 ∨ i = 2 ∨ i = 3) with r | r | r | r <;> subst r
      · simp (config := { contextual := true }) (disch := omega) only [R_X11_set_b0, R_X11_set_b1, hX, hT, h50, hs3, up_pr, true_and, and_true, true_implies, not_true_eq_false, false_implies, not_false_eq_true, false_and, and_false, or_true, true_or, false_or, or_false, implies_true, forall_const, kl_i, kl_n, kl_r, kl_l, tl_s, tl_n, List.cons_append, List.nil_append, Int.cast_ofNat_Int, w32_id, w64_id, le_T, le_F, lt_T, lt_F, eq_T, eq_F, reduceIte, ne_eq, Int.toNat_natCast, bi_0, bi_1, bi_b, Nat.reduceAdd, Nat.reduceEqDiff, Int.reduceToNat, Int.reduceNeg, nle_T, nlt_T, neq_T, neq_F, b2_0, b2_b, both, reduceCtorEq]
      · simp (config := { contextual := true }) (disch := omega) only [R_X11_set_b0, R_X11_set_b1, hX, hT, h50, hs3, up_pr, true_and, and_true, true_implies, not_true_eq_false, false_implies, not_false_eq_true, false_and, and_false, or_true, true_or, false_or, or_false, implies_true, forall_const, kl_i, kl_n, kl_r, kl_l, tl_s, tl_n, List.cons_append, List.nil_append, Int.cast_ofNat_Int, w32_id, w64_id, le_T, le_F, lt_T, lt_F, eq_T, eq_F, reduceIte, ne_eq, Int.toNat_natCast, bi_0, bi_1, bi_b, Nat.reduceAdd, Nat.reduceEqDiff, Int.reduceToNat, Int.reduceNeg, nle_T, nlt_T, neq_T, neq_F, b2_0, b2_b, both, reduceCtorEq]
      · have hb1 := hb1 rfl
        simp (config := { contextual := true }) (disch := omega) only [R_X11_set_b0, R_X11_set_b1, hX, hT, h50, hs3, up_pr, true_and, and_true, true_implies, not_true_eq_false, false_implies, not_false_eq_true, false_and, and_false, or_true, true_or, false_or, or_false, implies_true, forall_const, kl_i, kl_n, kl_r, kl_l, tl_s, tl_n, List.cons_append, List.nil_append, Int.cast_ofNat_Int, w32_id, w64_id, le_T, le_F, lt_T, lt_F, eq_T, eq_F, reduceIte, ne_eq, Int.toNat_natCast, bi_0, bi_1, bi_b, Nat.reduceAdd, Nat.reduceEqDiff, Int.reduceToNat, Int.reduceNeg, nle_T, nlt_T, neq_T, neq_F, b2_0, b2_b, both, reduceCtorEq]
      · have h3 := h3 rfl
        simp (config := { contextual := true }) (disch := omega) only [R_X11_set_b0, R_X11_set_b1, hX, hT, h50, hP, ct_isPlace hT, h3, hs3, up_pr, true_and, and_true, true_implies, not_true_eq_false, false_implies, not_false_eq_true, false_and, and_false, or_true, true_or, false_or, or_false, implies_true, forall_const, kl_i, kl_n, kl_r, kl_l, tl_s, tl_n, List.cons_append, List.nil_append, Int.cast_ofNat_Int, w32_id, w64_id, le_T, le_F, lt_T, lt_F, eq_T, eq_F, reduceIte, ne_eq, Int.toNat_natCast, bi_0, bi_1, bi_b, Nat.reduceAdd, Nat.reduceEqDiff, Int.reduceToNat, Int.reduceNeg, nle_T, nlt_T, neq_T, neq_F, b2_0, b2_b, both, reduceCtorEq]
    · have q7 : pr I (t + 4) (uf (I (t + 4)) i b) 66 = A 7 := by rw [pr_o (by omega)]; exact r7
      have q14 : pr I (t + 4) (uf (I (t + 4)) i b) 57 14 = (P : Int) := by rw [pr_o (by omega)]; exact hP'
      generalize pr I (t + 4) (uf (I (t + 4)) i b) = I1 at q7 q14 ⊢
      have eb : bnd b 0 999 = 0 := by unfold bnd; rw [if_neg (by omega), if_neg (by omega)]
      rcases (by omega : i = 0 ∨ i = 1 ∨ i = 2 ∨ i = 3) with r | r | r | r <;> subst r
      · simp (config := { contextual := true }) (disch := omega) only [R_X12_set, hW, ct_isIn, pa, ct_bound, eb, q7, up_pr, true_and, and_true, true_implies, not_true_eq_false, false_implies, not_false_eq_true, false_and, and_false, or_true, true_or, false_or, or_false, implies_true, forall_const, kl_i, kl_n, kl_r, kl_l, tl_s, tl_n, List.cons_append, List.nil_append, Int.cast_ofNat_Int, w32_id, w64_id, le_T, le_F, lt_T, lt_F, eq_T, eq_F, reduceIte, ne_eq, Int.toNat_natCast, bi_0, bi_1, bi_b, Nat.reduceAdd, Nat.reduceEqDiff, Int.reduceToNat, Int.reduceNeg, nle_T, nlt_T, neq_T, neq_F, b2_0, b2_b, both, reduceCtorEq]
      · simp (config := { contextual := true }) (disch := omega) only [R_X12_set, hW, ct_isIn, pa, ct_bound, eb, q7, up_pr, true_and, and_true, true_implies, not_true_eq_false, false_implies, not_false_eq_true, false_and, and_false, or_true, true_or, false_or, or_false, implies_true, forall_const, kl_i, kl_n, kl_r, kl_l, tl_s, tl_n, List.cons_append, List.nil_append, Int.cast_ofNat_Int, w32_id, w64_id, le_T, le_F, lt_T, lt_F, eq_T, eq_F, reduceIte, ne_eq, Int.toNat_natCast, bi_0, bi_1, bi_b, Nat.reduceAdd, Nat.reduceEqDiff, Int.reduceToNat, Int.reduceNeg, nle_T, nlt_T, neq_T, neq_F, b2_0, b2_b, both, reduceCtorEq]
      · have hb1 := hb1 rfl
        have eb1 : bnd b 1 999 = 0 := by unfold bnd; rw [if_neg (by omega), if_neg (by omega)]
        simp (config := { contextual := true }) (disch := omega) only [R_X12_set, hW, ct_isIn, pa, ct_bound, eb1, q7, up_pr, true_and, and_true, true_implies, not_true_eq_false, false_implies, not_false_eq_true, false_and, and_false, or_true, true_or, false_or, or_false, implies_true, forall_const, kl_i, kl_n, kl_r, kl_l, tl_s, tl_n, List.cons_append, List.nil_append, Int.cast_ofNat_Int, w32_id, w64_id, le_T, le_F, lt_T, lt_F, eq_T, eq_F, reduceIte, ne_eq, Int.toNat_natCast, bi_0, bi_1, bi_b, Nat.reduceAdd, Nat.reduceEqDiff, Int.reduceToNat, Int.reduceNeg, nle_T, nlt_T, neq_T, neq_F, b2_0, b2_b, both, reduceCtorEq]
      · have h3 := h3 rfl
        simp (config := { contextual := true }) (disch := omega) only [R_X12_set, hW, q14, ct_misPlace hW, h3, ct_isIn, pa, ct_bound, eb, q7, up_pr, true_and, and_true, true_implies, not_true_eq_false, false_implies, not_false_eq_true, false_and, and_false, or_true, true_or, false_or, or_false, implies_true, forall_const, kl_i, kl_n, kl_r, kl_l, tl_s, tl_n, List.cons_append, List.nil_append, Int.cast_ofNat_Int, w32_id, w64_id, le_T, le_F, lt_T, lt_F, eq_T, eq_F, reduceIte, ne_eq, Int.toNat_natCast, bi_0, bi_1, bi_b, Nat.reduceAdd, Nat.reduceEqDiff, Int.reduceToNat, Int.reduceNeg, nle_T, nlt_T, neq_T, neq_F, b2_0, b2_b, both, reduceCtorEq]
    · have M := h.2.2.2.1
      rw [MR, hJ 59 (by omega) (by omega), hJ 60 (by omega) (by omega), hJ 61 (by omega) (by omega), hJ 62 (by omega) (by omega), hJ 63 (by omega) (by omega), hJ 64 (by omega) (by omega), hJ 65 (by omega) (by omega), hJ 67 (by omega) (by omega), hJ 68 (by omega) (by omega), hJ 69 (by omega) (by omega), hJ 70 (by omega) (by omega), hJ 71 (by omega) (by omega), hJ 81 (by omega) (by omega), hJ 57 (by omega) (by omega), pr_s]
      obtain ⟨a0, a1, a2, a3, a4, a5, a6, a7, a8⟩ := M
      exact ⟨a0, a1, a2, a3, a4, a5, a6, rfl, a8⟩
    · refine TR_gen T hu (fun c hc => hJ c (by omega) (by omega)) ?_ ?_ ?_ ?_ ?_ ?_ ?_ ?_ ?_
      · rw [hJ t (by omega) (by omega)]; exact T.1
      · intro j hj
        rw [pr_o (by omega), pr_s, pr_s]
        unfold uf
        by_cases z : j = i
        · rw [if_pos z, if_pos z]
        · rw [if_neg z, if_neg z]; exact T.2.2.2.2.1 j hj
      · rw [hJ (t + 5) (by omega) (by omega)]; exact T.2.2.2.2.2.1
      · rw [hJ (t + 6) (by omega) (by omega)]; exact T.2.2.2.2.2.2.1
      · rw [hJ (t + 7) (by omega) (by omega)]; exact T.2.2.2.2.2.2.2.1
      · rw [hJ (t + 8) (by omega) (by omega)]; exact T.2.2.2.2.2.2.2.2.1
      · rw [hJ (t + 9) (by omega) (by omega)]; exact T.2.2.2.2.2.2.2.2.2.1
      · rw [hJ (t + 10) (by omega) (by omega)]; exact T.2.2.2.2.2.2.2.2.2.2.1
      · rw [hJ (t + 11) (by omega) (by omega)]; exact T.2.2.2.2.2.2.2.2.2.2.2
    · obtain ⟨s1, s2, s3, s4, s5, s6, s7, s8⟩ := hS
      have e7 : pr A 7 (uf (A 7) i b) 7 = uf (A 7) i b := pr_s _ _ _
      refine ⟨s1, s2, s3, okA_c hu s4, s5, ?_, ?_, s8⟩
      · unfold okSt
        rw [e7]
        unfold uf
        rcases (by omega : i = 0 ∨ i = 1 ∨ i = 2 ∨ i = 3) with r | r | r | r <;> subst r <;> simp <;> omega
      · rw [e7]
        unfold uf
        by_cases z : 3 = i
        · rw [if_pos z]; exact (h3 z.symm).2
        · rw [if_neg z]; exact s7
  by_cases c1 : b < (if i = 2 then (1 : Int) else 0)
  · refine CS_r hs hg h (-4) (k := 4) (by omega) (fun Q => ?_) (fun Q => ?_)
    · rcases (by omega : i = 0 ∨ i = 1 ∨ i = 2 ∨ i = 3) with r | r | r | r <;> subst r
      · have c1 : b < 0 := c1
        simp (config := { contextual := true }) (disch := omega) only [R_X11_set_b0, R_X11_set_b1, hX, ct_refuse hX, rfC, true_and, and_true, true_implies, not_true_eq_false, false_implies, not_false_eq_true, false_and, and_false, or_true, true_or, false_or, or_false, implies_true, forall_const, kl_i, kl_n, kl_r, kl_l, tl_s, tl_n, List.cons_append, List.nil_append, Int.cast_ofNat_Int, w32_id, w64_id, le_T, le_F, lt_T, lt_F, eq_T, eq_F, reduceIte, ne_eq, Int.toNat_natCast, bi_0, bi_1, bi_b, Nat.reduceAdd, Nat.reduceEqDiff, Int.reduceToNat, Int.reduceNeg, nle_T, nlt_T, neq_T, neq_F, b2_0, b2_b, both, reduceCtorEq]
      · have c1 : b < 0 := c1
        simp (config := { contextual := true }) (disch := omega) only [R_X11_set_b0, R_X11_set_b1, hX, ct_refuse hX, rfC, true_and, and_true, true_implies, not_true_eq_false, false_implies, not_false_eq_true, false_and, and_false, or_true, true_or, false_or, or_false, implies_true, forall_const, kl_i, kl_n, kl_r, kl_l, tl_s, tl_n, List.cons_append, List.nil_append, Int.cast_ofNat_Int, w32_id, w64_id, le_T, le_F, lt_T, lt_F, eq_T, eq_F, reduceIte, ne_eq, Int.toNat_natCast, bi_0, bi_1, bi_b, Nat.reduceAdd, Nat.reduceEqDiff, Int.reduceToNat, Int.reduceNeg, nle_T, nlt_T, neq_T, neq_F, b2_0, b2_b, both, reduceCtorEq]
      · have c1 : b < 1 := c1
        simp (config := { contextual := true }) (disch := omega) only [R_X11_set_b0, R_X11_set_b1, hX, ct_refuse hX, rfC, true_and, and_true, true_implies, not_true_eq_false, false_implies, not_false_eq_true, false_and, and_false, or_true, true_or, false_or, or_false, implies_true, forall_const, kl_i, kl_n, kl_r, kl_l, tl_s, tl_n, List.cons_append, List.nil_append, Int.cast_ofNat_Int, w32_id, w64_id, le_T, le_F, lt_T, lt_F, eq_T, eq_F, reduceIte, ne_eq, Int.toNat_natCast, bi_0, bi_1, bi_b, Nat.reduceAdd, Nat.reduceEqDiff, Int.reduceToNat, Int.reduceNeg, nle_T, nlt_T, neq_T, neq_F, b2_0, b2_b, both, reduceCtorEq]
      · have c1 : b < 0 := c1
        exact absurd (by omega : 0 ≤ b ∧ b < (P : Int)) (fun _ => by omega)
    · have eb : b < 0 → bnd b 0 999 = -4 := fun z => if_pos z
      rcases (by omega : i = 0 ∨ i = 1 ∨ i = 2 ∨ i = 3) with r | r | r | r <;> subst r
      · have c1 : b < 0 := c1
        have eb := eb c1
        simp (config := { contextual := true }) (disch := omega) only [R_X12_set, hW, ct_isIn, pa, ct_bound, eb, ct_no hW, pr_o, rfC, rfM, true_and, and_true, true_implies, not_true_eq_false, false_implies, not_false_eq_true, false_and, and_false, or_true, true_or, false_or, or_false, implies_true, forall_const, kl_i, kl_n, kl_r, kl_l, tl_s, tl_n, List.cons_append, List.nil_append, Int.cast_ofNat_Int, w32_id, w64_id, le_T, le_F, lt_T, lt_F, eq_T, eq_F, reduceIte, ne_eq, Int.toNat_natCast, bi_0, bi_1, bi_b, Nat.reduceAdd, Nat.reduceEqDiff, Int.reduceToNat, Int.reduceNeg, nle_T, nlt_T, neq_T, neq_F, b2_0, b2_b, both, reduceCtorEq]
      · have c1 : b < 0 := c1
        have eb := eb c1
        simp (config := { contextual := true }) (disch := omega) only [R_X12_set, hW, ct_isIn, pa, ct_bound, eb, ct_no hW, pr_o, rfC, rfM, true_and, and_true, true_implies, not_true_eq_false, false_implies, not_false_eq_true, false_and, and_false, or_true, true_or, false_or, or_false, implies_true, forall_const, kl_i, kl_n, kl_r, kl_l, tl_s, tl_n, List.cons_append, List.nil_append, Int.cast_ofNat_Int, w32_id, w64_id, le_T, le_F, lt_T, lt_F, eq_T, eq_F, reduceIte, ne_eq, Int.toNat_natCast, bi_0, bi_1, bi_b, Nat.reduceAdd, Nat.reduceEqDiff, Int.reduceToNat, Int.reduceNeg, nle_T, nlt_T, neq_T, neq_F, b2_0, b2_b, both, reduceCtorEq]
      · have c1 : b < 1 := c1
        have eb : bnd b 1 999 = -4 := if_pos c1
        simp (config := { contextual := true }) (disch := omega) only [R_X12_set, hW, ct_isIn, pa, ct_bound, eb, ct_no hW, pr_o, rfC, rfM, true_and, and_true, true_implies, not_true_eq_false, false_implies, not_false_eq_true, false_and, and_false, or_true, true_or, false_or, or_false, implies_true, forall_const, kl_i, kl_n, kl_r, kl_l, tl_s, tl_n, List.cons_append, List.nil_append, Int.cast_ofNat_Int, w32_id, w64_id, le_T, le_F, lt_T, lt_F, eq_T, eq_F, reduceIte, ne_eq, Int.toNat_natCast, bi_0, bi_1, bi_b, Nat.reduceAdd, Nat.reduceEqDiff, Int.reduceToNat, Int.reduceNeg, nle_T, nlt_T, neq_T, neq_F, b2_0, b2_b, both, reduceCtorEq]
      · have c1 : b < 0 := c1
        exact absurd (by omega : 0 ≤ b ∧ b < (P : Int)) (fun _ => by omega)
  by_cases c2 : 999 < b
  · refine CS_r hs hg h (-6) (k := 6) (by omega) (fun Q => ?_) (fun Q => ?_)
    · rcases (by omega : i = 0 ∨ i = 1 ∨ i = 2 ∨ i = 3) with r | r | r | r <;> subst r
      · simp (config := { contextual := true }) (disch := omega) only [R_X11_set_b0, R_X11_set_b1, hX, ct_refuse hX, rfC, true_and, and_true, true_implies, not_true_eq_false, false_implies, not_false_eq_true, false_and, and_false, or_true, true_or, false_or, or_false, implies_true, forall_const, kl_i, kl_n, kl_r, kl_l, tl_s, tl_n, List.cons_append, List.nil_append, Int.cast_ofNat_Int, w32_id, w64_id, le_T, le_F, lt_T, lt_F, eq_T, eq_F, reduceIte, ne_eq, Int.toNat_natCast, bi_0, bi_1, bi_b, Nat.reduceAdd, Nat.reduceEqDiff, Int.reduceToNat, Int.reduceNeg, nle_T, nlt_T, neq_T, neq_F, b2_0, b2_b, both, reduceCtorEq]
      · simp (config := { contextual := true }) (disch := omega) only [R_X11_set_b0, R_X11_set_b1, hX, ct_refuse hX, rfC, true_and, and_true, true_implies, not_true_eq_false, false_implies, not_false_eq_true, false_and, and_false, or_true, true_or, false_or, or_false, implies_true, forall_const, kl_i, kl_n, kl_r, kl_l, tl_s, tl_n, List.cons_append, List.nil_append, Int.cast_ofNat_Int, w32_id, w64_id, le_T, le_F, lt_T, lt_F, eq_T, eq_F, reduceIte, ne_eq, Int.toNat_natCast, bi_0, bi_1, bi_b, Nat.reduceAdd, Nat.reduceEqDiff, Int.reduceToNat, Int.reduceNeg, nle_T, nlt_T, neq_T, neq_F, b2_0, b2_b, both, reduceCtorEq]
      · simp (config := { contextual := true }) (disch := omega) only [R_X11_set_b0, R_X11_set_b1, hX, ct_refuse hX, rfC, true_and, and_true, true_implies, not_true_eq_false, false_implies, not_false_eq_true, false_and, and_false, or_true, true_or, false_or, or_false, implies_true, forall_const, kl_i, kl_n, kl_r, kl_l, tl_s, tl_n, List.cons_append, List.nil_append, Int.cast_ofNat_Int, w32_id, w64_id, le_T, le_F, lt_T, lt_F, eq_T, eq_F, reduceIte, ne_eq, Int.toNat_natCast, bi_0, bi_1, bi_b, Nat.reduceAdd, Nat.reduceEqDiff, Int.reduceToNat, Int.reduceNeg, nle_T, nlt_T, neq_T, neq_F, b2_0, b2_b, both, reduceCtorEq]
      · exact absurd (by omega : 0 ≤ b ∧ b < (P : Int)) (fun _ => by omega)
    · rcases (by omega : i = 0 ∨ i = 1 ∨ i = 2 ∨ i = 3) with r | r | r | r <;> subst r
      · have eb : bnd b 0 999 = -6 := by unfold bnd; rw [if_neg (by omega), if_pos c2]
        simp (config := { contextual := true }) (disch := omega) only [R_X12_set, hW, ct_isIn, pa, ct_bound, eb, ct_no hW, pr_o, rfC, rfM, true_and, and_true, true_implies, not_true_eq_false, false_implies, not_false_eq_true, false_and, and_false, or_true, true_or, false_or, or_false, implies_true, forall_const, kl_i, kl_n, kl_r, kl_l, tl_s, tl_n, List.cons_append, List.nil_append, Int.cast_ofNat_Int, w32_id, w64_id, le_T, le_F, lt_T, lt_F, eq_T, eq_F, reduceIte, ne_eq, Int.toNat_natCast, bi_0, bi_1, bi_b, Nat.reduceAdd, Nat.reduceEqDiff, Int.reduceToNat, Int.reduceNeg, nle_T, nlt_T, neq_T, neq_F, b2_0, b2_b, both, reduceCtorEq]
      · have eb : bnd b 0 999 = -6 := by unfold bnd; rw [if_neg (by omega), if_pos c2]
        simp (config := { contextual := true }) (disch := omega) only [R_X12_set, hW, ct_isIn, pa, ct_bound, eb, ct_no hW, pr_o, rfC, rfM, true_and, and_true, true_implies, not_true_eq_false, false_implies, not_false_eq_true, false_and, and_false, or_true, true_or, false_or, or_false, implies_true, forall_const, kl_i, kl_n, kl_r, kl_l, tl_s, tl_n, List.cons_append, List.nil_append, Int.cast_ofNat_Int, w32_id, w64_id, le_T, le_F, lt_T, lt_F, eq_T, eq_F, reduceIte, ne_eq, Int.toNat_natCast, bi_0, bi_1, bi_b, Nat.reduceAdd, Nat.reduceEqDiff, Int.reduceToNat, Int.reduceNeg, nle_T, nlt_T, neq_T, neq_F, b2_0, b2_b, both, reduceCtorEq]
      · have eb : bnd b 1 999 = -6 := by unfold bnd; rw [if_neg (by omega), if_pos c2]
        simp (config := { contextual := true }) (disch := omega) only [R_X12_set, hW, ct_isIn, pa, ct_bound, eb, ct_no hW, pr_o, rfC, rfM, true_and, and_true, true_implies, not_true_eq_false, false_implies, not_false_eq_true, false_and, and_false, or_true, true_or, false_or, or_false, implies_true, forall_const, kl_i, kl_n, kl_r, kl_l, tl_s, tl_n, List.cons_append, List.nil_append, Int.cast_ofNat_Int, w32_id, w64_id, le_T, le_F, lt_T, lt_F, eq_T, eq_F, reduceIte, ne_eq, Int.toNat_natCast, bi_0, bi_1, bi_b, Nat.reduceAdd, Nat.reduceEqDiff, Int.reduceToNat, Int.reduceNeg, nle_T, nlt_T, neq_T, neq_F, b2_0, b2_b, both, reduceCtorEq]
      · exact absurd (by omega : 0 ≤ b ∧ b < (P : Int)) (fun _ => by omega)
  exact hset _ rfl (by omega) (by omega) (fun z => by omega)
end CHG

-- have, may, life, nextLife, call, person
theorem bi_c {c c' : Prop} [Decidable c] [Decidable c'] (h : c = c') : bi c = bi c' := by
  by_cases q : c
  · rw [bi_T q, bi_T (h ▸ q)]
  · rw [bi_F q, bi_F (fun z => q (h ▸ z))]
section MORE
variable {L : Nat} {xs : Nat → Int32} {g : GG} {I : II} {t dr : Nat} {A : II} {P w n q m : Nat}
theorem cs_have (hs : SS L xs g I) (hg : 90 ≤ gN g) (h : RQ g I t dr A P w n q m) (a : Int) : CS L xs g I m_X11_have m_X12_have [some (vi a)] [some (vi a)] vi := by
  have hW := h.2.2.1.1
  have hX := h.2.2.1.2.1
  obtain ⟨ht1, ht2, hT⟩ := RQ_t h
  have h50 := h.2.1.1
  obtain ⟨hP, hP'⟩ := RQ_P h
  have hS := RQ_S h
  have hP8 := hS.2.1
  obtain ⟨hn, hn'⟩ := RQ_n h
  by_cases pa : 0 ≤ a ∧ a < (n : Int)
  case neg =>
    refine CS_r hs hg h (-1) (k := 1) (by omega) (fun Q => ?_) (fun Q => ?_)
    · simp (config := { contextual := true }) (disch := omega) only [R_X11_have, hX, hT, h50, hn, ct_isThing hT, ct_refuse hX, pa, rfC, true_and, and_true, true_implies, not_true_eq_false, false_implies, not_false_eq_true, false_and, and_false, or_true, true_or, false_or, or_false, implies_true, forall_const, kl_i, kl_n, kl_r, kl_l, tl_s, tl_n, List.cons_append, List.nil_append, Int.cast_ofNat_Int, w32_id, w64_id, le_T, le_F, lt_T, lt_F, eq_T, eq_F, reduceIte, ne_eq, Int.toNat_natCast, bi_0, bi_1, bi_b, Nat.reduceAdd, Nat.reduceEqDiff, Int.reduceToNat, Int.reduceNeg, nle_T, nlt_T, neq_T, neq_F, b2_0, b2_b, both, reduceCtorEq]
    · simp (config := { contextual := true }) (disch := omega) only [R_X12_have, hW, hn', ct_misThing hW, ct_no hW, pr_o, pa, rfC, rfM, true_and, and_true, true_implies, not_true_eq_false, false_implies, not_false_eq_true, false_and, and_false, or_true, true_or, false_or, or_false, implies_true, forall_const, kl_i, kl_n, kl_r, kl_l, tl_s, tl_n, List.cons_append, List.nil_append, Int.cast_ofNat_Int, w32_id, w64_id, le_T, le_F, lt_T, lt_F, eq_T, eq_F, reduceIte, ne_eq, Int.toNat_natCast, bi_0, bi_1, bi_b, Nat.reduceAdd, Nat.reduceEqDiff, Int.reduceToNat, Int.reduceNeg, nle_T, nlt_T, neq_T, neq_F, b2_0, b2_b, both, reduceCtorEq]
  obtain ⟨i, rfl⟩ := Int.eq_ofNat_of_zero_le pa.1
  have hi : i < n := by omega
  have hA := okS_A hS
  have hn7 := hA.1
  have hi7 : i < 7 := by omega
  obtain ⟨ok, hpl⟩ := hA.2 i hi
  have T := h.2.2.2.2.1
  obtain ⟨l0, l1, l2⟩ := T.2.2.2.2.2.2.2.2.2.2.1
  have lh := T.2.2.2.2.2.2.2.2.2.2.2
  have s0 := T.2.2.2.2.1 0 (by omega)
  have s1 := T.2.2.2.2.1 1 (by omega)
  obtain ⟨r3, r4, r5, r6, r7, r8, r9, r10, r11, r12, r13⟩ := RQ_r h
  obtain ⟨f14, f15, f16, f17, f18, f35, f36, f37⟩ := RQ_f h
  have hz := h.2.2.2.2.2.2.2.2.2.2.2.2.2
  obtain ⟨hb7', hb0⟩ := hS.2.2.2.2.2.2.2.2.2.2.1
  have hat := hS.2.2.2.2.2.2.2.2.2.2.2.1
  have hag := hS.2.2.2.2.2.2.2.2.2.2.2.2
  have hst := (okS_S hS).2.1
  have hL : WL g (t + 10) (t + 11) := by simp only [WL, hT, and_self]
  have hhi := hb7' i hi7
  have lhi := lh i hi7
  have kmt := fun d Q => ct_mayTake (d := d) hT hL (RQ_TH h) hA hi (by rw [lhi]; omega) Q
  have ebi : bi (A 4 i = A 14 5 ∧ opn (A 3 i) (A 5 i) (A 6 i) i (I (t + 11))) = bi (A 4 i = A 14 5 ∧ opn (A 3 i) (A 5 i) (A 6 i) i (A 13)) := bi_c (by rw [opn_c ok lh])
  rw [l0, ebi] at kmt
  have ktk := fun d Q => ct_take (d := d) hT hL (by omega) (RQ_TH h) hA hi (by rw [lhi]; omega) (by rw [l1]; omega) (by rw [s1]; omega) Q
  rw [l1, l2, lhi, s0, s1] at ktk
  by_cases c : A 4 i = A 14 5 ∧ opn (A 3 i) (A 5 i) (A 6 i) i (A 13)
  · obtain ⟨I1, hI1⟩ : ∃ I1, I1 = pr (pr I (t + 11) (uf (I (t + 11)) i (A 13 i + 1))) (t + 10) (uf (I (t + 10)) 2 (w32 (A 14 7 + wOf A i (A 14 6) (A 13 i)))) := ⟨_, rfl⟩
    have hJ1 : ∀ c, ¬ c = t + 10 → ¬ c = t + 11 → I1 c = I c := fun c c1 c2 => by rw [hI1, pr_o c1, pr_o c2]
    have e32 : w32 (A 13 i + 1) = A 13 i + 1 := w32_id (by omega) (by omega)
    have ew : wth (A 3 i) (A 5 i) (A 6 i) (A 7 0) (A 7 1) (A 14 6) (A 13 i) = wOf A i (A 14 6) (A 13 i) := rfl
    rw [e32, ew, ← hI1] at ktk
    have e62 : I1 62 = A 3 := by rw [hJ1 62 (by omega) (by omega)]; exact r3
    have e63 : I1 63 = A 4 := by rw [hJ1 63 (by omega) (by omega)]; exact r4
    have e64' : I1 64 = A 5 := by rw [hJ1 64 (by omega) (by omega)]; exact r5
    have e65 : I1 65 = A 6 := by rw [hJ1 65 (by omega) (by omega)]; exact r6
    have e66 : I1 66 = A 7 := by rw [hJ1 66 (by omega) (by omega)]; exact r7
    have e81 : I1 81 = A 13 := by rw [hJ1 81 (by omega) (by omega)]; exact r13
    have e57 : I1 57 = I 57 := hJ1 57 (by omega) (by omega)
    have ok' : okTh (I1 62 i) i (I1 64 i) (I1 65 i) := by rw [e62, e64', e65]; exact ok
    have kmh := fun d Q => ct_mayHave (d := d) (I := I1) hW hi7 ok' Q (by rw [e57, f36]; omega) (by rw [e66]; omega) (by rw [e81]; omega)
    have khi := fun d Q => ct_hasIt (d := d) (I := I1) hW hi7 ok' Q (by rw [e57, f36]; omega) (by rw [e66]; omega) (by rw [e81]; omega)
    rw [e62, e63, e64', e65, e81, e57, f35] at kmh
    rw [e62, e64', e65, e66, e81, e57, f36, f37, e32, ew] at khi
    have hk7 : hb7 (uf (A 13) i (A 13 i + 1)) := (okL_tk0 (x := (A 14 5, A 14 6, A 14 7, A 13)) hA hi ⟨by show 0 ≤ A 14 5 ∧ A 14 5 < 8; omega, by show 0 ≤ A 14 6 ∧ A 14 6 ≤ 1000; omega, hb7'⟩ c).2.2
    refine CS_s hs hg h (wOf A i (A 14 6) (A 13 i)) (I1 := I1) (J := pr (pr I1 81 (uf (A 13) i (A 13 i + 1))) 57 (uf (I 57) 37 (w32 (A 14 7 + wOf A i (A 14 6) (A 13 i))))) (fun Q => ?_) ⟨hJ1 0 (by omega) (by omega), hJ1 1 (by omega) (by omega), hJ1 2 (by omega) (by omega)⟩ (fun Q => ?_) ⟨by rw [pr_o (by omega), pr_o (by omega)]; exact hJ1 0 (by omega) (by omega), by rw [pr_o (by omega), pr_o (by omega)]; exact hJ1 1 (by omega) (by omega), by rw [pr_o (by omega), pr_o (by omega)]; exact hJ1 2 (by omega) (by omega)⟩ (A' := pr (pr A 13 (uf (A 13) i (A 13 i + 1))) 14 (uf (A 14) 7 (w32 (A 14 7 + wOf A i (A 14 6) (A 13 i))))) (RQ_life h (fun k hk => by rw [pr_o (by omega), pr_o (by omega)]) (fun j hj => by rw [pr_s, uf_o (by omega)]) (fun c c1 c2 c3 c4 c5 => by rw [pr_o c3, pr_o c4, hJ1 c c1 c2]) ?_ ?_ ?_ ?_ ?_ ?_ ?_ ?_)
    · simp (config := { contextual := true }) (disch := omega) only [R_X11_have, hX, hT, h50, hn, ct_isThing hT, pa, kmt, c, ktk, true_and, and_true, true_implies, not_true_eq_false, false_implies, not_false_eq_true, false_and, and_false, or_true, true_or, false_or, or_false, implies_true, forall_const, kl_i, kl_n, kl_r, kl_l, tl_s, tl_n, List.cons_append, List.nil_append, Int.cast_ofNat_Int, w32_id, w64_id, le_T, le_F, lt_T, lt_F, eq_T, eq_F, reduceIte, ne_eq, Int.toNat_natCast, bi_0, bi_1, bi_b, Nat.reduceAdd, Nat.reduceEqDiff, Int.reduceToNat, Int.reduceNeg, nle_T, nlt_T, neq_T, neq_F, b2_0, b2_b, both, reduceCtorEq]
    · have n16 : I1 57 16 = (n : Int) := by rw [e57]; exact hn'
      simp (config := { contextual := true }) (disch := omega) only [R_X12_have, hW, n16, ct_misThing hW, pa, kmh, c, khi, true_and, and_true, true_implies, not_true_eq_false, false_implies, not_false_eq_true, false_and, and_false, or_true, true_or, false_or, or_false, implies_true, forall_const, kl_i, kl_n, kl_r, kl_l, tl_s, tl_n, List.cons_append, List.nil_append, Int.cast_ofNat_Int, w32_id, w64_id, le_T, le_F, lt_T, lt_F, eq_T, eq_F, reduceIte, ne_eq, Int.toNat_natCast, bi_0, bi_1, bi_b, Nat.reduceAdd, Nat.reduceEqDiff, Int.reduceToNat, Int.reduceNeg, nle_T, nlt_T, neq_T, neq_F, b2_0, b2_b, both, reduceCtorEq]
    · rw [pr_o (by omega), pr_o (by omega), pr_s, hI1, pr_s]
      exact ⟨by rw [uf_o (by omega), uf_o (by omega)]; exact l0, by rw [uf_o (by omega), uf_o (by omega)]; exact l1, by rw [uf_s, uf_s]⟩
    · intro j hj
      rw [pr_o (by omega), pr_o (by omega), pr_o (by omega), pr_s, hI1, pr_o (by omega), pr_s]
      unfold uf
      by_cases z : j = i
      · rw [if_pos z, if_pos z]
      · rw [if_neg z, if_neg z]; exact lh j hj
    · intro j hj
      rw [pr_s, uf_o (by omega)]
    · rw [pr_s, pr_s]
      exact ⟨by rw [uf_o (by omega), uf_o (by omega)]; exact f35, by rw [uf_o (by omega), uf_o (by omega)]; exact f36, by rw [uf_s, uf_s]⟩
    · rw [pr_o (by omega), pr_s, pr_o (by omega), pr_s]
    · intro j hj
      rw [pr_o (by omega), pr_s, uf_o (by omega), ← r13]
      exact hz j hj
    · rw [pr_o (by omega), pr_s]
      refine ⟨hk7, fun j h1 h2 => ?_⟩
      rw [uf_o (by omega)]
      exact hb0 j h1 h2
    · rw [pr_s, uf_o (by omega), uf_o (by omega)]
      exact ⟨hat, hag⟩
  · have e62 : rfC I 3 62 = A 3 := by unfold rfC; rw [pr_o (by omega)]; exact r3
    have e63 : rfC I 3 63 = A 4 := by unfold rfC; rw [pr_o (by omega)]; exact r4
    have e64' : rfC I 3 64 = A 5 := by unfold rfC; rw [pr_o (by omega)]; exact r5
    have e65 : rfC I 3 65 = A 6 := by unfold rfC; rw [pr_o (by omega)]; exact r6
    have e66 : rfC I 3 66 = A 7 := by unfold rfC; rw [pr_o (by omega)]; exact r7
    have e81 : rfC I 3 81 = A 13 := by unfold rfC; rw [pr_o (by omega)]; exact r13
    have e57 : rfC I 3 57 = I 57 := by unfold rfC; rw [pr_o (by omega)]
    have ok' : okTh (rfC I 3 62 i) i (rfC I 3 64 i) (rfC I 3 65 i) := by rw [e62, e64', e65]; exact ok
    have kmh := fun d Q => ct_mayHave (d := d) (I := rfC I 3) hW hi7 ok' Q (by rw [e57, f36]; omega) (by rw [e66]; omega) (by rw [e81]; omega)
    rw [e62, e63, e64', e65, e81, e57, f35] at kmh
    refine CS_r hs hg h (-3) (k := 3) (by omega) (fun Q => ?_) (fun Q => ?_)
    · simp (config := { contextual := true }) (disch := omega) only [R_X11_have, hX, hT, h50, hn, ct_isThing hT, pa, kmt, c, ct_refuse hX, rfC, true_and, and_true, true_implies, not_true_eq_false, false_implies, not_false_eq_true, false_and, and_false, or_true, true_or, false_or, or_false, implies_true, forall_const, kl_i, kl_n, kl_r, kl_l, tl_s, tl_n, List.cons_append, List.nil_append, Int.cast_ofNat_Int, w32_id, w64_id, le_T, le_F, lt_T, lt_F, eq_T, eq_F, reduceIte, ne_eq, Int.toNat_natCast, bi_0, bi_1, bi_b, Nat.reduceAdd, Nat.reduceEqDiff, Int.reduceToNat, Int.reduceNeg, nle_T, nlt_T, neq_T, neq_F, b2_0, b2_b, both, reduceCtorEq]
    · have n16 : rfC I 3 57 16 = (n : Int) := by rw [e57]; exact hn'
      generalize rfC I 3 = I3 at *
      simp (config := { contextual := true }) (disch := omega) only [R_X12_have, hW, n16, ct_misThing hW, pa, kmh, c, ct_no hW, rfM, true_and, and_true, true_implies, not_true_eq_false, false_implies, not_false_eq_true, false_and, and_false, or_true, true_or, false_or, or_false, implies_true, forall_const, kl_i, kl_n, kl_r, kl_l, tl_s, tl_n, List.cons_append, List.nil_append, Int.cast_ofNat_Int, w32_id, w64_id, le_T, le_F, lt_T, lt_F, eq_T, eq_F, reduceIte, ne_eq, Int.toNat_natCast, bi_0, bi_1, bi_b, Nat.reduceAdd, Nat.reduceEqDiff, Int.reduceToNat, Int.reduceNeg, nle_T, nlt_T, neq_T, neq_F, b2_0, b2_b, both, reduceCtorEq]
theorem cs_may (hs : SS L xs g I) (hg : 90 ≤ gN g) (h : RQ g I t dr A P w n q m) (a : Int) : CS L xs g I m_X11_may m_X12_may [some (vi a)] [some (vi a)] vi := by
  have hW := h.2.2.1.1
  have hX := h.2.2.1.2.1
  obtain ⟨ht1, ht2, hT⟩ := RQ_t h
  have h50 := h.2.1.1
  obtain ⟨hP, hP'⟩ := RQ_P h
  have hS := RQ_S h
  have hP8 := hS.2.1
  obtain ⟨hn, hn'⟩ := RQ_n h
  by_cases pa : 0 ≤ a ∧ a < (n : Int)
  case neg =>
    refine CS_r hs hg h (-1) (k := 1) (by omega) (fun Q => ?_) (fun Q => ?_)
    · simp (config := { contextual := true }) (disch := omega) only [R_X11_may, hX, hT, h50, hn, ct_isThing hT, ct_refuse hX, pa, rfC, true_and, and_true, true_implies, not_true_eq_false, false_implies, not_false_eq_true, false_and, and_false, or_true, true_or, false_or, or_false, implies_true, forall_const, kl_i, kl_n, kl_r, kl_l, tl_s, tl_n, List.cons_append, List.nil_append, Int.cast_ofNat_Int, w32_id, w64_id, le_T, le_F, lt_T, lt_F, eq_T, eq_F, reduceIte, ne_eq, Int.toNat_natCast, bi_0, bi_1, bi_b, Nat.reduceAdd, Nat.reduceEqDiff, Int.reduceToNat, Int.reduceNeg, nle_T, nlt_T, neq_T, neq_F, b2_0, b2_b, both, reduceCtorEq]
    · simp (config := { contextual := true }) (disch := omega) only [R_X12_may, hW, hn', ct_misThing hW, ct_no hW, pr_o, pa, rfC, rfM, true_and, and_true, true_implies, not_true_eq_false, false_implies, not_false_eq_true, false_and, and_false, or_true, true_or, false_or, or_false, implies_true, forall_const, kl_i, kl_n, kl_r, kl_l, tl_s, tl_n, List.cons_append, List.nil_append, Int.cast_ofNat_Int, w32_id, w64_id, le_T, le_F, lt_T, lt_F, eq_T, eq_F, reduceIte, ne_eq, Int.toNat_natCast, bi_0, bi_1, bi_b, Nat.reduceAdd, Nat.reduceEqDiff, Int.reduceToNat, Int.reduceNeg, nle_T, nlt_T, neq_T, neq_F, b2_0, b2_b, both, reduceCtorEq]
  obtain ⟨i, rfl⟩ := Int.eq_ofNat_of_zero_le pa.1
  have hi : i < n := by omega
  have hA := okS_A hS
  have hn7 := hA.1
  have hi7 : i < 7 := by omega
  obtain ⟨ok, hpl⟩ := hA.2 i hi
  have T := h.2.2.2.2.1
  obtain ⟨l0, l1, l2⟩ := T.2.2.2.2.2.2.2.2.2.2.1
  have lh := T.2.2.2.2.2.2.2.2.2.2.2
  obtain ⟨r3, r4, r5, r6, r7, r8, r9, r10, r11, r12, r13⟩ := RQ_r h
  obtain ⟨f14, f15, f16, f17, f18, f35, f36, f37⟩ := RQ_f h
  obtain ⟨hb7', hb0⟩ := hS.2.2.2.2.2.2.2.2.2.2.1
  have hag := hS.2.2.2.2.2.2.2.2.2.2.2.2
  have hst := (okS_S hS).2.1
  have hL : WL g (t + 10) (t + 11) := by simp only [WL, hT, and_self]
  have hhi := hb7' i hi7
  have lhi := lh i hi7
  have kmt := fun d Q => ct_mayTake (d := d) hT hL (RQ_TH h) hA hi (by rw [lhi]; omega) Q
  have ebi : bi (A 4 i = A 14 5 ∧ opn (A 3 i) (A 5 i) (A 6 i) i (I (t + 11))) = bi (A 4 i = A 14 5 ∧ opn (A 3 i) (A 5 i) (A 6 i) i (A 13)) := bi_c (by rw [opn_c ok lh])
  rw [l0, ebi] at kmt
  have ok' : okTh (I 62 i) i (I 64 i) (I 65 i) := by rw [r3, r5, r6]; exact ok
  have kmh := fun d Q => ct_mayHave (d := d) hW hi7 ok' Q (by rw [f36]; omega) (by rw [r7]; omega) (by rw [r13]; omega)
  rw [r3, r4, r5, r6, r13, f35] at kmh
  by_cases c : A 4 i = A 14 5 ∧ opn (A 3 i) (A 5 i) (A 6 i) i (A 13)
  · refine CS_q hs hg h 1 (fun Q => ?_) (sm_rf I) (fun Q => ?_) (sm_rf I)
    · simp (config := { contextual := true }) (disch := omega) only [R_X11_may, hX, hT, h50, hn, ct_isThing hT, pa, kmt, c, true_and, and_true, true_implies, not_true_eq_false, false_implies, not_false_eq_true, false_and, and_false, or_true, true_or, false_or, or_false, implies_true, forall_const, kl_i, kl_n, kl_r, kl_l, tl_s, tl_n, List.cons_append, List.nil_append, Int.cast_ofNat_Int, w32_id, w64_id, le_T, le_F, lt_T, lt_F, eq_T, eq_F, reduceIte, ne_eq, Int.toNat_natCast, bi_0, bi_1, bi_b, Nat.reduceAdd, Nat.reduceEqDiff, Int.reduceToNat, Int.reduceNeg, nle_T, nlt_T, neq_T, neq_F, b2_0, b2_b, both, reduceCtorEq]
    · simp (config := { contextual := true }) (disch := omega) only [R_X12_may, hW, hn', ct_misThing hW, pa, kmh, c, true_and, and_true, true_implies, not_true_eq_false, false_implies, not_false_eq_true, false_and, and_false, or_true, true_or, false_or, or_false, implies_true, forall_const, kl_i, kl_n, kl_r, kl_l, tl_s, tl_n, List.cons_append, List.nil_append, Int.cast_ofNat_Int, w32_id, w64_id, le_T, le_F, lt_T, lt_F, eq_T, eq_F, reduceIte, ne_eq, Int.toNat_natCast, bi_0, bi_1, bi_b, Nat.reduceAdd, Nat.reduceEqDiff, Int.reduceToNat, Int.reduceNeg, nle_T, nlt_T, neq_T, neq_F, b2_0, b2_b, both, reduceCtorEq]
  · refine CS_q hs hg h 0 (fun Q => ?_) (sm_rf I) (fun Q => ?_) (sm_rf I)
    · simp (config := { contextual := true }) (disch := omega) only [R_X11_may, hX, hT, h50, hn, ct_isThing hT, pa, kmt, c, true_and, and_true, true_implies, not_true_eq_false, false_implies, not_false_eq_true, false_and, and_false, or_true, true_or, false_or, or_false, implies_true, forall_const, kl_i, kl_n, kl_r, kl_l, tl_s, tl_n, List.cons_append, List.nil_append, Int.cast_ofNat_Int, w32_id, w64_id, le_T, le_F, lt_T, lt_F, eq_T, eq_F, reduceIte, ne_eq, Int.toNat_natCast, bi_0, bi_1, bi_b, Nat.reduceAdd, Nat.reduceEqDiff, Int.reduceToNat, Int.reduceNeg, nle_T, nlt_T, neq_T, neq_F, b2_0, b2_b, both, reduceCtorEq]
    · simp (config := { contextual := true }) (disch := omega) only [R_X12_may, hW, hn', ct_misThing hW, pa, kmh, c, true_and, and_true, true_implies, not_true_eq_false, false_implies, not_false_eq_true, false_and, and_false, or_true, true_or, false_or, or_false, implies_true, forall_const, kl_i, kl_n, kl_r, kl_l, tl_s, tl_n, List.cons_append, List.nil_append, Int.cast_ofNat_Int, w32_id, w64_id, le_T, le_F, lt_T, lt_F, eq_T, eq_F, reduceIte, ne_eq, Int.toNat_natCast, bi_0, bi_1, bi_b, Nat.reduceAdd, Nat.reduceEqDiff, Int.reduceToNat, Int.reduceNeg, nle_T, nlt_T, neq_T, neq_F, b2_0, b2_b, both, reduceCtorEq]
theorem cs_life (hs : SS L xs g I) (hg : 90 ≤ gN g) (h : RQ g I t dr A P w n q m) (a : Int) : CS L xs g I m_X11_life m_X12_life [some (vi a)] [some (vi a)] vi := by
  have hW := h.2.2.1.1
  have hX := h.2.2.1.2.1
  obtain ⟨ht1, ht2, hT⟩ := RQ_t h
  have h50 := h.2.1.1
  obtain ⟨hP, hP'⟩ := RQ_P h
  have hS := RQ_S h
  have hP8 := hS.2.1
  have T := h.2.2.2.2.1
  obtain ⟨l0, l1, l2⟩ := T.2.2.2.2.2.2.2.2.2.2.1
  have s0 := T.2.2.2.2.1 0 (by omega)
  have s1 := T.2.2.2.2.1 1 (by omega)
  obtain ⟨r3, r4, r5, r6, r7, r8, r9, r10, r11, r12, r13⟩ := RQ_r h
  obtain ⟨f14, f15, f16, f17, f18, f35, f36, f37⟩ := RQ_f h
  by_cases c0 : a = 0
  · subst c0
    refine CS_q hs hg h (A 14 5) (fun Q => ?_) (sm_rf I) (fun Q => ?_) (sm_rf I)
    · simp (config := { contextual := true }) (disch := omega) only [R_X11_life_b0, R_X11_life_b1, hX, hT, h50, l0, true_and, and_true, true_implies, not_true_eq_false, false_implies, not_false_eq_true, false_and, and_false, or_true, true_or, false_or, or_false, implies_true, forall_const, kl_i, kl_n, kl_r, kl_l, tl_s, tl_n, List.cons_append, List.nil_append, Int.cast_ofNat_Int, w32_id, w64_id, le_T, le_F, lt_T, lt_F, eq_T, eq_F, reduceIte, ne_eq, Int.toNat_natCast, bi_0, bi_1, bi_b, Nat.reduceAdd, Nat.reduceEqDiff, Int.reduceToNat, Int.reduceNeg, nle_T, nlt_T, neq_T, neq_F, b2_0, b2_b, both, reduceCtorEq]
    · simp (config := { contextual := true }) (disch := omega) only [R_X12_life, hW, f35, true_and, and_true, true_implies, not_true_eq_false, false_implies, not_false_eq_true, false_and, and_false, or_true, true_or, false_or, or_false, implies_true, forall_const, kl_i, kl_n, kl_r, kl_l, tl_s, tl_n, List.cons_append, List.nil_append, Int.cast_ofNat_Int, w32_id, w64_id, le_T, le_F, lt_T, lt_F, eq_T, eq_F, reduceIte, ne_eq, Int.toNat_natCast, bi_0, bi_1, bi_b, Nat.reduceAdd, Nat.reduceEqDiff, Int.reduceToNat, Int.reduceNeg, nle_T, nlt_T, neq_T, neq_F, b2_0, b2_b, both, reduceCtorEq]
  by_cases c1 : a = 1
  · subst c1
    refine CS_q hs hg h (A 14 6) (fun Q => ?_) (sm_rf I) (fun Q => ?_) (sm_rf I)
    · simp (config := { contextual := true }) (disch := omega) only [R_X11_life_b0, R_X11_life_b1, hX, hT, h50, l1, true_and, and_true, true_implies, not_true_eq_false, false_implies, not_false_eq_true, false_and, and_false, or_true, true_or, false_or, or_false, implies_true, forall_const, kl_i, kl_n, kl_r, kl_l, tl_s, tl_n, List.cons_append, List.nil_append, Int.cast_ofNat_Int, w32_id, w64_id, le_T, le_F, lt_T, lt_F, eq_T, eq_F, reduceIte, ne_eq, Int.toNat_natCast, bi_0, bi_1, bi_b, Nat.reduceAdd, Nat.reduceEqDiff, Int.reduceToNat, Int.reduceNeg, nle_T, nlt_T, neq_T, neq_F, b2_0, b2_b, both, reduceCtorEq]
    · simp (config := { contextual := true }) (disch := omega) only [R_X12_life, hW, f36, true_and, and_true, true_implies, not_true_eq_false, false_implies, not_false_eq_true, false_and, and_false, or_true, true_or, false_or, or_false, implies_true, forall_const, kl_i, kl_n, kl_r, kl_l, tl_s, tl_n, List.cons_append, List.nil_append, Int.cast_ofNat_Int, w32_id, w64_id, le_T, le_F, lt_T, lt_F, eq_T, eq_F, reduceIte, ne_eq, Int.toNat_natCast, bi_0, bi_1, bi_b, Nat.reduceAdd, Nat.reduceEqDiff, Int.reduceToNat, Int.reduceNeg, nle_T, nlt_T, neq_T, neq_F, b2_0, b2_b, both, reduceCtorEq]
  by_cases c2 : a = 2
  · subst c2
    refine CS_q hs hg h (A 14 7) (fun Q => ?_) (sm_rf I) (fun Q => ?_) (sm_rf I)
    · simp (config := { contextual := true }) (disch := omega) only [R_X11_life_b0, R_X11_life_b1, hX, hT, h50, l2, true_and, and_true, true_implies, not_true_eq_false, false_implies, not_false_eq_true, false_and, and_false, or_true, true_or, false_or, or_false, implies_true, forall_const, kl_i, kl_n, kl_r, kl_l, tl_s, tl_n, List.cons_append, List.nil_append, Int.cast_ofNat_Int, w32_id, w64_id, le_T, le_F, lt_T, lt_F, eq_T, eq_F, reduceIte, ne_eq, Int.toNat_natCast, bi_0, bi_1, bi_b, Nat.reduceAdd, Nat.reduceEqDiff, Int.reduceToNat, Int.reduceNeg, nle_T, nlt_T, neq_T, neq_F, b2_0, b2_b, both, reduceCtorEq]
    · simp (config := { contextual := true }) (disch := omega) only [R_X12_life, hW, f37, true_and, and_true, true_implies, not_true_eq_false, false_implies, not_false_eq_true, false_and, and_false, or_true, true_or, false_or, or_false, implies_true, forall_const, kl_i, kl_n, kl_r, kl_l, tl_s, tl_n, List.cons_append, List.nil_append, Int.cast_ofNat_Int, w32_id, w64_id, le_T, le_F, lt_T, lt_F, eq_T, eq_F, reduceIte, ne_eq, Int.toNat_natCast, bi_0, bi_1, bi_b, Nat.reduceAdd, Nat.reduceEqDiff, Int.reduceToNat, Int.reduceNeg, nle_T, nlt_T, neq_T, neq_F, b2_0, b2_b, both, reduceCtorEq]
  by_cases c3 : a = 3
  · subst c3
    by_cases q : A 14 6 < A 7 0
    · refine CS_q hs hg h 0 (fun Q => ?_) (sm_rf I) (fun Q => ?_) (sm_rf I)
      · simp (config := { contextual := true }) (disch := omega) only [R_X11_life_b0, R_X11_life_b1, hX, hT, h50, l1, s0, true_and, and_true, true_implies, not_true_eq_false, false_implies, not_false_eq_true, false_and, and_false, or_true, true_or, false_or, or_false, implies_true, forall_const, kl_i, kl_n, kl_r, kl_l, tl_s, tl_n, List.cons_append, List.nil_append, Int.cast_ofNat_Int, w32_id, w64_id, le_T, le_F, lt_T, lt_F, eq_T, eq_F, reduceIte, ne_eq, Int.toNat_natCast, bi_0, bi_1, bi_b, Nat.reduceAdd, Nat.reduceEqDiff, Int.reduceToNat, Int.reduceNeg, nle_T, nlt_T, neq_T, neq_F, b2_0, b2_b, both, reduceCtorEq]
      · simp (config := { contextual := true }) (disch := omega) only [R_X12_life, hW, f36, r7, true_and, and_true, true_implies, not_true_eq_false, false_implies, not_false_eq_true, false_and, and_false, or_true, true_or, false_or, or_false, implies_true, forall_const, kl_i, kl_n, kl_r, kl_l, tl_s, tl_n, List.cons_append, List.nil_append, Int.cast_ofNat_Int, w32_id, w64_id, le_T, le_F, lt_T, lt_F, eq_T, eq_F, reduceIte, ne_eq, Int.toNat_natCast, bi_0, bi_1, bi_b, Nat.reduceAdd, Nat.reduceEqDiff, Int.reduceToNat, Int.reduceNeg, nle_T, nlt_T, neq_T, neq_F, b2_0, b2_b, both, reduceCtorEq]
    · refine CS_q hs hg h 1 (fun Q => ?_) (sm_rf I) (fun Q => ?_) (sm_rf I)
      · simp (config := { contextual := true }) (disch := omega) only [R_X11_life_b0, R_X11_life_b1, hX, hT, h50, l1, s0, true_and, and_true, true_implies, not_true_eq_false, false_implies, not_false_eq_true, false_and, and_false, or_true, true_or, false_or, or_false, implies_true, forall_const, kl_i, kl_n, kl_r, kl_l, tl_s, tl_n, List.cons_append, List.nil_append, Int.cast_ofNat_Int, w32_id, w64_id, le_T, le_F, lt_T, lt_F, eq_T, eq_F, reduceIte, ne_eq, Int.toNat_natCast, bi_0, bi_1, bi_b, Nat.reduceAdd, Nat.reduceEqDiff, Int.reduceToNat, Int.reduceNeg, nle_T, nlt_T, neq_T, neq_F, b2_0, b2_b, both, reduceCtorEq]
      · simp (config := { contextual := true }) (disch := omega) only [R_X12_life, hW, f36, r7, true_and, and_true, true_implies, not_true_eq_false, false_implies, not_false_eq_true, false_and, and_false, or_true, true_or, false_or, or_false, implies_true, forall_const, kl_i, kl_n, kl_r, kl_l, tl_s, tl_n, List.cons_append, List.nil_append, Int.cast_ofNat_Int, w32_id, w64_id, le_T, le_F, lt_T, lt_F, eq_T, eq_F, reduceIte, ne_eq, Int.toNat_natCast, bi_0, bi_1, bi_b, Nat.reduceAdd, Nat.reduceEqDiff, Int.reduceToNat, Int.reduceNeg, nle_T, nlt_T, neq_T, neq_F, b2_0, b2_b, both, reduceCtorEq]
  by_cases c4 : a = 4
  · subst c4
    by_cases q : A 14 6 < A 7 1
    · refine CS_q hs hg h 0 (fun Q => ?_) (sm_rf I) (fun Q => ?_) (sm_rf I)
      · simp (config := { contextual := true }) (disch := omega) only [R_X11_life_b0, R_X11_life_b1, hX, hT, h50, l1, s1, true_and, and_true, true_implies, not_true_eq_false, false_implies, not_false_eq_true, false_and, and_false, or_true, true_or, false_or, or_false, implies_true, forall_const, kl_i, kl_n, kl_r, kl_l, tl_s, tl_n, List.cons_append, List.nil_append, Int.cast_ofNat_Int, w32_id, w64_id, le_T, le_F, lt_T, lt_F, eq_T, eq_F, reduceIte, ne_eq, Int.toNat_natCast, bi_0, bi_1, bi_b, Nat.reduceAdd, Nat.reduceEqDiff, Int.reduceToNat, Int.reduceNeg, nle_T, nlt_T, neq_T, neq_F, b2_0, b2_b, both, reduceCtorEq]
      · simp (config := { contextual := true }) (disch := omega) only [R_X12_life, hW, f36, r7, true_and, and_true, true_implies, not_true_eq_false, false_implies, not_false_eq_true, false_and, and_false, or_true, true_or, false_or, or_false, implies_true, forall_const, kl_i, kl_n, kl_r, kl_l, tl_s, tl_n, List.cons_append, List.nil_append, Int.cast_ofNat_Int, w32_id, w64_id, le_T, le_F, lt_T, lt_F, eq_T, eq_F, reduceIte, ne_eq, Int.toNat_natCast, bi_0, bi_1, bi_b, Nat.reduceAdd, Nat.reduceEqDiff, Int.reduceToNat, Int.reduceNeg, nle_T, nlt_T, neq_T, neq_F, b2_0, b2_b, both, reduceCtorEq]
    · refine CS_q hs hg h 1 (fun Q => ?_) (sm_rf I) (fun Q => ?_) (sm_rf I)
      · simp (config := { contextual := true }) (disch := omega) only [R_X11_life_b0, R_X11_life_b1, hX, hT, h50, l1, s1, true_and, and_true, true_implies, not_true_eq_false, false_implies, not_false_eq_true, false_and, and_false, or_true, true_or, false_or, or_false, implies_true, forall_const, kl_i, kl_n, kl_r, kl_l, tl_s, tl_n, List.cons_append, List.nil_append, Int.cast_ofNat_Int, w32_id, w64_id, le_T, le_F, lt_T, lt_F, eq_T, eq_F, reduceIte, ne_eq, Int.toNat_natCast, bi_0, bi_1, bi_b, Nat.reduceAdd, Nat.reduceEqDiff, Int.reduceToNat, Int.reduceNeg, nle_T, nlt_T, neq_T, neq_F, b2_0, b2_b, both, reduceCtorEq]
      · simp (config := { contextual := true }) (disch := omega) only [R_X12_life, hW, f36, r7, true_and, and_true, true_implies, not_true_eq_false, false_implies, not_false_eq_true, false_and, and_false, or_true, true_or, false_or, or_false, implies_true, forall_const, kl_i, kl_n, kl_r, kl_l, tl_s, tl_n, List.cons_append, List.nil_append, Int.cast_ofNat_Int, w32_id, w64_id, le_T, le_F, lt_T, lt_F, eq_T, eq_F, reduceIte, ne_eq, Int.toNat_natCast, bi_0, bi_1, bi_b, Nat.reduceAdd, Nat.reduceEqDiff, Int.reduceToNat, Int.reduceNeg, nle_T, nlt_T, neq_T, neq_F, b2_0, b2_b, both, reduceCtorEq]
  have hb : a < 0 ∨ 4 < a := by omega
  refine CS_r hs hg h (-2) (k := 2) (by omega) (fun Q => ?_) (fun Q => ?_)
  · simp (config := { contextual := true }) (disch := omega) only [R_X11_life_b0, R_X11_life_b1, hX, hb, ct_refuse hX, rfC, true_and, and_true, true_implies, not_true_eq_false, false_implies, not_false_eq_true, false_and, and_false, or_true, true_or, false_or, or_false, implies_true, forall_const, kl_i, kl_n, kl_r, kl_l, tl_s, tl_n, List.cons_append, List.nil_append, Int.cast_ofNat_Int, w32_id, w64_id, le_T, le_F, lt_T, lt_F, eq_T, eq_F, reduceIte, ne_eq, Int.toNat_natCast, bi_0, bi_1, bi_b, Nat.reduceAdd, Nat.reduceEqDiff, Int.reduceToNat, Int.reduceNeg, nle_T, nlt_T, neq_T, neq_F, b2_0, b2_b, both, reduceCtorEq]
  · simp (config := { contextual := true }) (disch := omega) only [R_X12_life, hW, hb, ct_no hW, pr_o, rfC, rfM, true_and, and_true, true_implies, not_true_eq_false, false_implies, not_false_eq_true, false_and, and_false, or_true, true_or, false_or, or_false, implies_true, forall_const, kl_i, kl_n, kl_r, kl_l, tl_s, tl_n, List.cons_append, List.nil_append, Int.cast_ofNat_Int, w32_id, w64_id, le_T, le_F, lt_T, lt_F, eq_T, eq_F, reduceIte, ne_eq, Int.toNat_natCast, bi_0, bi_1, bi_b, Nat.reduceAdd, Nat.reduceEqDiff, Int.reduceToNat, Int.reduceNeg, nle_T, nlt_T, neq_T, neq_F, b2_0, b2_b, both, reduceCtorEq]
theorem cs_nextLife (hs : SS L xs g I) (hg : 90 ≤ gN g) (h : RQ g I t dr A P w n q m) : CS L xs g I m_X11_nextLife m_X12_nextLife [none] [none] vi := by
  have hW := h.2.2.1.1
  have hX := h.2.2.1.2.1
  obtain ⟨ht1, ht2, hT⟩ := RQ_t h
  have h50 := h.2.1.1
  obtain ⟨hP, hP'⟩ := RQ_P h
  have hS := RQ_S h
  have hP8 := hS.2.1
  have T := h.2.2.2.2.1
  obtain ⟨l0, l1, l2⟩ := T.2.2.2.2.2.2.2.2.2.2.1
  have lh := T.2.2.2.2.2.2.2.2.2.2.2
  have s3 := T.2.2.2.2.1 3 (by omega)
  obtain ⟨r3, r4, r5, r6, r7, r8, r9, r10, r11, r12, r13⟩ := RQ_r h
  obtain ⟨f14, f15, f16, f17, f18, f35, f36, f37⟩ := RQ_f h
  have hz := h.2.2.2.2.2.2.2.2.2.2.2.2.2
  have hL : WL g (t + 10) (t + 11) := by simp only [WL, hT, and_self]
  have kb := fun d Q => ct_begin (d := d) (I := I) hL (by omega) Q (A 7 3)
  obtain ⟨I1, hI1⟩ : ∃ I1, I1 = pr (pr I (t + 10) (uf (uf (uf (I (t + 10)) 0 (A 7 3)) 1 0) 2 0)) (t + 11) (fll (fun _ => 0) 7 (I (t + 11))) := ⟨_, rfl⟩
  rw [← hI1] at kb
  have hJ1 : ∀ c, ¬ c = t + 10 → ¬ c = t + 11 → I1 c = I c := fun c c1 c2 => by rw [hI1, pr_o c2, pr_o c1]
  have kbm := fun d Q => ct_begins (d := d) (I := I1) hW Q (A 7 3)
  have e66 : I1 66 = A 7 := by rw [hJ1 66 (by omega) (by omega)]; exact r7
  have e57 : I1 57 = I 57 := hJ1 57 (by omega) (by omega)
  have e81 : I1 81 = A 13 := by rw [hJ1 81 (by omega) (by omega)]; exact r13
  rw [e57, e81] at kbm
  have hst := (okS_S hS).2.2.2
  have hho := hS.2.2.2.2.2.2.1
  refine CS_s hs hg h (A 14 7) (I1 := I1) (J := pr (pr I1 57 (uf (uf (uf (I 57) 35 (A 7 3)) 36 0) 37 0)) 81 (fll (fun _ => 0) 7 (A 13))) (fun Q => ?_) ⟨hJ1 0 (by omega) (by omega), hJ1 1 (by omega) (by omega), hJ1 2 (by omega) (by omega)⟩ (fun Q => ?_) ⟨by rw [pr_o (by omega), pr_o (by omega)]; exact hJ1 0 (by omega) (by omega), by rw [pr_o (by omega), pr_o (by omega)]; exact hJ1 1 (by omega) (by omega), by rw [pr_o (by omega), pr_o (by omega)]; exact hJ1 2 (by omega) (by omega)⟩ (A' := pr (pr A 13 (fll (fun _ => 0) 7 (A 13))) 14 (uf (uf (uf (A 14) 5 (A 7 3)) 6 0) 7 0)) (RQ_life h (fun k hk => by rw [pr_o (by omega), pr_o (by omega)]) (fun j hj => by rw [pr_s, uf_o (by omega), uf_o (by omega), uf_o (by omega)]) (fun c c1 c2 c3 c4 c5 => by rw [pr_o c4, pr_o c3, hJ1 c c1 c2]) ?_ ?_ ?_ ?_ ?_ ?_ ?_ ?_)
  · simp (config := { contextual := true }) (disch := omega) only [R_X11_nextLife, hX, hT, h50, l2, s3, kb, true_and, and_true, true_implies, not_true_eq_false, false_implies, not_false_eq_true, false_and, and_false, or_true, true_or, false_or, or_false, implies_true, forall_const, kl_i, kl_n, kl_r, kl_l, tl_s, tl_n, List.cons_append, List.nil_append, Int.cast_ofNat_Int, w32_id, w64_id, le_T, le_F, lt_T, lt_F, eq_T, eq_F, reduceIte, ne_eq, Int.toNat_natCast, bi_0, bi_1, bi_b, Nat.reduceAdd, Nat.reduceEqDiff, Int.reduceToNat, Int.reduceNeg, nle_T, nlt_T, neq_T, neq_F, b2_0, b2_b, both, reduceCtorEq]
  · simp (config := { contextual := true }) (disch := omega) only [R_X12_nextLife, hW, e57, f37, e66, kbm, true_and, and_true, true_implies, not_true_eq_false, false_implies, not_false_eq_true, false_and, and_false, or_true, true_or, false_or, or_false, implies_true, forall_const, kl_i, kl_n, kl_r, kl_l, tl_s, tl_n, List.cons_append, List.nil_append, Int.cast_ofNat_Int, w32_id, w64_id, le_T, le_F, lt_T, lt_F, eq_T, eq_F, reduceIte, ne_eq, Int.toNat_natCast, bi_0, bi_1, bi_b, Nat.reduceAdd, Nat.reduceEqDiff, Int.reduceToNat, Int.reduceNeg, nle_T, nlt_T, neq_T, neq_F, b2_0, b2_b, both, reduceCtorEq]
  · rw [pr_o (by omega), pr_o (by omega), pr_s, hI1, pr_o (by omega), pr_s]
    exact ⟨rfl, rfl, rfl⟩
  · intro j hj
    rw [pr_o (by omega), pr_o (by omega), pr_o (by omega), pr_s, hI1, pr_s]
    unfold fll
    rw [if_pos hj, if_pos hj]
  · intro j hj
    rw [pr_o (by omega), pr_s, uf_o (by omega), uf_o (by omega), uf_o (by omega)]
  · rw [pr_o (by omega), pr_s, pr_s]
    exact ⟨rfl, rfl, rfl⟩
  · rw [pr_s, pr_o (by omega), pr_s]
  · intro j hj
    rw [pr_s]
    unfold fll
    rw [if_neg (by omega), ← r13]
    exact hz j hj
  · rw [pr_o (by omega), pr_s]
    unfold fll
    refine ⟨fun j hj => ?_, fun j h1 h2 => ?_⟩
    · dsimp only
      rw [if_pos hj]; omega
    · rw [if_pos h2]
  · rw [pr_s]
    show (0 ≤ A 7 3 ∧ A 7 3 < P) ∧ (0 : Int) ≤ 0 ∧ (0 : Int) ≤ 999
    omega
end MORE

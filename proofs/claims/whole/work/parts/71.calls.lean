-- CALLS and GOES on both sides
section CSC
variable {L : Nat} {xs : Nat → Int32} {g : GG} {I : II} {t dr : Nat} {A : II} {P w n q m : Nat}
theorem RQ_W (h : RQ g I t dr A P w n q m) : okW A ∧ sgm (A 8) 8 = sgm (A 8) P ∧ (0 ≤ sgm (A 8) P ∧ sgm (A 8) P ≤ 72) := by
  have hS := RQ_S h
  have hP8 := hS.2.1
  have k := hS.2.2.2.2.2.2.2.1
  have hb : okW A := fun j hj => ⟨(k j hj).1, (k j hj).2.1⟩
  have e := sgm_z (f := A 8) (n := P) (8 - P) (fun j h1 h2 => (k j (by omega)).2.2 h1)
  rw [show P + (8 - P) = 8 by omega] at e
  have s := sgm_b (f := A 8) (c := 9) P (fun j hj => (hb j (by omega)).1)
  exact ⟨hb, e, by omega⟩
theorem RQ_CW (h : RQ g I t dr A P w n q m) {D : Nat → Int} (hD : bD D) (he : e64 (I (t + 2)) D) : CW g I t P A D := by
  obtain ⟨h1, h2, h3⟩ := RQ_t h
  have hS := RQ_S h
  have T := h.2.2.2.2.1.2.2.2.2
  have st := okS_S hS
  exact ⟨⟨h1, h.2.2.1.2.1, h3, h.2.1.1⟩, ⟨(RQ_P h).1, hS.2.1.2⟩, T.2.2.1, T.2.2.2.1, ⟨T.1 3 (by omega), st.2.2.2⟩, he, hD, (RQ_W h).1⟩
theorem RQ_MW (h : RQ g I t dr A P w n q m) {D : Nat → Int} (hD : bD D) (h72 : I 72 = D) : MW g I P A D := by
  have hS := RQ_S h
  obtain ⟨r3, r4, r5, r6, r7, r8, r9, r10, r11, r12, r13⟩ := RQ_r h
  exact ⟨h.2.2.1.1, ⟨(RQ_P h).2, hS.2.1.2⟩, r8, r9, r7, (okS_S hS).2.2.2, h72, hD, (RQ_W h).1⟩
theorem uk_0 : ∀ k, uk 0 (k + 1) = 0 := fun k => by show uk 0 k * 0 = 0; omega
theorem sgm_0 {f : Nat → Int} : ∀ k : Nat, (∀ j, j < k → 0 ≤ f j) → sgm f k = 0 → ∀ j, j < k → f j = 0
  | 0, _, _, j, hj => by omega
  | k + 1, h, e, j, hj => by
    have e : sgm f k + f k = 0 := e
    have h1 : 0 ≤ sgm f k := by
      clear e hj
      have : ∀ i, i ≤ k → 0 ≤ sgm f i := by
        intro i
        induction i with
        | zero => intro _; exact Int.le_refl 0
        | succ i ih => intro hi; show 0 ≤ sgm f i + f i; have := ih (by omega); have := h i (by omega); omega
      exact this k (Nat.le_refl k)
    have h2 := h k (by omega)
    by_cases c : j = k
    · subst c; omega
    · exact sgm_0 k (fun j hj => h j (by omega)) (by omega) j (by omega)
theorem mn_0 {D : Nat → Int} {W : Int} (hz : ∀ j, j < P → A 8 j = 0) : ∀ k hh, mn A D P W k hh = 0
  | 0, _ => rfl
  | k + 1, hh => by
    have : ∀ p, p ≤ P → smp A D (uk W k) (mn A D P W k) hh p = 0 := by
      intro p
      induction p with
      | zero => intro _; rfl
      | succ p ih =>
        intro hp
        show smp A D (uk W k) (mn A D P W k) hh p + tpm A D (uk W k) (mn A D P W k) hh p = 0
        rw [ih (by omega)]
        unfold tpm
        rw [hz p (by omega)]
        omega
    exact this P (Nat.le_refl P)
theorem cs_calls (hs : SS L xs g I) (hg : 90 ≤ gN g) (h : RQ g I t dr A P w n q m) (a b c : Int) : CS L xs g I m_X11_calls m_X12_calls [some (vi a), some (vi b), some (vi c), none, none, none, none, none, none] [some (vi a), some (vi b), some (vi c), none, none, none, none, none] vl := by
  have hW := h.2.2.1.1
  have hX := h.2.2.1.2.1
  obtain ⟨ht1, ht2, hT⟩ := RQ_t h
  have h50 := h.2.1.1
  obtain ⟨hP, hP'⟩ := RQ_P h
  have hS := RQ_S h
  have hP8 := hS.2.1
  by_cases pc : 0 ≤ c ∧ c ≤ 1
  case neg =>
    refine CS_r hs hg h 4000000000000000002 (k := 2) (by omega) (fun Q => ?_) (fun Q => ?_)
    · by_cases c1 : c < 0
      · simp (config := { contextual := true }) (disch := omega) only [R_X11_calls_b0, R_X11_calls_b1, hX, ct_refuseLong hX, rfC, true_and, and_true, true_implies, not_true_eq_false, false_implies, not_false_eq_true, false_and, and_false, or_true, true_or, false_or, or_false, implies_true, forall_const, kl_i, kl_n, kl_r, kl_l, tl_s, tl_n, List.cons_append, List.nil_append, Int.cast_ofNat_Int, w32_id, w64_id, le_T, le_F, lt_T, lt_F, eq_T, eq_F, reduceIte, ne_eq, Int.toNat_natCast, bi_0, bi_1, bi_b, Nat.reduceAdd, Nat.reduceEqDiff, Int.reduceToNat, Int.reduceNeg, nle_T, nlt_T, neq_T, neq_F, b2_0, b2_b, both, reduceCtorEq]
        rfl
      · simp (config := { contextual := true }) (disch := omega) only [R_X11_calls_b0, R_X11_calls_b1, hX, ct_refuseLong hX, rfC, true_and, and_true, true_implies, not_true_eq_false, false_implies, not_false_eq_true, false_and, and_false, or_true, true_or, false_or, or_false, implies_true, forall_const, kl_i, kl_n, kl_r, kl_l, tl_s, tl_n, List.cons_append, List.nil_append, Int.cast_ofNat_Int, w32_id, w64_id, le_T, le_F, lt_T, lt_F, eq_T, eq_F, reduceIte, ne_eq, Int.toNat_natCast, bi_0, bi_1, bi_b, Nat.reduceAdd, Nat.reduceEqDiff, Int.reduceToNat, Int.reduceNeg, nle_T, nlt_T, neq_T, neq_F, b2_0, b2_b, both, reduceCtorEq]
        rfl
    · simp (config := { contextual := true }) (disch := omega) only [R_X12_calls_b0, R_X12_calls_b1, hW, ct_isIn, pc, ct_noLong hW, pr_o, rfC, rfM, true_and, and_true, true_implies, not_true_eq_false, false_implies, not_false_eq_true, false_and, and_false, or_true, true_or, false_or, or_false, implies_true, forall_const, kl_i, kl_n, kl_r, kl_l, tl_s, tl_n, List.cons_append, List.nil_append, Int.cast_ofNat_Int, w32_id, w64_id, le_T, le_F, lt_T, lt_F, eq_T, eq_F, reduceIte, ne_eq, Int.toNat_natCast, bi_0, bi_1, bi_b, Nat.reduceAdd, Nat.reduceEqDiff, Int.reduceToNat, Int.reduceNeg, nle_T, nlt_T, neq_T, neq_F, b2_0, b2_b, both, reduceCtorEq]
      rfl
  by_cases c1 : a < 0 ∨ b < 0
  · have c1' : a < 0 ∨ (¬ a < 0 ∧ b < 0) := by omega
    rcases c1' with c2 | ⟨c2, c3⟩
    · refine CS_r hs hg h 4000000000000000004 (k := 4) (by omega) (fun Q => ?_) (fun Q => ?_)
      · simp (config := { contextual := true }) (disch := omega) only [R_X11_calls_b0, R_X11_calls_b1, hX, ct_refuseLong hX, rfC, true_and, and_true, true_implies, not_true_eq_false, false_implies, not_false_eq_true, false_and, and_false, or_true, true_or, false_or, or_false, implies_true, forall_const, kl_i, kl_n, kl_r, kl_l, tl_s, tl_n, List.cons_append, List.nil_append, Int.cast_ofNat_Int, w32_id, w64_id, le_T, le_F, lt_T, lt_F, eq_T, eq_F, reduceIte, ne_eq, Int.toNat_natCast, bi_0, bi_1, bi_b, Nat.reduceAdd, Nat.reduceEqDiff, Int.reduceToNat, Int.reduceNeg, nle_T, nlt_T, neq_T, neq_F, b2_0, b2_b, both, reduceCtorEq]
        rfl
      · simp (config := { contextual := true }) (disch := omega) only [R_X12_calls_b0, R_X12_calls_b1, hW, ct_isIn, pc, ct_noLong hW, pr_o, rfC, rfM, true_and, and_true, true_implies, not_true_eq_false, false_implies, not_false_eq_true, false_and, and_false, or_true, true_or, false_or, or_false, implies_true, forall_const, kl_i, kl_n, kl_r, kl_l, tl_s, tl_n, List.cons_append, List.nil_append, Int.cast_ofNat_Int, w32_id, w64_id, le_T, le_F, lt_T, lt_F, eq_T, eq_F, reduceIte, ne_eq, Int.toNat_natCast, bi_0, bi_1, bi_b, Nat.reduceAdd, Nat.reduceEqDiff, Int.reduceToNat, Int.reduceNeg, nle_T, nlt_T, neq_T, neq_F, b2_0, b2_b, both, reduceCtorEq]
        rfl
    · refine CS_r hs hg h 4000000000000000004 (k := 4) (by omega) (fun Q => ?_) (fun Q => ?_)
      · simp (config := { contextual := true }) (disch := omega) only [R_X11_calls_b0, R_X11_calls_b1, hX, ct_refuseLong hX, rfC, true_and, and_true, true_implies, not_true_eq_false, false_implies, not_false_eq_true, false_and, and_false, or_true, true_or, false_or, or_false, implies_true, forall_const, kl_i, kl_n, kl_r, kl_l, tl_s, tl_n, List.cons_append, List.nil_append, Int.cast_ofNat_Int, w32_id, w64_id, le_T, le_F, lt_T, lt_F, eq_T, eq_F, reduceIte, ne_eq, Int.toNat_natCast, bi_0, bi_1, bi_b, Nat.reduceAdd, Nat.reduceEqDiff, Int.reduceToNat, Int.reduceNeg, nle_T, nlt_T, neq_T, neq_F, b2_0, b2_b, both, reduceCtorEq]
        rfl
      · simp (config := { contextual := true }) (disch := omega) only [R_X12_calls_b0, R_X12_calls_b1, hW, ct_isIn, pc, ct_noLong hW, pr_o, rfC, rfM, true_and, and_true, true_implies, not_true_eq_false, false_implies, not_false_eq_true, false_and, and_false, or_true, true_or, false_or, or_false, implies_true, forall_const, kl_i, kl_n, kl_r, kl_l, tl_s, tl_n, List.cons_append, List.nil_append, Int.cast_ofNat_Int, w32_id, w64_id, le_T, le_F, lt_T, lt_F, eq_T, eq_F, reduceIte, ne_eq, Int.toNat_natCast, bi_0, bi_1, bi_b, Nat.reduceAdd, Nat.reduceEqDiff, Int.reduceToNat, Int.reduceNeg, nle_T, nlt_T, neq_T, neq_F, b2_0, b2_b, both, reduceCtorEq]
        rfl
  by_cases c4 : 999 < a
  · refine CS_r hs hg h 4000000000000000006 (k := 6) (by omega) (fun Q => ?_) (fun Q => ?_)
    · simp (config := { contextual := true }) (disch := omega) only [R_X11_calls_b0, R_X11_calls_b1, hX, ct_refuseLong hX, rfC, true_and, and_true, true_implies, not_true_eq_false, false_implies, not_false_eq_true, false_and, and_false, or_true, true_or, false_or, or_false, implies_true, forall_const, kl_i, kl_n, kl_r, kl_l, tl_s, tl_n, List.cons_append, List.nil_append, Int.cast_ofNat_Int, w32_id, w64_id, le_T, le_F, lt_T, lt_F, eq_T, eq_F, reduceIte, ne_eq, Int.toNat_natCast, bi_0, bi_1, bi_b, Nat.reduceAdd, Nat.reduceEqDiff, Int.reduceToNat, Int.reduceNeg, nle_T, nlt_T, neq_T, neq_F, b2_0, b2_b, both, reduceCtorEq]
      rfl
    · simp (config := { contextual := true }) (disch := omega) only [R_X12_calls_b0, R_X12_calls_b1, hW, ct_isIn, pc, ct_noLong hW, pr_o, rfC, rfM, true_and, and_true, true_implies, not_true_eq_false, false_implies, not_false_eq_true, false_and, and_false, or_true, true_or, false_or, or_false, implies_true, forall_const, kl_i, kl_n, kl_r, kl_l, tl_s, tl_n, List.cons_append, List.nil_append, Int.cast_ofNat_Int, w32_id, w64_id, le_T, le_F, lt_T, lt_F, eq_T, eq_F, reduceIte, ne_eq, Int.toNat_natCast, bi_0, bi_1, bi_b, Nat.reduceAdd, Nat.reduceEqDiff, Int.reduceToNat, Int.reduceNeg, nle_T, nlt_T, neq_T, neq_F, b2_0, b2_b, both, reduceCtorEq]
      rfl
  by_cases c5 : 6 < b
  · refine CS_r hs hg h 4000000000000000006 (k := 6) (by omega) (fun Q => ?_) (fun Q => ?_)
    · simp (config := { contextual := true }) (disch := omega) only [R_X11_calls_b0, R_X11_calls_b1, hX, ct_refuseLong hX, rfC, true_and, and_true, true_implies, not_true_eq_false, false_implies, not_false_eq_true, false_and, and_false, or_true, true_or, false_or, or_false, implies_true, forall_const, kl_i, kl_n, kl_r, kl_l, tl_s, tl_n, List.cons_append, List.nil_append, Int.cast_ofNat_Int, w32_id, w64_id, le_T, le_F, lt_T, lt_F, eq_T, eq_F, reduceIte, ne_eq, Int.toNat_natCast, bi_0, bi_1, bi_b, Nat.reduceAdd, Nat.reduceEqDiff, Int.reduceToNat, Int.reduceNeg, nle_T, nlt_T, neq_T, neq_F, b2_0, b2_b, both, reduceCtorEq]
      rfl
    · simp (config := { contextual := true }) (disch := omega) only [R_X12_calls_b0, R_X12_calls_b1, hW, ct_isIn, pc, ct_noLong hW, pr_o, rfC, rfM, true_and, and_true, true_implies, not_true_eq_false, false_implies, not_false_eq_true, false_and, and_false, or_true, true_or, false_or, or_false, implies_true, forall_const, kl_i, kl_n, kl_r, kl_l, tl_s, tl_n, List.cons_append, List.nil_append, Int.cast_ofNat_Int, w32_id, w64_id, le_T, le_F, lt_T, lt_F, eq_T, eq_F, reduceIte, ne_eq, Int.toNat_natCast, bi_0, bi_1, bi_b, Nat.reduceAdd, Nat.reduceEqDiff, Int.reduceToNat, Int.reduceNeg, nle_T, nlt_T, neq_T, neq_F, b2_0, b2_b, both, reduceCtorEq]
      rfl
  obtain ⟨M, rfl⟩ := Int.eq_ofNat_of_zero_le (by omega : 0 ≤ a)
  obtain ⟨N, rfl⟩ := Int.eq_ofNat_of_zero_le (by omega : 0 ≤ b)
  obtain ⟨dB, dZ, d1, d8⟩ := DM_ok hS (I 72)
  have hf := RQ_far h (I 72)
  obtain ⟨hb, hse, hs0, hs72⟩ := RQ_W h
  have hC := RQ_CW h dB hf
  have kfm := fun Q => ct_fillMeans hC (half := M / 2) (by omega) (N := N) (by omega) hs72 995 Q
  have hf0 : ∀ j, j ≤ M / 2 → fll (fun _ => 0) 500 (I 54) j = 0 := fun j hj => by unfold fll; rw [if_pos (by omega)]
  have hcm := cmr_mn (A := A) (D := DM A P w (I 72)) (P := P) (W := sgm (A 8) P) (half := M / 2) hf0 N (M / 2) (Nat.le_refl _)
  have eh : iDiv (M : Int) 2 = ((M / 2 : Nat) : Int) := by rw [iDiv_eq (by omega) (by omega) (by omega) (by omega)]; omega
  have hmb := mn_b (A := A) (D := DM A P w (I 72)) (P := P) hb (fun p hp => (dB _ (by have := (okS_S hS).2.2.2; omega)).1) hP8.2 ⟨hs0, hs72⟩ hs72 N (by omega) (M / 2)
  have hub := uk_b hs0 hs72 N
  have hubb := ub_b N (by omega)
  have k1 : sm I (pr I 54 (cmr A (DM A P w (I 72)) P (sgm (A 8) P) (M / 2) (fll (fun _ => 0) 500 (I 54)) N)) := sm_pr (sm_rf I) (by unfold okc; omega)
  obtain ⟨I1, hI1⟩ : ∃ I1, I1 = pr I 54 (cmr A (DM A P w (I 72)) P (sgm (A 8) P) (M / 2) (fll (fun _ => 0) 500 (I 54)) N) := ⟨_, rfl⟩
  have h54 : I1 54 (M / 2) = mn A (DM A P w (I 72)) P (sgm (A 8) P) N (M / 2) := by rw [hI1, pr_s, hcm]
  have h72 : I1 72 = I 72 := by rw [hI1, pr_o (by omega)]
  rw [← hI1] at kfm k1
  have h' := RQ_sm h k1
  have r8' := (RQ_r h').2.2.2.2.2.1
  have ka := fun Q => ct_maW (I := I1) hW r8' hb 998 Q
  rw [hse] at ka
  by_cases cW : sgm (A 8) P = 0
  · refine CS_q hs hg h c (I1 := I1) (J := I1) (fun Q => ?_) k1 (fun Q => ?_) k1
    · cases N with
      | zero =>
        have e1 : uk (sgm (A 8) P) 0 = 1 := rfl
        have e2 : mn A (DM A P w (I 72)) P (sgm (A 8) P) 0 (M / 2) = 0 := rfl
        have ez0 : ((0 : Nat) : Int) = 0 := rfl
        rw [e1, ez0] at kfm
        rw [e2] at h54
        have kc := fun Q => ct_cd (g := g) (I := I1) 998 Q 0 1 (by decide) (by decide) (by decide)
        have eg : ((Nat.gcd 0 1 : Nat) : Int) = 1 := rfl
        have ez : ((0 : Nat) : Int) = 0 := rfl
        have eo : ((1 : Nat) : Int) = 1 := rfl
        rw [eg, ez, eo] at kc
        have hc : c = 0 ∨ c = 1 := by omega
        have d0 : lDiv 0 1 = 0 := by decide
        have d1' : lDiv 1 1 = 1 := by decide
        rcases hc with rfl | rfl
        · simp (config := { contextual := true }) (disch := omega) only [R_X11_calls_b0, R_X11_calls_b1, hX, eh, kfm, h54, lcm3_eq, kc, d0, d1', true_and, and_true, true_implies, not_true_eq_false, false_implies, not_false_eq_true, false_and, and_false, or_true, true_or, false_or, or_false, implies_true, forall_const, kl_i, kl_n, kl_r, kl_l, tl_s, tl_n, List.cons_append, List.nil_append, Int.cast_ofNat_Int, w32_id, w64_id, le_T, le_F, lt_T, lt_F, eq_T, eq_F, reduceIte, ne_eq, Int.toNat_natCast, bi_0, bi_1, bi_b, Nat.reduceAdd, Nat.reduceEqDiff, Int.reduceToNat, Int.reduceNeg, nle_T, nlt_T, neq_T, neq_F, b2_0, b2_b, both, reduceCtorEq]
        · simp (config := { contextual := true }) (disch := omega) only [R_X11_calls_b0, R_X11_calls_b1, hX, eh, kfm, h54, lcm3_eq, kc, d0, d1', true_and, and_true, true_implies, not_true_eq_false, false_implies, not_false_eq_true, false_and, and_false, or_true, true_or, false_or, or_false, implies_true, forall_const, kl_i, kl_n, kl_r, kl_l, tl_s, tl_n, List.cons_append, List.nil_append, Int.cast_ofNat_Int, w32_id, w64_id, le_T, le_F, lt_T, lt_F, eq_T, eq_F, reduceIte, ne_eq, Int.toNat_natCast, bi_0, bi_1, bi_b, Nat.reduceAdd, Nat.reduceEqDiff, Int.reduceToNat, Int.reduceNeg, nle_T, nlt_T, neq_T, neq_F, b2_0, b2_b, both, reduceCtorEq]
      | succ N =>
        have e1 : uk (sgm (A 8) P) (N + 1) = 0 := by rw [cW]; exact uk_0 N
        rw [e1] at kfm
        simp (config := { contextual := true }) (disch := omega) only [R_X11_calls_b0, R_X11_calls_b1, hX, eh, kfm, lcm3_eq, true_and, and_true, true_implies, not_true_eq_false, false_implies, not_false_eq_true, false_and, and_false, or_true, true_or, false_or, or_false, implies_true, forall_const, kl_i, kl_n, kl_r, kl_l, tl_s, tl_n, List.cons_append, List.nil_append, Int.cast_ofNat_Int, w32_id, w64_id, le_T, le_F, lt_T, lt_F, eq_T, eq_F, reduceIte, ne_eq, Int.toNat_natCast, bi_0, bi_1, bi_b, Nat.reduceAdd, Nat.reduceEqDiff, Int.reduceToNat, Int.reduceNeg, nle_T, nlt_T, neq_T, neq_F, b2_0, b2_b, both, reduceCtorEq]
    · simp (config := { contextual := true }) (disch := omega) only [R_X12_calls_b0, R_X12_calls_b1, hW, ct_isIn, pc, ka, cW, true_and, and_true, true_implies, not_true_eq_false, false_implies, not_false_eq_true, false_and, and_false, or_true, true_or, false_or, or_false, implies_true, forall_const, kl_i, kl_n, kl_r, kl_l, tl_s, tl_n, List.cons_append, List.nil_append, Int.cast_ofNat_Int, w32_id, w64_id, le_T, le_F, lt_T, lt_F, eq_T, eq_F, reduceIte, ne_eq, Int.toNat_natCast, bi_0, bi_1, bi_b, Nat.reduceAdd, Nat.reduceEqDiff, Int.reduceToNat, Int.reduceNeg, nle_T, nlt_T, neq_T, neq_F, b2_0, b2_b, both, reduceCtorEq]
  · have hWp : 0 < sgm (A 8) P := by omega
    have hup : 0 < uk (sgm (A 8) P) N := by
      clear hub hubb kfm hI1 h54 k1 hcm hmb c5 c1
      induction N with
      | zero => show (0 : Int) < 1; omega
      | succ N ih => exact Int.mul_pos ih hWp
    obtain ⟨J, k2, h2⟩ : ∃ J, sm I1 J ∧ ∀ Q : QQ, WP 999 m_X12_calls 0 [some (vr (some 57)), some (vi M), some (vi N), some (vi c), none, none, none, none, none] [] g I1 Q = Q (some (vl ((if c = 0 then mn A (DM A P w (I 72)) P (sgm (A 8) P) N (M / 2) else uk (sgm (A 8) P) N) / ((Nat.gcd (mn A (DM A P w (I 72)) P (sgm (A 8) P) N (M / 2)).toNat (uk (sgm (A 8) P) N).toNat : Nat) : Int)))) g J := by
      refine WP_ext (fun Q hQ => ?_)
      have kf := RQ_ff h'
      rw [h72] at kf
      have ks : sm I1 (pr I1 72 (DM A P w (I 72))) := sm_72 _ _
      have h'' := RQ_sm h' ks
      have hM := RQ_MW h'' dB (pr_s _ _ _)
      generalize DM A P w (I 72) = D at *
      have hfm := ct_findMeans hM (by omega) hse (miles := M) (N := N) (by omega) (by omega) 997
      simp (config := { contextual := true }) (disch := omega) only [R_X12_calls_b0, R_X12_calls_b1, hW, ct_isIn, pc, ka, cW, kf, true_and, and_true, true_implies, not_true_eq_false, false_implies, not_false_eq_true, false_and, and_false, or_true, true_or, false_or, or_false, implies_true, forall_const, kl_i, kl_n, kl_r, kl_l, tl_s, tl_n, List.cons_append, List.nil_append, Int.cast_ofNat_Int, w32_id, w64_id, le_T, le_F, lt_T, lt_F, eq_T, eq_F, reduceIte, ne_eq, Int.toNat_natCast, bi_0, bi_1, bi_b, Nat.reduceAdd, Nat.reduceEqDiff, Int.reduceToNat, Int.reduceNeg, nle_T, nlt_T, neq_T, neq_F, b2_0, b2_b, both, reduceCtorEq]
      refine hfm _ (fun E' hE => ?_)
      have hE1 := hE M (Nat.le_refl M)
      have hq := hQ (pr (pr I1 72 D) 87 E') (sm_pr ks (by unfold okc; omega))
      have ei : (1000 * (N : Int) + (M : Int)).toNat = 1000 * N + M := by omega
      generalize mn A D P (sgm (A 8) P) N (M / 2) = u at hE1 hq hmb
      generalize uk (sgm (A 8) P) N = v at hq hub hup ⊢
      obtain ⟨x, rfl⟩ := Int.eq_ofNat_of_zero_le (by omega : 0 ≤ u)
      obtain ⟨y, rfl⟩ := Int.eq_ofNat_of_zero_le (by omega : 0 ≤ v)
      rw [Int.toNat_natCast, Int.toNat_natCast] at hq
      have h60 : (2 : Nat) ^ 60 = 1152921504606846976 := by decide
      have kd := fun Q => ct_dv (g := g) (I := pr (pr I1 72 D) 87 E') 998 Q x y (by omega) (by omega)
      have hgp : 0 < Nat.gcd x y := Nat.gcd_pos_of_pos_right _ (by omega)
      have hgl : Nat.gcd x y ≤ y := Nat.gcd_le_right _ (by omega)
      generalize Nat.gcd x y = G at kd hgp hgl hq
      by_cases c0 : c = 0
      · rw [if_pos c0] at hq
        have ed : lDiv (x : Int) (G : Int) = (x : Int) / (G : Int) := lDiv_eq (by omega) (by omega) (by omega) (by omega)
        rw [← ed] at hq
        simp (config := { contextual := true }) (disch := omega) only [R_X12_calls_b0, R_X12_calls_b1, hW, pr_s, pr_o, ei, hE1, kd, true_and, and_true, true_implies, not_true_eq_false, false_implies, not_false_eq_true, false_and, and_false, or_true, true_or, false_or, or_false, implies_true, forall_const, kl_i, kl_n, kl_r, kl_l, tl_s, tl_n, List.cons_append, List.nil_append, Int.cast_ofNat_Int, w32_id, w64_id, le_T, le_F, lt_T, lt_F, eq_T, eq_F, reduceIte, ne_eq, Int.toNat_natCast, bi_0, bi_1, bi_b, Nat.reduceAdd, Nat.reduceEqDiff, Int.reduceToNat, Int.reduceNeg, nle_T, nlt_T, neq_T, neq_F, b2_0, b2_b, both, reduceCtorEq]
        exact hq
      · rw [if_neg c0] at hq
        have ed : lDiv (y : Int) (G : Int) = (y : Int) / (G : Int) := lDiv_eq (by omega) (by omega) (by omega) (by omega)
        rw [← ed] at hq
        simp (config := { contextual := true }) (disch := omega) only [R_X12_calls_b0, R_X12_calls_b1, hW, pr_s, pr_o, ei, hE1, kd, true_and, and_true, true_implies, not_true_eq_false, false_implies, not_false_eq_true, false_and, and_false, or_true, true_or, false_or, or_false, implies_true, forall_const, kl_i, kl_n, kl_r, kl_l, tl_s, tl_n, List.cons_append, List.nil_append, Int.cast_ofNat_Int, w32_id, w64_id, le_T, le_F, lt_T, lt_F, eq_T, eq_F, reduceIte, ne_eq, Int.toNat_natCast, bi_0, bi_1, bi_b, Nat.reduceAdd, Nat.reduceEqDiff, Int.reduceToNat, Int.reduceNeg, nle_T, nlt_T, neq_T, neq_F, b2_0, b2_b, both, reduceCtorEq]
        exact hq
    refine CS_q hs hg h _ (fun Q => ?_) k1 h2 (sm_tr k1 k2)
    generalize mn A (DM A P w (I 72)) P (sgm (A 8) P) N (M / 2) = u at *
    generalize uk (sgm (A 8) P) N = v at *
    obtain ⟨x, rfl⟩ := Int.eq_ofNat_of_zero_le (by omega : 0 ≤ u)
    obtain ⟨y, rfl⟩ := Int.eq_ofNat_of_zero_le (by omega : 0 ≤ v)
    rw [Int.toNat_natCast, Int.toNat_natCast]
    have h60 : (2 : Nat) ^ 60 = 1152921504606846976 := by decide
    have hgp : 0 < Nat.gcd x y := Nat.gcd_pos_of_pos_right _ (by omega)
    have hgl : Nat.gcd x y ≤ y := Nat.gcd_le_right _ (by omega)
    have kc := fun Q => ct_cd (g := g) (I := I1) 998 Q x y (by omega) (by omega) hgp
    generalize Nat.gcd x y = G at kc hgp hgl
    by_cases c0 : c = 0
    · rw [if_pos c0, ← lDiv_eq (a := (x : Int)) (b := (G : Int)) (by omega) (by omega) (by omega) (by omega)]
      simp (config := { contextual := true }) (disch := omega) only [R_X11_calls_b0, R_X11_calls_b1, hX, eh, kfm, h54, lcm3_eq, kc, true_and, and_true, true_implies, not_true_eq_false, false_implies, not_false_eq_true, false_and, and_false, or_true, true_or, false_or, or_false, implies_true, forall_const, kl_i, kl_n, kl_r, kl_l, tl_s, tl_n, List.cons_append, List.nil_append, Int.cast_ofNat_Int, w32_id, w64_id, le_T, le_F, lt_T, lt_F, eq_T, eq_F, reduceIte, ne_eq, Int.toNat_natCast, bi_0, bi_1, bi_b, Nat.reduceAdd, Nat.reduceEqDiff, Int.reduceToNat, Int.reduceNeg, nle_T, nlt_T, neq_T, neq_F, b2_0, b2_b, both, reduceCtorEq]
    · rw [if_neg c0, ← lDiv_eq (a := (y : Int)) (b := (G : Int)) (by omega) (by omega) (by omega) (by omega)]
      simp (config := { contextual := true }) (disch := omega) only [R_X11_calls_b0, R_X11_calls_b1, hX, eh, kfm, h54, lcm3_eq, kc, true_and, and_true, true_implies, not_true_eq_false, false_implies, not_false_eq_true, false_and, and_false, or_true, true_or, false_or, or_false, implies_true, forall_const, kl_i, kl_n, kl_r, kl_l, tl_s, tl_n, List.cons_append, List.nil_append, Int.cast_ofNat_Int, w32_id, w64_id, le_T, le_F, lt_T, lt_F, eq_T, eq_F, reduceIte, ne_eq, Int.toNat_natCast, bi_0, bi_1, bi_b, Nat.reduceAdd, Nat.reduceEqDiff, Int.reduceToNat, Int.reduceNeg, nle_T, nlt_T, neq_T, neq_F, b2_0, b2_b, both, reduceCtorEq]
end CSC

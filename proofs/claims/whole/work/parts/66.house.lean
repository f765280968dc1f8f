-- HOUSE, LIVED, STRAY on both sides
def mw (A : II) (D : Nat → Int) (n : Nat) (p : Nat) : Int := (bS A D n p).1
def hmv (A : II) (D : Nat → Int) (n : Nat) : Nat → Int × Int
  | 0 => (-1, 0)
  | p + 1 => if mw A D n p ≤ (hmv A D n p).1 then hmv A D n p else (mw A D n p, p)
theorem mw_0 (A : II) (D : Nat → Int) (n p : Nat) : 0 ≤ mw A D n p := fo_ge _ _
theorem hmv_b (A : II) (D : Nat → Int) (n : Nat) : ∀ p : Nat, -1 ≤ (hmv A D n p).1 ∧ (0 < p → 0 ≤ (hmv A D n p).1)
  | 0 => ⟨by show (-1 : Int) ≤ -1; omega, fun h => by omega⟩
  | p + 1 => by
    have h1 := hmv_b A D n p
    have h2 := mw_0 A D n p
    have e : hmv A D n (p + 1) = if mw A D n p ≤ (hmv A D n p).1 then hmv A D n p else (mw A D n p, (p : Int)) := rfl
    rw [e]
    split
    · exact ⟨h1.1, fun _ => by omega⟩
    · exact ⟨by show -1 ≤ mw A D n p; omega, fun _ => h2⟩
section HOUSE
variable {g : GG} {I : II} {t n P : Nat} {A : II} {D : Nat → Int}
theorem lp_hs (hV : CV g I t A n) (hTH : TH g I t A n) (hA : okA A n) (hS : okSt A) (hD : bD D) (hT8 : tri 8 D) (hI : e64 (I (t + 2)) D) (hP : I t 0 = (P : Int)) (hP8 : P ≤ 8) (hz : ∀ j, 7 ≤ j → I 49 j = 0) (e : Nat) (Q : QQ) (hQ : ∀ J : II, sm I J → J 72 = I 72 → Q (some (vi (hmv A D n P).2)) g J) : ∀ k p : Nat, p + k = P → ∀ (R B : Nat → Int) (bl bw : Int) (x : LF) (l4 : Option PV), bw = max 0 (hmv A D n p).1 → (∀ j, 7 ≤ j → lHad x j = 0) → WP (e + 21) m_X5_seekHouse 9 [some (vr (some 47)), some (vr (some t)), some (vi (hmv A D n p).2), some (vi p), l4] [] g (sB I R B bl (bw, []) x) Q := by
  intro k
  induction k with
  | zero =>
    intro p hp R B bl bw x l4 hbw hx
    obtain rfl : p = P := by omega
    have hq := hQ (sB I R B bl (bw, []) x) (sm_sB hz hx) ((mcx_o (by omega)).trans (bs_o (by omega)))
    have hV1 := CV_bs hV R B bl bw
    obtain ⟨ht, hX, hT, hn, s0, s1, s2, s3⟩ := hV1
    have hP1 : bs I R B bl bw t 0 = (p : Int) := by rw [bs_o (by omega)]; exact hP
    rw [H_X5_seekHouse_9]
    simp (config := { contextual := true }) (disch := omega) only [R_X5_seekHouse, hX, hT, mcx_o, hP1, true_and, and_true, true_implies, not_true_eq_false, false_implies, not_false_eq_true, false_and, and_false, or_true, true_or, false_or, or_false, implies_true, forall_const, kl_i, kl_n, kl_r, kl_l, tl_s, tl_n, List.cons_append, List.nil_append, Int.cast_ofNat_Int, w32_id, w64_id, le_T, le_F, lt_T, lt_F, eq_T, eq_F, reduceIte, ne_eq, Int.toNat_natCast, bi_0, bi_1, bi_b, Nat.reduceAdd, Nat.reduceEqDiff, Int.reduceToNat, Int.reduceNeg, nle_T, nlt_T, neq_T, neq_F, b2_0, b2_b, both, reduceCtorEq]
    exact hq
  | succ k ih =>
    intro p hp R B bl bw x l4 hbw hx
    have hV1 := CV_bs hV R B bl bw
    obtain ⟨ht, hX, hT, hn, s0, s1, s2, s3⟩ := hV1
    have hL := WL_m hX
    have hP1 : bs I R B bl bw t 0 = (P : Int) := by rw [bs_o (by omega)]; exact hP
    have kb := fun Q => ct_begin (d := e + 19) (I := mcx (bs I R B bl bw) x) hL (by decide) Q (p : Int)
    rw [fll_z (fun j hj => by rw [mcx_h]; exact hx j hj)] at kb
    have hso := SO (b0 := bl) hV hTH hA hS hD hT8 hI 7 e ((p : Int), 0, 0, z0) [] (bw, []) R B bl rfl (okX_0 (by omega)) (rl_0 _) (Or.inl ⟨rfl, rfl⟩)
    have hu : up1 ((bw, []) : BS) (lWo ((p : Int), 0, 0, z0), []) = (bw, []) := if_neg (by show ¬ bw < 0; omega)
    rw [hu] at hso
    rw [show 2 * 7 + e + 6 = e + 20 by omega] at hso
    have hmx := fo_b (nd A D n 7 ((p : Int), 0, 0, z0) []) (s := (bw, [])) (by show 0 ≤ bw; omega)
    have hmx : ((nd A D n 7 ((p : Int), 0, 0, z0) []).foldl up1 (bw, [])).1 = max bw (mw A D n p) := hmx
    have hb0 := hmv_b A D n p
    have hm0 := mw_0 A D n p
    have eH : hmv A D n (p + 1) = if mw A D n p ≤ (hmv A D n p).1 then hmv A D n p else (mw A D n p, (p : Int)) := rfl
    have ec : ((p + 1 : Nat) : Int) = (p : Int) + 1 := by omega
    rw [H_X5_seekHouse_9]
    simp (config := { contextual := true }) (disch := omega) only [R_X5_seekHouse, hX, hT, mcx_o, hP1, bs_4, kb, mcx_begin, mcx_mcx, true_and, and_true, true_implies, not_true_eq_false, false_implies, not_false_eq_true, false_and, and_false, or_true, true_or, false_or, or_false, implies_true, forall_const, kl_i, kl_n, kl_r, kl_l, tl_s, tl_n, List.cons_append, List.nil_append, Int.cast_ofNat_Int, w32_id, w64_id, le_T, le_F, lt_T, lt_F, eq_T, eq_F, reduceIte, ne_eq, Int.toNat_natCast, bi_0, bi_1, bi_b, Nat.reduceAdd, Nat.reduceEqDiff, Int.reduceToNat, Int.reduceNeg, nle_T, nlt_T, neq_T, neq_F, b2_0, b2_b, both, reduceCtorEq]
    refine hso _ (fun R' B' bl' h1 h2 => ?_)
    generalize (nd A D n 7 ((p : Int), 0, 0, z0) []).foldl up1 (bw, []) = s' at hmx
    have es : sB I R' B' bl' s' ((p : Int), 0, 0, z0) = sB I R' B' bl' (s'.1, []) ((p : Int), 0, 0, z0) := rfl
    rw [es]
    have ih' := ih (p + 1) (by omega) R' B' bl' s'.1 ((p : Int), 0, 0, z0) (some (vi bw)) (by
      rw [hmx, eH]
      by_cases c : mw A D n p ≤ (hmv A D n p).1
      · rw [if_pos c]; omega
      · rw [if_neg c]; show max bw (mw A D n p) = max 0 (mw A D n p); omega) (fun j _ => rfl)
    rw [ec] at ih'
    have hV2 := CV_bs hV R' B' bl' s'.1
    by_cases c : mw A D n p ≤ (hmv A D n p).1
    · rw [eH, if_pos c] at ih'
      have c2 : s'.1 ≤ bw := by omega
      simp (config := { contextual := true }) (disch := omega) only [R_X5_seekHouse, hX, mcx_o, bs_4, true_and, and_true, true_implies, not_true_eq_false, false_implies, not_false_eq_true, false_and, and_false, or_true, true_or, false_or, or_false, implies_true, forall_const, kl_i, kl_n, kl_r, kl_l, tl_s, tl_n, List.cons_append, List.nil_append, Int.cast_ofNat_Int, w32_id, w64_id, le_T, le_F, lt_T, lt_F, eq_T, eq_F, reduceIte, ne_eq, Int.toNat_natCast, bi_0, bi_1, bi_b, Nat.reduceAdd, Nat.reduceEqDiff, Int.reduceToNat, Int.reduceNeg, nle_T, nlt_T, neq_T, neq_F, b2_0, b2_b, both, reduceCtorEq]
      exact ih'
    · rw [eH, if_neg c] at ih'
      by_cases c2 : s'.1 ≤ bw
      · -- the first place, with nothing to be had: its number is 0 all the same
        have hp0 : p = 0 := by
          by_cases z : p = 0
          · exact z
          · have := hb0.2 (by omega); omega
        subst hp0
        have e0 : (hmv A D n 0).2 = 0 := rfl
        rw [e0]
        have ih2 : WP (e + 21) m_X5_seekHouse 9 [some (vr (some 47)), some (vr (some t)), some (vi 0), some (vi (((0 : Nat) : Int) + 1)), some (vi bw)] [] g (sB I R' B' bl' (s'.1, []) (((0 : Nat) : Int), 0, 0, z0)) Q := ih'
        simp (config := { contextual := true }) (disch := omega) only [R_X5_seekHouse, hX, mcx_o, bs_4, true_and, and_true, true_implies, not_true_eq_false, false_implies, not_false_eq_true, false_and, and_false, or_true, true_or, false_or, or_false, implies_true, forall_const, kl_i, kl_n, kl_r, kl_l, tl_s, tl_n, List.cons_append, List.nil_append, Int.cast_ofNat_Int, w32_id, w64_id, le_T, le_F, lt_T, lt_F, eq_T, eq_F, reduceIte, ne_eq, Int.toNat_natCast, bi_0, bi_1, bi_b, Nat.reduceAdd, Nat.reduceEqDiff, Int.reduceToNat, Int.reduceNeg, nle_T, nlt_T, neq_T, neq_F, b2_0, b2_b, both, reduceCtorEq]
        exact ih2
      · simp (config := { contextual := true }) (disch := omega) only [R_X5_seekHouse, hX, mcx_o, bs_4, true_and, and_true, true_implies, not_true_eq_false, false_implies, not_false_eq_true, false_and, and_false, or_true, true_or, false_or, or_false, implies_true, forall_const, kl_i, kl_n, kl_r, kl_l, tl_s, tl_n, List.cons_append, List.nil_append, Int.cast_ofNat_Int, w32_id, w64_id, le_T, le_F, lt_T, lt_F, eq_T, eq_F, reduceIte, ne_eq, Int.toNat_natCast, bi_0, bi_1, bi_b, Nat.reduceAdd, Nat.reduceEqDiff, Int.reduceToNat, Int.reduceNeg, nle_T, nlt_T, neq_T, neq_F, b2_0, b2_b, both, reduceCtorEq]
        exact ih'
end HOUSE
section CSH
variable {L : Nat} {xs : Nat → Int32} {g : GG} {I : II} {t dr : Nat} {A : II} {P w n q m : Nat}
theorem lp_mh (h : RQ g I t dr A P w n q m) (dB : bD (DM A P w (I 72))) {I0 : II} (hI0 : ∀ J, sm I J → sm I0 J) (h72 : I 72 = DM A P w (I0 72)) (D : Nat → Int) (hDD : DM A P w (I0 72) = D) (d : Nat) (Q : QQ) (hQ : ∀ J : II, sm I0 J → Q (some (vi (hmv A D n P).2)) g J) (hbD : bD D) : ∀ k p : Nat, p + k = P → ∀ J : II, sm I J → J 72 = D → WP (d + 4) m_X12_house 10 [some (vr (some 57)), some (vi (hmv A D n p).2), some (vi (hmv A D n p).1), some (vi p)] [] g J Q := by
  have hP8 := (RQ_S h).2.1
  intro k
  induction k with
  | zero =>
    intro p hp J hJ hJ2
    obtain rfl : p = P := by omega
    have hq := hQ J (hI0 J hJ)
    have h' := RQ_sm h hJ
    have hW := h'.2.2.1.1
    have hP' := (RQ_P h').2
    rw [H_X12_house_10]
    simp (config := { contextual := true }) (disch := omega) only [R_X12_house, hW, hP', true_and, and_true, true_implies, not_true_eq_false, false_implies, not_false_eq_true, false_and, and_false, or_true, true_or, false_or, or_false, implies_true, forall_const, kl_i, kl_n, kl_r, kl_l, tl_s, tl_n, List.cons_append, List.nil_append, Int.cast_ofNat_Int, w32_id, w64_id, le_T, le_F, lt_T, lt_F, eq_T, eq_F, reduceIte, ne_eq, Int.toNat_natCast, bi_0, bi_1, bi_b, Nat.reduceAdd, Nat.reduceEqDiff, Int.reduceToNat, Int.reduceNeg, nle_T, nlt_T, neq_T, neq_F, b2_0, b2_b, both, reduceCtorEq]
    exact hq
  | succ k ih =>
    intro p hp J hJ hJ2
    have h' := RQ_sm h hJ
    have hW := h'.2.2.1.1
    have hP' := (RQ_P h').2
    have hS := RQ_S h'
    have hb := ct_findBest (d := d) (RQ_MV h') (okS_A hS) (okS_S hS) hbD hJ2 (h'.2.2.2.2.2.2.2.2.2.2.2.2.2) (p : Int) (by omega)
    have eH : hmv A D n (p + 1) = if mw A D n p ≤ (hmv A D n p).1 then hmv A D n p else (mw A D n p, (p : Int)) := rfl
    have ec : ((p + 1 : Nat) : Int) = (p : Int) + 1 := by omega
    rw [H_X12_house_10]
    simp (config := { contextual := true }) (disch := omega) only [R_X12_house, hW, hP', true_and, and_true, true_implies, not_true_eq_false, false_implies, not_false_eq_true, false_and, and_false, or_true, true_or, false_or, or_false, implies_true, forall_const, kl_i, kl_n, kl_r, kl_l, tl_s, tl_n, List.cons_append, List.nil_append, Int.cast_ofNat_Int, w32_id, w64_id, le_T, le_F, lt_T, lt_F, eq_T, eq_F, reduceIte, ne_eq, Int.toNat_natCast, bi_0, bi_1, bi_b, Nat.reduceAdd, Nat.reduceEqDiff, Int.reduceToNat, Int.reduceNeg, nle_T, nlt_T, neq_T, neq_F, b2_0, b2_b, both, reduceCtorEq]
    refine hb _ (fun J2 kJ j43 j44 j83 j72 => ?_)
    have ih' := ih (p + 1) (by omega) J2 (sm_tr hJ kJ) (j72.trans hJ2)
    have hw : J2 57 44 = mw A D n p := j44
    rw [ec, eH] at ih'
    by_cases c : mw A D n p ≤ (hmv A D n p).1
    · rw [if_pos c] at ih'
      simp (config := { contextual := true }) (disch := omega) only [R_X12_house, hW, hw, true_and, and_true, true_implies, not_true_eq_false, false_implies, not_false_eq_true, false_and, and_false, or_true, true_or, false_or, or_false, implies_true, forall_const, kl_i, kl_n, kl_r, kl_l, tl_s, tl_n, List.cons_append, List.nil_append, Int.cast_ofNat_Int, w32_id, w64_id, le_T, le_F, lt_T, lt_F, eq_T, eq_F, reduceIte, ne_eq, Int.toNat_natCast, bi_0, bi_1, bi_b, Nat.reduceAdd, Nat.reduceEqDiff, Int.reduceToNat, Int.reduceNeg, nle_T, nlt_T, neq_T, neq_F, b2_0, b2_b, both, reduceCtorEq]
      exact ih'
    · rw [if_neg c] at ih'
      simp (config := { contextual := true }) (disch := omega) only [R_X12_house, hW, hw, true_and, and_true, true_implies, not_true_eq_false, false_implies, not_false_eq_true, false_and, and_false, or_true, true_or, false_or, or_false, implies_true, forall_const, kl_i, kl_n, kl_r, kl_l, tl_s, tl_n, List.cons_append, List.nil_append, Int.cast_ofNat_Int, w32_id, w64_id, le_T, le_F, lt_T, lt_F, eq_T, eq_F, reduceIte, ne_eq, Int.toNat_natCast, bi_0, bi_1, bi_b, Nat.reduceAdd, Nat.reduceEqDiff, Int.reduceToNat, Int.reduceNeg, nle_T, nlt_T, neq_T, neq_F, b2_0, b2_b, both, reduceCtorEq]
      exact ih'
theorem cs_house (hs : SS L xs g I) (hg : 90 ≤ gN g) (h : RQ g I t dr A P w n q m) : CS L xs g I m_X11_house m_X12_house [] [none, none, none] vi := by
  have hW := h.2.2.1.1
  have hX := h.2.2.1.2.1
  obtain ⟨ht1, ht2, hT⟩ := RQ_t h
  have h50 := h.2.1.1
  obtain ⟨hP, hP'⟩ := RQ_P h
  have hS := RQ_S h
  have hP8 := hS.2.1
  have hz := h.2.2.2.2.2.2.2.2.2.2.2.2.1
  obtain ⟨dB, dZ, d1, d8⟩ := DM_ok hS (I 72)
  have hf := RQ_far h (I 72)
  obtain ⟨I1, ⟨k1, k72⟩, h1⟩ : ∃ I1, (sm I I1 ∧ I1 72 = I 72) ∧ ∀ Q : QQ, WP 999 m_X11_house 0 [some (vr (some 5))] [] g I Q = Q (some (vi (hmv A (DM A P w (I 72)) n P).2)) g I1 := by
    refine WP_ext (fun Q hQ => ?_)
    have hb := fun Q hQ => lp_hs (RQ_CV h) (RQ_TH h) (okS_A hS) (okS_S hS) dB d8 hf hP hP8.2 hz 977 Q hQ P 0 (by omega) (I 50) (I 51) (I 47 3) 0 (I 48 0, I 48 1, I 48 2, I 49) none rfl hz
    have e1 : sB I (I 50) (I 51) (I 47 3) (0, []) (I 48 0, I 48 1, I 48 2, I 49) = bs I (I 50) (I 51) (I 47 3) 0 := by
      have := mcx_self (bs I (I 50) (I 51) (I 47 3) 0)
      rw [bs_o (by omega), bs_o (by omega)] at this
      exact this
    rw [e1] at hb
    simp (config := { contextual := true }) (disch := omega) only [R_X11_house, R_X5_seekHouse, hX, hT, h50, up_pr, bs_ini4, true_and, and_true, true_implies, not_true_eq_false, false_implies, not_false_eq_true, false_and, and_false, or_true, true_or, false_or, or_false, implies_true, forall_const, kl_i, kl_n, kl_r, kl_l, tl_s, tl_n, List.cons_append, List.nil_append, Int.cast_ofNat_Int, w32_id, w64_id, le_T, le_F, lt_T, lt_F, eq_T, eq_F, reduceIte, ne_eq, Int.toNat_natCast, bi_0, bi_1, bi_b, Nat.reduceAdd, Nat.reduceEqDiff, Int.reduceToNat, Int.reduceNeg, nle_T, nlt_T, neq_T, neq_F, b2_0, b2_b, both, reduceCtorEq]
    refine hb _ (fun J kJ j72 => ?_)
    have hq := hQ J ⟨kJ, j72⟩
    simp (config := { contextual := true }) (disch := omega) only [R_X11_house, true_and, and_true, true_implies, not_true_eq_false, false_implies, not_false_eq_true, false_and, and_false, or_true, true_or, false_or, or_false, implies_true, forall_const, kl_i, kl_n, kl_r, kl_l, tl_s, tl_n, List.cons_append, List.nil_append, Int.cast_ofNat_Int, w32_id, w64_id, le_T, le_F, lt_T, lt_F, eq_T, eq_F, reduceIte, ne_eq, Int.toNat_natCast, bi_0, bi_1, bi_b, Nat.reduceAdd, Nat.reduceEqDiff, Int.reduceToNat, Int.reduceNeg, nle_T, nlt_T, neq_T, neq_F, b2_0, b2_b, both, reduceCtorEq]
    exact hq
  have h' := RQ_sm h k1
  obtain ⟨J, k2, h2⟩ : ∃ J, sm I1 J ∧ ∀ Q : QQ, WP 999 m_X12_house 0 [some (vr (some 57)), none, none, none] [] g I1 Q = Q (some (vi (hmv A (DM A P w (I 72)) n P).2)) g J := by
    refine WP_ext (fun Q hQ => ?_)
    have kf := RQ_ff h'
    have ks : sm I1 (pr I1 72 (DM A P w (I1 72))) := sm_72 _ _
    have h'' := RQ_sm h' ks
    have hb := fun Q hQ => lp_mh h'' (DM_ok hS _).1 (I0 := I1) (fun J hJ => sm_tr ks hJ) (pr_s _ _ _) (DM A P w (I 72)) (by rw [k72]) 995 Q hQ dB P 0 (by omega) (pr I1 72 (DM A P w (I1 72))) (sm_rf _) (by rw [pr_s, k72])
    have e2 : (hmv A (DM A P w (I 72)) n 0) = (-1, 0) := rfl
    rw [e2] at hb
    simp (config := { contextual := true }) (disch := omega) only [R_X12_house, hW, kf, true_and, and_true, true_implies, not_true_eq_false, false_implies, not_false_eq_true, false_and, and_false, or_true, true_or, false_or, or_false, implies_true, forall_const, kl_i, kl_n, kl_r, kl_l, tl_s, tl_n, List.cons_append, List.nil_append, Int.cast_ofNat_Int, w32_id, w64_id, le_T, le_F, lt_T, lt_F, eq_T, eq_F, reduceIte, ne_eq, Int.toNat_natCast, bi_0, bi_1, bi_b, Nat.reduceAdd, Nat.reduceEqDiff, Int.reduceToNat, Int.reduceNeg, nle_T, nlt_T, neq_T, neq_F, b2_0, b2_b, both, reduceCtorEq]
    exact hb Q hQ
  exact CS_q hs hg h _ h1 k1 h2 (sm_tr k1 k2)
end CSH

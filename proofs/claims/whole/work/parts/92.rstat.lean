-- LAND: the class's readStatement
/-- what the reader's fields are behind a statement that is well formed -/
def rgC (r : RG) (k f s t : Int) : Prop := (r.1 = 110 → f = r.2.1) ∧ (r.1 = 119 → f = r.2.1 ∧ s = r.2.2.1 ∧ t = r.2.2.2.1) ∧ (r.1 = 116 → k = r.2.1 ∧ f = r.2.2.1 ∧ s = r.2.2.2.1 ∧ t = r.2.2.2.2)
section RST
variable {g : GG} {I : II} {n : Nat} {k f s t : Int}
theorem ct_rst (h : XP g I n) (hs : STR g I) (a : Nat) (d : Nat) (Q : QQ) (hQ : ∀ (a' ft' k' f' s' t' l : Int), ((stp (I 52) n a).1 = true → a' = ((stp (I 52) n a).2.1 : Int) ∧ ft' = -1 ∧ l = (stp (I 52) n a).2.2.1 ∧ rgC (stp (I 52) n a).2.2 k' f' s' t') → (¬ (stp (I 52) n a).1 = true → ft' = ((stp (I 52) n a).2.1 : Int)) → Q (some (vi l)) g (rs I a' ft' k' f' s' t')) : WP (d + 6) m_X7_readStatement 0 [some (vr (some 45)), none] [] g (rs I a (-1) k f s t) Q := by
  have h0 := h
  obtain ⟨h1, h2, h3, h4, h5, h6⟩ := h0
  have eS : stp (I 52) n a = if nby (I 52) n a = 110 then stN (I 52) n (a + 1) else if nby (I 52) n a = 119 then stW (I 52) n (a + 1) else if nby (I 52) n a = 116 then stT (I 52) n (a + 1) else noP a := rfl
  have m1 : (-1 : Int) < 0 := by omega
  have ec : (a : Int) + 1 = ((a + 1 : Nat) : Int) := by omega
  -- the letter
  obtain ⟨l, hl, hl0⟩ : ∃ l : Int, (∀ Q : QQ, WP (d + 6) m_X7_readStatement 0 [some (vr (some 45)), none] [] g (rs I a (-1) k f s t) Q = WP (d + 6) m_X7_readStatement 25 [some (vr (some 45)), some (vi l)] [] g (rs I a (-1) k f s t) Q) ∧ (nby (I 52) n a = l ∨ (nby (I 52) n a = -1 ∧ l = 0)) := by
    by_cases c : a < n
    · have hb := h6 a (by omega)
      refine ⟨I 52 a, fun Q => ?_, Or.inl (nby_l c)⟩
      simp (config := { contextual := true }) (disch := omega) only [R_X7_readStatement_b0, R_X7_readStatement_b1, h1, h2, h3, h4, rs_1, rs_2, rs_o, true_and, and_true, true_implies, not_true_eq_false, false_implies, not_false_eq_true, false_and, and_false, or_true, true_or, false_or, or_false, implies_true, forall_const, kl_i, kl_n, kl_r, kl_l, tl_s, tl_n, List.cons_append, List.nil_append, Int.cast_ofNat_Int, w32_id, w64_id, le_T, le_F, lt_T, lt_F, eq_T, eq_F, reduceIte, ne_eq, Int.toNat_natCast, bi_0, bi_1, bi_b, Nat.reduceAdd, Nat.reduceEqDiff, Int.reduceToNat, Int.reduceNeg, nle_T, nlt_T, neq_T, neq_F, b2_0, b2_b, both, reduceCtorEq]
    · refine ⟨0, fun Q => ?_, Or.inr ⟨nby_n (by omega), rfl⟩⟩
      simp (config := { contextual := true }) (disch := omega) only [R_X7_readStatement_b0, R_X7_readStatement_b1, h1, h2, h3, h4, rs_1, rs_2, rs_o, true_and, and_true, true_implies, not_true_eq_false, false_implies, not_false_eq_true, false_and, and_false, or_true, true_or, false_or, or_false, implies_true, forall_const, kl_i, kl_n, kl_r, kl_l, tl_s, tl_n, List.cons_append, List.nil_append, Int.cast_ofNat_Int, w32_id, w64_id, le_T, le_F, lt_T, lt_F, eq_T, eq_F, reduceIte, ne_eq, Int.toNat_natCast, bi_0, bi_1, bi_b, Nat.reduceAdd, Nat.reduceEqDiff, Int.reduceToNat, Int.reduceNeg, nle_T, nlt_T, neq_T, neq_F, b2_0, b2_b, both, reduceCtorEq]
  rw [hl]
  clear hl
  have o3 : ((3 : Nat) : Int) = 3 := rfl
  have o2 : ((2 : Nat) : Int) = 2 := rfl
  by_cases c1 : l = 110
  · subst c1
    have hb : nby (I 52) n a = 110 := by omega
    have hin := nby_in hb (by omega)
    rw [if_pos hb] at eS
    have eN : stN (I 52) n (a + 1) = if (num (I 52) n 1 (a + 1)).1 < 0 then noP (a + 1) else if nby (I 52) n (num (I 52) n 1 (a + 1)).2 = 59 then (true, (num (I 52) n 1 (a + 1)).2 + 1, 110, (num (I 52) n 1 (a + 1)).1, 0, 0, 0) else noP (num (I 52) n 1 (a + 1)).2 := rfl
    rw [eN] at eS
    have kd := fun Q => ct_rd1 (k := k) (f := f) (s := s) (t := t) h (a + 1) (d + 4) Q
    generalize num (I 52) n 1 (a + 1) = r1 at eS kd
    obtain ⟨v1, a1⟩ := r1
    have kd : ∀ Q : QQ, WP (d + 5) m_X7_readDigit 0 [some (vr (some 45))] [] g (rs I (a + 1 : Nat) (-1) k f s t) Q = if v1 < 0 then Q (some (vi 0)) g (rs I (a + 1 : Nat) (a + 1 : Nat) k f s t) else Q (some (vi v1)) g (rs I a1 (-1) k f s t) := kd
    have eS : stp (I 52) n a = if v1 < 0 then noP (a + 1) else if nby (I 52) n a1 = 59 then (true, a1 + 1, 110, v1, 0, 0, 0) else noP a1 := eS
    by_cases c2 : v1 < 0
    · rw [if_pos c2] at eS
      have kb := fun f Q => ct_rsb (k := k) (f := f) (s := s) (t := t) h (a + 1) (ft := ((a + 1 : Nat) : Int)) (by omega) 59 (d + 4) Q
      have kd := fun Q => (kd Q).trans (if_pos c2)
      have hq := hQ (a + 1 : Nat) (a + 1 : Nat) k 0 s t 110 (fun q => by rw [eS] at q; cases q) (fun _ => by rw [eS]; rfl)
      simp (config := { contextual := true }) (disch := omega) only [R_X7_readStatement_b0, R_X7_readStatement_b1, h1, rs_2, up_pr, rs_w2, ec, kd, rs_w5, kb, true_and, and_true, true_implies, not_true_eq_false, false_implies, not_false_eq_true, false_and, and_false, or_true, true_or, false_or, or_false, implies_true, forall_const, kl_i, kl_n, kl_r, kl_l, tl_s, tl_n, List.cons_append, List.nil_append, Int.cast_ofNat_Int, w32_id, w64_id, le_T, le_F, lt_T, lt_F, eq_T, eq_F, reduceIte, ne_eq, Int.toNat_natCast, bi_0, bi_1, bi_b, Nat.reduceAdd, Nat.reduceEqDiff, Int.reduceToNat, Int.reduceNeg, nle_T, nlt_T, neq_T, neq_F, b2_0, b2_b, both, reduceCtorEq]
      exact hq
    rw [if_neg c2] at eS
    have kd := fun Q => (kd Q).trans (if_neg c2)
    have ks := fun f Q => ct_rsg (k := k) (f := f) (s := s) (t := t) h a1 59 (by omega) (d + 4) Q
    by_cases c3 : nby (I 52) n a1 = 59
    · rw [if_pos c3] at eS
      have ks := fun f Q => (ks f Q).trans (if_pos c3)
      have hq := hQ (a1 + 1 : Nat) (-1) k v1 s t 110 (fun _ => by rw [eS]; exact ⟨rfl, rfl, rfl, fun _ => rfl, (fun q => by cases q), (fun q => by cases q)⟩) (fun q => by rw [eS] at q; exact absurd rfl q)
      simp (config := { contextual := true }) (disch := omega) only [R_X7_readStatement_b0, R_X7_readStatement_b1, h1, rs_2, up_pr, rs_w2, ec, kd, rs_w5, ks, true_and, and_true, true_implies, not_true_eq_false, false_implies, not_false_eq_true, false_and, and_false, or_true, true_or, false_or, or_false, implies_true, forall_const, kl_i, kl_n, kl_r, kl_l, tl_s, tl_n, List.cons_append, List.nil_append, Int.cast_ofNat_Int, w32_id, w64_id, le_T, le_F, lt_T, lt_F, eq_T, eq_F, reduceIte, ne_eq, Int.toNat_natCast, bi_0, bi_1, bi_b, Nat.reduceAdd, Nat.reduceEqDiff, Int.reduceToNat, Int.reduceNeg, nle_T, nlt_T, neq_T, neq_F, b2_0, b2_b, both, reduceCtorEq]
      exact hq
    · rw [if_neg c3] at eS
      have ks := fun f Q => (ks f Q).trans (if_neg c3)
      have hq := hQ a1 a1 k v1 s t 110 (fun q => by rw [eS] at q; cases q) (fun _ => by rw [eS]; rfl)
      simp (config := { contextual := true }) (disch := omega) only [R_X7_readStatement_b0, R_X7_readStatement_b1, h1, rs_2, up_pr, rs_w2, ec, kd, rs_w5, ks, true_and, and_true, true_implies, not_true_eq_false, false_implies, not_false_eq_true, false_and, and_false, or_true, true_or, false_or, or_false, implies_true, forall_const, kl_i, kl_n, kl_r, kl_l, tl_s, tl_n, List.cons_append, List.nil_append, Int.cast_ofNat_Int, w32_id, w64_id, le_T, le_F, lt_T, lt_F, eq_T, eq_F, reduceIte, ne_eq, Int.toNat_natCast, bi_0, bi_1, bi_b, Nat.reduceAdd, Nat.reduceEqDiff, Int.reduceToNat, Int.reduceNeg, nle_T, nlt_T, neq_T, neq_F, b2_0, b2_b, both, reduceCtorEq]
      exact hq
  by_cases c4 : l = 119
  · subst c4
    have hb : nby (I 52) n a = 119 := by omega
    have hin := nby_in hb (by omega)
    have n110 : ¬ nby (I 52) n a = 110 := by omega
    rw [if_neg n110, if_pos hb] at eS
    have eW : stW (I 52) n (a + 1) = if (num (I 52) n 1 (a + 1)).1 < 0 then noP (a + 1) else if (num (I 52) n 1 (num (I 52) n 1 (a + 1)).2).1 < 0 then noP (num (I 52) n 1 (a + 1)).2 else stE (I 52) n (num (I 52) n 1 (num (I 52) n 1 (a + 1)).2).2 (fun c => (119, (num (I 52) n 1 (a + 1)).1, (num (I 52) n 1 (num (I 52) n 1 (a + 1)).2).1, c, 0)) := rfl
    rw [eW] at eS
    have kd := fun Q => ct_rd1 (k := k) (f := f) (s := s) (t := t) h (a + 1) (d + 4) Q
    generalize num (I 52) n 1 (a + 1) = r1 at eS kd
    obtain ⟨v1, a1⟩ := r1
    have kd : ∀ Q : QQ, WP (d + 5) m_X7_readDigit 0 [some (vr (some 45))] [] g (rs I (a + 1 : Nat) (-1) k f s t) Q = if v1 < 0 then Q (some (vi 0)) g (rs I (a + 1 : Nat) (a + 1 : Nat) k f s t) else Q (some (vi v1)) g (rs I a1 (-1) k f s t) := kd
    by_cases c2 : v1 < 0
    · rw [if_pos c2] at eS
      have kd := fun Q => (kd Q).trans (if_pos c2)
      have bd := fun f s t Q => ct_rdb (k := k) (f := f) (s := s) (t := t) h (a + 1) (ft := ((a + 1 : Nat) : Int)) (by omega) (d + 4) Q
      have bs := fun f s t b Q => ct_rsb (k := k) (f := f) (s := s) (t := t) h (a + 1) (ft := ((a + 1 : Nat) : Int)) (by omega) b (d + 4) Q
      have bn := fun f s t Q => ct_rnb (k := k) (f := f) (s := s) (t := t) h (m := 3) (by omega) (a + 1) (ft := ((a + 1 : Nat) : Int)) (by omega) (d + 3) Q
      rw [o3] at bn
      have hq := hQ (a + 1 : Nat) (a + 1 : Nat) k 0 0 0 119 (fun q => by rw [eS] at q; cases q) (fun _ => by rw [eS]; rfl)
      simp (config := { contextual := true }) (disch := omega) only [R_X7_readStatement_b0, R_X7_readStatement_b1, h1, rs_2, up_pr, rs_w2, ec, kd, rs_w5, rs_w6, rs_w7, bd, bs, bn, true_and, and_true, true_implies, not_true_eq_false, false_implies, not_false_eq_true, false_and, and_false, or_true, true_or, false_or, or_false, implies_true, forall_const, kl_i, kl_n, kl_r, kl_l, tl_s, tl_n, List.cons_append, List.nil_append, Int.cast_ofNat_Int, w32_id, w64_id, le_T, le_F, lt_T, lt_F, eq_T, eq_F, reduceIte, ne_eq, Int.toNat_natCast, bi_0, bi_1, bi_b, Nat.reduceAdd, Nat.reduceEqDiff, Int.reduceToNat, Int.reduceNeg, nle_T, nlt_T, neq_T, neq_F, b2_0, b2_b, both, reduceCtorEq]
      exact hq
    rw [if_neg c2] at eS
    have kd := fun Q => (kd Q).trans (if_neg c2)
    have eS : stp (I 52) n a = if (num (I 52) n 1 a1).1 < 0 then noP a1 else stE (I 52) n (num (I 52) n 1 a1).2 (fun c => (119, v1, (num (I 52) n 1 a1).1, c, 0)) := eS
    have ke := fun f Q => ct_rd1 (k := k) (f := f) (s := s) (t := t) h a1 (d + 4) Q
    generalize num (I 52) n 1 a1 = r2 at eS ke
    obtain ⟨v2, a2⟩ := r2
    have ke : ∀ f (Q : QQ), WP (d + 5) m_X7_readDigit 0 [some (vr (some 45))] [] g (rs I a1 (-1) k f s t) Q = if v2 < 0 then Q (some (vi 0)) g (rs I a1 a1 k f s t) else Q (some (vi v2)) g (rs I a2 (-1) k f s t) := ke
    by_cases c3 : v2 < 0
    · rw [if_pos c3] at eS
      have ke := fun f Q => (ke f Q).trans (if_pos c3)
      have bs := fun f s t b Q => ct_rsb (k := k) (f := f) (s := s) (t := t) h a1 (ft := (a1 : Int)) (by omega) b (d + 4) Q
      have bn := fun f s t Q => ct_rnb (k := k) (f := f) (s := s) (t := t) h (m := 3) (by omega) a1 (ft := (a1 : Int)) (by omega) (d + 3) Q
      rw [o3] at bn
      have hq := hQ a1 a1 k v1 0 0 119 (fun q => by rw [eS] at q; cases q) (fun _ => by rw [eS]; rfl)
      simp (config := { contextual := true }) (disch := omega) only [R_X7_readStatement_b0, R_X7_readStatement_b1, h1, rs_2, up_pr, rs_w2, ec, kd, rs_w5, rs_w6, rs_w7, ke, bs, bn, true_and, and_true, true_implies, not_true_eq_false, false_implies, not_false_eq_true, false_and, and_false, or_true, true_or, false_or, or_false, implies_true, forall_const, kl_i, kl_n, kl_r, kl_l, tl_s, tl_n, List.cons_append, List.nil_append, Int.cast_ofNat_Int, w32_id, w64_id, le_T, le_F, lt_T, lt_F, eq_T, eq_F, reduceIte, ne_eq, Int.toNat_natCast, bi_0, bi_1, bi_b, Nat.reduceAdd, Nat.reduceEqDiff, Int.reduceToNat, Int.reduceNeg, nle_T, nlt_T, neq_T, neq_F, b2_0, b2_b, both, reduceCtorEq]
      exact hq
    rw [if_neg c3] at eS
    have ke := fun f Q => (ke f Q).trans (if_neg c3)
    have eE : stE (I 52) n a2 (fun c => ((119, v1, v2, c, 0) : RG)) = if ¬ nby (I 52) n a2 = 44 then noP a2 else if (num (I 52) n 3 (a2 + 1)).1 < 0 then noP (a2 + 1) else if nby (I 52) n (num (I 52) n 3 (a2 + 1)).2 = 59 then (true, (num (I 52) n 3 (a2 + 1)).2 + 1, 119, v1, v2, (num (I 52) n 3 (a2 + 1)).1, 0) else noP (num (I 52) n 3 (a2 + 1)).2 := rfl
    have eS : stp (I 52) n a = stE (I 52) n a2 (fun c => ((119, v1, v2, c, 0) : RG)) := eS
    rw [eE] at eS
    have kc := fun f s Q => ct_rsg (k := k) (f := f) (s := s) (t := t) h a2 44 (by omega) (d + 4) Q
    by_cases c6 : nby (I 52) n a2 = 44
    case neg =>
      rw [if_pos c6] at eS
      have kc := fun f s Q => (kc f s Q).trans (if_neg c6)
      have bs := fun f s t b Q => ct_rsb (k := k) (f := f) (s := s) (t := t) h a2 (ft := (a2 : Int)) (by omega) b (d + 4) Q
      have bn := fun f s t Q => ct_rnb (k := k) (f := f) (s := s) (t := t) h (m := 3) (by omega) a2 (ft := (a2 : Int)) (by omega) (d + 3) Q
      rw [o3] at bn
      have hq := hQ a2 a2 k v1 v2 0 119 (fun q => by rw [eS] at q; cases q) (fun _ => by rw [eS]; rfl)
      simp (config := { contextual := true }) (disch := omega) only [R_X7_readStatement_b0, R_X7_readStatement_b1, h1, rs_2, up_pr, rs_w2, ec, kd, rs_w5, rs_w6, rs_w7, ke, kc, bs, bn, true_and, and_true, true_implies, not_true_eq_false, false_implies, not_false_eq_true, false_and, and_false, or_true, true_or, false_or, or_false, implies_true, forall_const, kl_i, kl_n, kl_r, kl_l, tl_s, tl_n, List.cons_append, List.nil_append, Int.cast_ofNat_Int, w32_id, w64_id, le_T, le_F, lt_T, lt_F, eq_T, eq_F, reduceIte, ne_eq, Int.toNat_natCast, bi_0, bi_1, bi_b, Nat.reduceAdd, Nat.reduceEqDiff, Int.reduceToNat, Int.reduceNeg, nle_T, nlt_T, neq_T, neq_F, b2_0, b2_b, both, reduceCtorEq]
      exact hq
    have c6' : ¬ ¬ nby (I 52) n a2 = 44 := fun q => q c6
    rw [if_neg c6'] at eS
    have kc := fun f s Q => (kc f s Q).trans (if_pos c6)
    have kn := fun f s Q => ct_rnm (k := k) (f := f) (s := s) (t := t) h (m := 3) (by omega) (a2 + 1) (d + 3) Q
    rw [o3] at kn
    generalize num (I 52) n 3 (a2 + 1) = r3 at eS kn
    obtain ⟨v3, a3⟩ := r3
    have kn : ∀ f s (Q : QQ), WP (d + 5) m_X7_readNumber 0 [some (vr (some 45)), some (vi 3), none, none] [] g (rs I (a2 + 1 : Nat) (-1) k f s t) Q = if v3 < 0 then Q (some (vi 0)) g (rs I (a2 + 1 : Nat) (a2 + 1 : Nat) k f s t) else Q (some (vi v3)) g (rs I a3 (-1) k f s t) := kn
    by_cases c7 : v3 < 0
    · rw [if_pos c7] at eS
      have kn := fun f s Q => (kn f s Q).trans (if_pos c7)
      have bs := fun f s t b Q => ct_rsb (k := k) (f := f) (s := s) (t := t) h (a2 + 1) (ft := ((a2 + 1 : Nat) : Int)) (by omega) b (d + 4) Q
      have hq := hQ (a2 + 1 : Nat) (a2 + 1 : Nat) k v1 v2 0 119 (fun q => by rw [eS] at q; cases q) (fun _ => by rw [eS]; rfl)
      simp (config := { contextual := true }) (disch := omega) only [R_X7_readStatement_b0, R_X7_readStatement_b1, h1, rs_2, up_pr, rs_w2, ec, kd, rs_w5, rs_w6, rs_w7, ke, kc, kn, bs, true_and, and_true, true_implies, not_true_eq_false, false_implies, not_false_eq_true, false_and, and_false, or_true, true_or, false_or, or_false, implies_true, forall_const, kl_i, kl_n, kl_r, kl_l, tl_s, tl_n, List.cons_append, List.nil_append, Int.cast_ofNat_Int, w32_id, w64_id, le_T, le_F, lt_T, lt_F, eq_T, eq_F, reduceIte, ne_eq, Int.toNat_natCast, bi_0, bi_1, bi_b, Nat.reduceAdd, Nat.reduceEqDiff, Int.reduceToNat, Int.reduceNeg, nle_T, nlt_T, neq_T, neq_F, b2_0, b2_b, both, reduceCtorEq]
      exact hq
    rw [if_neg c7] at eS
    have kn := fun f s Q => (kn f s Q).trans (if_neg c7)
    have eS : stp (I 52) n a = if nby (I 52) n a3 = 59 then (true, a3 + 1, 119, v1, v2, v3, 0) else noP a3 := eS
    have ks := fun f s t Q => ct_rsg (k := k) (f := f) (s := s) (t := t) h a3 59 (by omega) (d + 4) Q
    by_cases c8 : nby (I 52) n a3 = 59
    · rw [if_pos c8] at eS
      have ks := fun f s t Q => (ks f s t Q).trans (if_pos c8)
      have hq := hQ (a3 + 1 : Nat) (-1) k v1 v2 v3 119 (fun _ => by rw [eS]; exact ⟨rfl, rfl, rfl, (fun q => by cases q), fun _ => ⟨rfl, rfl, rfl⟩, (fun q => by cases q)⟩) (fun q => by rw [eS] at q; exact absurd rfl q)
      simp (config := { contextual := true }) (disch := omega) only [R_X7_readStatement_b0, R_X7_readStatement_b1, h1, rs_2, up_pr, rs_w2, ec, kd, rs_w5, rs_w6, rs_w7, ke, kc, kn, ks, true_and, and_true, true_implies, not_true_eq_false, false_implies, not_false_eq_true, false_and, and_false, or_true, true_or, false_or, or_false, implies_true, forall_const, kl_i, kl_n, kl_r, kl_l, tl_s, tl_n, List.cons_append, List.nil_append, Int.cast_ofNat_Int, w32_id, w64_id, le_T, le_F, lt_T, lt_F, eq_T, eq_F, reduceIte, ne_eq, Int.toNat_natCast, bi_0, bi_1, bi_b, Nat.reduceAdd, Nat.reduceEqDiff, Int.reduceToNat, Int.reduceNeg, nle_T, nlt_T, neq_T, neq_F, b2_0, b2_b, both, reduceCtorEq]
      exact hq
    · rw [if_neg c8] at eS
      have ks := fun f s t Q => (ks f s t Q).trans (if_neg c8)
      have hq := hQ a3 a3 k v1 v2 v3 119 (fun q => by rw [eS] at q; cases q) (fun _ => by rw [eS]; rfl)
      simp (config := { contextual := true }) (disch := omega) only [R_X7_readStatement_b0, R_X7_readStatement_b1, h1, rs_2, up_pr, rs_w2, ec, kd, rs_w5, rs_w6, rs_w7, ke, kc, kn, ks, true_and, and_true, true_implies, not_true_eq_false, false_implies, not_false_eq_true, false_and, and_false, or_true, true_or, false_or, or_false, implies_true, forall_const, kl_i, kl_n, kl_r, kl_l, tl_s, tl_n, List.cons_append, List.nil_append, Int.cast_ofNat_Int, w32_id, w64_id, le_T, le_F, lt_T, lt_F, eq_T, eq_F, reduceIte, ne_eq, Int.toNat_natCast, bi_0, bi_1, bi_b, Nat.reduceAdd, Nat.reduceEqDiff, Int.reduceToNat, Int.reduceNeg, nle_T, nlt_T, neq_T, neq_F, b2_0, b2_b, both, reduceCtorEq]
      exact hq
  by_cases c5 : l = 116
  · subst c5
    have hb : nby (I 52) n a = 116 := by omega
    have hin := nby_in hb (by omega)
    have n110 : ¬ nby (I 52) n a = 110 := by omega
    have n119 : ¬ nby (I 52) n a = 119 := by omega
    rw [if_neg n110, if_neg n119, if_pos hb] at eS
    have eW : stT (I 52) n (a + 1) = if kdo (nby (I 52) n (a + 1)) < 0 then noP (a + 1) else if (num (I 52) n 1 (a + 1 + 1)).1 < 0 then noP (a + 1 + 1) else if (num (I 52) n 2 (num (I 52) n 1 (a + 1 + 1)).2).1 < 0 then noP (num (I 52) n 1 (a + 1 + 1)).2 else stE (I 52) n (num (I 52) n 2 (num (I 52) n 1 (a + 1 + 1)).2).2 (fun c => (116, kdo (nby (I 52) n (a + 1)), (num (I 52) n 1 (a + 1 + 1)).1, (num (I 52) n 2 (num (I 52) n 1 (a + 1 + 1)).2).1, c)) := rfl
    rw [eW] at eS
    have kk := fun Q => ct_rkd (k := k) (f := f) (s := s) (t := t) h hs (a + 1) d Q
    generalize kdo (nby (I 52) n (a + 1)) = v0 at eS kk
    by_cases c0 : v0 < 0
    · rw [if_pos c0] at eS
      have kk := fun Q => (kk Q).trans (if_pos c0)
      have bd := fun k f s t Q => ct_rdb (k := k) (f := f) (s := s) (t := t) h (a + 1) (ft := ((a + 1 : Nat) : Int)) (by omega) (d + 4) Q
      have bs := fun k f s t b Q => ct_rsb (k := k) (f := f) (s := s) (t := t) h (a + 1) (ft := ((a + 1 : Nat) : Int)) (by omega) b (d + 4) Q
      have bn := fun k f s t Q => ct_rnb (k := k) (f := f) (s := s) (t := t) h (m := 3) (by omega) (a + 1) (ft := ((a + 1 : Nat) : Int)) (by omega) (d + 3) Q
      have bn2 := fun k f s t Q => ct_rnb (k := k) (f := f) (s := s) (t := t) h (m := 2) (by omega) (a + 1) (ft := ((a + 1 : Nat) : Int)) (by omega) (d + 3) Q
      rw [o3] at bn
      rw [o2] at bn2
      have hq := hQ (a + 1 : Nat) (a + 1 : Nat) 0 0 0 0 116 (fun q => by rw [eS] at q; cases q) (fun _ => by rw [eS]; rfl)
      simp (config := { contextual := true }) (disch := omega) only [R_X7_readStatement_b0, R_X7_readStatement_b1, h1, rs_2, up_pr, rs_w2, ec, kk, rs_w4, rs_w5, rs_w6, rs_w7, bd, bs, bn, bn2, true_and, and_true, true_implies, not_true_eq_false, false_implies, not_false_eq_true, false_and, and_false, or_true, true_or, false_or, or_false, implies_true, forall_const, kl_i, kl_n, kl_r, kl_l, tl_s, tl_n, List.cons_append, List.nil_append, Int.cast_ofNat_Int, w32_id, w64_id, le_T, le_F, lt_T, lt_F, eq_T, eq_F, reduceIte, ne_eq, Int.toNat_natCast, bi_0, bi_1, bi_b, Nat.reduceAdd, Nat.reduceEqDiff, Int.reduceToNat, Int.reduceNeg, nle_T, nlt_T, neq_T, neq_F, b2_0, b2_b, both, reduceCtorEq]
      exact hq
    rw [if_neg c0] at eS
    have kk := fun Q => (kk Q).trans (if_neg c0)
    have kd := fun k Q => ct_rd1 (k := k) (f := f) (s := s) (t := t) h (a + 1 + 1) (d + 4) Q
    generalize num (I 52) n 1 (a + 1 + 1) = r1 at eS kd
    obtain ⟨v1, a1⟩ := r1
    have kd : ∀ k (Q : QQ), WP (d + 5) m_X7_readDigit 0 [some (vr (some 45))] [] g (rs I (a + 1 + 1 : Nat) (-1) k f s t) Q = if v1 < 0 then Q (some (vi 0)) g (rs I (a + 1 + 1 : Nat) (a + 1 + 1 : Nat) k f s t) else Q (some (vi v1)) g (rs I a1 (-1) k f s t) := kd
    by_cases c2 : v1 < 0
    · rw [if_pos c2] at eS
      have kd := fun k Q => (kd k Q).trans (if_pos c2)
      have bs := fun k f s t b Q => ct_rsb (k := k) (f := f) (s := s) (t := t) h (a + 1 + 1) (ft := ((a + 1 + 1 : Nat) : Int)) (by omega) b (d + 4) Q
      have bn := fun k f s t Q => ct_rnb (k := k) (f := f) (s := s) (t := t) h (m := 3) (by omega) (a + 1 + 1) (ft := ((a + 1 + 1 : Nat) : Int)) (by omega) (d + 3) Q
      have bn2 := fun k f s t Q => ct_rnb (k := k) (f := f) (s := s) (t := t) h (m := 2) (by omega) (a + 1 + 1) (ft := ((a + 1 + 1 : Nat) : Int)) (by omega) (d + 3) Q
      rw [o3] at bn
      rw [o2] at bn2
      have hq := hQ (a + 1 + 1 : Nat) (a + 1 + 1 : Nat) v0 0 0 0 116 (fun q => by rw [eS] at q; cases q) (fun _ => by rw [eS]; rfl)
      simp (config := { contextual := true }) (disch := omega) only [R_X7_readStatement_b0, R_X7_readStatement_b1, h1, rs_2, up_pr, rs_w2, ec, kk, rs_w4, rs_w5, rs_w6, rs_w7, kd, bs, bn, bn2, true_and, and_true, true_implies, not_true_eq_false, false_implies, not_false_eq_true, false_and, and_false, or_true, true_or, false_or, or_false, implies_true, forall_const, kl_i, kl_n, kl_r, kl_l, tl_s, tl_n, List.cons_append, List.nil_append, Int.cast_ofNat_Int, w32_id, w64_id, le_T, le_F, lt_T, lt_F, eq_T, eq_F, reduceIte, ne_eq, Int.toNat_natCast, bi_0, bi_1, bi_b, Nat.reduceAdd, Nat.reduceEqDiff, Int.reduceToNat, Int.reduceNeg, nle_T, nlt_T, neq_T, neq_F, b2_0, b2_b, both, reduceCtorEq]
      exact hq
    rw [if_neg c2] at eS
    have kd := fun k Q => (kd k Q).trans (if_neg c2)
    have eS : stp (I 52) n a = if (num (I 52) n 2 a1).1 < 0 then noP a1 else stE (I 52) n (num (I 52) n 2 a1).2 (fun c => (116, v0, v1, (num (I 52) n 2 a1).1, c)) := eS
    have ke := fun k f Q => ct_rnm (k := k) (f := f) (s := s) (t := t) h (m := 2) (by omega) a1 (d + 3) Q
    rw [o2] at ke
    generalize num (I 52) n 2 a1 = r2 at eS ke
    obtain ⟨v2, a2⟩ := r2
    have ke : ∀ k f (Q : QQ), WP (d + 5) m_X7_readNumber 0 [some (vr (some 45)), some (vi 2), none, none] [] g (rs I a1 (-1) k f s t) Q = if v2 < 0 then Q (some (vi 0)) g (rs I a1 a1 k f s t) else Q (some (vi v2)) g (rs I a2 (-1) k f s t) := ke
    by_cases c3 : v2 < 0
    · rw [if_pos c3] at eS
      have ke := fun k f Q => (ke k f Q).trans (if_pos c3)
      have bs := fun k f s t b Q => ct_rsb (k := k) (f := f) (s := s) (t := t) h a1 (ft := (a1 : Int)) (by omega) b (d + 4) Q
      have bn := fun k f s t Q => ct_rnb (k := k) (f := f) (s := s) (t := t) h (m := 3) (by omega) a1 (ft := (a1 : Int)) (by omega) (d + 3) Q
      rw [o3] at bn
      have hq := hQ a1 a1 v0 v1 0 0 116 (fun q => by rw [eS] at q; cases q) (fun _ => by rw [eS]; rfl)
      simp (config := { contextual := true }) (disch := omega) only [R_X7_readStatement_b0, R_X7_readStatement_b1, h1, rs_2, up_pr, rs_w2, ec, kk, rs_w4, rs_w5, rs_w6, rs_w7, kd, ke, bs, bn, true_and, and_true, true_implies, not_true_eq_false, false_implies, not_false_eq_true, false_and, and_false, or_true, true_or, false_or, or_false, implies_true, forall_const, kl_i, kl_n, kl_r, kl_l, tl_s, tl_n, List.cons_append, List.nil_append, Int.cast_ofNat_Int, w32_id, w64_id, le_T, le_F, lt_T, lt_F, eq_T, eq_F, reduceIte, ne_eq, Int.toNat_natCast, bi_0, bi_1, bi_b, Nat.reduceAdd, Nat.reduceEqDiff, Int.reduceToNat, Int.reduceNeg, nle_T, nlt_T, neq_T, neq_F, b2_0, b2_b, both, reduceCtorEq]
      exact hq
    rw [if_neg c3] at eS
    have ke := fun k f Q => (ke k f Q).trans (if_neg c3)
    have eE : stE (I 52) n a2 (fun c => ((116, v0, v1, v2, c) : RG)) = if ¬ nby (I 52) n a2 = 44 then noP a2 else if (num (I 52) n 3 (a2 + 1)).1 < 0 then noP (a2 + 1) else if nby (I 52) n (num (I 52) n 3 (a2 + 1)).2 = 59 then (true, (num (I 52) n 3 (a2 + 1)).2 + 1, 116, v0, v1, v2, (num (I 52) n 3 (a2 + 1)).1) else noP (num (I 52) n 3 (a2 + 1)).2 := rfl
    have eS : stp (I 52) n a = stE (I 52) n a2 (fun c => ((116, v0, v1, v2, c) : RG)) := eS
    rw [eE] at eS
    have kc := fun k f s Q => ct_rsg (k := k) (f := f) (s := s) (t := t) h a2 44 (by omega) (d + 4) Q
    by_cases c6 : nby (I 52) n a2 = 44
    case neg =>
      rw [if_pos c6] at eS
      have kc := fun k f s Q => (kc k f s Q).trans (if_neg c6)
      have bs := fun k f s t b Q => ct_rsb (k := k) (f := f) (s := s) (t := t) h a2 (ft := (a2 : Int)) (by omega) b (d + 4) Q
      have bn := fun k f s t Q => ct_rnb (k := k) (f := f) (s := s) (t := t) h (m := 3) (by omega) a2 (ft := (a2 : Int)) (by omega) (d + 3) Q
      rw [o3] at bn
      have hq := hQ a2 a2 v0 v1 v2 0 116 (fun q => by rw [eS] at q; cases q) (fun _ => by rw [eS]; rfl)
      simp (config := { contextual := true }) (disch := omega) only [R_X7_readStatement_b0, R_X7_readStatement_b1, h1, rs_2, up_pr, rs_w2, ec, kk, rs_w4, rs_w5, rs_w6, rs_w7, kd, ke, kc, bs, bn, true_and, and_true, true_implies, not_true_eq_false, false_implies, not_false_eq_true, false_and, and_false, or_true, true_or, false_or, or_false, implies_true, forall_const, kl_i, kl_n, kl_r, kl_l, tl_s, tl_n, List.cons_append, List.nil_append, Int.cast_ofNat_Int, w32_id, w64_id, le_T, le_F, lt_T, lt_F, eq_T, eq_F, reduceIte, ne_eq, Int.toNat_natCast, bi_0, bi_1, bi_b, Nat.reduceAdd, Nat.reduceEqDiff, Int.reduceToNat, Int.reduceNeg, nle_T, nlt_T, neq_T, neq_F, b2_0, b2_b, both, reduceCtorEq]
      exact hq
    have c6' : ¬ ¬ nby (I 52) n a2 = 44 := fun q => q c6
    rw [if_neg c6'] at eS
    have kc := fun k f s Q => (kc k f s Q).trans (if_pos c6)
    have kn := fun k f s Q => ct_rnm (k := k) (f := f) (s := s) (t := t) h (m := 3) (by omega) (a2 + 1) (d + 3) Q
    rw [o3] at kn
    generalize num (I 52) n 3 (a2 + 1) = r3 at eS kn
    obtain ⟨v3, a3⟩ := r3
    have kn : ∀ k f s (Q : QQ), WP (d + 5) m_X7_readNumber 0 [some (vr (some 45)), some (vi 3), none, none] [] g (rs I (a2 + 1 : Nat) (-1) k f s t) Q = if v3 < 0 then Q (some (vi 0)) g (rs I (a2 + 1 : Nat) (a2 + 1 : Nat) k f s t) else Q (some (vi v3)) g (rs I a3 (-1) k f s t) := kn
    by_cases c7 : v3 < 0
    · rw [if_pos c7] at eS
      have kn := fun k f s Q => (kn k f s Q).trans (if_pos c7)
      have bs := fun k f s t b Q => ct_rsb (k := k) (f := f) (s := s) (t := t) h (a2 + 1) (ft := ((a2 + 1 : Nat) : Int)) (by omega) b (d + 4) Q
      have hq := hQ (a2 + 1 : Nat) (a2 + 1 : Nat) v0 v1 v2 0 116 (fun q => by rw [eS] at q; cases q) (fun _ => by rw [eS]; rfl)
      simp (config := { contextual := true }) (disch := omega) only [R_X7_readStatement_b0, R_X7_readStatement_b1, h1, rs_2, up_pr, rs_w2, ec, kk, rs_w4, rs_w5, rs_w6, rs_w7, kd, ke, kc, kn, bs, true_and, and_true, true_implies, not_true_eq_false, false_implies, not_false_eq_true, false_and, and_false, or_true, true_or, false_or, or_false, implies_true, forall_const, kl_i, kl_n, kl_r, kl_l, tl_s, tl_n, List.cons_append, List.nil_append, Int.cast_ofNat_Int, w32_id, w64_id, le_T, le_F, lt_T, lt_F, eq_T, eq_F, reduceIte, ne_eq, Int.toNat_natCast, bi_0, bi_1, bi_b, Nat.reduceAdd, Nat.reduceEqDiff, Int.reduceToNat, Int.reduceNeg, nle_T, nlt_T, neq_T, neq_F, b2_0, b2_b, both, reduceCtorEq]
      exact hq
    rw [if_neg c7] at eS
    have kn := fun k f s Q => (kn k f s Q).trans (if_neg c7)
    have eS : stp (I 52) n a = if nby (I 52) n a3 = 59 then (true, a3 + 1, 116, v0, v1, v2, v3) else noP a3 := eS
    have ks := fun k f s t Q => ct_rsg (k := k) (f := f) (s := s) (t := t) h a3 59 (by omega) (d + 4) Q
    by_cases c8 : nby (I 52) n a3 = 59
    · rw [if_pos c8] at eS
      have ks := fun k f s t Q => (ks k f s t Q).trans (if_pos c8)
      have hq := hQ (a3 + 1 : Nat) (-1) v0 v1 v2 v3 116 (fun _ => by rw [eS]; exact ⟨rfl, rfl, rfl, (fun q => by cases q), (fun q => by cases q), fun _ => ⟨rfl, rfl, rfl, rfl⟩⟩) (fun q => by rw [eS] at q; exact absurd rfl q)
      simp (config := { contextual := true }) (disch := omega) only [R_X7_readStatement_b0, R_X7_readStatement_b1, h1, rs_2, up_pr, rs_w2, ec, kk, rs_w4, rs_w5, rs_w6, rs_w7, kd, ke, kc, kn, ks, true_and, and_true, true_implies, not_true_eq_false, false_implies, not_false_eq_true, false_and, and_false, or_true, true_or, false_or, or_false, implies_true, forall_const, kl_i, kl_n, kl_r, kl_l, tl_s, tl_n, List.cons_append, List.nil_append, Int.cast_ofNat_Int, w32_id, w64_id, le_T, le_F, lt_T, lt_F, eq_T, eq_F, reduceIte, ne_eq, Int.toNat_natCast, bi_0, bi_1, bi_b, Nat.reduceAdd, Nat.reduceEqDiff, Int.reduceToNat, Int.reduceNeg, nle_T, nlt_T, neq_T, neq_F, b2_0, b2_b, both, reduceCtorEq]
      exact hq
    · rw [if_neg c8] at eS
      have ks := fun k f s t Q => (ks k f s t Q).trans (if_neg c8)
      have hq := hQ a3 a3 v0 v1 v2 v3 116 (fun q => by rw [eS] at q; cases q) (fun _ => by rw [eS]; rfl)
      simp (config := { contextual := true }) (disch := omega) only [R_X7_readStatement_b0, R_X7_readStatement_b1, h1, rs_2, up_pr, rs_w2, ec, kk, rs_w4, rs_w5, rs_w6, rs_w7, kd, ke, kc, kn, ks, true_and, and_true, true_implies, not_true_eq_false, false_implies, not_false_eq_true, false_and, and_false, or_true, true_or, false_or, or_false, implies_true, forall_const, kl_i, kl_n, kl_r, kl_l, tl_s, tl_n, List.cons_append, List.nil_append, Int.cast_ofNat_Int, w32_id, w64_id, le_T, le_F, lt_T, lt_F, eq_T, eq_F, reduceIte, ne_eq, Int.toNat_natCast, bi_0, bi_1, bi_b, Nat.reduceAdd, Nat.reduceEqDiff, Int.reduceToNat, Int.reduceNeg, nle_T, nlt_T, neq_T, neq_F, b2_0, b2_b, both, reduceCtorEq]
      exact hq
  have hno : ¬ nby (I 52) n a = 110 ∧ ¬ nby (I 52) n a = 119 ∧ ¬ nby (I 52) n a = 116 := by omega
  rw [if_neg hno.1, if_neg hno.2.1, if_neg hno.2.2] at eS
  have kf := fun Q => ct_fail (k := k) (f := f) (s := s) (t := t) h a (-1) (d + 5) Q
  rw [if_pos m1] at kf
  have kb := fun Q => ct_rsb (k := k) (f := f) (s := s) (t := t) h a (ft := (a : Int)) (by omega) 59 (d + 4) Q
  have hq := hQ a a k f s t l (fun q => by rw [eS] at q; cases q) (fun _ => by rw [eS]; rfl)
  simp (config := { contextual := true }) (disch := omega) only [R_X7_readStatement_b0, R_X7_readStatement_b1, h1, c1, c4, c5, kf, kb, true_and, and_true, true_implies, not_true_eq_false, false_implies, not_false_eq_true, false_and, and_false, or_true, true_or, false_or, or_false, implies_true, forall_const, kl_i, kl_n, kl_r, kl_l, tl_s, tl_n, List.cons_append, List.nil_append, Int.cast_ofNat_Int, w32_id, w64_id, le_T, le_F, lt_T, lt_F, eq_T, eq_F, reduceIte, ne_eq, Int.toNat_natCast, bi_0, bi_1, bi_b, Nat.reduceAdd, Nat.reduceEqDiff, Int.reduceToNat, Int.reduceNeg, nle_T, nlt_T, neq_T, neq_F, b2_0, b2_b, both, reduceCtorEq]
  exact hq
end RST

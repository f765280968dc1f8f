-- TOGETHER and CHILD on both sides
def tgC (A : II) (D : Nat → Int) (age0 : Int) : Nat → Int × Int × Int
  | 0 => (A 7 3, age0, 0)
  | i + 1 => if D (8 * (tgC A D age0 i).1.toNat + (A 12 i).toNat) < 100000 then (A 12 i, (tgC A D age0 i).2.1 + D (8 * (tgC A D age0 i).1.toNat + (A 12 i).toNat), (tgC A D age0 i).2.2 + (if (tgC A D age0 i).2.1 + D (8 * (tgC A D age0 i).1.toNat + (A 12 i).toNat) ≤ A 7 2 then 1 else 0)) else tgC A D age0 i
section TG
variable {g : GG} {I : II} {t m : Nat} {A : II} {D : Nat → Int} {z : Int}
theorem tg_b (hS : okSt A) (hO : okOr A m) (hD : bD D) (hz : 0 ≤ z ∧ z ≤ 999) : ∀ i, i ≤ m → (0 ≤ (tgC A D z i).1 ∧ (tgC A D z i).1 < 8) ∧ (0 ≤ (tgC A D z i).2.1 ∧ (tgC A D z i).2.1 ≤ 999 + 100000 * (i : Int)) ∧ (0 ≤ (tgC A D z i).2.2 ∧ (tgC A D z i).2.2 ≤ i)
  | 0, _ => ⟨hS.2.2.2, ⟨hz.1, by show z ≤ 999 + 100000 * ((0 : Nat) : Int); omega⟩, ⟨by show (0 : Int) ≤ 0; omega, by show (0 : Int) ≤ ((0 : Nat) : Int); omega⟩⟩
  | i + 1, hi => by
    have ih := tg_b hS hO hD hz i (by omega)
    have ho := hO.2 i (by omega)
    have e : tgC A D z (i + 1) = if D (8 * (tgC A D z i).1.toNat + (A 12 i).toNat) < 100000 then (A 12 i, (tgC A D z i).2.1 + D (8 * (tgC A D z i).1.toNat + (A 12 i).toNat), (tgC A D z i).2.2 + (if (tgC A D z i).2.1 + D (8 * (tgC A D z i).1.toNat + (A 12 i).toNat) ≤ A 7 2 then 1 else 0)) else tgC A D z i := rfl
    rw [e]
    generalize tgC A D z i = s at ih ⊢
    have hd := hD (8 * s.1.toNat + (A 12 i).toNat) (by omega)
    split
    · refine ⟨ho, ⟨by show 0 ≤ s.2.1 + _; omega, by show s.2.1 + _ ≤ _; omega⟩, ?_⟩
      show 0 ≤ s.2.2 + (if _ then (1 : Int) else 0) ∧ s.2.2 + (if _ then (1 : Int) else 0) ≤ ((i + 1 : Nat) : Int)
      split <;> omega
    · omega
theorem tg_st (hS : okSt A) (hO : okOr A m) (hD : bD D) (hz : 0 ≤ z ∧ z ≤ 999) {i : Nat} (h : A 7 2 < (tgC A D z i).2.1) : ∀ k, i + k ≤ m → (tgC A D z (i + k)).2.2 = (tgC A D z i).2.2 ∧ A 7 2 < (tgC A D z (i + k)).2.1
  | 0, _ => ⟨rfl, h⟩
  | k + 1, hk => by
    have ih := tg_st hS hO hD hz h k (by omega)
    have hb := tg_b hS hO hD hz (i + k) (by omega)
    have ho := hO.2 (i + k) (by omega)
    have e : tgC A D z (i + (k + 1)) = if D (8 * (tgC A D z (i + k)).1.toNat + (A 12 (i + k)).toNat) < 100000 then (A 12 (i + k), (tgC A D z (i + k)).2.1 + D (8 * (tgC A D z (i + k)).1.toNat + (A 12 (i + k)).toNat), (tgC A D z (i + k)).2.2 + (if (tgC A D z (i + k)).2.1 + D (8 * (tgC A D z (i + k)).1.toNat + (A 12 (i + k)).toNat) ≤ A 7 2 then 1 else 0)) else tgC A D z (i + k) := rfl
    rw [e]
    generalize tgC A D z (i + k) = s at ih hb ⊢
    have hd := hD (8 * s.1.toNat + (A 12 (i + k)).toNat) (by omega)
    split
    · have : ¬ s.2.1 + D (8 * s.1.toNat + (A 12 (i + k)).toNat) ≤ A 7 2 := by omega
      rw [if_neg this]
      exact ⟨by show s.2.2 + 0 = _; omega, by show A 7 2 < s.2.1 + _; omega⟩
    · exact ih
theorem lp_tg (hX : WX g) (hT : WT g t) (h50 : gR g 5 0 = some t) (ht : t ≤ 19) (hS : okSt A) (hO : okOr A m) (hD : bD D) (he : e64 (I (t + 2)) D) (hm : I t 7 = (m : Int)) (hor : ∀ j, j < 8 → I (t + 5) j = A 12 j) (hs2 : I (t + 4) 2 = A 7 2) (hz : 0 ≤ z ∧ z ≤ 999) {za zb : Int} (d : Nat) (Q : QQ) : ∀ k i : Nat, i + k = m → ∀ l7, WP (d + 1) m_X11_together 59 [some (vr (some 5)), some (vi za), some (vi zb), some (vi (tgC A D z i).2.1), some (vi (tgC A D z i).1), some (vi (tgC A D z i).2.2), some (vi i), l7] [] g I Q = Q (some (vi (tgC A D z m).2.2)) g I := by
  have hm8 := hO.1
  intro k
  induction k with
  | zero =>
    intro i hi l7
    obtain rfl : i = m := by omega
    rw [H_X11_together_59]
    simp (config := { contextual := true }) (disch := omega) only [R_X11_together_b0, R_X11_together_b1, hX, hT, h50, hm, true_and, and_true, true_implies, not_true_eq_false, false_implies, not_false_eq_true, false_and, and_false, or_true, true_or, false_or, or_false, implies_true, forall_const, kl_i, kl_n, kl_r, kl_l, tl_s, tl_n, List.cons_append, List.nil_append, Int.cast_ofNat_Int, w32_id, w64_id, le_T, le_F, lt_T, lt_F, eq_T, eq_F, reduceIte, ne_eq, Int.toNat_natCast, bi_0, bi_1, bi_b, Nat.reduceAdd, Nat.reduceEqDiff, Int.reduceToNat, Int.reduceNeg, nle_T, nlt_T, neq_T, neq_F, b2_0, b2_b, both, reduceCtorEq]
  | succ k ih =>
    intro i hi l7
    have ih' := ih (i + 1) (by omega)
    have hb := tg_b hS hO hD hz i (by omega)
    have ho := hO.2 i (by omega)
    have hoi := hor i (by omega)
    have ec : ((i + 1 : Nat) : Int) = (i : Int) + 1 := by omega
    have e : tgC A D z (i + 1) = if D (8 * (tgC A D z i).1.toNat + (A 12 i).toNat) < 100000 then (A 12 i, (tgC A D z i).2.1 + D (8 * (tgC A D z i).1.toNat + (A 12 i).toNat), (tgC A D z i).2.2 + (if (tgC A D z i).2.1 + D (8 * (tgC A D z i).1.toNat + (A 12 i).toNat) ≤ A 7 2 then 1 else 0)) else tgC A D z i := rfl
    rw [e, ec] at ih'
    generalize tgC A D z i = s at ih' hb ⊢
    obtain ⟨at', age, rr⟩ := s
    obtain ⟨hb1, hb2, hb3⟩ := hb
    have hb1 : 0 ≤ at' ∧ at' < 8 := hb1
    have hb2 : 0 ≤ age ∧ age ≤ 999 + 100000 * (i : Int) := hb2
    have hb3 : 0 ≤ rr ∧ rr ≤ i := hb3
    have hd := hD (8 * at'.toNat + (A 12 i).toNat) (by omega)
    have ed := he (8 * at'.toNat + (A 12 i).toNat) (by omega)
    rw [H_X11_together_59]
    by_cases c1 : D (8 * at'.toNat + (A 12 i).toNat) < 100000
    · rw [if_pos c1] at ih'
      by_cases c2 : age + D (8 * at'.toNat + (A 12 i).toNat) ≤ A 7 2
      · rw [if_pos c2] at ih'
        simp (config := { contextual := true }) (disch := omega) only [R_X11_together_b0, R_X11_together_b1, hX, hT, h50, hm, hoi, hs2, ct_miles hT, ed, ih', true_and, and_true, true_implies, not_true_eq_false, false_implies, not_false_eq_true, false_and, and_false, or_true, true_or, false_or, or_false, implies_true, forall_const, kl_i, kl_n, kl_r, kl_l, tl_s, tl_n, List.cons_append, List.nil_append, Int.cast_ofNat_Int, w32_id, w64_id, le_T, le_F, lt_T, lt_F, eq_T, eq_F, reduceIte, ne_eq, Int.toNat_natCast, bi_0, bi_1, bi_b, Nat.reduceAdd, Nat.reduceEqDiff, Int.reduceToNat, Int.reduceNeg, nle_T, nlt_T, neq_T, neq_F, b2_0, b2_b, both, reduceCtorEq]
      · rw [if_neg c2, Int.add_zero] at ih'
        simp (config := { contextual := true }) (disch := omega) only [R_X11_together_b0, R_X11_together_b1, hX, hT, h50, hm, hoi, hs2, ct_miles hT, ed, Int.add_zero, ih', true_and, and_true, true_implies, not_true_eq_false, false_implies, not_false_eq_true, false_and, and_false, or_true, true_or, false_or, or_false, implies_true, forall_const, kl_i, kl_n, kl_r, kl_l, tl_s, tl_n, List.cons_append, List.nil_append, Int.cast_ofNat_Int, w32_id, w64_id, le_T, le_F, lt_T, lt_F, eq_T, eq_F, reduceIte, ne_eq, Int.toNat_natCast, bi_0, bi_1, bi_b, Nat.reduceAdd, Nat.reduceEqDiff, Int.reduceToNat, Int.reduceNeg, nle_T, nlt_T, neq_T, neq_F, b2_0, b2_b, both, reduceCtorEq]
    · rw [if_neg c1] at ih'
      simp (config := { contextual := true }) (disch := omega) only [R_X11_together_b0, R_X11_together_b1, hX, hT, h50, hm, hoi, ct_miles hT, ed, ih', true_and, and_true, true_implies, not_true_eq_false, false_implies, not_false_eq_true, false_and, and_false, or_true, true_or, false_or, or_false, implies_true, forall_const, kl_i, kl_n, kl_r, kl_l, tl_s, tl_n, List.cons_append, List.nil_append, Int.cast_ofNat_Int, w32_id, w64_id, le_T, le_F, lt_T, lt_F, eq_T, eq_F, reduceIte, ne_eq, Int.toNat_natCast, bi_0, bi_1, bi_b, Nat.reduceAdd, Nat.reduceEqDiff, Int.reduceToNat, Int.reduceNeg, nle_T, nlt_T, neq_T, neq_F, b2_0, b2_b, both, reduceCtorEq]
theorem lp_mtg (hW : WM g) (hS : okSt A) (hO : okOr A m) (hD : bD D) (h72 : I 72 = D) (hm : I 57 18 = (m : Int)) (hor : I 71 = A 12) (hs : I 66 = A 7) (hz : 0 ≤ z ∧ z ≤ 999) {za zb zw : Int} (d : Nat) (Q : QQ) : ∀ k i : Nat, i + k = m → WP (d + 1) m_X12_together 74 [some (vr (some 57)), some (vi za), some (vi zb), some (vi zw), some (vi (tgC A D z i).1), some (vi (tgC A D z i).2.1), some (vi (tgC A D z i).2.2), some (vi i)] [] g I Q = Q (some (vi (tgC A D z m).2.2)) g I := by
  have hm8 := hO.1
  intro k
  induction k with
  | zero =>
    intro i hi
    obtain rfl : i = m := by omega
    rw [H_X12_together_74]
    simp (config := { contextual := true }) (disch := omega) only [R_X12_together_b0, R_X12_together_b1, hW, hm, true_and, and_true, true_implies, not_true_eq_false, false_implies, not_false_eq_true, false_and, and_false, or_true, true_or, false_or, or_false, implies_true, forall_const, kl_i, kl_n, kl_r, kl_l, tl_s, tl_n, List.cons_append, List.nil_append, Int.cast_ofNat_Int, w32_id, w64_id, le_T, le_F, lt_T, lt_F, eq_T, eq_F, reduceIte, ne_eq, Int.toNat_natCast, bi_0, bi_1, bi_b, Nat.reduceAdd, Nat.reduceEqDiff, Int.reduceToNat, Int.reduceNeg, nle_T, nlt_T, neq_T, neq_F, b2_0, b2_b, both, reduceCtorEq]
  | succ k ih =>
    intro i hi
    have ih' := ih (i + 1) (by omega)
    have hb := tg_b hS hO hD hz i (by omega)
    have ho := hO.2 i (by omega)
    have ec : ((i + 1 : Nat) : Int) = (i : Int) + 1 := by omega
    have hst := fun h => tg_st (i := i + 1) hS hO hD hz h k (by omega)
    have e : tgC A D z (i + 1) = if D (8 * (tgC A D z i).1.toNat + (A 12 i).toNat) < 100000 then (A 12 i, (tgC A D z i).2.1 + D (8 * (tgC A D z i).1.toNat + (A 12 i).toNat), (tgC A D z i).2.2 + (if (tgC A D z i).2.1 + D (8 * (tgC A D z i).1.toNat + (A 12 i).toNat) ≤ A 7 2 then 1 else 0)) else tgC A D z i := rfl
    rw [show i + 1 + k = m by omega] at hst
    rw [e] at hst
    rw [e, ec] at ih'
    generalize tgC A D z i = s at ih' hb hst ⊢
    obtain ⟨at', age, rr⟩ := s
    obtain ⟨hb1, hb2, hb3⟩ := hb
    have hb1 : 0 ≤ at' ∧ at' < 8 := hb1
    have hb2 : 0 ≤ age ∧ age ≤ 999 + 100000 * (i : Int) := hb2
    have hb3 : 0 ≤ rr ∧ rr ≤ i := hb3
    have hd := hD (8 * at'.toNat + (A 12 i).toNat) (by omega)
    rw [H_X12_together_74]
    by_cases c1 : D (8 * at'.toNat + (A 12 i).toNat) < 100000
    · rw [if_pos c1] at ih' hst
      by_cases c2 : age + D (8 * at'.toNat + (A 12 i).toNat) ≤ A 7 2
      · rw [if_pos c2] at ih'
        simp (config := { contextual := true }) (disch := omega) only [R_X12_together_b0, R_X12_together_b1, hW, hm, hor, hs, h72, ct_farOf hW, ih', true_and, and_true, true_implies, not_true_eq_false, false_implies, not_false_eq_true, false_and, and_false, or_true, true_or, false_or, or_false, implies_true, forall_const, kl_i, kl_n, kl_r, kl_l, tl_s, tl_n, List.cons_append, List.nil_append, Int.cast_ofNat_Int, w32_id, w64_id, le_T, le_F, lt_T, lt_F, eq_T, eq_F, reduceIte, ne_eq, Int.toNat_natCast, bi_0, bi_1, bi_b, Nat.reduceAdd, Nat.reduceEqDiff, Int.reduceToNat, Int.reduceNeg, nle_T, nlt_T, neq_T, neq_F, b2_0, b2_b, both, reduceCtorEq]
      · rw [if_neg c2] at hst
        have q : A 7 2 < age + D (8 * at'.toNat + (A 12 i).toNat) := by omega
        have h2 := (hst q).1
        have h2 : (tgC A D z m).2.2 = rr := by rw [h2]; show rr + 0 = rr; omega
        rw [h2]
        simp (config := { contextual := true }) (disch := omega) only [R_X12_together_b0, R_X12_together_b1, hW, hm, hor, hs, h72, ct_farOf hW, true_and, and_true, true_implies, not_true_eq_false, false_implies, not_false_eq_true, false_and, and_false, or_true, true_or, false_or, or_false, implies_true, forall_const, kl_i, kl_n, kl_r, kl_l, tl_s, tl_n, List.cons_append, List.nil_append, Int.cast_ofNat_Int, w32_id, w64_id, le_T, le_F, lt_T, lt_F, eq_T, eq_F, reduceIte, ne_eq, Int.toNat_natCast, bi_0, bi_1, bi_b, Nat.reduceAdd, Nat.reduceEqDiff, Int.reduceToNat, Int.reduceNeg, nle_T, nlt_T, neq_T, neq_F, b2_0, b2_b, both, reduceCtorEq]
    · rw [if_neg c1] at ih'
      simp (config := { contextual := true }) (disch := omega) only [R_X12_together_b0, R_X12_together_b1, hW, hm, hor, hs, h72, ct_farOf hW, ih', true_and, and_true, true_implies, not_true_eq_false, false_implies, not_false_eq_true, false_and, and_false, or_true, true_or, false_or, or_false, implies_true, forall_const, kl_i, kl_n, kl_r, kl_l, tl_s, tl_n, List.cons_append, List.nil_append, Int.cast_ofNat_Int, w32_id, w64_id, le_T, le_F, lt_T, lt_F, eq_T, eq_F, reduceIte, ne_eq, Int.toNat_natCast, bi_0, bi_1, bi_b, Nat.reduceAdd, Nat.reduceEqDiff, Int.reduceToNat, Int.reduceNeg, nle_T, nlt_T, neq_T, neq_F, b2_0, b2_b, both, reduceCtorEq]
end TG
section CST
variable {L : Nat} {xs : Nat → Int32} {g : GG} {I : II} {t dr : Nat} {A : II} {P w n q m : Nat}
theorem cs_together (hs : SS L xs g I) (hg : 90 ≤ gN g) (h : RQ g I t dr A P w n q m) (a b : Int) : CS L xs g I m_X11_together m_X12_together [some (vi a), some (vi b), none, none, none, none, none] [some (vi a), some (vi b), none, none, none, none, none] vi := by
  have hW := h.2.2.1.1
  have hX := h.2.2.1.2.1
  obtain ⟨ht1, ht2, hT⟩ := RQ_t h
  have h50 := h.2.1.1
  obtain ⟨hP, hP'⟩ := RQ_P h
  have hS := RQ_S h
  have hP8 := hS.2.1
  by_cases c1 : a < 0 ∨ b < 0
  · have c1' : a < 0 ∨ (¬ a < 0 ∧ b < 0) := by omega
    rcases c1' with c2 | ⟨c2, c3⟩
    · refine CS_r hs hg h (-4) (k := 4) (by omega) (fun Q => ?_) (fun Q => ?_)
      · simp (config := { contextual := true }) (disch := omega) only [R_X11_together_b0, R_X11_together_b1, hX, ct_refuse hX, rfC, true_and, and_true, true_implies, not_true_eq_false, false_implies, not_false_eq_true, false_and, and_false, or_true, true_or, false_or, or_false, implies_true, forall_const, kl_i, kl_n, kl_r, kl_l, tl_s, tl_n, List.cons_append, List.nil_append, Int.cast_ofNat_Int, w32_id, w64_id, le_T, le_F, lt_T, lt_F, eq_T, eq_F, reduceIte, ne_eq, Int.toNat_natCast, bi_0, bi_1, bi_b, Nat.reduceAdd, Nat.reduceEqDiff, Int.reduceToNat, Int.reduceNeg, nle_T, nlt_T, neq_T, neq_F, b2_0, b2_b, both, reduceCtorEq]
      · simp (config := { contextual := true }) (disch := omega) only [R_X12_together_b0, R_X12_together_b1, hW, ct_no hW, pr_o, rfC, rfM, true_and, and_true, true_implies, not_true_eq_false, false_implies, not_false_eq_true, false_and, and_false, or_true, true_or, false_or, or_false, implies_true, forall_const, kl_i, kl_n, kl_r, kl_l, tl_s, tl_n, List.cons_append, List.nil_append, Int.cast_ofNat_Int, w32_id, w64_id, le_T, le_F, lt_T, lt_F, eq_T, eq_F, reduceIte, ne_eq, Int.toNat_natCast, bi_0, bi_1, bi_b, Nat.reduceAdd, Nat.reduceEqDiff, Int.reduceToNat, Int.reduceNeg, nle_T, nlt_T, neq_T, neq_F, b2_0, b2_b, both, reduceCtorEq]
    · refine CS_r hs hg h (-4) (k := 4) (by omega) (fun Q => ?_) (fun Q => ?_)
      · simp (config := { contextual := true }) (disch := omega) only [R_X11_together_b0, R_X11_together_b1, hX, ct_refuse hX, rfC, true_and, and_true, true_implies, not_true_eq_false, false_implies, not_false_eq_true, false_and, and_false, or_true, true_or, false_or, or_false, implies_true, forall_const, kl_i, kl_n, kl_r, kl_l, tl_s, tl_n, List.cons_append, List.nil_append, Int.cast_ofNat_Int, w32_id, w64_id, le_T, le_F, lt_T, lt_F, eq_T, eq_F, reduceIte, ne_eq, Int.toNat_natCast, bi_0, bi_1, bi_b, Nat.reduceAdd, Nat.reduceEqDiff, Int.reduceToNat, Int.reduceNeg, nle_T, nlt_T, neq_T, neq_F, b2_0, b2_b, both, reduceCtorEq]
      · simp (config := { contextual := true }) (disch := omega) only [R_X12_together_b0, R_X12_together_b1, hW, ct_no hW, pr_o, rfC, rfM, true_and, and_true, true_implies, not_true_eq_false, false_implies, not_false_eq_true, false_and, and_false, or_true, true_or, false_or, or_false, implies_true, forall_const, kl_i, kl_n, kl_r, kl_l, tl_s, tl_n, List.cons_append, List.nil_append, Int.cast_ofNat_Int, w32_id, w64_id, le_T, le_F, lt_T, lt_F, eq_T, eq_F, reduceIte, ne_eq, Int.toNat_natCast, bi_0, bi_1, bi_b, Nat.reduceAdd, Nat.reduceEqDiff, Int.reduceToNat, Int.reduceNeg, nle_T, nlt_T, neq_T, neq_F, b2_0, b2_b, both, reduceCtorEq]
  by_cases c4 : 999 < a
  · refine CS_r hs hg h (-6) (k := 6) (by omega) (fun Q => ?_) (fun Q => ?_)
    · simp (config := { contextual := true }) (disch := omega) only [R_X11_together_b0, R_X11_together_b1, hX, ct_refuse hX, rfC, true_and, and_true, true_implies, not_true_eq_false, false_implies, not_false_eq_true, false_and, and_false, or_true, true_or, false_or, or_false, implies_true, forall_const, kl_i, kl_n, kl_r, kl_l, tl_s, tl_n, List.cons_append, List.nil_append, Int.cast_ofNat_Int, w32_id, w64_id, le_T, le_F, lt_T, lt_F, eq_T, eq_F, reduceIte, ne_eq, Int.toNat_natCast, bi_0, bi_1, bi_b, Nat.reduceAdd, Nat.reduceEqDiff, Int.reduceToNat, Int.reduceNeg, nle_T, nlt_T, neq_T, neq_F, b2_0, b2_b, both, reduceCtorEq]
    · simp (config := { contextual := true }) (disch := omega) only [R_X12_together_b0, R_X12_together_b1, hW, ct_no hW, pr_o, rfC, rfM, true_and, and_true, true_implies, not_true_eq_false, false_implies, not_false_eq_true, false_and, and_false, or_true, true_or, false_or, or_false, implies_true, forall_const, kl_i, kl_n, kl_r, kl_l, tl_s, tl_n, List.cons_append, List.nil_append, Int.cast_ofNat_Int, w32_id, w64_id, le_T, le_F, lt_T, lt_F, eq_T, eq_F, reduceIte, ne_eq, Int.toNat_natCast, bi_0, bi_1, bi_b, Nat.reduceAdd, Nat.reduceEqDiff, Int.reduceToNat, Int.reduceNeg, nle_T, nlt_T, neq_T, neq_F, b2_0, b2_b, both, reduceCtorEq]
  by_cases c5 : 999 < b
  · refine CS_r hs hg h (-6) (k := 6) (by omega) (fun Q => ?_) (fun Q => ?_)
    · simp (config := { contextual := true }) (disch := omega) only [R_X11_together_b0, R_X11_together_b1, hX, ct_refuse hX, rfC, true_and, and_true, true_implies, not_true_eq_false, false_implies, not_false_eq_true, false_and, and_false, or_true, true_or, false_or, or_false, implies_true, forall_const, kl_i, kl_n, kl_r, kl_l, tl_s, tl_n, List.cons_append, List.nil_append, Int.cast_ofNat_Int, w32_id, w64_id, le_T, le_F, lt_T, lt_F, eq_T, eq_F, reduceIte, ne_eq, Int.toNat_natCast, bi_0, bi_1, bi_b, Nat.reduceAdd, Nat.reduceEqDiff, Int.reduceToNat, Int.reduceNeg, nle_T, nlt_T, neq_T, neq_F, b2_0, b2_b, both, reduceCtorEq]
    · simp (config := { contextual := true }) (disch := omega) only [R_X12_together_b0, R_X12_together_b1, hW, ct_no hW, pr_o, rfC, rfM, true_and, and_true, true_implies, not_true_eq_false, false_implies, not_false_eq_true, false_and, and_false, or_true, true_or, false_or, or_false, implies_true, forall_const, kl_i, kl_n, kl_r, kl_l, tl_s, tl_n, List.cons_append, List.nil_append, Int.cast_ofNat_Int, w32_id, w64_id, le_T, le_F, lt_T, lt_F, eq_T, eq_F, reduceIte, ne_eq, Int.toNat_natCast, bi_0, bi_1, bi_b, Nat.reduceAdd, Nat.reduceEqDiff, Int.reduceToNat, Int.reduceNeg, nle_T, nlt_T, neq_T, neq_F, b2_0, b2_b, both, reduceCtorEq]
  obtain ⟨dB, dZ, d1, d8⟩ := DM_ok hS (I 72)
  have hf := RQ_far h (I 72)
  have T := h.2.2.2.2.1.2.2.2.2
  have hs3 := T.1 3 (by omega)
  have hs2 := T.1 2 (by omega)
  have hmm := RQ_m h
  have kf := RQ_ff h
  have h'' := RQ_sm h (sm_72 I (DM A P w (I 72)))
  obtain ⟨r3, r4, r5, r6, r7, r8, r9, r10, r11, r12, r13⟩ := RQ_r h''
  have hm2 := (RQ_m h'').2
  have hz : 0 ≤ max a b ∧ max a b ≤ 999 := by omega
  have k1 := fun Q => lp_tg hX hT h50 ht1 (okS_S hS) (okS_O hS) dB hf hmm.1 T.2.1 hs2 hz (za := a) (zb := b) 998 Q m 0 (by omega) none
  have k2 := fun Q => lp_mtg (I := pr I 72 (DM A P w (I 72))) hW (okS_S hS) (okS_O hS) dB (pr_s _ _ _) hm2 r12 r7 hz (za := a) (zb := b) (zw := 0) 998 Q m 0 (by omega)
  have e0 : tgC A (DM A P w (I 72)) (max a b) 0 = (A 7 3, max a b, 0) := rfl
  rw [e0] at k1 k2
  refine CS_q hs hg h (tgC A (DM A P w (I 72)) (max a b) m).2.2 (fun Q => ?_) (sm_rf I) (fun Q => ?_) (sm_72 I (DM A P w (I 72)))
  · have k1 := k1 Q
    simp (config := { contextual := true }) (disch := omega) only [R_X11_together_b0, R_X11_together_b1, hX, hT, h50, hs3, true_and, and_true, true_implies, not_true_eq_false, false_implies, not_false_eq_true, false_and, and_false, or_true, true_or, false_or, or_false, implies_true, forall_const, kl_i, kl_n, kl_r, kl_l, tl_s, tl_n, List.cons_append, List.nil_append, Int.cast_ofNat_Int, w32_id, w64_id, le_T, le_F, lt_T, lt_F, eq_T, eq_F, reduceIte, ne_eq, Int.toNat_natCast, bi_0, bi_1, bi_b, Nat.reduceAdd, Nat.reduceEqDiff, Int.reduceToNat, Int.reduceNeg, nle_T, nlt_T, neq_T, neq_F, b2_0, b2_b, both, reduceCtorEq]
    exact k1
  · have k2 := k2 Q
    by_cases c : b < a
    · rw [Int.max_eq_left (by omega)] at k2 ⊢
      simp (config := { contextual := true }) (disch := omega) only [R_X12_together_b0, R_X12_together_b1, hW, kf, r7, true_and, and_true, true_implies, not_true_eq_false, false_implies, not_false_eq_true, false_and, and_false, or_true, true_or, false_or, or_false, implies_true, forall_const, kl_i, kl_n, kl_r, kl_l, tl_s, tl_n, List.cons_append, List.nil_append, Int.cast_ofNat_Int, w32_id, w64_id, le_T, le_F, lt_T, lt_F, eq_T, eq_F, reduceIte, ne_eq, Int.toNat_natCast, bi_0, bi_1, bi_b, Nat.reduceAdd, Nat.reduceEqDiff, Int.reduceToNat, Int.reduceNeg, nle_T, nlt_T, neq_T, neq_F, b2_0, b2_b, both, reduceCtorEq]
      exact k2
    · rw [Int.max_eq_right (by omega)] at k2 ⊢
      simp (config := { contextual := true }) (disch := omega) only [R_X12_together_b0, R_X12_together_b1, hW, kf, r7, true_and, and_true, true_implies, not_true_eq_false, false_implies, not_false_eq_true, false_and, and_false, or_true, true_or, false_or, or_false, implies_true, forall_const, kl_i, kl_n, kl_r, kl_l, tl_s, tl_n, List.cons_append, List.nil_append, Int.cast_ofNat_Int, w32_id, w64_id, le_T, le_F, lt_T, lt_F, eq_T, eq_F, reduceIte, ne_eq, Int.toNat_natCast, bi_0, bi_1, bi_b, Nat.reduceAdd, Nat.reduceEqDiff, Int.reduceToNat, Int.reduceNeg, nle_T, nlt_T, neq_T, neq_F, b2_0, b2_b, both, reduceCtorEq]
      exact k2
theorem lp_ch (hW : WM g) {a b m : Int} (ha : 0 ≤ a ∧ a ≤ 999) (hb : 0 ≤ b ∧ b ≤ 999) (hm : 0 ≤ m ∧ m ≤ 999) (hl : 0 ≤ a + b - m) (d : Nat) (Q : QQ) : ∀ (k : Nat) (x best : Int), 0 ≤ x → x + k = min a m + 1 → -9 ≤ best ∧ best ≤ min (min a b) ((a + b - m) / 2) → (max 0 (min (min a b) ((a + b - m) / 2) + m - b) < x → best = min (min a b) ((a + b - m) / 2)) → ∀ l7 l8 l9, WP d m_X12_child 65 [some (vr (some 57)), some (vi a), some (vi b), some (vi m), some (vi 0), some (vi best), some (vi x), l7, l8, l9] [] g I Q = Q (some (vi (min (min a b) ((a + b - m) / 2)))) g I := by
  intro k
  induction k with
  | zero =>
    intro x best hx hk hbb hfin l7 l8 l9
    have e := hfin (by omega)
    rw [H_X12_child_65, e]
    by_cases c : x ≤ a
    · simp (config := { contextual := true }) (disch := omega) only [R_X12_child_b0, R_X12_child_b1, hW, true_and, and_true, true_implies, not_true_eq_false, false_implies, not_false_eq_true, false_and, and_false, or_true, true_or, false_or, or_false, implies_true, forall_const, kl_i, kl_n, kl_r, kl_l, tl_s, tl_n, List.cons_append, List.nil_append, Int.cast_ofNat_Int, w32_id, w64_id, le_T, le_F, lt_T, lt_F, eq_T, eq_F, reduceIte, ne_eq, Int.toNat_natCast, bi_0, bi_1, bi_b, Nat.reduceAdd, Nat.reduceEqDiff, Int.reduceToNat, Int.reduceNeg, nle_T, nlt_T, neq_T, neq_F, b2_0, b2_b, both, reduceCtorEq]
    · simp (config := { contextual := true }) (disch := omega) only [R_X12_child_b0, R_X12_child_b1, hW, true_and, and_true, true_implies, not_true_eq_false, false_implies, not_false_eq_true, false_and, and_false, or_true, true_or, false_or, or_false, implies_true, forall_const, kl_i, kl_n, kl_r, kl_l, tl_s, tl_n, List.cons_append, List.nil_append, Int.cast_ofNat_Int, w32_id, w64_id, le_T, le_F, lt_T, lt_F, eq_T, eq_F, reduceIte, ne_eq, Int.toNat_natCast, bi_0, bi_1, bi_b, Nat.reduceAdd, Nat.reduceEqDiff, Int.reduceToNat, Int.reduceNeg, nle_T, nlt_T, neq_T, neq_F, b2_0, b2_b, both, reduceCtorEq]
  | succ k ih =>
    intro x best hx hk hbb hfin l7 l8 l9
    rw [H_X12_child_65]
    by_cases c1 : b - (m - x) < 0
    · have ih' := ih (x + 1) best (by omega) (by omega) hbb (fun h => hfin (by omega))
      simp (config := { contextual := true }) (disch := omega) only [R_X12_child_b0, R_X12_child_b1, hW, ih', true_and, and_true, true_implies, not_true_eq_false, false_implies, not_false_eq_true, false_and, and_false, or_true, true_or, false_or, or_false, implies_true, forall_const, kl_i, kl_n, kl_r, kl_l, tl_s, tl_n, List.cons_append, List.nil_append, Int.cast_ofNat_Int, w32_id, w64_id, le_T, le_F, lt_T, lt_F, eq_T, eq_F, reduceIte, ne_eq, Int.toNat_natCast, bi_0, bi_1, bi_b, Nat.reduceAdd, Nat.reduceEqDiff, Int.reduceToNat, Int.reduceNeg, nle_T, nlt_T, neq_T, neq_F, b2_0, b2_b, both, reduceCtorEq]
    · by_cases c2 : a - x < b - (m - x)
      · by_cases c3 : best < a - x
        · have ih' := ih (x + 1) (a - x) (by omega) (by omega) (by omega) (fun h => by omega)
          simp (config := { contextual := true }) (disch := omega) only [R_X12_child_b0, R_X12_child_b1, hW, ih', true_and, and_true, true_implies, not_true_eq_false, false_implies, not_false_eq_true, false_and, and_false, or_true, true_or, false_or, or_false, implies_true, forall_const, kl_i, kl_n, kl_r, kl_l, tl_s, tl_n, List.cons_append, List.nil_append, Int.cast_ofNat_Int, w32_id, w64_id, le_T, le_F, lt_T, lt_F, eq_T, eq_F, reduceIte, ne_eq, Int.toNat_natCast, bi_0, bi_1, bi_b, Nat.reduceAdd, Nat.reduceEqDiff, Int.reduceToNat, Int.reduceNeg, nle_T, nlt_T, neq_T, neq_F, b2_0, b2_b, both, reduceCtorEq]
        · have ih' := ih (x + 1) best (by omega) (by omega) hbb (fun h => by
            by_cases q : max 0 (min (min a b) ((a + b - m) / 2) + m - b) < x
            · exact hfin q
            · omega)
          simp (config := { contextual := true }) (disch := omega) only [R_X12_child_b0, R_X12_child_b1, hW, ih', true_and, and_true, true_implies, not_true_eq_false, false_implies, not_false_eq_true, false_and, and_false, or_true, true_or, false_or, or_false, implies_true, forall_const, kl_i, kl_n, kl_r, kl_l, tl_s, tl_n, List.cons_append, List.nil_append, Int.cast_ofNat_Int, w32_id, w64_id, le_T, le_F, lt_T, lt_F, eq_T, eq_F, reduceIte, ne_eq, Int.toNat_natCast, bi_0, bi_1, bi_b, Nat.reduceAdd, Nat.reduceEqDiff, Int.reduceToNat, Int.reduceNeg, nle_T, nlt_T, neq_T, neq_F, b2_0, b2_b, both, reduceCtorEq]
      · by_cases c3 : best < b - (m - x)
        · have ih' := ih (x + 1) (b - (m - x)) (by omega) (by omega) (by omega) (fun h => by omega)
          simp (config := { contextual := true }) (disch := omega) only [R_X12_child_b0, R_X12_child_b1, hW, ih', true_and, and_true, true_implies, not_true_eq_false, false_implies, not_false_eq_true, false_and, and_false, or_true, true_or, false_or, or_false, implies_true, forall_const, kl_i, kl_n, kl_r, kl_l, tl_s, tl_n, List.cons_append, List.nil_append, Int.cast_ofNat_Int, w32_id, w64_id, le_T, le_F, lt_T, lt_F, eq_T, eq_F, reduceIte, ne_eq, Int.toNat_natCast, bi_0, bi_1, bi_b, Nat.reduceAdd, Nat.reduceEqDiff, Int.reduceToNat, Int.reduceNeg, nle_T, nlt_T, neq_T, neq_F, b2_0, b2_b, both, reduceCtorEq]
        · have ih' := ih (x + 1) best (by omega) (by omega) hbb (fun h => by
            by_cases q : max 0 (min (min a b) ((a + b - m) / 2) + m - b) < x
            · exact hfin q
            · omega)
          simp (config := { contextual := true }) (disch := omega) only [R_X12_child_b0, R_X12_child_b1, hW, ih', true_and, and_true, true_implies, not_true_eq_false, false_implies, not_false_eq_true, false_and, and_false, or_true, true_or, false_or, or_false, implies_true, forall_const, kl_i, kl_n, kl_r, kl_l, tl_s, tl_n, List.cons_append, List.nil_append, Int.cast_ofNat_Int, w32_id, w64_id, le_T, le_F, lt_T, lt_F, eq_T, eq_F, reduceIte, ne_eq, Int.toNat_natCast, bi_0, bi_1, bi_b, Nat.reduceAdd, Nat.reduceEqDiff, Int.reduceToNat, Int.reduceNeg, nle_T, nlt_T, neq_T, neq_F, b2_0, b2_b, both, reduceCtorEq]
theorem lp_chn (hW : WM g) {a b m : Int} (ha : 0 ≤ a ∧ a ≤ 999) (hb : 0 ≤ b ∧ b ≤ 999) (hm : 0 ≤ m ∧ m ≤ 999) (hl : a + b - m < 0) (d : Nat) (Q : QQ) : ∀ (k : Nat) (x : Int), 0 ≤ x → x + k = min a m + 1 → ∀ l7 l8 l9, WP d m_X12_child 65 [some (vr (some 57)), some (vi a), some (vi b), some (vi m), some (vi 0), some (vi (-9)), some (vi x), l7, l8, l9] [] g I Q = Q (some (vi (-9))) g I := by
  intro k
  induction k with
  | zero =>
    intro x hx hk l7 l8 l9
    rw [H_X12_child_65]
    have c : ¬ x ≤ a := by omega
    simp (config := { contextual := true }) (disch := omega) only [R_X12_child_b0, R_X12_child_b1, hW, true_and, and_true, true_implies, not_true_eq_false, false_implies, not_false_eq_true, false_and, and_false, or_true, true_or, false_or, or_false, implies_true, forall_const, kl_i, kl_n, kl_r, kl_l, tl_s, tl_n, List.cons_append, List.nil_append, Int.cast_ofNat_Int, w32_id, w64_id, le_T, le_F, lt_T, lt_F, eq_T, eq_F, reduceIte, ne_eq, Int.toNat_natCast, bi_0, bi_1, bi_b, Nat.reduceAdd, Nat.reduceEqDiff, Int.reduceToNat, Int.reduceNeg, nle_T, nlt_T, neq_T, neq_F, b2_0, b2_b, both, reduceCtorEq]
  | succ k ih =>
    intro x hx hk l7 l8 l9
    have ih' := ih (x + 1) (by omega) (by omega)
    rw [H_X12_child_65]
    simp (config := { contextual := true }) (disch := omega) only [R_X12_child_b0, R_X12_child_b1, hW, ih', true_and, and_true, true_implies, not_true_eq_false, false_implies, not_false_eq_true, false_and, and_false, or_true, true_or, false_or, or_false, implies_true, forall_const, kl_i, kl_n, kl_r, kl_l, tl_s, tl_n, List.cons_append, List.nil_append, Int.cast_ofNat_Int, w32_id, w64_id, le_T, le_F, lt_T, lt_F, eq_T, eq_F, reduceIte, ne_eq, Int.toNat_natCast, bi_0, bi_1, bi_b, Nat.reduceAdd, Nat.reduceEqDiff, Int.reduceToNat, Int.reduceNeg, nle_T, nlt_T, neq_T, neq_F, b2_0, b2_b, both, reduceCtorEq]
theorem cs_child (hs : SS L xs g I) (hg : 90 ≤ gN g) (h : RQ g I t dr A P w n q m) (a b c : Int) : CS L xs g I m_X11_child m_X12_child [some (vi a), some (vi b), some (vi c), none] [some (vi a), some (vi b), some (vi c), none, none, none, none, none, none] vi := by
  have hW := h.2.2.1.1
  have hX := h.2.2.1.2.1
  obtain ⟨ht1, ht2, hT⟩ := RQ_t h
  have h50 := h.2.1.1
  obtain ⟨hP, hP'⟩ := RQ_P h
  have hS := RQ_S h
  have hP8 := hS.2.1
  by_cases c1 : a < 0
  · refine CS_r hs hg h (-4) (k := 4) (by omega) (fun Q => ?_) (fun Q => ?_)
    · simp (config := { contextual := true }) (disch := omega) only [R_X11_child, hX, ct_refuse hX, rfC, true_and, and_true, true_implies, not_true_eq_false, false_implies, not_false_eq_true, false_and, and_false, or_true, true_or, false_or, or_false, implies_true, forall_const, kl_i, kl_n, kl_r, kl_l, tl_s, tl_n, List.cons_append, List.nil_append, Int.cast_ofNat_Int, w32_id, w64_id, le_T, le_F, lt_T, lt_F, eq_T, eq_F, reduceIte, ne_eq, Int.toNat_natCast, bi_0, bi_1, bi_b, Nat.reduceAdd, Nat.reduceEqDiff, Int.reduceToNat, Int.reduceNeg, nle_T, nlt_T, neq_T, neq_F, b2_0, b2_b, both, reduceCtorEq]
    · simp (config := { contextual := true }) (disch := omega) only [R_X12_child_b0, R_X12_child_b1, hW, ct_no hW, pr_o, rfC, rfM, true_and, and_true, true_implies, not_true_eq_false, false_implies, not_false_eq_true, false_and, and_false, or_true, true_or, false_or, or_false, implies_true, forall_const, kl_i, kl_n, kl_r, kl_l, tl_s, tl_n, List.cons_append, List.nil_append, Int.cast_ofNat_Int, w32_id, w64_id, le_T, le_F, lt_T, lt_F, eq_T, eq_F, reduceIte, ne_eq, Int.toNat_natCast, bi_0, bi_1, bi_b, Nat.reduceAdd, Nat.reduceEqDiff, Int.reduceToNat, Int.reduceNeg, nle_T, nlt_T, neq_T, neq_F, b2_0, b2_b, both, reduceCtorEq]
  by_cases c2 : b < 0
  · refine CS_r hs hg h (-4) (k := 4) (by omega) (fun Q => ?_) (fun Q => ?_)
    · simp (config := { contextual := true }) (disch := omega) only [R_X11_child, hX, ct_refuse hX, rfC, true_and, and_true, true_implies, not_true_eq_false, false_implies, not_false_eq_true, false_and, and_false, or_true, true_or, false_or, or_false, implies_true, forall_const, kl_i, kl_n, kl_r, kl_l, tl_s, tl_n, List.cons_append, List.nil_append, Int.cast_ofNat_Int, w32_id, w64_id, le_T, le_F, lt_T, lt_F, eq_T, eq_F, reduceIte, ne_eq, Int.toNat_natCast, bi_0, bi_1, bi_b, Nat.reduceAdd, Nat.reduceEqDiff, Int.reduceToNat, Int.reduceNeg, nle_T, nlt_T, neq_T, neq_F, b2_0, b2_b, both, reduceCtorEq]
    · simp (config := { contextual := true }) (disch := omega) only [R_X12_child_b0, R_X12_child_b1, hW, ct_no hW, pr_o, rfC, rfM, true_and, and_true, true_implies, not_true_eq_false, false_implies, not_false_eq_true, false_and, and_false, or_true, true_or, false_or, or_false, implies_true, forall_const, kl_i, kl_n, kl_r, kl_l, tl_s, tl_n, List.cons_append, List.nil_append, Int.cast_ofNat_Int, w32_id, w64_id, le_T, le_F, lt_T, lt_F, eq_T, eq_F, reduceIte, ne_eq, Int.toNat_natCast, bi_0, bi_1, bi_b, Nat.reduceAdd, Nat.reduceEqDiff, Int.reduceToNat, Int.reduceNeg, nle_T, nlt_T, neq_T, neq_F, b2_0, b2_b, both, reduceCtorEq]
  by_cases c3 : c < 0
  · refine CS_r hs hg h (-4) (k := 4) (by omega) (fun Q => ?_) (fun Q => ?_)
    · simp (config := { contextual := true }) (disch := omega) only [R_X11_child, hX, ct_refuse hX, rfC, true_and, and_true, true_implies, not_true_eq_false, false_implies, not_false_eq_true, false_and, and_false, or_true, true_or, false_or, or_false, implies_true, forall_const, kl_i, kl_n, kl_r, kl_l, tl_s, tl_n, List.cons_append, List.nil_append, Int.cast_ofNat_Int, w32_id, w64_id, le_T, le_F, lt_T, lt_F, eq_T, eq_F, reduceIte, ne_eq, Int.toNat_natCast, bi_0, bi_1, bi_b, Nat.reduceAdd, Nat.reduceEqDiff, Int.reduceToNat, Int.reduceNeg, nle_T, nlt_T, neq_T, neq_F, b2_0, b2_b, both, reduceCtorEq]
    · simp (config := { contextual := true }) (disch := omega) only [R_X12_child_b0, R_X12_child_b1, hW, ct_no hW, pr_o, rfC, rfM, true_and, and_true, true_implies, not_true_eq_false, false_implies, not_false_eq_true, false_and, and_false, or_true, true_or, false_or, or_false, implies_true, forall_const, kl_i, kl_n, kl_r, kl_l, tl_s, tl_n, List.cons_append, List.nil_append, Int.cast_ofNat_Int, w32_id, w64_id, le_T, le_F, lt_T, lt_F, eq_T, eq_F, reduceIte, ne_eq, Int.toNat_natCast, bi_0, bi_1, bi_b, Nat.reduceAdd, Nat.reduceEqDiff, Int.reduceToNat, Int.reduceNeg, nle_T, nlt_T, neq_T, neq_F, b2_0, b2_b, both, reduceCtorEq]
  by_cases c4 : 999 < a
  · refine CS_r hs hg h (-6) (k := 6) (by omega) (fun Q => ?_) (fun Q => ?_)
    · simp (config := { contextual := true }) (disch := omega) only [R_X11_child, hX, ct_refuse hX, rfC, true_and, and_true, true_implies, not_true_eq_false, false_implies, not_false_eq_true, false_and, and_false, or_true, true_or, false_or, or_false, implies_true, forall_const, kl_i, kl_n, kl_r, kl_l, tl_s, tl_n, List.cons_append, List.nil_append, Int.cast_ofNat_Int, w32_id, w64_id, le_T, le_F, lt_T, lt_F, eq_T, eq_F, reduceIte, ne_eq, Int.toNat_natCast, bi_0, bi_1, bi_b, Nat.reduceAdd, Nat.reduceEqDiff, Int.reduceToNat, Int.reduceNeg, nle_T, nlt_T, neq_T, neq_F, b2_0, b2_b, both, reduceCtorEq]
    · simp (config := { contextual := true }) (disch := omega) only [R_X12_child_b0, R_X12_child_b1, hW, ct_no hW, pr_o, rfC, rfM, true_and, and_true, true_implies, not_true_eq_false, false_implies, not_false_eq_true, false_and, and_false, or_true, true_or, false_or, or_false, implies_true, forall_const, kl_i, kl_n, kl_r, kl_l, tl_s, tl_n, List.cons_append, List.nil_append, Int.cast_ofNat_Int, w32_id, w64_id, le_T, le_F, lt_T, lt_F, eq_T, eq_F, reduceIte, ne_eq, Int.toNat_natCast, bi_0, bi_1, bi_b, Nat.reduceAdd, Nat.reduceEqDiff, Int.reduceToNat, Int.reduceNeg, nle_T, nlt_T, neq_T, neq_F, b2_0, b2_b, both, reduceCtorEq]
  by_cases c5 : 999 < b
  · refine CS_r hs hg h (-6) (k := 6) (by omega) (fun Q => ?_) (fun Q => ?_)
    · simp (config := { contextual := true }) (disch := omega) only [R_X11_child, hX, ct_refuse hX, rfC, true_and, and_true, true_implies, not_true_eq_false, false_implies, not_false_eq_true, false_and, and_false, or_true, true_or, false_or, or_false, implies_true, forall_const, kl_i, kl_n, kl_r, kl_l, tl_s, tl_n, List.cons_append, List.nil_append, Int.cast_ofNat_Int, w32_id, w64_id, le_T, le_F, lt_T, lt_F, eq_T, eq_F, reduceIte, ne_eq, Int.toNat_natCast, bi_0, bi_1, bi_b, Nat.reduceAdd, Nat.reduceEqDiff, Int.reduceToNat, Int.reduceNeg, nle_T, nlt_T, neq_T, neq_F, b2_0, b2_b, both, reduceCtorEq]
    · simp (config := { contextual := true }) (disch := omega) only [R_X12_child_b0, R_X12_child_b1, hW, ct_no hW, pr_o, rfC, rfM, true_and, and_true, true_implies, not_true_eq_false, false_implies, not_false_eq_true, false_and, and_false, or_true, true_or, false_or, or_false, implies_true, forall_const, kl_i, kl_n, kl_r, kl_l, tl_s, tl_n, List.cons_append, List.nil_append, Int.cast_ofNat_Int, w32_id, w64_id, le_T, le_F, lt_T, lt_F, eq_T, eq_F, reduceIte, ne_eq, Int.toNat_natCast, bi_0, bi_1, bi_b, Nat.reduceAdd, Nat.reduceEqDiff, Int.reduceToNat, Int.reduceNeg, nle_T, nlt_T, neq_T, neq_F, b2_0, b2_b, both, reduceCtorEq]
  by_cases c6 : 999 < c
  · refine CS_r hs hg h (-6) (k := 6) (by omega) (fun Q => ?_) (fun Q => ?_)
    · simp (config := { contextual := true }) (disch := omega) only [R_X11_child, hX, ct_refuse hX, rfC, true_and, and_true, true_implies, not_true_eq_false, false_implies, not_false_eq_true, false_and, and_false, or_true, true_or, false_or, or_false, implies_true, forall_const, kl_i, kl_n, kl_r, kl_l, tl_s, tl_n, List.cons_append, List.nil_append, Int.cast_ofNat_Int, w32_id, w64_id, le_T, le_F, lt_T, lt_F, eq_T, eq_F, reduceIte, ne_eq, Int.toNat_natCast, bi_0, bi_1, bi_b, Nat.reduceAdd, Nat.reduceEqDiff, Int.reduceToNat, Int.reduceNeg, nle_T, nlt_T, neq_T, neq_F, b2_0, b2_b, both, reduceCtorEq]
    · simp (config := { contextual := true }) (disch := omega) only [R_X12_child_b0, R_X12_child_b1, hW, ct_no hW, pr_o, rfC, rfM, true_and, and_true, true_implies, not_true_eq_false, false_implies, not_false_eq_true, false_and, and_false, or_true, true_or, false_or, or_false, implies_true, forall_const, kl_i, kl_n, kl_r, kl_l, tl_s, tl_n, List.cons_append, List.nil_append, Int.cast_ofNat_Int, w32_id, w64_id, le_T, le_F, lt_T, lt_F, eq_T, eq_F, reduceIte, ne_eq, Int.toNat_natCast, bi_0, bi_1, bi_b, Nat.reduceAdd, Nat.reduceEqDiff, Int.reduceToNat, Int.reduceNeg, nle_T, nlt_T, neq_T, neq_F, b2_0, b2_b, both, reduceCtorEq]
  by_cases c7 : a + b - c < 0
  · refine CS_q hs hg h (-9) (fun Q => ?_) (sm_rf I) (fun Q => ?_) (sm_rf I)
    · simp (config := { contextual := true }) (disch := omega) only [R_X11_child, hX, true_and, and_true, true_implies, not_true_eq_false, false_implies, not_false_eq_true, false_and, and_false, or_true, true_or, false_or, or_false, implies_true, forall_const, kl_i, kl_n, kl_r, kl_l, tl_s, tl_n, List.cons_append, List.nil_append, Int.cast_ofNat_Int, w32_id, w64_id, le_T, le_F, lt_T, lt_F, eq_T, eq_F, reduceIte, ne_eq, Int.toNat_natCast, bi_0, bi_1, bi_b, Nat.reduceAdd, Nat.reduceEqDiff, Int.reduceToNat, Int.reduceNeg, nle_T, nlt_T, neq_T, neq_F, b2_0, b2_b, both, reduceCtorEq]
    · have k := lp_chn (I := I) hW (a := a) (b := b) (m := c) (by omega) (by omega) (by omega) c7 999 Q (min a c + 1).toNat 0 (by omega) (by omega) none none none
      simp (config := { contextual := true }) (disch := omega) only [R_X12_child_b0, R_X12_child_b1, hW, true_and, and_true, true_implies, not_true_eq_false, false_implies, not_false_eq_true, false_and, and_false, or_true, true_or, false_or, or_false, implies_true, forall_const, kl_i, kl_n, kl_r, kl_l, tl_s, tl_n, List.cons_append, List.nil_append, Int.cast_ofNat_Int, w32_id, w64_id, le_T, le_F, lt_T, lt_F, eq_T, eq_F, reduceIte, ne_eq, Int.toNat_natCast, bi_0, bi_1, bi_b, Nat.reduceAdd, Nat.reduceEqDiff, Int.reduceToNat, Int.reduceNeg, nle_T, nlt_T, neq_T, neq_F, b2_0, b2_b, both, reduceCtorEq]
      exact k
  · have ed : iDiv (a + b - c) 2 = (a + b - c) / 2 := iDiv_eq (by omega) (by omega) (by omega) (by omega)
    refine CS_q hs hg h (min (min a b) ((a + b - c) / 2)) (fun Q => ?_) (sm_rf I) (fun Q => ?_) (sm_rf I)
    · simp (config := { contextual := true }) (disch := omega) only [R_X11_child, hX, ed, true_and, and_true, true_implies, not_true_eq_false, false_implies, not_false_eq_true, false_and, and_false, or_true, true_or, false_or, or_false, implies_true, forall_const, kl_i, kl_n, kl_r, kl_l, tl_s, tl_n, List.cons_append, List.nil_append, Int.cast_ofNat_Int, w32_id, w64_id, le_T, le_F, lt_T, lt_F, eq_T, eq_F, reduceIte, ne_eq, Int.toNat_natCast, bi_0, bi_1, bi_b, Nat.reduceAdd, Nat.reduceEqDiff, Int.reduceToNat, Int.reduceNeg, nle_T, nlt_T, neq_T, neq_F, b2_0, b2_b, both, reduceCtorEq]
    · have k := lp_ch (I := I) hW (a := a) (b := b) (m := c) (by omega) (by omega) (by omega) (by omega) 999 Q (min a c + 1).toNat 0 (-9) (by omega) (by omega) (by omega) (fun h => by omega) none none none
      simp (config := { contextual := true }) (disch := omega) only [R_X12_child_b0, R_X12_child_b1, hW, true_and, and_true, true_implies, not_true_eq_false, false_implies, not_false_eq_true, false_and, and_false, or_true, true_or, false_or, or_false, implies_true, forall_const, kl_i, kl_n, kl_r, kl_l, tl_s, tl_n, List.cons_append, List.nil_append, Int.cast_ofNat_Int, w32_id, w64_id, le_T, le_F, lt_T, lt_F, eq_T, eq_F, reduceIte, ne_eq, Int.toNat_natCast, bi_0, bi_1, bi_b, Nat.reduceAdd, Nat.reduceEqDiff, Int.reduceToNat, Int.reduceNeg, nle_T, nlt_T, neq_T, neq_F, b2_0, b2_b, both, reduceCtorEq]
      exact k
end CST

-- LAND: how many places are told of, the two sides alike
section MNEED
variable {g : GG} {I A : II} {P w n q m : Nat}
theorem ct_toldPlaces (hW : WM g) (hM : MR I A) (hS : okS A P w n q m) (d : Nat) (Q : QQ) : WP d m_X12_toldPlaces 0 [some (vr (some 57)), none, none] [] g I Q = Q (some (vi (needA A w n q m))) g I := by
  obtain ⟨m0, m1, m2, m3, m4, m5, m6, m7, m8, m9, m10, m11, m12, m13, m14, m15, m16, m17, m18, m19, m20, m21⟩ := hM
  obtain ⟨⟨s0, s1, s2, s3, s4⟩, hP, ⟨hw, hwj⟩, hA, hpl, hst, h73, hwt, ⟨hq, hqj⟩, ⟨hm, hmj⟩, hhb, ⟨hl5, hl5b⟩, hl6⟩ := hS
  have hn := hA.1
  have h70 := hst.2.2.2.1
  have e : needA A w n q m = mxP (fun p => decide (0 < I 67 p)) (mxF (I 71) (mxF (I 69) (mxF (I 63) (mxW (I 59) (I 60) (max (I 66 3) (I 57 35)) w) n) q) m) 8 + 1 := by
    rw [m0, m1, m4, m7, m8, m10, m12, m19]; rfl
  have b0 : 0 ≤ max (I 66 3) (I 57 35) ∧ max (I 66 3) (I 57 35) ≤ 1000 := by rw [m7, m19]; omega
  have b1 : mxF (I 71) (mxF (I 69) (mxF (I 63) (mxW (I 59) (I 60) (max (I 66 3) (I 57 35)) w) n) q) m ≤ 1000 := by
    refine (mxF_le m).mpr ⟨(mxF_le q).mpr ⟨(mxF_le n).mpr ⟨(mxW_le w).mpr ⟨b0.2, fun j hj => ?_⟩, fun j hj => ?_⟩, fun j hj => ?_⟩, fun j hj => ?_⟩
    · have := hwj j hj
      rw [m0, m1]
      omega
    · have := hpl j hj
      rw [m4]
      omega
    · have := hqj j hj
      rw [m10]
      omega
    · have := hmj j hj
      rw [m12]
      omega
  have b2' : max (I 66 3) (I 57 35) ≤ mxF (I 71) (mxF (I 69) (mxF (I 63) (mxW (I 59) (I 60) (max (I 66 3) (I 57 35)) w) n) q) m := ((mxW_le w).mp ((mxF_le n).mp ((mxF_le q).mp ((mxF_le m).mp (Int.le_refl _)).1).1).1).1
  have st : WP d m_X12_toldPlaces 0 [some (vr (some 57)), none, none] [] g I Q = WP d m_X12_toldPlaces 29 [some (vr (some 57)), some (vi (max (I 66 3) (I 57 35))), some (vi 0)] [] g I Q := by
    by_cases c : I 57 35 < I 66 3
    · rw [Int.max_eq_left (by omega)]
      simp (config := { contextual := true }) (disch := omega) only [R_X12_toldPlaces_b0, R_X12_toldPlaces_b1, R_X12_toldPlaces_b2, hW, true_and, and_true, true_implies, not_true_eq_false, false_implies, not_false_eq_true, false_and, and_false, or_true, true_or, false_or, or_false, implies_true, forall_const, kl_i, kl_n, kl_r, kl_l, tl_s, tl_n, List.cons_append, List.nil_append, Int.cast_ofNat_Int, w32_id, w64_id, le_T, le_F, lt_T, lt_F, eq_T, eq_F, reduceIte, ne_eq, Int.toNat_natCast, bi_0, bi_1, bi_b, Nat.reduceAdd, Nat.reduceEqDiff, Int.reduceToNat, Int.reduceNeg, nle_T, nlt_T, neq_T, neq_F, b2_0, b2_b, both, reduceCtorEq]
    · rw [Int.max_eq_right (by omega)]
      simp (config := { contextual := true }) (disch := omega) only [R_X12_toldPlaces_b0, R_X12_toldPlaces_b1, R_X12_toldPlaces_b2, hW, true_and, and_true, true_implies, not_true_eq_false, false_implies, not_false_eq_true, false_and, and_false, or_true, true_or, false_or, or_false, implies_true, forall_const, kl_i, kl_n, kl_r, kl_l, tl_s, tl_n, List.cons_append, List.nil_append, Int.cast_ofNat_Int, w32_id, w64_id, le_T, le_F, lt_T, lt_F, eq_T, eq_F, reduceIte, ne_eq, Int.toNat_natCast, bi_0, bi_1, bi_b, Nat.reduceAdd, Nat.reduceEqDiff, Int.reduceToNat, Int.reduceNeg, nle_T, nlt_T, neq_T, neq_F, b2_0, b2_b, both, reduceCtorEq]
  have la : ∀ v0 : Int, WP d m_X12_toldPlaces 29 [some (vr (some 57)), some (vi v0), some (vi 0)] [] g I Q = WP d m_X12_toldPlaces 87 [some (vr (some 57)), some (vi (mxW (I 59) (I 60) v0 w)), some (vi 0)] [] g I Q := fun v0 => lp_tpA (v0 := v0) hW (w := w) (by rw [m15, s1]) hw d Q w 0 (by omega)
  have lb : ∀ v0 : Int, WP d m_X12_toldPlaces 87 [some (vr (some 57)), some (vi v0), some (vi 0)] [] g I Q = WP d m_X12_toldPlaces 124 [some (vr (some 57)), some (vi (mxF (I 63) v0 n)), some (vi 0)] [] g I Q := fun v0 => lp_tpB (v0 := v0) hW (w := n) (by rw [m16, s2]) hn d Q n 0 (by omega)
  have lc : ∀ v0 : Int, WP d m_X12_toldPlaces 124 [some (vr (some 57)), some (vi v0), some (vi 0)] [] g I Q = WP d m_X12_toldPlaces 161 [some (vr (some 57)), some (vi (mxF (I 69) v0 q)), some (vi 0)] [] g I Q := fun v0 => lp_tpC (v0 := v0) hW (w := q) (by rw [m17, s3]) hq d Q q 0 (by omega)
  have ld : ∀ v0 : Int, WP d m_X12_toldPlaces 161 [some (vr (some 57)), some (vi v0), some (vi 0)] [] g I Q = WP d m_X12_toldPlaces 198 [some (vr (some 57)), some (vi (mxF (I 71) v0 m)), some (vi 0)] [] g I Q := fun v0 => lp_tpD (v0 := v0) hW (w := m) (by rw [m18, s4]) hm d Q m 0 (by omega)
  have le : ∀ v0 : Int, -1 ≤ v0 ∧ v0 ≤ 1000 → WP d m_X12_toldPlaces 198 [some (vr (some 57)), some (vi v0), some (vi 0)] [] g I Q = Q (some (vi (mxP (fun p => decide (0 < I 67 p)) v0 8 + 1))) g I := fun v0 hv => lp_tpE (v0 := v0) hW d Q hv 8 0 (by omega)
  rw [e, st, la, lb, lc, ld, le _ ⟨by omega, b1⟩]
end MNEED
-- the class's
section CNEED
variable {g : GG} {I A : II} {t P w n q m : Nat}
theorem lp_hw (hT : WT g t) {p : Nat} (hp : p < 8) (d : Nat) (Q : QQ) : ∀ k j : Nat, j + k = 8 → WP d m_X9_hasWay 2 [some (vr (some t)), some (vi p), some (vi j)] [] g I Q = Q (some (vi (b2 (hwy (I (t + 1)) p k j)))) g I := by
  intro k
  induction k with
  | zero =>
    intro j hj
    obtain rfl : j = 8 := by omega
    have e : b2 (hwy (I (t + 1)) p 0 8) = 0 := rfl
    rw [H_X9_hasWay_2, e]
    simp (config := { contextual := true }) (disch := omega) only [R_X9_hasWay, hT, true_and, and_true, true_implies, not_true_eq_false, false_implies, not_false_eq_true, false_and, and_false, or_true, true_or, false_or, or_false, implies_true, forall_const, kl_i, kl_n, kl_r, kl_l, tl_s, tl_n, List.cons_append, List.nil_append, Int.cast_ofNat_Int, w32_id, w64_id, le_T, le_F, lt_T, lt_F, eq_T, eq_F, reduceIte, ne_eq, Int.toNat_natCast, bi_0, bi_1, bi_b, Nat.reduceAdd, Nat.reduceEqDiff, Int.reduceToNat, Int.reduceNeg, nle_T, nlt_T, neq_T, neq_F, b2_0, b2_b, both, reduceCtorEq]
  | succ k ih =>
    intro j hj
    have ih' := ih (j + 1) (by omega)
    have ec : ((j + 1 : Nat) : Int) = (j : Int) + 1 := by omega
    have e3 : ((p : Int) * 8 + (j : Int)).toNat = 8 * p + j := by omega
    have e : hwy (I (t + 1)) p (k + 1) j = if 0 < I (t + 1) (8 * p + j) then true else hwy (I (t + 1)) p k (j + 1) := rfl
    rw [H_X9_hasWay_2, e]
    rw [ec] at ih'
    by_cases c : 0 < I (t + 1) (8 * p + j)
    · rw [if_pos c]
      have e1 : b2 true = 1 := rfl
      rw [e1]
      simp (config := { contextual := true }) (disch := omega) only [R_X9_hasWay, hT, e3, true_and, and_true, true_implies, not_true_eq_false, false_implies, not_false_eq_true, false_and, and_false, or_true, true_or, false_or, or_false, implies_true, forall_const, kl_i, kl_n, kl_r, kl_l, tl_s, tl_n, List.cons_append, List.nil_append, Int.cast_ofNat_Int, w32_id, w64_id, le_T, le_F, lt_T, lt_F, eq_T, eq_F, reduceIte, ne_eq, Int.toNat_natCast, bi_0, bi_1, bi_b, Nat.reduceAdd, Nat.reduceEqDiff, Int.reduceToNat, Int.reduceNeg, nle_T, nlt_T, neq_T, neq_F, b2_0, b2_b, both, reduceCtorEq]
    · rw [if_neg c]
      simp (config := { contextual := true }) (disch := omega) only [R_X9_hasWay, hT, e3, ih', true_and, and_true, true_implies, not_true_eq_false, false_implies, not_false_eq_true, false_and, and_false, or_true, true_or, false_or, or_false, implies_true, forall_const, kl_i, kl_n, kl_r, kl_l, tl_s, tl_n, List.cons_append, List.nil_append, Int.cast_ofNat_Int, w32_id, w64_id, le_T, le_F, lt_T, lt_F, eq_T, eq_F, reduceIte, ne_eq, Int.toNat_natCast, bi_0, bi_1, bi_b, Nat.reduceAdd, Nat.reduceEqDiff, Int.reduceToNat, Int.reduceNeg, nle_T, nlt_T, neq_T, neq_F, b2_0, b2_b, both, reduceCtorEq]
theorem ct_hw (hT : WT g t) {p : Nat} (hp : p < 8) (d : Nat) (Q : QQ) : WP d m_X9_hasWay 0 [some (vr (some t)), some (vi p), none] [] g I Q = Q (some (vi (b2 (hwy (I (t + 1)) p 8 0)))) g I := by
  have l := lp_hw (I := I) hT hp d Q 8 0 (by omega)
  have ez : ((0 : Nat) : Int) = 0 := rfl
  rw [ez] at l
  rw [← l]
  simp (config := { contextual := true }) (disch := omega) only [R_X9_hasWay, hT, true_and, and_true, true_implies, not_true_eq_false, false_implies, not_false_eq_true, false_and, and_false, or_true, true_or, false_or, or_false, implies_true, forall_const, kl_i, kl_n, kl_r, kl_l, tl_s, tl_n, List.cons_append, List.nil_append, Int.cast_ofNat_Int, w32_id, w64_id, le_T, le_F, lt_T, lt_F, eq_T, eq_F, reduceIte, ne_eq, Int.toNat_natCast, bi_0, bi_1, bi_b, Nat.reduceAdd, Nat.reduceEqDiff, Int.reduceToNat, Int.reduceNeg, nle_T, nlt_T, neq_T, neq_F, b2_0, b2_b, both, reduceCtorEq]
def hwC (I : II) (t : Nat) : Nat → Bool := fun p => decide (0 < I (t + 6) p) || hwy (I (t + 1)) p 8 0
theorem lp_pnA (hT : WT g t) {P : Nat} (hP : I t 0 = (P : Int)) (hP8 : P ≤ 8) (d : Nat) (Q : QQ) {v0 : Int} : ∀ k i : Nat, i + k = P → WP (d + 1) m_X9_placesNeeded 19 [some (vr (some t)), some (vi (mxP (hwC I t) v0 i)), some (vi i)] [] g I Q = WP (d + 1) m_X9_placesNeeded 58 [some (vr (some t)), some (vi (mxP (hwC I t) v0 P)), some (vi 0)] [] g I Q := by
  intro k
  induction k with
  | zero =>
    intro i hi
    obtain rfl : i = P := by omega
    rw [H_X9_placesNeeded_19]
    simp (config := { contextual := true }) (disch := omega) only [R_X9_placesNeeded_b0, R_X9_placesNeeded_b1, hT, hP, true_and, and_true, true_implies, not_true_eq_false, false_implies, not_false_eq_true, false_and, and_false, or_true, true_or, false_or, or_false, implies_true, forall_const, kl_i, kl_n, kl_r, kl_l, tl_s, tl_n, List.cons_append, List.nil_append, Int.cast_ofNat_Int, w32_id, w64_id, le_T, le_F, lt_T, lt_F, eq_T, eq_F, reduceIte, ne_eq, Int.toNat_natCast, bi_0, bi_1, bi_b, Nat.reduceAdd, Nat.reduceEqDiff, Int.reduceToNat, Int.reduceNeg, nle_T, nlt_T, neq_T, neq_F, b2_0, b2_b, both, reduceCtorEq]
  | succ k ih =>
    intro i hi
    have ih' := ih (i + 1) (by omega)
    have ec : ((i + 1 : Nat) : Int) = (i : Int) + 1 := by omega
    have e : mxP (hwC I t) v0 (i + 1) = if hwC I t i = true then max (mxP (hwC I t) v0 i) (i : Int) else mxP (hwC I t) v0 i := rfl
    rw [e, ec] at ih'
    have kh := fun Q => ct_hw (I := I) hT (p := i) (by omega) d Q
    generalize mxP (hwC I t) v0 i = x at ih' ⊢
    rw [← ih', H_X9_placesNeeded_19]
    clear ih' ih
    have eh : hwC I t i = (decide (0 < I (t + 6) i) || hwy (I (t + 1)) i 8 0) := rfl
    rw [eh]
    by_cases c1 : 0 < I (t + 6) i
    · rw [decide_eq_true c1, Bool.true_or, if_pos rfl]
      simp (config := { contextual := true }) (disch := omega) only [R_X9_placesNeeded_b0, R_X9_placesNeeded_b1, hT, hP, true_and, and_true, true_implies, not_true_eq_false, false_implies, not_false_eq_true, false_and, and_false, or_true, true_or, false_or, or_false, implies_true, forall_const, kl_i, kl_n, kl_r, kl_l, tl_s, tl_n, List.cons_append, List.nil_append, Int.cast_ofNat_Int, w32_id, w64_id, le_T, le_F, lt_T, lt_F, eq_T, eq_F, reduceIte, ne_eq, Int.toNat_natCast, bi_0, bi_1, bi_b, Nat.reduceAdd, Nat.reduceEqDiff, Int.reduceToNat, Int.reduceNeg, nle_T, nlt_T, neq_T, neq_F, b2_0, b2_b, both, reduceCtorEq]
    · rw [decide_eq_false c1, Bool.false_or]
      by_cases c2 : hwy (I (t + 1)) i 8 0 = true
      · rw [if_pos c2]
        have e1 : b2 true = 1 := rfl
        rw [c2, e1] at kh
        simp (config := { contextual := true }) (disch := omega) only [R_X9_placesNeeded_b0, R_X9_placesNeeded_b1, hT, hP, kh, true_and, and_true, true_implies, not_true_eq_false, false_implies, not_false_eq_true, false_and, and_false, or_true, true_or, false_or, or_false, implies_true, forall_const, kl_i, kl_n, kl_r, kl_l, tl_s, tl_n, List.cons_append, List.nil_append, Int.cast_ofNat_Int, w32_id, w64_id, le_T, le_F, lt_T, lt_F, eq_T, eq_F, reduceIte, ne_eq, Int.toNat_natCast, bi_0, bi_1, bi_b, Nat.reduceAdd, Nat.reduceEqDiff, Int.reduceToNat, Int.reduceNeg, nle_T, nlt_T, neq_T, neq_F, b2_0, b2_b, both, reduceCtorEq]
      · rw [if_neg c2]
        have e1 : b2 false = 0 := rfl
        rw [Bool.eq_false_iff.mpr c2, e1] at kh
        simp (config := { contextual := true }) (disch := omega) only [R_X9_placesNeeded_b0, R_X9_placesNeeded_b1, hT, hP, kh, true_and, and_true, true_implies, not_true_eq_false, false_implies, not_false_eq_true, false_and, and_false, or_true, true_or, false_or, or_false, implies_true, forall_const, kl_i, kl_n, kl_r, kl_l, tl_s, tl_n, List.cons_append, List.nil_append, Int.cast_ofNat_Int, w32_id, w64_id, le_T, le_F, lt_T, lt_F, eq_T, eq_F, reduceIte, ne_eq, Int.toNat_natCast, bi_0, bi_1, bi_b, Nat.reduceAdd, Nat.reduceEqDiff, Int.reduceToNat, Int.reduceNeg, nle_T, nlt_T, neq_T, neq_F, b2_0, b2_b, both, reduceCtorEq]
theorem lp_pnB (hT : WT g t) (hTH : TH g I t A n) (hA : okA A n) (h4 : I t 4 = (n : Int)) (d : Nat) (Q : QQ) {v0 : Int} : ∀ k i : Nat, i + k = n → WP (d + 1) m_X9_placesNeeded 58 [some (vr (some t)), some (vi (mxF (A 4) v0 i)), some (vi i)] [] g I Q = WP (d + 1) m_X9_placesNeeded 88 [some (vr (some t)), some (vi (mxF (A 4) v0 n)), some (vi 0)] [] g I Q := by
  intro k
  have hn7 := hA.1
  induction k with
  | zero =>
    intro i hi
    obtain rfl : i = n := by omega
    rw [H_X9_placesNeeded_58]
    simp (config := { contextual := true }) (disch := omega) only [R_X9_placesNeeded_b0, R_X9_placesNeeded_b1, hT, h4, true_and, and_true, true_implies, not_true_eq_false, false_implies, not_false_eq_true, false_and, and_false, or_true, true_or, false_or, or_false, implies_true, forall_const, kl_i, kl_n, kl_r, kl_l, tl_s, tl_n, List.cons_append, List.nil_append, Int.cast_ofNat_Int, w32_id, w64_id, le_T, le_F, lt_T, lt_F, eq_T, eq_F, reduceIte, ne_eq, Int.toNat_natCast, bi_0, bi_1, bi_b, Nat.reduceAdd, Nat.reduceEqDiff, Int.reduceToNat, Int.reduceNeg, nle_T, nlt_T, neq_T, neq_F, b2_0, b2_b, both, reduceCtorEq]
  | succ k ih =>
    intro i hi
    have ih' := ih (i + 1) (by omega)
    have ec : ((i + 1 : Nat) : Int) = (i : Int) + 1 := by omega
    have e : mxF (A 4) v0 (i + 1) = max (mxF (A 4) v0 i) (A 4 i) := rfl
    obtain ⟨b, hb1, hb2, hb3⟩ := hTH i (by omega)
    obtain ⟨ok, hpl⟩ := hA.2 i (by omega)
    have hTb : isTh g b := by
      refine isTh_of hb3.1 ?_
      rcases kd_six ok.1 with e | e | e | e | e | e <;> rw [e] <;> decide
    rw [e, ec] at ih'
    generalize mxF (A 4) v0 i = x at ih' ⊢
    rw [← ih', H_X9_placesNeeded_58]
    clear ih' ih
    simp (config := { contextual := true }) (disch := omega) only [R_X9_placesNeeded_b0, R_X9_placesNeeded_b1, hT, h4, hb2, hb3, hTb, true_and, and_true, true_implies, not_true_eq_false, false_implies, not_false_eq_true, false_and, and_false, or_true, true_or, false_or, or_false, implies_true, forall_const, kl_i, kl_n, kl_r, kl_l, tl_s, tl_n, List.cons_append, List.nil_append, Int.cast_ofNat_Int, w32_id, w64_id, le_T, le_F, lt_T, lt_F, eq_T, eq_F, reduceIte, ne_eq, Int.toNat_natCast, bi_0, bi_1, bi_b, Nat.reduceAdd, Nat.reduceEqDiff, Int.reduceToNat, Int.reduceNeg, nle_T, nlt_T, neq_T, neq_F, b2_0, b2_b, both, reduceCtorEq]
theorem lp_pnC (hT : WT g t) {f : Nat → Int} {q : Nat} (h4 : I t 11 = (q : Int)) (hq4 : q ≤ 4) (hf : ∀ j, j < q → I (t + 8) j = f j) (d : Nat) (Q : QQ) {v0 : Int} : ∀ k i : Nat, i + k = q → WP (d + 1) m_X9_placesNeeded 88 [some (vr (some t)), some (vi (mxF f v0 i)), some (vi i)] [] g I Q = WP (d + 1) m_X9_placesNeeded 115 [some (vr (some t)), some (vi (mxF f v0 q)), some (vi 0)] [] g I Q := by
  intro k
  induction k with
  | zero =>
    intro i hi
    obtain rfl : i = q := by omega
    rw [H_X9_placesNeeded_88]
    simp (config := { contextual := true }) (disch := omega) only [R_X9_placesNeeded_b0, R_X9_placesNeeded_b1, hT, h4, true_and, and_true, true_implies, not_true_eq_false, false_implies, not_false_eq_true, false_and, and_false, or_true, true_or, false_or, or_false, implies_true, forall_const, kl_i, kl_n, kl_r, kl_l, tl_s, tl_n, List.cons_append, List.nil_append, Int.cast_ofNat_Int, w32_id, w64_id, le_T, le_F, lt_T, lt_F, eq_T, eq_F, reduceIte, ne_eq, Int.toNat_natCast, bi_0, bi_1, bi_b, Nat.reduceAdd, Nat.reduceEqDiff, Int.reduceToNat, Int.reduceNeg, nle_T, nlt_T, neq_T, neq_F, b2_0, b2_b, both, reduceCtorEq]
  | succ k ih =>
    intro i hi
    have ih' := ih (i + 1) (by omega)
    have ec : ((i + 1 : Nat) : Int) = (i : Int) + 1 := by omega
    have e : mxF f v0 (i + 1) = max (mxF f v0 i) (f i) := rfl
    have hfi := hf i (by omega)
    rw [e, ec] at ih'
    generalize mxF f v0 i = x at ih' ⊢
    rw [← ih', H_X9_placesNeeded_88]
    clear ih' ih
    simp (config := { contextual := true }) (disch := omega) only [R_X9_placesNeeded_b0, R_X9_placesNeeded_b1, hT, h4, hfi, true_and, and_true, true_implies, not_true_eq_false, false_implies, not_false_eq_true, false_and, and_false, or_true, true_or, false_or, or_false, implies_true, forall_const, kl_i, kl_n, kl_r, kl_l, tl_s, tl_n, List.cons_append, List.nil_append, Int.cast_ofNat_Int, w32_id, w64_id, le_T, le_F, lt_T, lt_F, eq_T, eq_F, reduceIte, ne_eq, Int.toNat_natCast, bi_0, bi_1, bi_b, Nat.reduceAdd, Nat.reduceEqDiff, Int.reduceToNat, Int.reduceNeg, nle_T, nlt_T, neq_T, neq_F, b2_0, b2_b, both, reduceCtorEq]
theorem lp_pnD (hT : WT g t) {f : Nat → Int} {q : Nat} (h4 : I t 7 = (q : Int)) (hq4 : q ≤ 8) (hf : ∀ j, j < q → I (t + 5) j = f j) (d : Nat) (Q : QQ) {v0 : Int} (hb : ∀ i, i ≤ q → -1 ≤ mxF f v0 i ∧ mxF f v0 i ≤ 1000) : ∀ k i : Nat, i + k = q → WP (d + 1) m_X9_placesNeeded 115 [some (vr (some t)), some (vi (mxF f v0 i)), some (vi i)] [] g I Q = Q (some (vi (mxF f v0 q + 1))) g I := by
  intro k
  induction k with
  | zero =>
    intro i hi
    obtain rfl : i = q := by omega
    have := hb i (by omega)
    rw [H_X9_placesNeeded_115]
    simp (config := { contextual := true }) (disch := omega) only [R_X9_placesNeeded_b0, R_X9_placesNeeded_b1, hT, h4, true_and, and_true, true_implies, not_true_eq_false, false_implies, not_false_eq_true, false_and, and_false, or_true, true_or, false_or, or_false, implies_true, forall_const, kl_i, kl_n, kl_r, kl_l, tl_s, tl_n, List.cons_append, List.nil_append, Int.cast_ofNat_Int, w32_id, w64_id, le_T, le_F, lt_T, lt_F, eq_T, eq_F, reduceIte, ne_eq, Int.toNat_natCast, bi_0, bi_1, bi_b, Nat.reduceAdd, Nat.reduceEqDiff, Int.reduceToNat, Int.reduceNeg, nle_T, nlt_T, neq_T, neq_F, b2_0, b2_b, both, reduceCtorEq]
  | succ k ih =>
    intro i hi
    have ih' := ih (i + 1) (by omega)
    have ec : ((i + 1 : Nat) : Int) = (i : Int) + 1 := by omega
    have e : mxF f v0 (i + 1) = max (mxF f v0 i) (f i) := rfl
    have hfi := hf i (by omega)
    rw [e, ec] at ih'
    generalize mxF f v0 i = x at ih' ⊢
    rw [H_X9_placesNeeded_115]
    simp (config := { contextual := true }) (disch := omega) only [R_X9_placesNeeded_b0, R_X9_placesNeeded_b1, hT, h4, hfi, ih', true_and, and_true, true_implies, not_true_eq_false, false_implies, not_false_eq_true, false_and, and_false, or_true, true_or, false_or, or_false, implies_true, forall_const, kl_i, kl_n, kl_r, kl_l, tl_s, tl_n, List.cons_append, List.nil_append, Int.cast_ofNat_Int, w32_id, w64_id, le_T, le_F, lt_T, lt_F, eq_T, eq_F, reduceIte, ne_eq, Int.toNat_natCast, bi_0, bi_1, bi_b, Nat.reduceAdd, Nat.reduceEqDiff, Int.reduceToNat, Int.reduceNeg, nle_T, nlt_T, neq_T, neq_F, b2_0, b2_b, both, reduceCtorEq]
end CNEED

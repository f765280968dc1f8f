-- order on both sides
def dv (p : Int) : Nat → Int
  | 0 => p
  | i + 1 => dv p i / 10
theorem dv_b {p : Int} (h : 0 ≤ p ∧ p < 9223372036854775808) : ∀ i, 0 ≤ dv p i ∧ dv p i < 9223372036854775808
  | 0 => h
  | i + 1 => by
    have ih := dv_b h i
    show 0 ≤ dv p i / 10 ∧ dv p i / 10 < 9223372036854775808
    omega
def aD (P : Nat) (p : Int) : Nat → Nat → Bool
  | 0, _ => true
  | k + 1, i => if dv p i % 10 < (P : Int) then aD P p k (i + 1) else false
theorem aD_t {P : Nat} {p : Int} : ∀ k i, aD P p k i = true → ∀ j, i ≤ j → j < i + k → dv p j % 10 < (P : Int)
  | 0, i, _, j, h1, h2 => by omega
  | k + 1, i, h, j, h1, h2 => by
    have e : aD P p (k + 1) i = if dv p i % 10 < (P : Int) then aD P p k (i + 1) else false := rfl
    rw [e] at h
    by_cases c : dv p i % 10 < (P : Int)
    · rw [if_pos c] at h
      by_cases q : j = i
      · rw [q]; exact c
      · exact aD_t k (i + 1) h j (by omega) (by omega)
    · rw [if_neg c] at h; cases h
section ORD
variable {L : Nat} {xs : Nat → Int32} {g : GG} {I : II} {t dr : Nat} {A : II} {P w n q m : Nat}
theorem lp_aD (hX : WX g) (hT : WT g t) (h50 : gR g 5 0 = some t) (hP : I t 0 = (P : Int)) {p : Int} (hp : 0 ≤ p ∧ p < 9223372036854775808) {N : Nat} (hN : N ≤ 8) (d : Nat) (Q : QQ) : ∀ k i : Nat, i + k = N → WP (d + 1) m_X11_areDigitsPlaces 6 [some (vr (some 5)), some (vi N), some (vl p), none, some (vl (dv p i)), none, some (vi i)] [] g I Q = Q (some (vi (b2 (aD P p k i)))) g I := by
  intro k
  induction k with
  | zero =>
    intro i hi
    obtain rfl : i = N := by omega
    have e : b2 (aD P p 0 i) = 1 := rfl
    rw [H_X11_areDigitsPlaces_6, e]
    simp (config := { contextual := true }) (disch := omega) only [R_X11_areDigitsPlaces, hX, true_and, and_true, true_implies, not_true_eq_false, false_implies, not_false_eq_true, false_and, and_false, or_true, true_or, false_or, or_false, implies_true, forall_const, kl_i, kl_n, kl_r, kl_l, tl_s, tl_n, List.cons_append, List.nil_append, Int.cast_ofNat_Int, w32_id, w64_id, le_T, le_F, lt_T, lt_F, eq_T, eq_F, reduceIte, ne_eq, Int.toNat_natCast, bi_0, bi_1, bi_b, Nat.reduceAdd, Nat.reduceEqDiff, Int.reduceToNat, Int.reduceNeg, nle_T, nlt_T, neq_T, neq_F, b2_0, b2_b, both, reduceCtorEq]
  | succ k ih =>
    intro i hi
    have ih' := ih (i + 1) (by omega)
    have hd := dv_b hp i
    have ec : ((i + 1 : Nat) : Int) = (i : Int) + 1 := by omega
    have e1 : dv p (i + 1) = dv p i / 10 := rfl
    have e : aD P p (k + 1) i = if dv p i % 10 < (P : Int) then aD P p k (i + 1) else false := rfl
    have er : lRem (dv p i) 10 = dv p i % 10 := lRem_eq hd.1 hd.2 (by omega) (by omega)
    have ed : lDiv (dv p i) 10 = dv p i / 10 := lDiv_eq hd.1 hd.2 (by omega) (by omega)
    have hm : 0 ≤ dv p i % 10 ∧ dv p i % 10 < 10 := by omega
    rw [e1, ec] at ih'
    rw [H_X11_areDigitsPlaces_6, e]
    generalize dv p i % 10 = z at er hm ⊢
    by_cases c : z < (P : Int)
    · rw [if_pos c]
      simp (config := { contextual := true }) (disch := omega) only [R_X11_areDigitsPlaces, hX, hT, h50, hP, er, ed, ct_isPlace hT, ih', true_and, and_true, true_implies, not_true_eq_false, false_implies, not_false_eq_true, false_and, and_false, or_true, true_or, false_or, or_false, implies_true, forall_const, kl_i, kl_n, kl_r, kl_l, tl_s, tl_n, List.cons_append, List.nil_append, Int.cast_ofNat_Int, w32_id, w64_id, le_T, le_F, lt_T, lt_F, eq_T, eq_F, reduceIte, ne_eq, Int.toNat_natCast, bi_0, bi_1, bi_b, Nat.reduceAdd, Nat.reduceEqDiff, Int.reduceToNat, Int.reduceNeg, nle_T, nlt_T, neq_T, neq_F, b2_0, b2_b, both, reduceCtorEq]
    · rw [if_neg c]
      have e0 : b2 false = 0 := rfl
      have pz : ¬ (0 ≤ z ∧ z < (P : Int)) := fun q => c q.2
      rw [e0]
      simp (config := { contextual := true }) (disch := omega) only [R_X11_areDigitsPlaces, hX, hT, h50, hP, er, ed, ct_isPlace hT, pz, true_and, and_true, true_implies, not_true_eq_false, false_implies, not_false_eq_true, false_and, and_false, or_true, true_or, false_or, or_false, implies_true, forall_const, kl_i, kl_n, kl_r, kl_l, tl_s, tl_n, List.cons_append, List.nil_append, Int.cast_ofNat_Int, w32_id, w64_id, le_T, le_F, lt_T, lt_F, eq_T, eq_F, reduceIte, ne_eq, Int.toNat_natCast, bi_0, bi_1, bi_b, Nat.reduceAdd, Nat.reduceEqDiff, Int.reduceToNat, Int.reduceNeg, nle_T, nlt_T, neq_T, neq_F, b2_0, b2_b, both, reduceCtorEq]
theorem lp_oC (hX : WX g) (hT : WT g t) (h50 : gR g 5 0 = some t) (ht : t ≤ 19) {p : Int} (hp : 0 ≤ p ∧ p < 9223372036854775808) {N : Nat} (hN : N ≤ 8) {z4 : Int} (d : Nat) (Q : QQ) : ∀ k i : Nat, i + k = N → WP d m_X11_order 60 [some (vr (some 5)), some (vi N), some (vl p), none, some (vi z4), some (vl (dv p i)), none, some (vi i)] [] g (pr I (t + 5) (fll (fun j => dv p j % 10) i (I (t + 5)))) Q = Q (some (vi z4)) g (pr (pr I (t + 5) (fll (fun j => dv p j % 10) N (I (t + 5)))) t (uf (I t) 7 N)) := by
  intro k
  induction k with
  | zero =>
    intro i hi
    obtain rfl : i = N := by omega
    rw [H_X11_order_60]
    simp (config := { contextual := true }) (disch := omega) only [R_X11_order_b0, R_X11_order_b1, hX, hT, h50, up_pr, pr_o, true_and, and_true, true_implies, not_true_eq_false, false_implies, not_false_eq_true, false_and, and_false, or_true, true_or, false_or, or_false, implies_true, forall_const, kl_i, kl_n, kl_r, kl_l, tl_s, tl_n, List.cons_append, List.nil_append, Int.cast_ofNat_Int, w32_id, w64_id, le_T, le_F, lt_T, lt_F, eq_T, eq_F, reduceIte, ne_eq, Int.toNat_natCast, bi_0, bi_1, bi_b, Nat.reduceAdd, Nat.reduceEqDiff, Int.reduceToNat, Int.reduceNeg, nle_T, nlt_T, neq_T, neq_F, b2_0, b2_b, both, reduceCtorEq]
  | succ k ih =>
    intro i hi
    have ih' := ih (i + 1) (by omega)
    have hd := dv_b hp i
    have ec : ((i + 1 : Nat) : Int) = (i : Int) + 1 := by omega
    have e1 : dv p (i + 1) = dv p i / 10 := rfl
    have er : lRem (dv p i) 10 = dv p i % 10 := lRem_eq hd.1 hd.2 (by omega) (by omega)
    have ed : lDiv (dv p i) 10 = dv p i / 10 := lDiv_eq hd.1 hd.2 (by omega) (by omega)
    have hm : 0 ≤ dv p i % 10 ∧ dv p i % 10 < 10 := by omega
    have ef := fll_s (fun j => dv p j % 10) i (I (t + 5)) (v := dv p i % 10) rfl
    rw [← ef, e1, ec] at ih'
    rw [H_X11_order_60]
    simp (config := { contextual := true }) (disch := omega) only [R_X11_order_b0, R_X11_order_b1, hX, hT, h50, er, ed, up_pr, pr_o, pr_s, pr_pr, ih', true_and, and_true, true_implies, not_true_eq_false, false_implies, not_false_eq_true, false_and, and_false, or_true, true_or, false_or, or_false, implies_true, forall_const, kl_i, kl_n, kl_r, kl_l, tl_s, tl_n, List.cons_append, List.nil_append, Int.cast_ofNat_Int, w32_id, w64_id, le_T, le_F, lt_T, lt_F, eq_T, eq_F, reduceIte, ne_eq, Int.toNat_natCast, bi_0, bi_1, bi_b, Nat.reduceAdd, Nat.reduceEqDiff, Int.reduceToNat, Int.reduceNeg, nle_T, nlt_T, neq_T, neq_F, b2_0, b2_b, both, reduceCtorEq]
theorem lp_dM (hW : WM g) (hP : I 57 14 = (P : Int)) (hP8 : P ≤ 8) {p : Int} (hp : 0 ≤ p ∧ p < 9223372036854775808) {N : Nat} (hN : N ≤ 8) (d : Nat) (Q : QQ) {l8 : Option PV} (hok : ∀ l5 l6, WP (d + 1) m_X12_order 80 [some (vr (some 57)), some (vi N), some (vl p), none, some (vi 0), l5, l6, some (vi N), l8] [] g I Q = Q (some (vi (I 57 18))) g (pr (pr I 71 (fll (fun j => dv p j % 10) N (I 71))) 57 (uf (I 57) 18 N))) : ∀ k i : Nat, i + k = N → WP (d + 1) m_X12_order 39 [some (vr (some 57)), some (vi N), some (vl p), none, some (vi 0), some (vl (dv p i)), none, some (vi i), l8] [] g I Q = (if aD P p k i = true then Q (some (vi (I 57 18))) g (pr (pr I 71 (fll (fun j => dv p j % 10) N (I 71))) 57 (uf (I 57) 18 N)) else Q (some (vi (-1))) g (rfM I 1)) := by
  intro k
  induction k with
  | zero =>
    intro i hi
    obtain rfl : i = N := by omega
    have e : aD P p 0 i = true := rfl
    rw [if_pos e, ← hok (some (vl (dv p i))) none, H_X12_order_39]
    simp (config := { contextual := true }) (disch := omega) only [R_X12_order_b0, R_X12_order_b1, hW, true_and, and_true, true_implies, not_true_eq_false, false_implies, not_false_eq_true, false_and, and_false, or_true, true_or, false_or, or_false, implies_true, forall_const, kl_i, kl_n, kl_r, kl_l, tl_s, tl_n, List.cons_append, List.nil_append, Int.cast_ofNat_Int, w32_id, w64_id, le_T, le_F, lt_T, lt_F, eq_T, eq_F, reduceIte, ne_eq, Int.toNat_natCast, bi_0, bi_1, bi_b, Nat.reduceAdd, Nat.reduceEqDiff, Int.reduceToNat, Int.reduceNeg, nle_T, nlt_T, neq_T, neq_F, b2_0, b2_b, both, reduceCtorEq]
  | succ k ih =>
    intro i hi
    have ih' := ih (i + 1) (by omega)
    have hd := dv_b hp i
    have ec : ((i + 1 : Nat) : Int) = (i : Int) + 1 := by omega
    have e1 : dv p (i + 1) = dv p i / 10 := rfl
    have e : aD P p (k + 1) i = if dv p i % 10 < (P : Int) then aD P p k (i + 1) else false := rfl
    have er : lRem (dv p i) 10 = dv p i % 10 := lRem_eq hd.1 hd.2 (by omega) (by omega)
    have ed : lDiv (dv p i) 10 = dv p i / 10 := lDiv_eq hd.1 hd.2 (by omega) (by omega)
    have hm : 0 ≤ dv p i % 10 ∧ dv p i % 10 < 10 := by omega
    rw [e1, ec] at ih'
    rw [H_X12_order_39, e]
    by_cases c : dv p i % 10 < (P : Int)
    · rw [if_pos c, ← ih']
      generalize dv p i % 10 = z at er hm c ⊢
      simp (config := { contextual := true }) (disch := omega) only [R_X12_order_b0, R_X12_order_b1, hW, hP, er, ed, lcm3_eq, lcm3_gt, lcm3_lt, true_and, and_true, true_implies, not_true_eq_false, false_implies, not_false_eq_true, false_and, and_false, or_true, true_or, false_or, or_false, implies_true, forall_const, kl_i, kl_n, kl_r, kl_l, tl_s, tl_n, List.cons_append, List.nil_append, Int.cast_ofNat_Int, w32_id, w64_id, le_T, le_F, lt_T, lt_F, eq_T, eq_F, reduceIte, ne_eq, Int.toNat_natCast, bi_0, bi_1, bi_b, Nat.reduceAdd, Nat.reduceEqDiff, Int.reduceToNat, Int.reduceNeg, nle_T, nlt_T, neq_T, neq_F, b2_0, b2_b, both, reduceCtorEq]
    · have ef : ¬ (false = true) := by decide
      rw [if_neg c, if_neg ef]
      generalize dv p i % 10 = z at er hm c ⊢
      simp (config := { contextual := true }) (disch := omega) only [R_X12_order_b0, R_X12_order_b1, hW, hP, er, lcm3_eq, lcm3_gt, lcm3_lt, ct_no hW, rfM, true_and, and_true, true_implies, not_true_eq_false, false_implies, not_false_eq_true, false_and, and_false, or_true, true_or, false_or, or_false, implies_true, forall_const, kl_i, kl_n, kl_r, kl_l, tl_s, tl_n, List.cons_append, List.nil_append, Int.cast_ofNat_Int, w32_id, w64_id, le_T, le_F, lt_T, lt_F, eq_T, eq_F, reduceIte, ne_eq, Int.toNat_natCast, bi_0, bi_1, bi_b, Nat.reduceAdd, Nat.reduceEqDiff, Int.reduceToNat, Int.reduceNeg, nle_T, nlt_T, neq_T, neq_F, b2_0, b2_b, both, reduceCtorEq]
theorem lp_oM (hW : WM g) {p : Int} (hp : 0 ≤ p ∧ p < 9223372036854775808) {N : Nat} (hN : N ≤ 8) {z7 : Int} (d : Nat) (Q : QQ) : ∀ k i : Nat, i + k = N → WP d m_X12_order 92 [some (vr (some 57)), some (vi N), some (vl p), none, some (vi 0), some (vl (dv p i)), none, some (vi z7), some (vi i)] [] g (pr I 71 (fll (fun j => dv p j % 10) i (I 71))) Q = Q (some (vi z7)) g (pr (pr I 71 (fll (fun j => dv p j % 10) N (I 71))) 57 (uf (I 57) 18 N)) := by
  intro k
  induction k with
  | zero =>
    intro i hi
    obtain rfl : i = N := by omega
    rw [H_X12_order_92]
    simp (config := { contextual := true }) (disch := omega) only [R_X12_order_b0, R_X12_order_b1, hW, up_pr, pr_o, true_and, and_true, true_implies, not_true_eq_false, false_implies, not_false_eq_true, false_and, and_false, or_true, true_or, false_or, or_false, implies_true, forall_const, kl_i, kl_n, kl_r, kl_l, tl_s, tl_n, List.cons_append, List.nil_append, Int.cast_ofNat_Int, w32_id, w64_id, le_T, le_F, lt_T, lt_F, eq_T, eq_F, reduceIte, ne_eq, Int.toNat_natCast, bi_0, bi_1, bi_b, Nat.reduceAdd, Nat.reduceEqDiff, Int.reduceToNat, Int.reduceNeg, nle_T, nlt_T, neq_T, neq_F, b2_0, b2_b, both, reduceCtorEq]
  | succ k ih =>
    intro i hi
    have ih' := ih (i + 1) (by omega)
    have hd := dv_b hp i
    have ec : ((i + 1 : Nat) : Int) = (i : Int) + 1 := by omega
    have e1 : dv p (i + 1) = dv p i / 10 := rfl
    have er : lRem (dv p i) 10 = dv p i % 10 := lRem_eq hd.1 hd.2 (by omega) (by omega)
    have ed : lDiv (dv p i) 10 = dv p i / 10 := lDiv_eq hd.1 hd.2 (by omega) (by omega)
    have hm : 0 ≤ dv p i % 10 ∧ dv p i % 10 < 10 := by omega
    have ef := fll_s (fun j => dv p j % 10) i (I 71) (v := dv p i % 10) rfl
    rw [← ef, e1, ec] at ih'
    rw [H_X12_order_92]
    simp (config := { contextual := true }) (disch := omega) only [R_X12_order_b0, R_X12_order_b1, hW, er, ed, up_pr, pr_o, pr_s, pr_pr, ih', true_and, and_true, true_implies, not_true_eq_false, false_implies, not_false_eq_true, false_and, and_false, or_true, true_or, false_or, or_false, implies_true, forall_const, kl_i, kl_n, kl_r, kl_l, tl_s, tl_n, List.cons_append, List.nil_append, Int.cast_ofNat_Int, w32_id, w64_id, le_T, le_F, lt_T, lt_F, eq_T, eq_F, reduceIte, ne_eq, Int.toNat_natCast, bi_0, bi_1, bi_b, Nat.reduceAdd, Nat.reduceEqDiff, Int.reduceToNat, Int.reduceNeg, nle_T, nlt_T, neq_T, neq_F, b2_0, b2_b, both, reduceCtorEq]
theorem cs_order (hs : SS L xs g I) (hg : 90 ≤ gN g) (h : RQ g I t dr A P w n q m) (a p : Int) (hp : -9223372036854775808 ≤ p ∧ p < 9223372036854775808) : CS L xs g I m_X11_order m_X12_order [some (vi a), some (vl p), none, none, none, none, none] [some (vi a), some (vl p), none, none, none, none, none, none] vi := by
  have hW := h.2.2.1.1
  have hX := h.2.2.1.2.1
  obtain ⟨ht1, ht2, hT⟩ := RQ_t h
  have h50 := h.2.1.1
  obtain ⟨hP, hP'⟩ := RQ_P h
  have hS := RQ_S h
  have hP8 := hS.2.1
  by_cases c1 : a < 0
  · have eb : bnd a 0 8 = -4 := if_pos c1
    refine CS_r hs hg h (-4) (k := 4) (by omega) (fun Q => ?_) (fun Q => ?_)
    · simp (config := { contextual := true }) (disch := omega) only [R_X11_order_b0, R_X11_order_b1, hX, ct_refuse hX, rfC, true_and, and_true, true_implies, not_true_eq_false, false_implies, not_false_eq_true, false_and, and_false, or_true, true_or, false_or, or_false, implies_true, forall_const, kl_i, kl_n, kl_r, kl_l, tl_s, tl_n, List.cons_append, List.nil_append, Int.cast_ofNat_Int, w32_id, w64_id, le_T, le_F, lt_T, lt_F, eq_T, eq_F, reduceIte, ne_eq, Int.toNat_natCast, bi_0, bi_1, bi_b, Nat.reduceAdd, Nat.reduceEqDiff, Int.reduceToNat, Int.reduceNeg, nle_T, nlt_T, neq_T, neq_F, b2_0, b2_b, both, reduceCtorEq]
    · simp (config := { contextual := true }) (disch := omega) only [R_X12_order_b0, R_X12_order_b1, hW, ct_bound, eb, ct_no hW, pr_o, rfC, rfM, true_and, and_true, true_implies, not_true_eq_false, false_implies, not_false_eq_true, false_and, and_false, or_true, true_or, false_or, or_false, implies_true, forall_const, kl_i, kl_n, kl_r, kl_l, tl_s, tl_n, List.cons_append, List.nil_append, Int.cast_ofNat_Int, w32_id, w64_id, le_T, le_F, lt_T, lt_F, eq_T, eq_F, reduceIte, ne_eq, Int.toNat_natCast, bi_0, bi_1, bi_b, Nat.reduceAdd, Nat.reduceEqDiff, Int.reduceToNat, Int.reduceNeg, nle_T, nlt_T, neq_T, neq_F, b2_0, b2_b, both, reduceCtorEq]
  by_cases c2 : 8 < a
  · have eb : bnd a 0 8 = -6 := by unfold bnd; rw [if_neg c1, if_pos c2]
    refine CS_r hs hg h (-6) (k := 6) (by omega) (fun Q => ?_) (fun Q => ?_)
    · simp (config := { contextual := true }) (disch := omega) only [R_X11_order_b0, R_X11_order_b1, hX, ct_refuse hX, rfC, true_and, and_true, true_implies, not_true_eq_false, false_implies, not_false_eq_true, false_and, and_false, or_true, true_or, false_or, or_false, implies_true, forall_const, kl_i, kl_n, kl_r, kl_l, tl_s, tl_n, List.cons_append, List.nil_append, Int.cast_ofNat_Int, w32_id, w64_id, le_T, le_F, lt_T, lt_F, eq_T, eq_F, reduceIte, ne_eq, Int.toNat_natCast, bi_0, bi_1, bi_b, Nat.reduceAdd, Nat.reduceEqDiff, Int.reduceToNat, Int.reduceNeg, nle_T, nlt_T, neq_T, neq_F, b2_0, b2_b, both, reduceCtorEq]
    · simp (config := { contextual := true }) (disch := omega) only [R_X12_order_b0, R_X12_order_b1, hW, ct_bound, eb, ct_no hW, pr_o, rfC, rfM, true_and, and_true, true_implies, not_true_eq_false, false_implies, not_false_eq_true, false_and, and_false, or_true, true_or, false_or, or_false, implies_true, forall_const, kl_i, kl_n, kl_r, kl_l, tl_s, tl_n, List.cons_append, List.nil_append, Int.cast_ofNat_Int, w32_id, w64_id, le_T, le_F, lt_T, lt_F, eq_T, eq_F, reduceIte, ne_eq, Int.toNat_natCast, bi_0, bi_1, bi_b, Nat.reduceAdd, Nat.reduceEqDiff, Int.reduceToNat, Int.reduceNeg, nle_T, nlt_T, neq_T, neq_F, b2_0, b2_b, both, reduceCtorEq]
  have eb : bnd a 0 8 = 0 := by unfold bnd; rw [if_neg c1, if_neg c2]
  by_cases c3 : p < 0
  · refine CS_r hs hg h (-1) (k := 1) (by omega) (fun Q => ?_) (fun Q => ?_)
    · simp (config := { contextual := true }) (disch := omega) only [R_X11_order_b0, R_X11_order_b1, hX, lcm3_eq, lcm3_gt, lcm3_lt, ct_refuse hX, rfC, true_and, and_true, true_implies, not_true_eq_false, false_implies, not_false_eq_true, false_and, and_false, or_true, true_or, false_or, or_false, implies_true, forall_const, kl_i, kl_n, kl_r, kl_l, tl_s, tl_n, List.cons_append, List.nil_append, Int.cast_ofNat_Int, w32_id, w64_id, le_T, le_F, lt_T, lt_F, eq_T, eq_F, reduceIte, ne_eq, Int.toNat_natCast, bi_0, bi_1, bi_b, Nat.reduceAdd, Nat.reduceEqDiff, Int.reduceToNat, Int.reduceNeg, nle_T, nlt_T, neq_T, neq_F, b2_0, b2_b, both, reduceCtorEq]
    · simp (config := { contextual := true }) (disch := omega) only [R_X12_order_b0, R_X12_order_b1, hW, ct_bound, eb, lcm3_eq, lcm3_gt, lcm3_lt, ct_no hW, pr_o, rfC, rfM, true_and, and_true, true_implies, not_true_eq_false, false_implies, not_false_eq_true, false_and, and_false, or_true, true_or, false_or, or_false, implies_true, forall_const, kl_i, kl_n, kl_r, kl_l, tl_s, tl_n, List.cons_append, List.nil_append, Int.cast_ofNat_Int, w32_id, w64_id, le_T, le_F, lt_T, lt_F, eq_T, eq_F, reduceIte, ne_eq, Int.toNat_natCast, bi_0, bi_1, bi_b, Nat.reduceAdd, Nat.reduceEqDiff, Int.reduceToNat, Int.reduceNeg, nle_T, nlt_T, neq_T, neq_F, b2_0, b2_b, both, reduceCtorEq]
  obtain ⟨N, rfl⟩ := Int.eq_ofNat_of_zero_le (by omega : 0 ≤ a)
  have hp0 : 0 ≤ p ∧ p < 9223372036854775808 := by omega
  obtain ⟨hm, hm'⟩ := RQ_m h
  have ka := fun d Q => lp_aD hX hT h50 hP hp0 (N := N) (by omega) d Q N 0 (by omega)
  have e0 : dv p 0 = p := rfl
  have ez : ((0 : Nat) : Int) = 0 := rfl
  rw [e0, ez] at ka
  have kaD : ∀ Q, WP 998 m_X11_areDigitsPlaces 0 [some (vr (some 5)), some (vi N), some (vl p), none, none, none, none] [] g I Q = Q (some (vi (b2 (aD P p N 0)))) g I := by
    intro Q
    rw [← ka 997 Q]
    simp (config := { contextual := true }) (disch := omega) only [R_X11_areDigitsPlaces, true_and, and_true, true_implies, not_true_eq_false, false_implies, not_false_eq_true, false_and, and_false, or_true, true_or, false_or, or_false, implies_true, forall_const, kl_i, kl_n, kl_r, kl_l, tl_s, tl_n, List.cons_append, List.nil_append, Int.cast_ofNat_Int, w32_id, w64_id, le_T, le_F, lt_T, lt_F, eq_T, eq_F, reduceIte, ne_eq, Int.toNat_natCast, bi_0, bi_1, bi_b, Nat.reduceAdd, Nat.reduceEqDiff, Int.reduceToNat, Int.reduceNeg, nle_T, nlt_T, neq_T, neq_F, b2_0, b2_b, both, reduceCtorEq]
  have hok : ∀ (I1 : II) Q l8 l5 l6, WP 999 m_X12_order 80 [some (vr (some 57)), some (vi N), some (vl p), none, some (vi 0), l5, l6, some (vi N), l8] [] g I1 Q = Q (some (vi (I1 57 18))) g (pr (pr I1 71 (fll (fun j => dv p j % 10) N (I1 71))) 57 (uf (I1 57) 18 N)) := by
    intro I1 Q l8 l5 l6
    have ko := lp_oM (I := I1) hW hp0 (N := N) (by omega) (z7 := I1 57 18) 999 Q N 0 (by omega)
    rw [fll_0, pr_id, e0, ez] at ko
    rw [← ko]
    simp (config := { contextual := true }) (disch := omega) only [R_X12_order_b0, R_X12_order_b1, hW, true_and, and_true, true_implies, not_true_eq_false, false_implies, not_false_eq_true, false_and, and_false, or_true, true_or, false_or, or_false, implies_true, forall_const, kl_i, kl_n, kl_r, kl_l, tl_s, tl_n, List.cons_append, List.nil_append, Int.cast_ofNat_Int, w32_id, w64_id, le_T, le_F, lt_T, lt_F, eq_T, eq_F, reduceIte, ne_eq, Int.toNat_natCast, bi_0, bi_1, bi_b, Nat.reduceAdd, Nat.reduceEqDiff, Int.reduceToNat, Int.reduceNeg, nle_T, nlt_T, neq_T, neq_F, b2_0, b2_b, both, reduceCtorEq]
  cases cD : aD P p N 0 with
  | false =>
    rw [cD] at kaD
    have e1 : rfC I 1 57 = I 57 := by unfold rfC; rw [pr_o (by omega)]
    have kd := fun Q => lp_dM (I := rfC I 1) hW (by rw [e1]; exact hP') hP8.2 hp0 (N := N) (by omega) 998 Q (l8 := none) (hok (rfC I 1) Q none) N 0 (by omega)
    have ef : ¬ (false = true) := by decide
    rw [e0, ez, cD] at kd
    refine CS_r hs hg h (-1) (k := 1) (by omega) (fun Q => ?_) (fun Q => ?_)
    · simp (config := { contextual := true }) (disch := omega) only [R_X11_order_b0, R_X11_order_b1, hX, lcm3_eq, lcm3_gt, lcm3_lt, kaD, ct_refuse hX, rfC, true_and, and_true, true_implies, not_true_eq_false, false_implies, not_false_eq_true, false_and, and_false, or_true, true_or, false_or, or_false, implies_true, forall_const, kl_i, kl_n, kl_r, kl_l, tl_s, tl_n, List.cons_append, List.nil_append, Int.cast_ofNat_Int, w32_id, w64_id, le_T, le_F, lt_T, lt_F, eq_T, eq_F, reduceIte, ne_eq, Int.toNat_natCast, bi_0, bi_1, bi_b, Nat.reduceAdd, Nat.reduceEqDiff, Int.reduceToNat, Int.reduceNeg, nle_T, nlt_T, neq_T, neq_F, b2_0, b2_b, both, reduceCtorEq]
    · have kd := kd Q
      rw [if_neg ef] at kd
      generalize rfC I 1 = I1 at *
      simp (config := { contextual := true }) (disch := omega) only [R_X12_order_b0, R_X12_order_b1, hW, ct_bound, eb, lcm3_eq, lcm3_gt, lcm3_lt, true_and, and_true, true_implies, not_true_eq_false, false_implies, not_false_eq_true, false_and, and_false, or_true, true_or, false_or, or_false, implies_true, forall_const, kl_i, kl_n, kl_r, kl_l, tl_s, tl_n, List.cons_append, List.nil_append, Int.cast_ofNat_Int, w32_id, w64_id, le_T, le_F, lt_T, lt_F, eq_T, eq_F, reduceIte, ne_eq, Int.toNat_natCast, bi_0, bi_1, bi_b, Nat.reduceAdd, Nat.reduceEqDiff, Int.reduceToNat, Int.reduceNeg, nle_T, nlt_T, neq_T, neq_F, b2_0, b2_b, both, reduceCtorEq]
      exact kd
  | true =>
    rw [cD] at kaD
    have hdg := aD_t N 0 cD
    have T := h.2.2.2.2.1
    obtain ⟨r3, r4, r5, r6, r7, r8, r9, r10, r11, r12, r13⟩ := RQ_r h
    have hz := h.2.2.2.2.2.2.2.2.2.2.2.2.2
    have k1 := fun Q => lp_oC (I := I) hX hT h50 ht1 hp0 (N := N) (by omega) (z4 := m) 999 Q N 0 (by omega)
    rw [fll_0, pr_id, e0, ez] at k1
    obtain ⟨I1, hI1⟩ : ∃ I1, I1 = pr (pr I (t + 5) (fll (fun j => dv p j % 10) N (I (t + 5)))) t (uf (I t) 7 N) := ⟨_, rfl⟩
    rw [← hI1] at k1
    have hJ1 : ∀ c, ¬ c = t → ¬ c = t + 5 → I1 c = I c := fun c c1 c2 => by rw [hI1, pr_o c1, pr_o c2]
    have e57 : I1 57 = I 57 := hJ1 57 (by omega) (by omega)
    have e71 : I1 71 = A 12 := by rw [hJ1 71 (by omega) (by omega)]; exact r12
    have kd := fun Q => lp_dM (I := I1) hW (by rw [e57]; exact hP') hP8.2 hp0 (N := N) (by omega) 998 Q (l8 := none) (hok I1 Q none) N 0 (by omega)
    rw [e0, ez, cD, e57, e71, hm'] at kd
    have hJ : ∀ c, ¬ c = t → ¬ c = t + 5 → ¬ c = 57 → ¬ c = 71 → pr (pr I1 71 (fll (fun j => dv p j % 10) N (A 12))) 57 (uf (I 57) 18 N) c = I c := fun c c1 c2 c3 c4 => by rw [pr_o c3, pr_o c4, hJ1 c c1 c2]
    have hu : ∀ k, ¬ k = 12 → ¬ k = 14 → pr (pr A 12 (fll (fun j => dv p j % 10) N (A 12))) 14 (uf (A 14) 4 N) k = A k := fun k k1 k2 => by rw [pr_o k2, pr_o k1]
    refine CS_s hs hg h (m : Int) (I1 := I1) (J := pr (pr I1 71 (fll (fun j => dv p j % 10) N (A 12))) 57 (uf (I 57) 18 N)) (fun Q => ?_) ⟨hJ1 0 (by omega) (by omega), hJ1 1 (by omega) (by omega), hJ1 2 (by omega) (by omega)⟩ (fun Q => ?_) ⟨hJ 0 (by omega) (by omega) (by omega) (by omega), hJ 1 (by omega) (by omega) (by omega) (by omega), hJ 2 (by omega) (by omega) (by omega) (by omega)⟩ (A' := pr (pr A 12 (fll (fun j => dv p j % 10) N (A 12))) 14 (uf (A 14) 4 N)) (P' := P) (w' := w) (n' := n) (q' := q) (m' := N) (RQ_ch h ?_ ?_ ?_ (fun c hc => hJ c (by omega) (by omega) (by omega) (by omega)) ⟨by rw [pr_s, uf_o (by omega)], by rw [pr_s, uf_o (by omega)], by rw [pr_s, uf_o (by omega)]⟩ (fun j hj => by rw [hJ 81 (by omega) (by omega) (by omega) (by omega)]; exact hz j hj))
    · have k1 := k1 Q
      simp (config := { contextual := true }) (disch := omega) only [R_X11_order_b0, R_X11_order_b1, hX, hT, h50, lcm3_eq, lcm3_gt, lcm3_lt, kaD, hm, true_and, and_true, true_implies, not_true_eq_false, false_implies, not_false_eq_true, false_and, and_false, or_true, true_or, false_or, or_false, implies_true, forall_const, kl_i, kl_n, kl_r, kl_l, tl_s, tl_n, List.cons_append, List.nil_append, Int.cast_ofNat_Int, w32_id, w64_id, le_T, le_F, lt_T, lt_F, eq_T, eq_F, reduceIte, ne_eq, Int.toNat_natCast, bi_0, bi_1, bi_b, Nat.reduceAdd, Nat.reduceEqDiff, Int.reduceToNat, Int.reduceNeg, nle_T, nlt_T, neq_T, neq_F, b2_0, b2_b, both, reduceCtorEq]
      exact k1
    · have kd := kd Q
      rw [if_pos rfl] at kd
      simp (config := { contextual := true }) (disch := omega) only [R_X12_order_b0, R_X12_order_b1, hW, ct_bound, eb, lcm3_eq, lcm3_gt, lcm3_lt, true_and, and_true, true_implies, not_true_eq_false, false_implies, not_false_eq_true, false_and, and_false, or_true, true_or, false_or, or_false, implies_true, forall_const, kl_i, kl_n, kl_r, kl_l, tl_s, tl_n, List.cons_append, List.nil_append, Int.cast_ofNat_Int, w32_id, w64_id, le_T, le_F, lt_T, lt_F, eq_T, eq_F, reduceIte, ne_eq, Int.toNat_natCast, bi_0, bi_1, bi_b, Nat.reduceAdd, Nat.reduceEqDiff, Int.reduceToNat, Int.reduceNeg, nle_T, nlt_T, neq_T, neq_F, b2_0, b2_b, both, reduceCtorEq]
      exact kd
    · have M := h.2.2.2.1
      have e57' : pr (pr I1 71 (fll (fun j => dv p j % 10) N (A 12))) 57 (uf (I 57) 18 N) 57 = uf (I 57) 18 N := pr_s _ _ _
      have e14' : pr (pr A 12 (fll (fun j => dv p j % 10) N (A 12))) 14 (uf (A 14) 4 N) 14 = uf (A 14) 4 N := pr_s _ _ _
      have hj : ∀ d, (59 ≤ d ∧ d ≤ 70) ∨ d = 81 → pr (pr I1 71 (fll (fun j => dv p j % 10) N (A 12))) 57 (uf (I 57) 18 N) d = I d := fun d hd => hJ d (by omega) (by omega) (by omega) (by omega)
      rw [MR, hj 59 (by omega), hj 60 (by omega), hj 61 (by omega), hj 62 (by omega), hj 63 (by omega), hj 64 (by omega), hj 65 (by omega), hj 66 (by omega), hj 67 (by omega), hj 68 (by omega), hj 69 (by omega), hj 70 (by omega), hj 81 (by omega), e57', e14']
      obtain ⟨a0, a1, a2, a3, a4, a5, a6, a7, a8, a9, a10, a11, a12, a13, b0, b1, b2, b3, b4, b5, b6, b7⟩ := M
      exact ⟨a0, a1, a2, a3, a4, a5, a6, a7, a8, a9, a10, a11, by rw [pr_o (by omega), pr_s, pr_o (by omega), pr_s], a13, b0, b1, b2, b3, by rw [uf_s, uf_s], b5, b6, b7⟩
    · have hj : ∀ d, ¬ d = t → ¬ d = t + 5 → d ≤ 56 → pr (pr I1 71 (fll (fun j => dv p j % 10) N (A 12))) 57 (uf (I 57) 18 N) d = I d := fun d d1 d2 d3 => hJ d d1 d2 (by omega) (by omega)
      refine TR_gen T (fun k hk => hu k (by omega) (by omega)) (fun c hc => hJ c (by omega) (by omega) (by omega) (by omega)) ?_ ?_ ?_ ?_ ?_ ?_ ?_ ?_ ?_
      · rw [pr_o (by omega), pr_o (by omega), hI1, pr_s, pr_s]
        refine ⟨?_, ?_, ?_, ?_, ?_⟩
        · rw [uf_o (by omega), uf_o (by omega)]; exact T.1.1
        · rw [uf_o (by omega), uf_o (by omega)]; exact T.1.2.1
        · rw [uf_o (by omega), uf_o (by omega)]; exact T.1.2.2.1
        · rw [uf_s, uf_s]
        · rw [uf_o (by omega), uf_o (by omega)]; exact T.1.2.2.2.2
      · rw [hj (t + 4) (by omega) (by omega) (by omega)]; exact T.2.2.2.2.1
      · intro j hj
        rw [pr_o (by omega), pr_o (by omega), hI1, pr_o (by omega), pr_s, pr_o (by omega), pr_s]
        unfold fll
        by_cases z : j < N
        · rw [if_pos z, if_pos z]
        · rw [if_neg z, if_neg z]; exact T.2.2.2.2.2.1 j hj
      · rw [hj (t + 6) (by omega) (by omega) (by omega)]; exact T.2.2.2.2.2.2.1
      · rw [hj (t + 7) (by omega) (by omega) (by omega)]; exact T.2.2.2.2.2.2.2.1
      · rw [hj (t + 8) (by omega) (by omega) (by omega)]; exact T.2.2.2.2.2.2.2.2.1
      · rw [hj (t + 9) (by omega) (by omega) (by omega)]; exact T.2.2.2.2.2.2.2.2.2.1
      · rw [hj (t + 10) (by omega) (by omega) (by omega)]; exact T.2.2.2.2.2.2.2.2.2.2.1
      · rw [hj (t + 11) (by omega) (by omega) (by omega)]; exact T.2.2.2.2.2.2.2.2.2.2.2
    · obtain ⟨s1, s2, s3, s4, s5, s6, s7, s8, s9, s10, s11⟩ := hS
      refine ⟨⟨s1.1, s1.2.1, s1.2.2.1, s1.2.2.2.1, ?_⟩, s2, s3, okA_c (fun k hk => hu k (by omega) (by omega)) s4, s5, s6, s7, s8, s9, ⟨by omega, fun j hj => ?_⟩, s11⟩
      · rw [pr_s, uf_s]
      · have hd := hdg j (by omega) (by omega)
        rw [pr_o (by omega), pr_s]
        unfold fll
        rw [if_pos hj]
        dsimp only
        omega
end ORD

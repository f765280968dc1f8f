-- SEND and MANY on both sides
def cst (A : II) (D : Nat → Int) (p : Int) (i : Nat) : Int := if A 7 2 < A 11 i + 2 * D (8 * (A 10 i).toNat + p.toNat) then -9 else if A 11 i < A 7 0 then 4 * (2 * D (8 * (A 10 i).toNat + p.toNat)) else if A 11 i < A 7 1 then 3 * (2 * D (8 * (A 10 i).toNat + p.toNat)) else 2 * D (8 * (A 10 i).toNat + p.toNat)
def sdC (A : II) (D : Nat → Int) (p : Int) : Nat → Int × Int
  | 0 => (-9, -9)
  | i + 1 => if 0 ≤ cst A D p i ∧ ((sdC A D p i).1 < 0 ∨ cst A D p i < (sdC A D p i).2) then ((i : Int), cst A D p i) else sdC A D p i
abbrev okPp (A : II) (q : Nat) : Prop := q ≤ 4 ∧ ∀ j, j < q → (0 ≤ A 10 j ∧ A 10 j < 8) ∧ (0 ≤ A 11 j ∧ A 11 j ≤ 999)
section SD
variable {g : GG} {I : II} {t q : Nat} {A : II} {D : Nat → Int} {p : Int}
theorem ct_cost (hX : WX g) (hT : WT g t) (h50 : gR g 5 0 = some t) (ht : t ≤ 19) (hP : okPp A q) (hD : bD D) (he : e64 (I (t + 2)) D) (h8 : ∀ j, j < 4 → I (t + 8) j = A 10 j) (h9 : ∀ j, j < 4 → I (t + 9) j = A 11 j) (hs : ∀ j, j < 4 → I (t + 4) j = A 7 j) (hp : 0 ≤ p ∧ p < 8) {i : Nat} (hi : i < q) (d : Nat) (Q : QQ) : WP (d + 1) m_X11_costOfSending 0 [some (vr (some 5)), some (vi i), some (vi p), none, none] [] g I Q = Q (some (vi (cst A D p i))) g I := by
  have k8 := h8 i (by have := hP.1; omega)
  have k9 := h9 i (by have := hP.1; omega)
  have s0 := hs 0 (by omega)
  have s1 := hs 1 (by omega)
  have s2 := hs 2 (by omega)
  have hq4 := hP.1
  have hb := hP.2 i hi
  have hd := hD (8 * (A 10 i).toNat + p.toNat) (by omega)
  have ed := he (8 * (A 10 i).toNat + p.toNat) (by omega)
  unfold cst
  by_cases c1 : A 7 2 < A 11 i + 2 * D (8 * (A 10 i).toNat + p.toNat)
  · rw [if_pos c1]
    simp (config := { contextual := true }) (disch := omega) only [R_X11_costOfSending_b0, R_X11_costOfSending_b1, hX, hT, h50, k8, k9, s0, s1, s2, ct_miles hT, ed, true_and, and_true, true_implies, not_true_eq_false, false_implies, not_false_eq_true, false_and, and_false, or_true, true_or, false_or, or_false, implies_true, forall_const, kl_i, kl_n, kl_r, kl_l, tl_s, tl_n, List.cons_append, List.nil_append, Int.cast_ofNat_Int, w32_id, w64_id, le_T, le_F, lt_T, lt_F, eq_T, eq_F, reduceIte, ne_eq, Int.toNat_natCast, bi_0, bi_1, bi_b, Nat.reduceAdd, Nat.reduceEqDiff, Int.reduceToNat, Int.reduceNeg, nle_T, nlt_T, neq_T, neq_F, b2_0, b2_b, both, reduceCtorEq]
  · rw [if_neg c1]
    by_cases c2 : A 11 i < A 7 0
    · rw [if_pos c2]
      simp (config := { contextual := true }) (disch := omega) only [R_X11_costOfSending_b0, R_X11_costOfSending_b1, hX, hT, h50, k8, k9, s0, s1, s2, ct_miles hT, ed, true_and, and_true, true_implies, not_true_eq_false, false_implies, not_false_eq_true, false_and, and_false, or_true, true_or, false_or, or_false, implies_true, forall_const, kl_i, kl_n, kl_r, kl_l, tl_s, tl_n, List.cons_append, List.nil_append, Int.cast_ofNat_Int, w32_id, w64_id, le_T, le_F, lt_T, lt_F, eq_T, eq_F, reduceIte, ne_eq, Int.toNat_natCast, bi_0, bi_1, bi_b, Nat.reduceAdd, Nat.reduceEqDiff, Int.reduceToNat, Int.reduceNeg, nle_T, nlt_T, neq_T, neq_F, b2_0, b2_b, both, reduceCtorEq]
    · rw [if_neg c2]
      by_cases c3 : A 11 i < A 7 1
      · rw [if_pos c3]
        simp (config := { contextual := true }) (disch := omega) only [R_X11_costOfSending_b0, R_X11_costOfSending_b1, hX, hT, h50, k8, k9, s0, s1, s2, ct_miles hT, ed, true_and, and_true, true_implies, not_true_eq_false, false_implies, not_false_eq_true, false_and, and_false, or_true, true_or, false_or, or_false, implies_true, forall_const, kl_i, kl_n, kl_r, kl_l, tl_s, tl_n, List.cons_append, List.nil_append, Int.cast_ofNat_Int, w32_id, w64_id, le_T, le_F, lt_T, lt_F, eq_T, eq_F, reduceIte, ne_eq, Int.toNat_natCast, bi_0, bi_1, bi_b, Nat.reduceAdd, Nat.reduceEqDiff, Int.reduceToNat, Int.reduceNeg, nle_T, nlt_T, neq_T, neq_F, b2_0, b2_b, both, reduceCtorEq]
      · rw [if_neg c3]
        simp (config := { contextual := true }) (disch := omega) only [R_X11_costOfSending_b0, R_X11_costOfSending_b1, hX, hT, h50, k8, k9, s0, s1, s2, ct_miles hT, ed, true_and, and_true, true_implies, not_true_eq_false, false_implies, not_false_eq_true, false_and, and_false, or_true, true_or, false_or, or_false, implies_true, forall_const, kl_i, kl_n, kl_r, kl_l, tl_s, tl_n, List.cons_append, List.nil_append, Int.cast_ofNat_Int, w32_id, w64_id, le_T, le_F, lt_T, lt_F, eq_T, eq_F, reduceIte, ne_eq, Int.toNat_natCast, bi_0, bi_1, bi_b, Nat.reduceAdd, Nat.reduceEqDiff, Int.reduceToNat, Int.reduceNeg, nle_T, nlt_T, neq_T, neq_F, b2_0, b2_b, both, reduceCtorEq]
theorem lp_sd (hX : WX g) (hT : WT g t) (h50 : gR g 5 0 = some t) (ht : t ≤ 19) (hP : okPp A q) (hD : bD D) (he : e64 (I (t + 2)) D) (h8 : ∀ j, j < 4 → I (t + 8) j = A 10 j) (h9 : ∀ j, j < 4 → I (t + 9) j = A 11 j) (hs : ∀ j, j < 4 → I (t + 4) j = A 7 j) (hp : 0 ≤ p ∧ p < 8) (hq : I t 11 = (q : Int)) {w : Int} (d : Nat) (Q : QQ) : ∀ k i : Nat, i + k = q → ∀ l6, WP (d + 2) m_X11_send 43 [some (vr (some 5)), some (vi p), some (vi w), some (vi (sdC A D p i).1), some (vi (sdC A D p i).2), some (vi i), l6] [] g I Q = Q (some (vi (if w = 0 then (sdC A D p q).1 else (sdC A D p q).2))) g I := by
  have hq4 := hP.1
  intro k
  induction k with
  | zero =>
    intro i hi l6
    obtain rfl : i = q := by omega
    rw [H_X11_send_43]
    by_cases c : w = 0
    · rw [if_pos c]
      simp (config := { contextual := true }) (disch := omega) only [R_X11_send_b0, R_X11_send_b1, hX, hT, h50, hq, true_and, and_true, true_implies, not_true_eq_false, false_implies, not_false_eq_true, false_and, and_false, or_true, true_or, false_or, or_false, implies_true, forall_const, kl_i, kl_n, kl_r, kl_l, tl_s, tl_n, List.cons_append, List.nil_append, Int.cast_ofNat_Int, w32_id, w64_id, le_T, le_F, lt_T, lt_F, eq_T, eq_F, reduceIte, ne_eq, Int.toNat_natCast, bi_0, bi_1, bi_b, Nat.reduceAdd, Nat.reduceEqDiff, Int.reduceToNat, Int.reduceNeg, nle_T, nlt_T, neq_T, neq_F, b2_0, b2_b, both, reduceCtorEq]
    · rw [if_neg c]
      simp (config := { contextual := true }) (disch := omega) only [R_X11_send_b0, R_X11_send_b1, hX, hT, h50, hq, true_and, and_true, true_implies, not_true_eq_false, false_implies, not_false_eq_true, false_and, and_false, or_true, true_or, false_or, or_false, implies_true, forall_const, kl_i, kl_n, kl_r, kl_l, tl_s, tl_n, List.cons_append, List.nil_append, Int.cast_ofNat_Int, w32_id, w64_id, le_T, le_F, lt_T, lt_F, eq_T, eq_F, reduceIte, ne_eq, Int.toNat_natCast, bi_0, bi_1, bi_b, Nat.reduceAdd, Nat.reduceEqDiff, Int.reduceToNat, Int.reduceNeg, nle_T, nlt_T, neq_T, neq_F, b2_0, b2_b, both, reduceCtorEq]
  | succ k ih =>
    intro i hi l6
    have ih' := ih (i + 1) (by omega)
    have kc := fun Q => ct_cost (d := d) hX hT h50 ht hP hD he h8 h9 hs hp (i := i) (by omega) Q
    have e : sdC A D p (i + 1) = if 0 ≤ cst A D p i ∧ ((sdC A D p i).1 < 0 ∨ cst A D p i < (sdC A D p i).2) then ((i : Int), cst A D p i) else sdC A D p i := rfl
    have ec : ((i + 1 : Nat) : Int) = (i : Int) + 1 := by omega
    rw [e, ec] at ih'
    generalize cst A D p i = v at ih' kc
    generalize sdC A D p i = s at ih' ⊢
    rw [H_X11_send_43]
    by_cases c1 : 0 ≤ v
    · by_cases c2 : s.1 < 0
      · rw [if_pos ⟨c1, Or.inl c2⟩] at ih'
        simp (config := { contextual := true }) (disch := omega) only [R_X11_send_b0, R_X11_send_b1, hX, hT, h50, hq, kc, ih', true_and, and_true, true_implies, not_true_eq_false, false_implies, not_false_eq_true, false_and, and_false, or_true, true_or, false_or, or_false, implies_true, forall_const, kl_i, kl_n, kl_r, kl_l, tl_s, tl_n, List.cons_append, List.nil_append, Int.cast_ofNat_Int, w32_id, w64_id, le_T, le_F, lt_T, lt_F, eq_T, eq_F, reduceIte, ne_eq, Int.toNat_natCast, bi_0, bi_1, bi_b, Nat.reduceAdd, Nat.reduceEqDiff, Int.reduceToNat, Int.reduceNeg, nle_T, nlt_T, neq_T, neq_F, b2_0, b2_b, both, reduceCtorEq]
      · by_cases c3 : v < s.2
        · rw [if_pos ⟨c1, Or.inr c3⟩] at ih'
          simp (config := { contextual := true }) (disch := omega) only [R_X11_send_b0, R_X11_send_b1, hX, hT, h50, hq, kc, ih', true_and, and_true, true_implies, not_true_eq_false, false_implies, not_false_eq_true, false_and, and_false, or_true, true_or, false_or, or_false, implies_true, forall_const, kl_i, kl_n, kl_r, kl_l, tl_s, tl_n, List.cons_append, List.nil_append, Int.cast_ofNat_Int, w32_id, w64_id, le_T, le_F, lt_T, lt_F, eq_T, eq_F, reduceIte, ne_eq, Int.toNat_natCast, bi_0, bi_1, bi_b, Nat.reduceAdd, Nat.reduceEqDiff, Int.reduceToNat, Int.reduceNeg, nle_T, nlt_T, neq_T, neq_F, b2_0, b2_b, both, reduceCtorEq]
        · rw [if_neg (by rintro ⟨-, z | z⟩; exact c2 z; exact c3 z)] at ih'
          simp (config := { contextual := true }) (disch := omega) only [R_X11_send_b0, R_X11_send_b1, hX, hT, h50, hq, kc, ih', true_and, and_true, true_implies, not_true_eq_false, false_implies, not_false_eq_true, false_and, and_false, or_true, true_or, false_or, or_false, implies_true, forall_const, kl_i, kl_n, kl_r, kl_l, tl_s, tl_n, List.cons_append, List.nil_append, Int.cast_ofNat_Int, w32_id, w64_id, le_T, le_F, lt_T, lt_F, eq_T, eq_F, reduceIte, ne_eq, Int.toNat_natCast, bi_0, bi_1, bi_b, Nat.reduceAdd, Nat.reduceEqDiff, Int.reduceToNat, Int.reduceNeg, nle_T, nlt_T, neq_T, neq_F, b2_0, b2_b, both, reduceCtorEq]
    · rw [if_neg (fun z => c1 z.1)] at ih'
      simp (config := { contextual := true }) (disch := omega) only [R_X11_send_b0, R_X11_send_b1, hX, hT, h50, hq, kc, ih', true_and, and_true, true_implies, not_true_eq_false, false_implies, not_false_eq_true, false_and, and_false, or_true, true_or, false_or, or_false, implies_true, forall_const, kl_i, kl_n, kl_r, kl_l, tl_s, tl_n, List.cons_append, List.nil_append, Int.cast_ofNat_Int, w32_id, w64_id, le_T, le_F, lt_T, lt_F, eq_T, eq_F, reduceIte, ne_eq, Int.toNat_natCast, bi_0, bi_1, bi_b, Nat.reduceAdd, Nat.reduceEqDiff, Int.reduceToNat, Int.reduceNeg, nle_T, nlt_T, neq_T, neq_F, b2_0, b2_b, both, reduceCtorEq]
theorem lp_msd (hW : WM g) (hP : okPp A q) (hD : bD D) (h72 : I 72 = D) (h8 : I 69 = A 10) (h9 : I 70 = A 11) (hs : I 66 = A 7) (hp : 0 ≤ p ∧ p < 8) (hq : I 57 17 = (q : Int)) {w : Int} (d : Nat) (Q : QQ) : ∀ k i : Nat, i + k = q → ∀ l6 l7, WP (d + 1) m_X12_send 44 [some (vr (some 57)), some (vi p), some (vi w), some (vi (sdC A D p i).1), some (vi (sdC A D p i).2), some (vi i), l6, l7] [] g I Q = Q (some (vi (if w = 0 then (sdC A D p q).1 else (sdC A D p q).2))) g I := by
  have hq4 := hP.1
  intro k
  induction k with
  | zero =>
    intro i hi l6 l7
    obtain rfl : i = q := by omega
    rw [H_X12_send_44]
    by_cases c : w = 0
    · rw [if_pos c]
      simp (config := { contextual := true }) (disch := omega) only [R_X12_send_b0, R_X12_send_b1, hW, hq, true_and, and_true, true_implies, not_true_eq_false, false_implies, not_false_eq_true, false_and, and_false, or_true, true_or, false_or, or_false, implies_true, forall_const, kl_i, kl_n, kl_r, kl_l, tl_s, tl_n, List.cons_append, List.nil_append, Int.cast_ofNat_Int, w32_id, w64_id, le_T, le_F, lt_T, lt_F, eq_T, eq_F, reduceIte, ne_eq, Int.toNat_natCast, bi_0, bi_1, bi_b, Nat.reduceAdd, Nat.reduceEqDiff, Int.reduceToNat, Int.reduceNeg, nle_T, nlt_T, neq_T, neq_F, b2_0, b2_b, both, reduceCtorEq]
    · rw [if_neg c]
      simp (config := { contextual := true }) (disch := omega) only [R_X12_send_b0, R_X12_send_b1, hW, hq, true_and, and_true, true_implies, not_true_eq_false, false_implies, not_false_eq_true, false_and, and_false, or_true, true_or, false_or, or_false, implies_true, forall_const, kl_i, kl_n, kl_r, kl_l, tl_s, tl_n, List.cons_append, List.nil_append, Int.cast_ofNat_Int, w32_id, w64_id, le_T, le_F, lt_T, lt_F, eq_T, eq_F, reduceIte, ne_eq, Int.toNat_natCast, bi_0, bi_1, bi_b, Nat.reduceAdd, Nat.reduceEqDiff, Int.reduceToNat, Int.reduceNeg, nle_T, nlt_T, neq_T, neq_F, b2_0, b2_b, both, reduceCtorEq]
  | succ k ih =>
    intro i hi l6 l7
    have ih' := ih (i + 1) (by omega)
    have e : sdC A D p (i + 1) = if 0 ≤ cst A D p i ∧ ((sdC A D p i).1 < 0 ∨ cst A D p i < (sdC A D p i).2) then ((i : Int), cst A D p i) else sdC A D p i := rfl
    have ec : ((i + 1 : Nat) : Int) = (i : Int) + 1 := by omega
    have hb := hP.2 i (by omega)
    have hd := hD (8 * (A 10 i).toNat + p.toNat) (by omega)
    have ecs : cst A D p i = if A 7 2 < A 11 i + 2 * D (8 * (A 10 i).toNat + p.toNat) then -9 else if A 11 i < A 7 0 then 4 * (2 * D (8 * (A 10 i).toNat + p.toNat)) else if A 11 i < A 7 1 then 3 * (2 * D (8 * (A 10 i).toNat + p.toNat)) else 2 * D (8 * (A 10 i).toNat + p.toNat) := rfl
    have m4 : 2 * D (8 * (A 10 i).toNat + p.toNat) * 4 = 4 * (2 * D (8 * (A 10 i).toNat + p.toNat)) := by omega
    have m3 : 2 * D (8 * (A 10 i).toNat + p.toNat) * 3 = 3 * (2 * D (8 * (A 10 i).toNat + p.toNat)) := by omega
    have m1 : 2 * D (8 * (A 10 i).toNat + p.toNat) * 1 = 2 * D (8 * (A 10 i).toNat + p.toNat) := by omega
    rw [e, ec] at ih'
    generalize sdC A D p i = s at ih' ⊢
    rw [H_X12_send_44]
    by_cases c0 : A 7 2 < A 11 i + 2 * D (8 * (A 10 i).toNat + p.toNat)
    · rw [if_pos c0] at ecs
      rw [ecs, if_neg (by omega)] at ih'
      simp (config := { contextual := true }) (disch := omega) only [R_X12_send_b0, R_X12_send_b1, hW, hq, h8, h9, hs, h72, ct_farOf hW, ih', true_and, and_true, true_implies, not_true_eq_false, false_implies, not_false_eq_true, false_and, and_false, or_true, true_or, false_or, or_false, implies_true, forall_const, kl_i, kl_n, kl_r, kl_l, tl_s, tl_n, List.cons_append, List.nil_append, Int.cast_ofNat_Int, w32_id, w64_id, le_T, le_F, lt_T, lt_F, eq_T, eq_F, reduceIte, ne_eq, Int.toNat_natCast, bi_0, bi_1, bi_b, Nat.reduceAdd, Nat.reduceEqDiff, Int.reduceToNat, Int.reduceNeg, nle_T, nlt_T, neq_T, neq_F, b2_0, b2_b, both, reduceCtorEq]
    · rw [if_neg c0] at ecs
      by_cases p0 : A 11 i < A 7 0
      · rw [if_pos p0] at ecs
        rw [ecs] at ih'
        by_cases c2 : s.1 < 0
        · rw [if_pos ⟨by omega, Or.inl c2⟩] at ih'
          simp (config := { contextual := true }) (disch := omega) only [R_X12_send_b0, R_X12_send_b1, hW, hq, h8, h9, hs, h72, ct_farOf hW, m4, ih', true_and, and_true, true_implies, not_true_eq_false, false_implies, not_false_eq_true, false_and, and_false, or_true, true_or, false_or, or_false, implies_true, forall_const, kl_i, kl_n, kl_r, kl_l, tl_s, tl_n, List.cons_append, List.nil_append, Int.cast_ofNat_Int, w32_id, w64_id, le_T, le_F, lt_T, lt_F, eq_T, eq_F, reduceIte, ne_eq, Int.toNat_natCast, bi_0, bi_1, bi_b, Nat.reduceAdd, Nat.reduceEqDiff, Int.reduceToNat, Int.reduceNeg, nle_T, nlt_T, neq_T, neq_F, b2_0, b2_b, both, reduceCtorEq]
        · by_cases c3 : 4 * (2 * D (8 * (A 10 i).toNat + p.toNat)) < s.2
          · rw [if_pos ⟨by omega, Or.inr c3⟩] at ih'
            simp (config := { contextual := true }) (disch := omega) only [R_X12_send_b0, R_X12_send_b1, hW, hq, h8, h9, hs, h72, ct_farOf hW, m4, ih', true_and, and_true, true_implies, not_true_eq_false, false_implies, not_false_eq_true, false_and, and_false, or_true, true_or, false_or, or_false, implies_true, forall_const, kl_i, kl_n, kl_r, kl_l, tl_s, tl_n, List.cons_append, List.nil_append, Int.cast_ofNat_Int, w32_id, w64_id, le_T, le_F, lt_T, lt_F, eq_T, eq_F, reduceIte, ne_eq, Int.toNat_natCast, bi_0, bi_1, bi_b, Nat.reduceAdd, Nat.reduceEqDiff, Int.reduceToNat, Int.reduceNeg, nle_T, nlt_T, neq_T, neq_F, b2_0, b2_b, both, reduceCtorEq]
          · rw [if_neg (by rintro ⟨-, z | z⟩; exact c2 z; exact c3 z)] at ih'
            simp (config := { contextual := true }) (disch := omega) only [R_X12_send_b0, R_X12_send_b1, hW, hq, h8, h9, hs, h72, ct_farOf hW, m4, ih', true_and, and_true, true_implies, not_true_eq_false, false_implies, not_false_eq_true, false_and, and_false, or_true, true_or, false_or, or_false, implies_true, forall_const, kl_i, kl_n, kl_r, kl_l, tl_s, tl_n, List.cons_append, List.nil_append, Int.cast_ofNat_Int, w32_id, w64_id, le_T, le_F, lt_T, lt_F, eq_T, eq_F, reduceIte, ne_eq, Int.toNat_natCast, bi_0, bi_1, bi_b, Nat.reduceAdd, Nat.reduceEqDiff, Int.reduceToNat, Int.reduceNeg, nle_T, nlt_T, neq_T, neq_F, b2_0, b2_b, both, reduceCtorEq]
      · rw [if_neg p0] at ecs
        by_cases p1 : A 11 i < A 7 1
        · rw [if_pos p1] at ecs
          rw [ecs] at ih'
          by_cases c2 : s.1 < 0
          · rw [if_pos ⟨by omega, Or.inl c2⟩] at ih'
            simp (config := { contextual := true }) (disch := omega) only [R_X12_send_b0, R_X12_send_b1, hW, hq, h8, h9, hs, h72, ct_farOf hW, m3, ih', true_and, and_true, true_implies, not_true_eq_false, false_implies, not_false_eq_true, false_and, and_false, or_true, true_or, false_or, or_false, implies_true, forall_const, kl_i, kl_n, kl_r, kl_l, tl_s, tl_n, List.cons_append, List.nil_append, Int.cast_ofNat_Int, w32_id, w64_id, le_T, le_F, lt_T, lt_F, eq_T, eq_F, reduceIte, ne_eq, Int.toNat_natCast, bi_0, bi_1, bi_b, Nat.reduceAdd, Nat.reduceEqDiff, Int.reduceToNat, Int.reduceNeg, nle_T, nlt_T, neq_T, neq_F, b2_0, b2_b, both, reduceCtorEq]
          · by_cases c3 : 3 * (2 * D (8 * (A 10 i).toNat + p.toNat)) < s.2
            · rw [if_pos ⟨by omega, Or.inr c3⟩] at ih'
              simp (config := { contextual := true }) (disch := omega) only [R_X12_send_b0, R_X12_send_b1, hW, hq, h8, h9, hs, h72, ct_farOf hW, m3, ih', true_and, and_true, true_implies, not_true_eq_false, false_implies, not_false_eq_true, false_and, and_false, or_true, true_or, false_or, or_false, implies_true, forall_const, kl_i, kl_n, kl_r, kl_l, tl_s, tl_n, List.cons_append, List.nil_append, Int.cast_ofNat_Int, w32_id, w64_id, le_T, le_F, lt_T, lt_F, eq_T, eq_F, reduceIte, ne_eq, Int.toNat_natCast, bi_0, bi_1, bi_b, Nat.reduceAdd, Nat.reduceEqDiff, Int.reduceToNat, Int.reduceNeg, nle_T, nlt_T, neq_T, neq_F, b2_0, b2_b, both, reduceCtorEq]
            · rw [if_neg (by rintro ⟨-, z | z⟩; exact c2 z; exact c3 z)] at ih'
              simp (config := { contextual := true }) (disch := omega) only [R_X12_send_b0, R_X12_send_b1, hW, hq, h8, h9, hs, h72, ct_farOf hW, m3, ih', true_and, and_true, true_implies, not_true_eq_false, false_implies, not_false_eq_true, false_and, and_false, or_true, true_or, false_or, or_false, implies_true, forall_const, kl_i, kl_n, kl_r, kl_l, tl_s, tl_n, List.cons_append, List.nil_append, Int.cast_ofNat_Int, w32_id, w64_id, le_T, le_F, lt_T, lt_F, eq_T, eq_F, reduceIte, ne_eq, Int.toNat_natCast, bi_0, bi_1, bi_b, Nat.reduceAdd, Nat.reduceEqDiff, Int.reduceToNat, Int.reduceNeg, nle_T, nlt_T, neq_T, neq_F, b2_0, b2_b, both, reduceCtorEq]
        · rw [if_neg p1] at ecs
          rw [ecs] at ih'
          by_cases c2 : s.1 < 0
          · rw [if_pos ⟨by omega, Or.inl c2⟩] at ih'
            simp (config := { contextual := true }) (disch := omega) only [R_X12_send_b0, R_X12_send_b1, hW, hq, h8, h9, hs, h72, ct_farOf hW, m1, ih', true_and, and_true, true_implies, not_true_eq_false, false_implies, not_false_eq_true, false_and, and_false, or_true, true_or, false_or, or_false, implies_true, forall_const, kl_i, kl_n, kl_r, kl_l, tl_s, tl_n, List.cons_append, List.nil_append, Int.cast_ofNat_Int, w32_id, w64_id, le_T, le_F, lt_T, lt_F, eq_T, eq_F, reduceIte, ne_eq, Int.toNat_natCast, bi_0, bi_1, bi_b, Nat.reduceAdd, Nat.reduceEqDiff, Int.reduceToNat, Int.reduceNeg, nle_T, nlt_T, neq_T, neq_F, b2_0, b2_b, both, reduceCtorEq]
          · by_cases c3 : 2 * D (8 * (A 10 i).toNat + p.toNat) < s.2
            · rw [if_pos ⟨by omega, Or.inr c3⟩] at ih'
              simp (config := { contextual := true }) (disch := omega) only [R_X12_send_b0, R_X12_send_b1, hW, hq, h8, h9, hs, h72, ct_farOf hW, m1, ih', true_and, and_true, true_implies, not_true_eq_false, false_implies, not_false_eq_true, false_and, and_false, or_true, true_or, false_or, or_false, implies_true, forall_const, kl_i, kl_n, kl_r, kl_l, tl_s, tl_n, List.cons_append, List.nil_append, Int.cast_ofNat_Int, w32_id, w64_id, le_T, le_F, lt_T, lt_F, eq_T, eq_F, reduceIte, ne_eq, Int.toNat_natCast, bi_0, bi_1, bi_b, Nat.reduceAdd, Nat.reduceEqDiff, Int.reduceToNat, Int.reduceNeg, nle_T, nlt_T, neq_T, neq_F, b2_0, b2_b, both, reduceCtorEq]
            · rw [if_neg (by rintro ⟨-, z | z⟩; exact c2 z; exact c3 z)] at ih'
              simp (config := { contextual := true }) (disch := omega) only [R_X12_send_b0, R_X12_send_b1, hW, hq, h8, h9, hs, h72, ct_farOf hW, m1, ih', true_and, and_true, true_implies, not_true_eq_false, false_implies, not_false_eq_true, false_and, and_false, or_true, true_or, false_or, or_false, implies_true, forall_const, kl_i, kl_n, kl_r, kl_l, tl_s, tl_n, List.cons_append, List.nil_append, Int.cast_ofNat_Int, w32_id, w64_id, le_T, le_F, lt_T, lt_F, eq_T, eq_F, reduceIte, ne_eq, Int.toNat_natCast, bi_0, bi_1, bi_b, Nat.reduceAdd, Nat.reduceEqDiff, Int.reduceToNat, Int.reduceNeg, nle_T, nlt_T, neq_T, neq_F, b2_0, b2_b, both, reduceCtorEq]
end SD
-- MANY
def mR (n b : Int) (s : Nat) : Nat → (Nat → Int)
  | 0 => uf z0 0 n
  | i + 1 => uf (mR n b s i) (i + 1) (mR n b s i i + (if s ≤ i + 1 then b * mR n b s i (i + 1 - s) else 0))
def tb : Nat → Int
  | 0 => 999
  | i + 1 => 10 * tb i
theorem tb_b : ∀ i, i ≤ 15 → 999 ≤ tb i ∧ tb i ≤ 999000000000000000 := by decide
theorem mR_b {n b : Int} {s : Nat} (hn : 0 ≤ n ∧ n ≤ 999) (hb : 0 ≤ b ∧ b ≤ 9) (hs : 1 ≤ s) : ∀ i, i ≤ 15 → ∀ j, j ≤ i → 0 ≤ mR n b s i j ∧ mR n b s i j ≤ tb i
  | 0, _, j, hj => by
    obtain rfl : j = 0 := by omega
    show 0 ≤ uf z0 0 n 0 ∧ uf z0 0 n 0 ≤ 999
    rw [uf_s]; exact hn
  | i + 1, hi, j, hj => by
    have ih := mR_b hn hb hs i (by omega)
    have ht := tb_b i (by omega)
    show 0 ≤ uf (mR n b s i) (i + 1) (mR n b s i i + (if s ≤ i + 1 then b * mR n b s i (i + 1 - s) else 0)) j ∧ uf (mR n b s i) (i + 1) (mR n b s i i + (if s ≤ i + 1 then b * mR n b s i (i + 1 - s) else 0)) j ≤ 10 * tb i
    by_cases e : j = i + 1
    · rw [e, uf_s]
      have h1 := ih i (Nat.le_refl i)
      by_cases c : s ≤ i + 1
      · rw [if_pos c]
        have h2 := ih (i + 1 - s) (by omega)
        have h3 : 0 ≤ b * mR n b s i (i + 1 - s) ∧ b * mR n b s i (i + 1 - s) ≤ 9 * tb i := ⟨Int.mul_nonneg hb.1 h2.1, Int.mul_le_mul hb.2 h2.2 h2.1 (by omega)⟩
        omega
      · rw [if_neg c]; omega
    · rw [uf_o e]
      have := ih j (by omega)
      omega
section MY
variable {g : GG} {I : II} {n b : Int} {s T : Nat}
theorem lp_my (hX : WX g) (hn : 0 ≤ n ∧ n ≤ 999) (hb : 0 ≤ b ∧ b ≤ 9) (hs : 1 ≤ s ∧ s ≤ 9) (hT : T ≤ 15) (d : Nat) (Q : QQ) (hQ : ∀ f, Q (some (vl (mR n b s T T))) g (pr I 55 f)) : ∀ k i : Nat, i + k = T → ∀ f : Nat → Int, (∀ j, j ≤ i → f j = mR n b s i j) → WP d m_X11_many 69 [some (vr (some 5)), some (vi n), some (vi b), some (vi s), some (vi T), some (vi ((i : Int) + 1))] [] g (pr I 55 f) Q := by
  intro k
  induction k with
  | zero =>
    intro i hi f hf
    obtain rfl : i = T := by omega
    have hq := hQ f
    rw [← hf i (Nat.le_refl i)] at hq
    rw [H_X11_many_69]
    simp (config := { contextual := true }) (disch := omega) only [R_X11_many_b0, R_X11_many_b1, hX, pr_s, true_and, and_true, true_implies, not_true_eq_false, false_implies, not_false_eq_true, false_and, and_false, or_true, true_or, false_or, or_false, implies_true, forall_const, kl_i, kl_n, kl_r, kl_l, tl_s, tl_n, List.cons_append, List.nil_append, Int.cast_ofNat_Int, w32_id, w64_id, le_T, le_F, lt_T, lt_F, eq_T, eq_F, reduceIte, ne_eq, Int.toNat_natCast, bi_0, bi_1, bi_b, Nat.reduceAdd, Nat.reduceEqDiff, Int.reduceToNat, Int.reduceNeg, nle_T, nlt_T, neq_T, neq_F, b2_0, b2_b, both, reduceCtorEq]
    exact hq
  | succ k ih =>
    intro i hi f hf
    have hbd := mR_b hn hb hs.1 i (by omega)
    have ht := tb_b i (by omega)
    have ht1 := tb_b (i + 1) (by omega)
    have et : tb (i + 1) = 10 * tb i := rfl
    have h1 := hbd i (Nat.le_refl i)
    have f1 := hf i (Nat.le_refl i)
    have ih' := ih (i + 1) (by omega) (uf f (i + 1) (mR n b s i i + (if s ≤ i + 1 then b * mR n b s i (i + 1 - s) else 0))) (fun j hj => by
      show uf f (i + 1) _ j = uf (mR n b s i) (i + 1) _ j
      by_cases e : j = i + 1
      · rw [e, uf_s, uf_s]
      · rw [uf_o e, uf_o e]; exact hf j (by omega))
    have ec : ((i + 1 : Nat) : Int) = (i : Int) + 1 := by omega
    have ei : (i : Int) + 1 - 1 = (i : Int) := by omega
    have e1 : ((i : Int) + 1).toNat = i + 1 := by omega
    rw [ec] at ih'
    rw [H_X11_many_69]
    by_cases c : s ≤ i + 1
    · have h2 := hbd (i + 1 - s) (by omega)
      have f2 := hf (i + 1 - s) (by omega)
      have h3 : 0 ≤ b * mR n b s i (i + 1 - s) ∧ b * mR n b s i (i + 1 - s) ≤ 9 * tb i := ⟨Int.mul_nonneg hb.1 h2.1, Int.mul_le_mul hb.2 h2.2 h2.1 (by omega)⟩
      have e2 : ((i : Int) + 1 - (s : Int)).toNat = i + 1 - s := by omega
      rw [if_pos c] at ih'
      simp (config := { contextual := true }) (disch := omega) only [R_X11_many_b0, R_X11_many_b1, hX, pr_s, ei, e1, e2, f1, f2, up_pr, pr_pr, true_and, and_true, true_implies, not_true_eq_false, false_implies, not_false_eq_true, false_and, and_false, or_true, true_or, false_or, or_false, implies_true, forall_const, kl_i, kl_n, kl_r, kl_l, tl_s, tl_n, List.cons_append, List.nil_append, Int.cast_ofNat_Int, w32_id, w64_id, le_T, le_F, lt_T, lt_F, eq_T, eq_F, reduceIte, ne_eq, Int.toNat_natCast, bi_0, bi_1, bi_b, Nat.reduceAdd, Nat.reduceEqDiff, Int.reduceToNat, Int.reduceNeg, nle_T, nlt_T, neq_T, neq_F, b2_0, b2_b, both, reduceCtorEq]
      exact ih'
    · rw [if_neg c] at ih'
      simp (config := { contextual := true }) (disch := omega) only [R_X11_many_b0, R_X11_many_b1, hX, pr_s, ei, e1, f1, up_pr, pr_pr, true_and, and_true, true_implies, not_true_eq_false, false_implies, not_false_eq_true, false_and, and_false, or_true, true_or, false_or, or_false, implies_true, forall_const, kl_i, kl_n, kl_r, kl_l, tl_s, tl_n, List.cons_append, List.nil_append, Int.cast_ofNat_Int, w32_id, w64_id, le_T, le_F, lt_T, lt_F, eq_T, eq_F, reduceIte, ne_eq, Int.toNat_natCast, bi_0, bi_1, bi_b, Nat.reduceAdd, Nat.reduceEqDiff, Int.reduceToNat, Int.reduceNeg, nle_T, nlt_T, neq_T, neq_F, b2_0, b2_b, both, reduceCtorEq]
      exact ih'
theorem lp_mmy (hW : WM g) (hn : 0 ≤ n ∧ n ≤ 999) (hb : 0 ≤ b ∧ b ≤ 9) (hs : 1 ≤ s ∧ s ≤ 9) (hT : T ≤ 15) (d : Nat) (Q : QQ) (hQ : ∀ f, Q (some (vl (mR n b s T T))) g (pr I 88 f)) : ∀ k i : Nat, i + k = T → ∀ f : Nat → Int, (∀ j, j ≤ i → f j = mR n b s i j) → WP d m_X12_many 80 [some (vr (some 57)), some (vi n), some (vi b), some (vi s), some (vi T), some (vi 0), some (vi ((i : Int) + 1))] [] g (pr I 88 f) Q := by
  intro k
  induction k with
  | zero =>
    intro i hi f hf
    obtain rfl : i = T := by omega
    have hq := hQ f
    rw [← hf i (Nat.le_refl i)] at hq
    rw [H_X12_many_80]
    simp (config := { contextual := true }) (disch := omega) only [R_X12_many_b0, R_X12_many_b1, hW, pr_s, true_and, and_true, true_implies, not_true_eq_false, false_implies, not_false_eq_true, false_and, and_false, or_true, true_or, false_or, or_false, implies_true, forall_const, kl_i, kl_n, kl_r, kl_l, tl_s, tl_n, List.cons_append, List.nil_append, Int.cast_ofNat_Int, w32_id, w64_id, le_T, le_F, lt_T, lt_F, eq_T, eq_F, reduceIte, ne_eq, Int.toNat_natCast, bi_0, bi_1, bi_b, Nat.reduceAdd, Nat.reduceEqDiff, Int.reduceToNat, Int.reduceNeg, nle_T, nlt_T, neq_T, neq_F, b2_0, b2_b, both, reduceCtorEq]
    exact hq
  | succ k ih =>
    intro i hi f hf
    have hbd := mR_b hn hb hs.1 i (by omega)
    have ht := tb_b i (by omega)
    have ht1 := tb_b (i + 1) (by omega)
    have et : tb (i + 1) = 10 * tb i := rfl
    have h1 := hbd i (Nat.le_refl i)
    have f1 := hf i (Nat.le_refl i)
    have ih' := ih (i + 1) (by omega) (uf f (i + 1) (mR n b s i i + (if s ≤ i + 1 then b * mR n b s i (i + 1 - s) else 0))) (fun j hj => by
      show uf f (i + 1) _ j = uf (mR n b s i) (i + 1) _ j
      by_cases e : j = i + 1
      · rw [e, uf_s, uf_s]
      · rw [uf_o e, uf_o e]; exact hf j (by omega))
    have ec : ((i + 1 : Nat) : Int) = (i : Int) + 1 := by omega
    have ei : (i : Int) + 1 - 1 = (i : Int) := by omega
    have e1 : ((i : Int) + 1).toNat = i + 1 := by omega
    rw [ec] at ih'
    rw [H_X12_many_80]
    by_cases c : s ≤ i + 1
    · have h2 := hbd (i + 1 - s) (by omega)
      have f2 := hf (i + 1 - s) (by omega)
      have h3 : 0 ≤ b * mR n b s i (i + 1 - s) ∧ b * mR n b s i (i + 1 - s) ≤ 9 * tb i := ⟨Int.mul_nonneg hb.1 h2.1, Int.mul_le_mul hb.2 h2.2 h2.1 (by omega)⟩
      have e2 : ((i : Int) + 1 - (s : Int)).toNat = i + 1 - s := by omega
      rw [if_pos c] at ih'
      simp (config := { contextual := true }) (disch := omega) only [R_X12_many_b0, R_X12_many_b1, hW, pr_s, ei, e1, e2, f1, f2, up_pr, pr_pr, true_and, and_true, true_implies, not_true_eq_false, false_implies, not_false_eq_true, false_and, and_false, or_true, true_or, false_or, or_false, implies_true, forall_const, kl_i, kl_n, kl_r, kl_l, tl_s, tl_n, List.cons_append, List.nil_append, Int.cast_ofNat_Int, w32_id, w64_id, le_T, le_F, lt_T, lt_F, eq_T, eq_F, reduceIte, ne_eq, Int.toNat_natCast, bi_0, bi_1, bi_b, Nat.reduceAdd, Nat.reduceEqDiff, Int.reduceToNat, Int.reduceNeg, nle_T, nlt_T, neq_T, neq_F, b2_0, b2_b, both, reduceCtorEq]
      exact ih'
    · rw [if_neg c] at ih'
      simp (config := { contextual := true }) (disch := omega) only [R_X12_many_b0, R_X12_many_b1, hW, pr_s, ei, e1, f1, up_pr, pr_pr, true_and, and_true, true_implies, not_true_eq_false, false_implies, not_false_eq_true, false_and, and_false, or_true, true_or, false_or, or_false, implies_true, forall_const, kl_i, kl_n, kl_r, kl_l, tl_s, tl_n, List.cons_append, List.nil_append, Int.cast_ofNat_Int, w32_id, w64_id, le_T, le_F, lt_T, lt_F, eq_T, eq_F, reduceIte, ne_eq, Int.toNat_natCast, bi_0, bi_1, bi_b, Nat.reduceAdd, Nat.reduceEqDiff, Int.reduceToNat, Int.reduceNeg, nle_T, nlt_T, neq_T, neq_F, b2_0, b2_b, both, reduceCtorEq]
      exact ih'
end MY
section CSM
variable {L : Nat} {xs : Nat → Int32} {g : GG} {I : II} {t dr : Nat} {A : II} {P w n q m : Nat}
theorem cs_send (hs : SS L xs g I) (hg : 90 ≤ gN g) (h : RQ g I t dr A P w n q m) (a b : Int) : CS L xs g I m_X11_send m_X12_send [some (vi a), some (vi b), none, none, none, none] [some (vi a), some (vi b), none, none, none, none, none] vi := by
  have hW := h.2.2.1.1
  have hX := h.2.2.1.2.1
  obtain ⟨ht1, ht2, hT⟩ := RQ_t h
  have h50 := h.2.1.1
  obtain ⟨hP, hP'⟩ := RQ_P h
  have hS := RQ_S h
  have hP8 := hS.2.1
  by_cases pa : 0 ≤ a ∧ a < (P : Int)
  · by_cases pb : 0 ≤ b ∧ b ≤ 1
    · obtain ⟨dB, dZ, d1, d8⟩ := DM_ok hS (I 72)
      have hf := RQ_far h (I 72)
      have T := h.2.2.2.2.1.2.2.2.2
      have hq := RQ_q h
      have kf := RQ_ff h
      have hPp : okPp A q := ⟨hS.2.2.2.2.2.2.2.2.1.1, fun j hj => by have := hS.2.2.2.2.2.2.2.2.1.2 j hj; omega⟩
      have h'' := RQ_sm h (sm_72 I (DM A P w (I 72)))
      obtain ⟨r3, r4, r5, r6, r7, r8, r9, r10, r11, r12, r13⟩ := RQ_r h''
      have hq2 := (RQ_q h'').2
      have k1 := fun Q => lp_sd hX hT h50 ht1 hPp dB hf T.2.2.2.2.1 T.2.2.2.2.2.1 T.1 (p := a) (by omega) hq.1 (w := b) 997 Q q 0 (by omega) none
      have k2 := fun Q => lp_msd (I := pr I 72 (DM A P w (I 72))) hW hPp dB (pr_s _ _ _) r10 r11 r7 (p := a) (by omega) hq2 (w := b) 998 Q q 0 (by omega) none none
      have e0 : sdC A (DM A P w (I 72)) a 0 = (-9, -9) := rfl
      rw [e0] at k1 k2
      refine CS_q hs hg h (if b = 0 then (sdC A (DM A P w (I 72)) a q).1 else (sdC A (DM A P w (I 72)) a q).2) (fun Q => ?_) (sm_rf I) (fun Q => ?_) (sm_72 I (DM A P w (I 72)))
      · have k1 := k1 Q
        simp (config := { contextual := true }) (disch := omega) only [R_X11_send_b0, R_X11_send_b1, hX, hT, h50, hP, ct_isPlace hT, pa, true_and, and_true, true_implies, not_true_eq_false, false_implies, not_false_eq_true, false_and, and_false, or_true, true_or, false_or, or_false, implies_true, forall_const, kl_i, kl_n, kl_r, kl_l, tl_s, tl_n, List.cons_append, List.nil_append, Int.cast_ofNat_Int, w32_id, w64_id, le_T, le_F, lt_T, lt_F, eq_T, eq_F, reduceIte, ne_eq, Int.toNat_natCast, bi_0, bi_1, bi_b, Nat.reduceAdd, Nat.reduceEqDiff, Int.reduceToNat, Int.reduceNeg, nle_T, nlt_T, neq_T, neq_F, b2_0, b2_b, both, reduceCtorEq]
        exact k1
      · have k2 := k2 Q
        simp (config := { contextual := true }) (disch := omega) only [R_X12_send_b0, R_X12_send_b1, hW, hP', ct_misPlace hW, pa, ct_isIn, pb, kf, true_and, and_true, true_implies, not_true_eq_false, false_implies, not_false_eq_true, false_and, and_false, or_true, true_or, false_or, or_false, implies_true, forall_const, kl_i, kl_n, kl_r, kl_l, tl_s, tl_n, List.cons_append, List.nil_append, Int.cast_ofNat_Int, w32_id, w64_id, le_T, le_F, lt_T, lt_F, eq_T, eq_F, reduceIte, ne_eq, Int.toNat_natCast, bi_0, bi_1, bi_b, Nat.reduceAdd, Nat.reduceEqDiff, Int.reduceToNat, Int.reduceNeg, nle_T, nlt_T, neq_T, neq_F, b2_0, b2_b, both, reduceCtorEq]
        exact k2
    · refine CS_r hs hg h (-2) (k := 2) (by omega) (fun Q => ?_) (fun Q => ?_)
      · by_cases c : b < 0
        · simp (config := { contextual := true }) (disch := omega) only [R_X11_send_b0, R_X11_send_b1, hX, hT, h50, hP, ct_isPlace hT, pa, ct_refuse hX, rfC, true_and, and_true, true_implies, not_true_eq_false, false_implies, not_false_eq_true, false_and, and_false, or_true, true_or, false_or, or_false, implies_true, forall_const, kl_i, kl_n, kl_r, kl_l, tl_s, tl_n, List.cons_append, List.nil_append, Int.cast_ofNat_Int, w32_id, w64_id, le_T, le_F, lt_T, lt_F, eq_T, eq_F, reduceIte, ne_eq, Int.toNat_natCast, bi_0, bi_1, bi_b, Nat.reduceAdd, Nat.reduceEqDiff, Int.reduceToNat, Int.reduceNeg, nle_T, nlt_T, neq_T, neq_F, b2_0, b2_b, both, reduceCtorEq]
        · simp (config := { contextual := true }) (disch := omega) only [R_X11_send_b0, R_X11_send_b1, hX, hT, h50, hP, ct_isPlace hT, pa, ct_refuse hX, rfC, true_and, and_true, true_implies, not_true_eq_false, false_implies, not_false_eq_true, false_and, and_false, or_true, true_or, false_or, or_false, implies_true, forall_const, kl_i, kl_n, kl_r, kl_l, tl_s, tl_n, List.cons_append, List.nil_append, Int.cast_ofNat_Int, w32_id, w64_id, le_T, le_F, lt_T, lt_F, eq_T, eq_F, reduceIte, ne_eq, Int.toNat_natCast, bi_0, bi_1, bi_b, Nat.reduceAdd, Nat.reduceEqDiff, Int.reduceToNat, Int.reduceNeg, nle_T, nlt_T, neq_T, neq_F, b2_0, b2_b, both, reduceCtorEq]
      · simp (config := { contextual := true }) (disch := omega) only [R_X12_send_b0, R_X12_send_b1, hW, hP', ct_misPlace hW, pa, ct_isIn, pb, ct_no hW, pr_o, rfC, rfM, true_and, and_true, true_implies, not_true_eq_false, false_implies, not_false_eq_true, false_and, and_false, or_true, true_or, false_or, or_false, implies_true, forall_const, kl_i, kl_n, kl_r, kl_l, tl_s, tl_n, List.cons_append, List.nil_append, Int.cast_ofNat_Int, w32_id, w64_id, le_T, le_F, lt_T, lt_F, eq_T, eq_F, reduceIte, ne_eq, Int.toNat_natCast, bi_0, bi_1, bi_b, Nat.reduceAdd, Nat.reduceEqDiff, Int.reduceToNat, Int.reduceNeg, nle_T, nlt_T, neq_T, neq_F, b2_0, b2_b, both, reduceCtorEq]
  · refine CS_r hs hg h (-1) (k := 1) (by omega) (fun Q => ?_) (fun Q => ?_)
    · simp (config := { contextual := true }) (disch := omega) only [R_X11_send_b0, R_X11_send_b1, hX, hT, h50, hP, ct_isPlace hT, pa, ct_refuse hX, rfC, true_and, and_true, true_implies, not_true_eq_false, false_implies, not_false_eq_true, false_and, and_false, or_true, true_or, false_or, or_false, implies_true, forall_const, kl_i, kl_n, kl_r, kl_l, tl_s, tl_n, List.cons_append, List.nil_append, Int.cast_ofNat_Int, w32_id, w64_id, le_T, le_F, lt_T, lt_F, eq_T, eq_F, reduceIte, ne_eq, Int.toNat_natCast, bi_0, bi_1, bi_b, Nat.reduceAdd, Nat.reduceEqDiff, Int.reduceToNat, Int.reduceNeg, nle_T, nlt_T, neq_T, neq_F, b2_0, b2_b, both, reduceCtorEq]
    · simp (config := { contextual := true }) (disch := omega) only [R_X12_send_b0, R_X12_send_b1, hW, hP', ct_misPlace hW, pa, ct_no hW, pr_o, rfC, rfM, true_and, and_true, true_implies, not_true_eq_false, false_implies, not_false_eq_true, false_and, and_false, or_true, true_or, false_or, or_false, implies_true, forall_const, kl_i, kl_n, kl_r, kl_l, tl_s, tl_n, List.cons_append, List.nil_append, Int.cast_ofNat_Int, w32_id, w64_id, le_T, le_F, lt_T, lt_F, eq_T, eq_F, reduceIte, ne_eq, Int.toNat_natCast, bi_0, bi_1, bi_b, Nat.reduceAdd, Nat.reduceEqDiff, Int.reduceToNat, Int.reduceNeg, nle_T, nlt_T, neq_T, neq_F, b2_0, b2_b, both, reduceCtorEq]
theorem cs_many (hs : SS L xs g I) (hg : 90 ≤ gN g) (h : RQ g I t dr A P w n q m) (a b c e : Int) : CS L xs g I m_X11_many m_X12_many [some (vi a), some (vi b), some (vi c), some (vi e), none] [some (vi a), some (vi b), some (vi c), some (vi e), none, none] vl := by
  have hW := h.2.2.1.1
  have hX := h.2.2.1.2.1
  obtain ⟨ht1, ht2, hT⟩ := RQ_t h
  have h50 := h.2.1.1
  obtain ⟨hP, hP'⟩ := RQ_P h
  have hS := RQ_S h
  have hP8 := hS.2.1
  have bad4 : a < 0 ∨ b < 0 ∨ c < 1 ∨ e < 0 → CS L xs g I m_X11_many m_X12_many [some (vi a), some (vi b), some (vi c), some (vi e), none] [some (vi a), some (vi b), some (vi c), some (vi e), none, none] vl := by
    intro hc
    have hc' : a < 0 ∨ (¬ a < 0 ∧ b < 0) ∨ (¬ a < 0 ∧ ¬ b < 0 ∧ c < 1) ∨ (¬ a < 0 ∧ ¬ b < 0 ∧ ¬ c < 1 ∧ e < 0) := by omega
    rcases hc' with q | ⟨q1, q⟩ | ⟨q1, q2, q⟩ | ⟨q1, q2, q3, q⟩
    all_goals
      refine CS_r hs hg h 4000000000000000004 (k := 4) (by omega) (fun Q => ?_) (fun Q => ?_)
      · simp (config := { contextual := true }) (disch := omega) only [R_X11_many_b0, R_X11_many_b1, hX, ct_refuseLong hX, rfC, true_and, and_true, true_implies, not_true_eq_false, false_implies, not_false_eq_true, false_and, and_false, or_true, true_or, false_or, or_false, implies_true, forall_const, kl_i, kl_n, kl_r, kl_l, tl_s, tl_n, List.cons_append, List.nil_append, Int.cast_ofNat_Int, w32_id, w64_id, le_T, le_F, lt_T, lt_F, eq_T, eq_F, reduceIte, ne_eq, Int.toNat_natCast, bi_0, bi_1, bi_b, Nat.reduceAdd, Nat.reduceEqDiff, Int.reduceToNat, Int.reduceNeg, nle_T, nlt_T, neq_T, neq_F, b2_0, b2_b, both, reduceCtorEq]
        rfl
      · simp (config := { contextual := true }) (disch := omega) only [R_X12_many_b0, R_X12_many_b1, hW, ct_noLong hW, pr_o, rfC, rfM, true_and, and_true, true_implies, not_true_eq_false, false_implies, not_false_eq_true, false_and, and_false, or_true, true_or, false_or, or_false, implies_true, forall_const, kl_i, kl_n, kl_r, kl_l, tl_s, tl_n, List.cons_append, List.nil_append, Int.cast_ofNat_Int, w32_id, w64_id, le_T, le_F, lt_T, lt_F, eq_T, eq_F, reduceIte, ne_eq, Int.toNat_natCast, bi_0, bi_1, bi_b, Nat.reduceAdd, Nat.reduceEqDiff, Int.reduceToNat, Int.reduceNeg, nle_T, nlt_T, neq_T, neq_F, b2_0, b2_b, both, reduceCtorEq]
        rfl
  by_cases c1 : a < 0 ∨ b < 0 ∨ c < 1 ∨ e < 0
  · exact bad4 c1
  have bad6 : 999 < a ∨ 9 < b ∨ 9 < c ∨ 15 < e → CS L xs g I m_X11_many m_X12_many [some (vi a), some (vi b), some (vi c), some (vi e), none] [some (vi a), some (vi b), some (vi c), some (vi e), none, none] vl := by
    intro hc
    have hc' : 999 < a ∨ (¬ 999 < a ∧ 9 < b) ∨ (¬ 999 < a ∧ ¬ 9 < b ∧ 9 < c) ∨ (¬ 999 < a ∧ ¬ 9 < b ∧ ¬ 9 < c ∧ 15 < e) := by omega
    rcases hc' with q | ⟨q1, q⟩ | ⟨q1, q2, q⟩ | ⟨q1, q2, q3, q⟩
    all_goals
      refine CS_r hs hg h 4000000000000000006 (k := 6) (by omega) (fun Q => ?_) (fun Q => ?_)
      · simp (config := { contextual := true }) (disch := omega) only [R_X11_many_b0, R_X11_many_b1, hX, ct_refuseLong hX, rfC, true_and, and_true, true_implies, not_true_eq_false, false_implies, not_false_eq_true, false_and, and_false, or_true, true_or, false_or, or_false, implies_true, forall_const, kl_i, kl_n, kl_r, kl_l, tl_s, tl_n, List.cons_append, List.nil_append, Int.cast_ofNat_Int, w32_id, w64_id, le_T, le_F, lt_T, lt_F, eq_T, eq_F, reduceIte, ne_eq, Int.toNat_natCast, bi_0, bi_1, bi_b, Nat.reduceAdd, Nat.reduceEqDiff, Int.reduceToNat, Int.reduceNeg, nle_T, nlt_T, neq_T, neq_F, b2_0, b2_b, both, reduceCtorEq]
        rfl
      · simp (config := { contextual := true }) (disch := omega) only [R_X12_many_b0, R_X12_many_b1, hW, ct_noLong hW, pr_o, rfC, rfM, true_and, and_true, true_implies, not_true_eq_false, false_implies, not_false_eq_true, false_and, and_false, or_true, true_or, false_or, or_false, implies_true, forall_const, kl_i, kl_n, kl_r, kl_l, tl_s, tl_n, List.cons_append, List.nil_append, Int.cast_ofNat_Int, w32_id, w64_id, le_T, le_F, lt_T, lt_F, eq_T, eq_F, reduceIte, ne_eq, Int.toNat_natCast, bi_0, bi_1, bi_b, Nat.reduceAdd, Nat.reduceEqDiff, Int.reduceToNat, Int.reduceNeg, nle_T, nlt_T, neq_T, neq_F, b2_0, b2_b, both, reduceCtorEq]
        rfl
  by_cases c2 : 999 < a ∨ 9 < b ∨ 9 < c ∨ 15 < e
  · exact bad6 c2
  obtain ⟨s, rfl⟩ := Int.eq_ofNat_of_zero_le (by omega : 0 ≤ c)
  obtain ⟨T, rfl⟩ := Int.eq_ofNat_of_zero_le (by omega : 0 ≤ e)
  obtain ⟨I1, ⟨f1, k1⟩, h1⟩ : ∃ I1, (∃ f, I1 = pr I 55 f) ∧ ∀ Q : QQ, WP 999 m_X11_many 0 [some (vr (some 5)), some (vi a), some (vi b), some (vi s), some (vi T), none] [] g I Q = Q (some (vl (mR a b s T T))) g I1 := by
    refine WP_ext (fun Q hQ => ?_)
    have k := lp_my (I := I) hX (n := a) (b := b) (s := s) (T := T) (by omega) (by omega) (by omega) (by omega) 999 Q (fun f => hQ _ ⟨f, rfl⟩) T 0 (by omega) (uf (I 55) 0 a) (fun j hj => by
      obtain rfl : j = 0 := by omega
      show uf (I 55) 0 a 0 = uf z0 0 a 0
      rw [uf_s, uf_s])
    have ez : ((0 : Nat) : Int) + 1 = 1 := rfl
    rw [ez] at k
    simp (config := { contextual := true }) (disch := omega) only [R_X11_many_b0, R_X11_many_b1, hX, up_pr, true_and, and_true, true_implies, not_true_eq_false, false_implies, not_false_eq_true, false_and, and_false, or_true, true_or, false_or, or_false, implies_true, forall_const, kl_i, kl_n, kl_r, kl_l, tl_s, tl_n, List.cons_append, List.nil_append, Int.cast_ofNat_Int, w32_id, w64_id, le_T, le_F, lt_T, lt_F, eq_T, eq_F, reduceIte, ne_eq, Int.toNat_natCast, bi_0, bi_1, bi_b, Nat.reduceAdd, Nat.reduceEqDiff, Int.reduceToNat, Int.reduceNeg, nle_T, nlt_T, neq_T, neq_F, b2_0, b2_b, both, reduceCtorEq]
    exact k
  subst k1
  have ks : sm I (pr I 55 f1) := sm_pr (sm_rf I) (by unfold okc; omega)
  obtain ⟨J, ⟨f2, k2⟩, h2⟩ : ∃ J, (∃ f, J = pr (pr I 55 f1) 88 f) ∧ ∀ Q : QQ, WP 999 m_X12_many 0 [some (vr (some 57)), some (vi a), some (vi b), some (vi s), some (vi T), none, none] [] g (pr I 55 f1) Q = Q (some (vl (mR a b s T T))) g J := by
    refine WP_ext (fun Q hQ => ?_)
    have k := lp_mmy (I := pr I 55 f1) hW (n := a) (b := b) (s := s) (T := T) (by omega) (by omega) (by omega) (by omega) 999 Q (fun f => hQ _ ⟨f, rfl⟩) T 0 (by omega) (uf (pr I 55 f1 88) 0 a) (fun j hj => by
      obtain rfl : j = 0 := by omega
      show uf (pr I 55 f1 88) 0 a 0 = uf z0 0 a 0
      rw [uf_s, uf_s])
    have ez : ((0 : Nat) : Int) + 1 = 1 := rfl
    rw [ez, pr_o (by omega)] at k
    simp (config := { contextual := true }) (disch := omega) only [R_X12_many_b0, R_X12_many_b1, hW, up_pr, pr_o, true_and, and_true, true_implies, not_true_eq_false, false_implies, not_false_eq_true, false_and, and_false, or_true, true_or, false_or, or_false, implies_true, forall_const, kl_i, kl_n, kl_r, kl_l, tl_s, tl_n, List.cons_append, List.nil_append, Int.cast_ofNat_Int, w32_id, w64_id, le_T, le_F, lt_T, lt_F, eq_T, eq_F, reduceIte, ne_eq, Int.toNat_natCast, bi_0, bi_1, bi_b, Nat.reduceAdd, Nat.reduceEqDiff, Int.reduceToNat, Int.reduceNeg, nle_T, nlt_T, neq_T, neq_F, b2_0, b2_b, both, reduceCtorEq]
    exact k
  subst k2
  exact CS_q hs hg h _ h1 ks h2 (sm_pr ks (by unfold okc; omega))
end CSM

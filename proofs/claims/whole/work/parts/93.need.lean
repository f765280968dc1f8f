-- LAND: how many places are told of, on both sides
def mxF (f : Nat → Int) (v : Int) : Nat → Int
  | 0 => v
  | k + 1 => max (mxF f v k) (f k)
def mxP (c : Nat → Bool) (v : Int) : Nat → Int
  | 0 => v
  | k + 1 => if c k = true then max (mxP c v k) (k : Int) else mxP c v k
def mxW (a b : Nat → Int) (v : Int) : Nat → Int
  | 0 => v
  | k + 1 => max (max (mxW a b v k) (a k)) (b k)
theorem mxF_le {f : Nat → Int} {v x : Int} : ∀ k, mxF f v k ≤ x ↔ v ≤ x ∧ ∀ j, j < k → f j ≤ x
  | 0 => ⟨fun h => ⟨h, fun j hj => by omega⟩, fun h => h.1⟩
  | k + 1 => by
    have ih := mxF_le (f := f) (v := v) (x := x) k
    have e : mxF f v (k + 1) = max (mxF f v k) (f k) := rfl
    rw [e]
    constructor
    · intro h
      obtain ⟨h1, h2⟩ := ih.mp (by omega)
      exact ⟨h1, fun j hj => by by_cases q : j = k; rw [q]; omega; exact h2 j (by omega)⟩
    · rintro ⟨h1, h2⟩
      have h3 := ih.mpr ⟨h1, fun j hj => h2 j (by omega)⟩
      have h4 := h2 k (by omega)
      omega
theorem mxP_le {c : Nat → Bool} {v x : Int} : ∀ k, mxP c v k ≤ x ↔ v ≤ x ∧ ∀ j, j < k → c j = true → (j : Int) ≤ x
  | 0 => ⟨fun h => ⟨h, fun j hj => by omega⟩, fun h => h.1⟩
  | k + 1 => by
    have ih := mxP_le (c := c) (v := v) (x := x) k
    have e : mxP c v (k + 1) = if c k = true then max (mxP c v k) (k : Int) else mxP c v k := rfl
    rw [e]
    by_cases q : c k = true
    · rw [if_pos q]
      constructor
      · intro h
        obtain ⟨h1, h2⟩ := ih.mp (by omega)
        exact ⟨h1, fun j hj hc => by by_cases z : j = k; rw [z]; omega; exact h2 j (by omega) hc⟩
      · rintro ⟨h1, h2⟩
        have h3 := ih.mpr ⟨h1, fun j hj hc => h2 j (by omega) hc⟩
        have h4 := h2 k (by omega) q
        omega
    · rw [if_neg q]
      constructor
      · intro h
        obtain ⟨h1, h2⟩ := ih.mp h
        exact ⟨h1, fun j hj hc => by by_cases z : j = k; rw [z] at hc; exact absurd hc q; exact h2 j (by omega) hc⟩
      · rintro ⟨h1, h2⟩
        exact ih.mpr ⟨h1, fun j hj hc => h2 j (by omega) hc⟩
theorem mxW_le {a b : Nat → Int} {v x : Int} : ∀ k, mxW a b v k ≤ x ↔ v ≤ x ∧ ∀ j, j < k → a j ≤ x ∧ b j ≤ x
  | 0 => ⟨fun h => ⟨h, fun j hj => by omega⟩, fun h => h.1⟩
  | k + 1 => by
    have ih := mxW_le (a := a) (b := b) (v := v) (x := x) k
    have e : mxW a b v (k + 1) = max (max (mxW a b v k) (a k)) (b k) := rfl
    rw [e]
    constructor
    · intro h
      obtain ⟨h1, h2⟩ := ih.mp (by omega)
      exact ⟨h1, fun j hj => by by_cases q : j = k; rw [q]; omega; exact h2 j (by omega)⟩
    · rintro ⟨h1, h2⟩
      have h3 := ih.mpr ⟨h1, fun j hj => h2 j (by omega)⟩
      have h4 := h2 k (by omega)
      omega
def hwy (W : Nat → Int) (p : Nat) : Nat → Nat → Bool
  | 0, _ => false
  | k + 1, i => if 0 < W (8 * p + i) then true else hwy W p k (i + 1)
theorem hwy_t {W : Nat → Int} {p : Nat} : ∀ k i, hwy W p k i = true ↔ ∃ j, i ≤ j ∧ j < i + k ∧ 0 < W (8 * p + j)
  | 0, i => ⟨fun h => (by cases h), fun ⟨j, h1, h2, _⟩ => (by omega)⟩
  | k + 1, i => by
    have ih := hwy_t (W := W) (p := p) k (i + 1)
    have e : hwy W p (k + 1) i = if 0 < W (8 * p + i) then true else hwy W p k (i + 1) := rfl
    rw [e]
    by_cases c : 0 < W (8 * p + i)
    · rw [if_pos c]
      exact ⟨fun _ => ⟨i, by omega, by omega, c⟩, fun _ => rfl⟩
    · rw [if_neg c, ih]
      constructor
      · rintro ⟨j, h1, h2, h3⟩
        exact ⟨j, by omega, by omega, h3⟩
      · rintro ⟨j, h1, h2, h3⟩
        by_cases q : j = i
        · rw [q] at h3; exact absurd h3 c
        · exact ⟨j, by omega, by omega, h3⟩
/-- the least number of places that all fits in, as the model reckons it -/
def needA (A : II) (w n q m : Nat) : Int := mxP (fun p => decide (0 < A 8 p)) (mxF (A 12) (mxF (A 10) (mxF (A 4) (mxW (A 0) (A 1) (max (A 7 3) (A 14 5)) w) n) q) m) 8 + 1
section NEED
variable {g : GG} {I : II} {n : Nat}
theorem lp_tpA (hW : WM g) {w : Nat} (hw : I 57 15 = (w : Int)) (hw14 : w ≤ 14) (d : Nat) (Q : QQ) {v0 : Int} : ∀ k i : Nat, i + k = w → WP d m_X12_toldPlaces 29 [some (vr (some 57)), some (vi (mxW (I 59) (I 60) v0 i)), some (vi i)] [] g I Q = WP d m_X12_toldPlaces 87 [some (vr (some 57)), some (vi (mxW (I 59) (I 60) v0 w)), some (vi 0)] [] g I Q := by
  intro k
  induction k with
  | zero =>
    intro i hi
    obtain rfl : i = w := by omega
    rw [H_X12_toldPlaces_29]
    simp (config := { contextual := true }) (disch := omega) only [R_X12_toldPlaces_b0, R_X12_toldPlaces_b1, R_X12_toldPlaces_b2, hW, hw, true_and, and_true, true_implies, not_true_eq_false, false_implies, not_false_eq_true, false_and, and_false, or_true, true_or, false_or, or_false, implies_true, forall_const, kl_i, kl_n, kl_r, kl_l, tl_s, tl_n, List.cons_append, List.nil_append, Int.cast_ofNat_Int, w32_id, w64_id, le_T, le_F, lt_T, lt_F, eq_T, eq_F, reduceIte, ne_eq, Int.toNat_natCast, bi_0, bi_1, bi_b, Nat.reduceAdd, Nat.reduceEqDiff, Int.reduceToNat, Int.reduceNeg, nle_T, nlt_T, neq_T, neq_F, b2_0, b2_b, both, reduceCtorEq]
  | succ k ih =>
    intro i hi
    have ih' := ih (i + 1) (by omega)
    have ec : ((i + 1 : Nat) : Int) = (i : Int) + 1 := by omega
    have e : mxW (I 59) (I 60) v0 (i + 1) = max (max (mxW (I 59) (I 60) v0 i) (I 59 i)) (I 60 i) := rfl
    rw [e, ec] at ih'
    generalize mxW (I 59) (I 60) v0 i = x at ih' ⊢
    rw [← ih', H_X12_toldPlaces_29]
    clear ih' ih
    by_cases c1 : x < I 59 i
    · rw [Int.max_eq_right (a := x) (by omega)]
      by_cases c2 : I 59 i < I 60 i
      · rw [Int.max_eq_right (by omega)]
        simp (config := { contextual := true }) (disch := omega) only [R_X12_toldPlaces_b0, R_X12_toldPlaces_b1, R_X12_toldPlaces_b2, hW, hw, true_and, and_true, true_implies, not_true_eq_false, false_implies, not_false_eq_true, false_and, and_false, or_true, true_or, false_or, or_false, implies_true, forall_const, kl_i, kl_n, kl_r, kl_l, tl_s, tl_n, List.cons_append, List.nil_append, Int.cast_ofNat_Int, w32_id, w64_id, le_T, le_F, lt_T, lt_F, eq_T, eq_F, reduceIte, ne_eq, Int.toNat_natCast, bi_0, bi_1, bi_b, Nat.reduceAdd, Nat.reduceEqDiff, Int.reduceToNat, Int.reduceNeg, nle_T, nlt_T, neq_T, neq_F, b2_0, b2_b, both, reduceCtorEq]
      · rw [Int.max_eq_left (by omega)]
        simp (config := { contextual := true }) (disch := omega) only [R_X12_toldPlaces_b0, R_X12_toldPlaces_b1, R_X12_toldPlaces_b2, hW, hw, true_and, and_true, true_implies, not_true_eq_false, false_implies, not_false_eq_true, false_and, and_false, or_true, true_or, false_or, or_false, implies_true, forall_const, kl_i, kl_n, kl_r, kl_l, tl_s, tl_n, List.cons_append, List.nil_append, Int.cast_ofNat_Int, w32_id, w64_id, le_T, le_F, lt_T, lt_F, eq_T, eq_F, reduceIte, ne_eq, Int.toNat_natCast, bi_0, bi_1, bi_b, Nat.reduceAdd, Nat.reduceEqDiff, Int.reduceToNat, Int.reduceNeg, nle_T, nlt_T, neq_T, neq_F, b2_0, b2_b, both, reduceCtorEq]
    · rw [Int.max_eq_left (a := x) (b := I 59 i) (by omega)]
      by_cases c2 : x < I 60 i
      · rw [Int.max_eq_right (by omega)]
        simp (config := { contextual := true }) (disch := omega) only [R_X12_toldPlaces_b0, R_X12_toldPlaces_b1, R_X12_toldPlaces_b2, hW, hw, true_and, and_true, true_implies, not_true_eq_false, false_implies, not_false_eq_true, false_and, and_false, or_true, true_or, false_or, or_false, implies_true, forall_const, kl_i, kl_n, kl_r, kl_l, tl_s, tl_n, List.cons_append, List.nil_append, Int.cast_ofNat_Int, w32_id, w64_id, le_T, le_F, lt_T, lt_F, eq_T, eq_F, reduceIte, ne_eq, Int.toNat_natCast, bi_0, bi_1, bi_b, Nat.reduceAdd, Nat.reduceEqDiff, Int.reduceToNat, Int.reduceNeg, nle_T, nlt_T, neq_T, neq_F, b2_0, b2_b, both, reduceCtorEq]
      · rw [Int.max_eq_left (by omega)]
        simp (config := { contextual := true }) (disch := omega) only [R_X12_toldPlaces_b0, R_X12_toldPlaces_b1, R_X12_toldPlaces_b2, hW, hw, true_and, and_true, true_implies, not_true_eq_false, false_implies, not_false_eq_true, false_and, and_false, or_true, true_or, false_or, or_false, implies_true, forall_const, kl_i, kl_n, kl_r, kl_l, tl_s, tl_n, List.cons_append, List.nil_append, Int.cast_ofNat_Int, w32_id, w64_id, le_T, le_F, lt_T, lt_F, eq_T, eq_F, reduceIte, ne_eq, Int.toNat_natCast, bi_0, bi_1, bi_b, Nat.reduceAdd, Nat.reduceEqDiff, Int.reduceToNat, Int.reduceNeg, nle_T, nlt_T, neq_T, neq_F, b2_0, b2_b, both, reduceCtorEq]
theorem lp_tpB (hW : WM g) {w : Nat} (hw : I 57 16 = (w : Int)) (hw14 : w ≤ 7) (d : Nat) (Q : QQ) {v0 : Int} : ∀ k i : Nat, i + k = w → WP d m_X12_toldPlaces 87 [some (vr (some 57)), some (vi (mxF (I 63) v0 i)), some (vi i)] [] g I Q = WP d m_X12_toldPlaces 124 [some (vr (some 57)), some (vi (mxF (I 63) v0 w)), some (vi 0)] [] g I Q := by
  intro k
  induction k with
  | zero =>
    intro i hi
    obtain rfl : i = w := by omega
    rw [H_X12_toldPlaces_87]
    simp (config := { contextual := true }) (disch := omega) only [R_X12_toldPlaces_b0, R_X12_toldPlaces_b1, R_X12_toldPlaces_b2, hW, hw, true_and, and_true, true_implies, not_true_eq_false, false_implies, not_false_eq_true, false_and, and_false, or_true, true_or, false_or, or_false, implies_true, forall_const, kl_i, kl_n, kl_r, kl_l, tl_s, tl_n, List.cons_append, List.nil_append, Int.cast_ofNat_Int, w32_id, w64_id, le_T, le_F, lt_T, lt_F, eq_T, eq_F, reduceIte, ne_eq, Int.toNat_natCast, bi_0, bi_1, bi_b, Nat.reduceAdd, Nat.reduceEqDiff, Int.reduceToNat, Int.reduceNeg, nle_T, nlt_T, neq_T, neq_F, b2_0, b2_b, both, reduceCtorEq]
  | succ k ih =>
    intro i hi
    have ih' := ih (i + 1) (by omega)
    have ec : ((i + 1 : Nat) : Int) = (i : Int) + 1 := by omega
    have e : mxF (I 63) v0 (i + 1) = max (mxF (I 63) v0 i) (I 63 i) := rfl
    rw [e, ec] at ih'
    generalize mxF (I 63) v0 i = x at ih' ⊢
    rw [← ih', H_X12_toldPlaces_87]
    clear ih' ih
    by_cases c1 : x < I 63 i
    · rw [Int.max_eq_right (by omega)]
      simp (config := { contextual := true }) (disch := omega) only [R_X12_toldPlaces_b0, R_X12_toldPlaces_b1, R_X12_toldPlaces_b2, hW, hw, true_and, and_true, true_implies, not_true_eq_false, false_implies, not_false_eq_true, false_and, and_false, or_true, true_or, false_or, or_false, implies_true, forall_const, kl_i, kl_n, kl_r, kl_l, tl_s, tl_n, List.cons_append, List.nil_append, Int.cast_ofNat_Int, w32_id, w64_id, le_T, le_F, lt_T, lt_F, eq_T, eq_F, reduceIte, ne_eq, Int.toNat_natCast, bi_0, bi_1, bi_b, Nat.reduceAdd, Nat.reduceEqDiff, Int.reduceToNat, Int.reduceNeg, nle_T, nlt_T, neq_T, neq_F, b2_0, b2_b, both, reduceCtorEq]
    · rw [Int.max_eq_left (by omega)]
      simp (config := { contextual := true }) (disch := omega) only [R_X12_toldPlaces_b0, R_X12_toldPlaces_b1, R_X12_toldPlaces_b2, hW, hw, true_and, and_true, true_implies, not_true_eq_false, false_implies, not_false_eq_true, false_and, and_false, or_true, true_or, false_or, or_false, implies_true, forall_const, kl_i, kl_n, kl_r, kl_l, tl_s, tl_n, List.cons_append, List.nil_append, Int.cast_ofNat_Int, w32_id, w64_id, le_T, le_F, lt_T, lt_F, eq_T, eq_F, reduceIte, ne_eq, Int.toNat_natCast, bi_0, bi_1, bi_b, Nat.reduceAdd, Nat.reduceEqDiff, Int.reduceToNat, Int.reduceNeg, nle_T, nlt_T, neq_T, neq_F, b2_0, b2_b, both, reduceCtorEq]
theorem lp_tpC (hW : WM g) {w : Nat} (hw : I 57 17 = (w : Int)) (hw14 : w ≤ 4) (d : Nat) (Q : QQ) {v0 : Int} : ∀ k i : Nat, i + k = w → WP d m_X12_toldPlaces 124 [some (vr (some 57)), some (vi (mxF (I 69) v0 i)), some (vi i)] [] g I Q = WP d m_X12_toldPlaces 161 [some (vr (some 57)), some (vi (mxF (I 69) v0 w)), some (vi 0)] [] g I Q := by
  intro k
  induction k with
  | zero =>
    intro i hi
    obtain rfl : i = w := by omega
    rw [H_X12_toldPlaces_124]
    simp (config := { contextual := true }) (disch := omega) only [R_X12_toldPlaces_b0, R_X12_toldPlaces_b1, R_X12_toldPlaces_b2, hW, hw, true_and, and_true, true_implies, not_true_eq_false, false_implies, not_false_eq_true, false_and, and_false, or_true, true_or, false_or, or_false, implies_true, forall_const, kl_i, kl_n, kl_r, kl_l, tl_s, tl_n, List.cons_append, List.nil_append, Int.cast_ofNat_Int, w32_id, w64_id, le_T, le_F, lt_T, lt_F, eq_T, eq_F, reduceIte, ne_eq, Int.toNat_natCast, bi_0, bi_1, bi_b, Nat.reduceAdd, Nat.reduceEqDiff, Int.reduceToNat, Int.reduceNeg, nle_T, nlt_T, neq_T, neq_F, b2_0, b2_b, both, reduceCtorEq]
  | succ k ih =>
    intro i hi
    have ih' := ih (i + 1) (by omega)
    have ec : ((i + 1 : Nat) : Int) = (i : Int) + 1 := by omega
    have e : mxF (I 69) v0 (i + 1) = max (mxF (I 69) v0 i) (I 69 i) := rfl
    rw [e, ec] at ih'
    generalize mxF (I 69) v0 i = x at ih' ⊢
    rw [← ih', H_X12_toldPlaces_124]
    clear ih' ih
    by_cases c1 : x < I 69 i
    · rw [Int.max_eq_right (by omega)]
      simp (config := { contextual := true }) (disch := omega) only [R_X12_toldPlaces_b0, R_X12_toldPlaces_b1, R_X12_toldPlaces_b2, hW, hw, true_and, and_true, true_implies, not_true_eq_false, false_implies, not_false_eq_true, false_and, and_false, or_true, true_or, false_or, or_false, implies_true, forall_const, kl_i, kl_n, kl_r, kl_l, tl_s, tl_n, List.cons_append, List.nil_append, Int.cast_ofNat_Int, w32_id, w64_id, le_T, le_F, lt_T, lt_F, eq_T, eq_F, reduceIte, ne_eq, Int.toNat_natCast, bi_0, bi_1, bi_b, Nat.reduceAdd, Nat.reduceEqDiff, Int.reduceToNat, Int.reduceNeg, nle_T, nlt_T, neq_T, neq_F, b2_0, b2_b, both, reduceCtorEq]
    · rw [Int.max_eq_left (by omega)]
      simp (config := { contextual := true }) (disch := omega) only [R_X12_toldPlaces_b0, R_X12_toldPlaces_b1, R_X12_toldPlaces_b2, hW, hw, true_and, and_true, true_implies, not_true_eq_false, false_implies, not_false_eq_true, false_and, and_false, or_true, true_or, false_or, or_false, implies_true, forall_const, kl_i, kl_n, kl_r, kl_l, tl_s, tl_n, List.cons_append, List.nil_append, Int.cast_ofNat_Int, w32_id, w64_id, le_T, le_F, lt_T, lt_F, eq_T, eq_F, reduceIte, ne_eq, Int.toNat_natCast, bi_0, bi_1, bi_b, Nat.reduceAdd, Nat.reduceEqDiff, Int.reduceToNat, Int.reduceNeg, nle_T, nlt_T, neq_T, neq_F, b2_0, b2_b, both, reduceCtorEq]
theorem lp_tpD (hW : WM g) {w : Nat} (hw : I 57 18 = (w : Int)) (hw14 : w ≤ 8) (d : Nat) (Q : QQ) {v0 : Int} : ∀ k i : Nat, i + k = w → WP d m_X12_toldPlaces 161 [some (vr (some 57)), some (vi (mxF (I 71) v0 i)), some (vi i)] [] g I Q = WP d m_X12_toldPlaces 198 [some (vr (some 57)), some (vi (mxF (I 71) v0 w)), some (vi 0)] [] g I Q := by
  intro k
  induction k with
  | zero =>
    intro i hi
    obtain rfl : i = w := by omega
    rw [H_X12_toldPlaces_161]
    simp (config := { contextual := true }) (disch := omega) only [R_X12_toldPlaces_b0, R_X12_toldPlaces_b1, R_X12_toldPlaces_b2, hW, hw, true_and, and_true, true_implies, not_true_eq_false, false_implies, not_false_eq_true, false_and, and_false, or_true, true_or, false_or, or_false, implies_true, forall_const, kl_i, kl_n, kl_r, kl_l, tl_s, tl_n, List.cons_append, List.nil_append, Int.cast_ofNat_Int, w32_id, w64_id, le_T, le_F, lt_T, lt_F, eq_T, eq_F, reduceIte, ne_eq, Int.toNat_natCast, bi_0, bi_1, bi_b, Nat.reduceAdd, Nat.reduceEqDiff, Int.reduceToNat, Int.reduceNeg, nle_T, nlt_T, neq_T, neq_F, b2_0, b2_b, both, reduceCtorEq]
  | succ k ih =>
    intro i hi
    have ih' := ih (i + 1) (by omega)
    have ec : ((i + 1 : Nat) : Int) = (i : Int) + 1 := by omega
    have e : mxF (I 71) v0 (i + 1) = max (mxF (I 71) v0 i) (I 71 i) := rfl
    rw [e, ec] at ih'
    generalize mxF (I 71) v0 i = x at ih' ⊢
    rw [← ih', H_X12_toldPlaces_161]
    clear ih' ih
    by_cases c1 : x < I 71 i
    · rw [Int.max_eq_right (by omega)]
      simp (config := { contextual := true }) (disch := omega) only [R_X12_toldPlaces_b0, R_X12_toldPlaces_b1, R_X12_toldPlaces_b2, hW, hw, true_and, and_true, true_implies, not_true_eq_false, false_implies, not_false_eq_true, false_and, and_false, or_true, true_or, false_or, or_false, implies_true, forall_const, kl_i, kl_n, kl_r, kl_l, tl_s, tl_n, List.cons_append, List.nil_append, Int.cast_ofNat_Int, w32_id, w64_id, le_T, le_F, lt_T, lt_F, eq_T, eq_F, reduceIte, ne_eq, Int.toNat_natCast, bi_0, bi_1, bi_b, Nat.reduceAdd, Nat.reduceEqDiff, Int.reduceToNat, Int.reduceNeg, nle_T, nlt_T, neq_T, neq_F, b2_0, b2_b, both, reduceCtorEq]
    · rw [Int.max_eq_left (by omega)]
      simp (config := { contextual := true }) (disch := omega) only [R_X12_toldPlaces_b0, R_X12_toldPlaces_b1, R_X12_toldPlaces_b2, hW, hw, true_and, and_true, true_implies, not_true_eq_false, false_implies, not_false_eq_true, false_and, and_false, or_true, true_or, false_or, or_false, implies_true, forall_const, kl_i, kl_n, kl_r, kl_l, tl_s, tl_n, List.cons_append, List.nil_append, Int.cast_ofNat_Int, w32_id, w64_id, le_T, le_F, lt_T, lt_F, eq_T, eq_F, reduceIte, ne_eq, Int.toNat_natCast, bi_0, bi_1, bi_b, Nat.reduceAdd, Nat.reduceEqDiff, Int.reduceToNat, Int.reduceNeg, nle_T, nlt_T, neq_T, neq_F, b2_0, b2_b, both, reduceCtorEq]
theorem lp_tpE (hW : WM g) (d : Nat) (Q : QQ) {v0 : Int} (hv : -1 ≤ v0 ∧ v0 ≤ 1000) : ∀ k i : Nat, i + k = 8 → WP d m_X12_toldPlaces 198 [some (vr (some 57)), some (vi (mxP (fun p => decide (0 < I 67 p)) v0 i)), some (vi i)] [] g I Q = Q (some (vi (mxP (fun p => decide (0 < I 67 p)) v0 8 + 1))) g I := by
  have hb : ∀ i, i ≤ 8 → -1 ≤ mxP (fun p => decide (0 < I 67 p)) v0 i ∧ mxP (fun p => decide (0 < I 67 p)) v0 i ≤ 1000 := by
    intro i
    induction i with
    | zero => intro _; exact hv
    | succ i ih =>
      intro hi
      have := ih (by omega)
      have e : mxP (fun p => decide (0 < I 67 p)) v0 (i + 1) = if decide (0 < I 67 i) = true then max (mxP (fun p => decide (0 < I 67 p)) v0 i) (i : Int) else mxP (fun p => decide (0 < I 67 p)) v0 i := rfl
      rw [e]
      split
      · omega
      · omega
  intro k
  induction k with
  | zero =>
    intro i hi
    obtain rfl : i = 8 := by omega
    have := hb 8 (by omega)
    rw [H_X12_toldPlaces_198]
    simp (config := { contextual := true }) (disch := omega) only [R_X12_toldPlaces_b0, R_X12_toldPlaces_b1, R_X12_toldPlaces_b2, hW, true_and, and_true, true_implies, not_true_eq_false, false_implies, not_false_eq_true, false_and, and_false, or_true, true_or, false_or, or_false, implies_true, forall_const, kl_i, kl_n, kl_r, kl_l, tl_s, tl_n, List.cons_append, List.nil_append, Int.cast_ofNat_Int, w32_id, w64_id, le_T, le_F, lt_T, lt_F, eq_T, eq_F, reduceIte, ne_eq, Int.toNat_natCast, bi_0, bi_1, bi_b, Nat.reduceAdd, Nat.reduceEqDiff, Int.reduceToNat, Int.reduceNeg, nle_T, nlt_T, neq_T, neq_F, b2_0, b2_b, both, reduceCtorEq]
  | succ k ih =>
    intro i hi
    have ih' := ih (i + 1) (by omega)
    have ec : ((i + 1 : Nat) : Int) = (i : Int) + 1 := by omega
    have e : mxP (fun p => decide (0 < I 67 p)) v0 (i + 1) = if decide (0 < I 67 i) = true then max (mxP (fun p => decide (0 < I 67 p)) v0 i) (i : Int) else mxP (fun p => decide (0 < I 67 p)) v0 i := rfl
    rw [e, ec] at ih'
    have hbi := hb i (by omega)
    generalize mxP (fun p => decide (0 < I 67 p)) v0 i = x at ih' hbi ⊢
    rw [H_X12_toldPlaces_198]
    by_cases c : 0 < I 67 i
    · rw [if_pos (decide_eq_true c)] at ih'
      by_cases c2 : x < (i : Int)
      · rw [Int.max_eq_right (by omega)] at ih'
        simp (config := { contextual := true }) (disch := omega) only [R_X12_toldPlaces_b0, R_X12_toldPlaces_b1, R_X12_toldPlaces_b2, hW, ih', true_and, and_true, true_implies, not_true_eq_false, false_implies, not_false_eq_true, false_and, and_false, or_true, true_or, false_or, or_false, implies_true, forall_const, kl_i, kl_n, kl_r, kl_l, tl_s, tl_n, List.cons_append, List.nil_append, Int.cast_ofNat_Int, w32_id, w64_id, le_T, le_F, lt_T, lt_F, eq_T, eq_F, reduceIte, ne_eq, Int.toNat_natCast, bi_0, bi_1, bi_b, Nat.reduceAdd, Nat.reduceEqDiff, Int.reduceToNat, Int.reduceNeg, nle_T, nlt_T, neq_T, neq_F, b2_0, b2_b, both, reduceCtorEq]
      · rw [Int.max_eq_left (by omega)] at ih'
        simp (config := { contextual := true }) (disch := omega) only [R_X12_toldPlaces_b0, R_X12_toldPlaces_b1, R_X12_toldPlaces_b2, hW, ih', true_and, and_true, true_implies, not_true_eq_false, false_implies, not_false_eq_true, false_and, and_false, or_true, true_or, false_or, or_false, implies_true, forall_const, kl_i, kl_n, kl_r, kl_l, tl_s, tl_n, List.cons_append, List.nil_append, Int.cast_ofNat_Int, w32_id, w64_id, le_T, le_F, lt_T, lt_F, eq_T, eq_F, reduceIte, ne_eq, Int.toNat_natCast, bi_0, bi_1, bi_b, Nat.reduceAdd, Nat.reduceEqDiff, Int.reduceToNat, Int.reduceNeg, nle_T, nlt_T, neq_T, neq_F, b2_0, b2_b, both, reduceCtorEq]
    · have cn : ¬ (decide (0 < I 67 i) = true) := by rw [decide_eq_true_eq]; exact c
      rw [if_neg cn] at ih'
      simp (config := { contextual := true }) (disch := omega) only [R_X12_toldPlaces_b0, R_X12_toldPlaces_b1, R_X12_toldPlaces_b2, hW, ih', true_and, and_true, true_implies, not_true_eq_false, false_implies, not_false_eq_true, false_and, and_false, or_true, true_or, false_or, or_false, implies_true, forall_const, kl_i, kl_n, kl_r, kl_l, tl_s, tl_n, List.cons_append, List.nil_append, Int.cast_ofNat_Int, w32_id, w64_id, le_T, le_F, lt_T, lt_F, eq_T, eq_F, reduceIte, ne_eq, Int.toNat_natCast, bi_0, bi_1, bi_b, Nat.reduceAdd, Nat.reduceEqDiff, Int.reduceToNat, Int.reduceNeg, nle_T, nlt_T, neq_T, neq_F, b2_0, b2_b, both, reduceCtorEq]
end NEED

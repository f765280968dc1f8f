-- LIVES of a kind: NEAR and FAR
def goL (D : Nat → Int) (x : LF) (p : Int) : LF := (p, lAge x + D (8 * (lAt x).toNat + p.toNat), lWo x, lHad x)
def sk (A : II) (D : Nat → Int) (n P : Nat) (far : Bool) : Nat → LF → LF
  | 0, x => x
  | k + 1, x => if npA A D n far x P < 0 then x else sk A D n P far k (tkA A true n (goL D x (npA A D n far x P)))
theorem tk1_at (A : II) (w : Bool) (i : Nat) (x : LF) : lAt (tk1 A w i x) = lAt x ∧ lAge (tk1 A w i x) = lAge x := by
  unfold tk1
  split
  · exact ⟨rfl, rfl⟩
  · exact ⟨rfl, rfl⟩
theorem tkA_at (A : II) (w : Bool) (x : LF) : ∀ i, lAt (tkA A w i x) = lAt x ∧ lAge (tkA A w i x) = lAge x
  | 0 => ⟨rfl, rfl⟩
  | i + 1 => by
    have h1 := tk1_at A w i (tkA A w i x)
    have h2 := tkA_at A w x i
    exact ⟨h1.1.trans h2.1, h1.2.trans h2.2⟩
theorem np1_or (A : II) (D : Nat → Int) (n : Nat) (far : Bool) (x : LF) (p : Nat) (c : Int) : (np1 A D n far x p c = p ∧ wgo A D n x p = true) ∨ np1 A D n far x p c = c := by
  unfold np1
  by_cases h : wgo A D n x p = true ∧ (c < 0 ∨ (if far = true then D (8 * (lAt x).toNat + c.toNat) < D (8 * (lAt x).toNat + p) else D (8 * (lAt x).toNat + p) < D (8 * (lAt x).toNat + c.toNat)))
  · exact Or.inl ⟨if_pos h, h.1⟩
  · exact Or.inr (if_neg h)
theorem npA_w (A : II) (D : Nat → Int) (n : Nat) (far : Bool) (x : LF) : ∀ p : Nat, 0 ≤ npA A D n far x p → wgo A D n x (npA A D n far x p) = true
  | 0, h => by
    have : npA A D n far x 0 = -1 := rfl
    omega
  | p + 1, h => by
    have h1 := npA_w A D n far x p
    have e : npA A D n far x (p + 1) = np1 A D n far x p (npA A D n far x p) := rfl
    rw [e] at h ⊢
    rcases np1_or A D n far x p (npA A D n far x p) with ⟨q1, q2⟩ | q
    · rw [q1]; exact q2
    · rw [q] at h ⊢; exact h1 h
theorem wgo_t {A : II} {D : Nat → Int} {n : Nat} {x : LF} {p : Int} (h : wgo A D n x p = true) : ¬ p = lAt x ∧ lAge x + D (8 * (lAt x).toNat + p.toNat) ≤ A 7 2 := by
  unfold wgo at h
  by_cases c : p = lAt x ∨ A 7 2 < lAge x + D (8 * (lAt x).toNat + p.toNat)
  · rw [if_pos c] at h; cases h
  · omega
section LIVE
variable {g : GG} {I : II} {d t n P : Nat} {A : II} {D : Nat → Int}
/-- where a going leads: to a place, in bounds, a mile or more later -/
theorem np_go (hS : okSt A) (hD : bD D) (hp1 : pos1 D) (hP8 : P ≤ 8) {x : LF} (hx : okL x) {far : Bool} (h : ¬ npA A D n far x P < 0) : (0 ≤ npA A D n far x P ∧ npA A D n far x P < 8) ∧ lAge x + 1 ≤ lAge (goL D x (npA A D n far x P)) ∧ lAge (goL D x (npA A D n far x P)) ≤ A 7 2 ∧ okL (goL D x (npA A D n far x P)) := by
  have h1 := npA_b A D n far x P
  obtain ⟨h2, h3⟩ := wgo_t (npA_w A D n far x P (by omega))
  obtain ⟨hy1, hy2, hy3⟩ := hx
  have h4 := hp1 (lAt x).toNat (npA A D n far x P).toNat (by omega) (by omega) (by omega)
  refine ⟨by omega, ?_, h3, ⟨?_, ?_⟩, ⟨?_, ?_⟩, hy3⟩
  · show lAge x + 1 ≤ lAge x + D _; omega
  · show 0 ≤ npA A D n far x P; omega
  · show npA A D n far x P < 8; omega
  · show 0 ≤ lAge x + D _; omega
  · show lAge x + D _ ≤ 1000; omega
theorem lp_mlive (hV : MV g I A n) (hA : okA A n) (hS : okSt A) (hD : bD D) (hp1 : pos1 D) (hI : I 72 = D) (hP : I 57 14 = (P : Int)) (hP8 : P ≤ 8) (far : Bool) (Q : QQ) : ∀ (k : Nat) (x : LF), okL x → A 7 2 - lAge x ≤ (k : Int) → WP (d + 4) m_X12_lives 35 [some (vr (some 57)), some (vi (b2 far)), some (vi (npA A D n far x P))] [] g (mmx I x) Q = Q none g (mmx I (sk A D n P far k x)) := by
  have hW := hV.1
  have fin : ∀ y, WP (d + 4) m_X12_lives 69 [some (vr (some 57)), some (vi (b2 far)), some (vi 0)] [] g (mmx I y) Q = Q none g (mmx I y) := by
    intro y
    have hb : ¬ b2 far = 2 := by cases far <;> decide
    rw [H_X12_lives_69]
    simp (config := { contextual := true }) (disch := omega) only [R_X12_lives_b0, R_X12_lives_b1, hW, mmx_f, hb, true_and, and_true, true_implies, not_true_eq_false, false_implies, not_false_eq_true, false_and, and_false, or_true, true_or, false_or, or_false, implies_true, forall_const, kl_i, kl_n, kl_r, kl_l, tl_s, tl_n, List.cons_append, List.nil_append, Int.cast_ofNat_Int, w32_id, w64_id, le_T, le_F, lt_T, lt_F, eq_T, eq_F, reduceIte, ne_eq, Int.toNat_natCast, bi_0, bi_1, bi_b, Nat.reduceAdd, Nat.reduceEqDiff, Int.reduceToNat, Int.reduceNeg, nle_T, nlt_T, neq_T, neq_F, b2_0, b2_b, both, reduceCtorEq]
  intro k
  induction k with
  | zero =>
    intro x hx hk
    have hneg : npA A D n far x P < 0 := by
      by_cases h : npA A D n far x P < 0
      · exact h
      · have := np_go hS hD hp1 hP8 hx h
        omega
    rw [H_X12_lives_35]
    simp (config := { contextual := true }) (disch := omega) only [R_X12_lives_b0, R_X12_lives_b1, hW, fin, true_and, and_true, true_implies, not_true_eq_false, false_implies, not_false_eq_true, false_and, and_false, or_true, true_or, false_or, or_false, implies_true, forall_const, kl_i, kl_n, kl_r, kl_l, tl_s, tl_n, List.cons_append, List.nil_append, Int.cast_ofNat_Int, w32_id, w64_id, le_T, le_F, lt_T, lt_F, eq_T, eq_F, reduceIte, ne_eq, Int.toNat_natCast, bi_0, bi_1, bi_b, Nat.reduceAdd, Nat.reduceEqDiff, Int.reduceToNat, Int.reduceNeg, nle_T, nlt_T, neq_T, neq_F, b2_0, b2_b, both, reduceCtorEq]
    rfl
  | succ k ih =>
    intro x hx hk
    by_cases h : npA A D n far x P < 0
    · rw [show sk A D n P far (k + 1) x = x from if_pos h, H_X12_lives_35]
      simp (config := { contextual := true }) (disch := omega) only [R_X12_lives_b0, R_X12_lives_b1, hW, fin, true_and, and_true, true_implies, not_true_eq_false, false_implies, not_false_eq_true, false_and, and_false, or_true, true_or, false_or, or_false, implies_true, forall_const, kl_i, kl_n, kl_r, kl_l, tl_s, tl_n, List.cons_append, List.nil_append, Int.cast_ofNat_Int, w32_id, w64_id, le_T, le_F, lt_T, lt_F, eq_T, eq_F, reduceIte, ne_eq, Int.toNat_natCast, bi_0, bi_1, bi_b, Nat.reduceAdd, Nat.reduceEqDiff, Int.reduceToNat, Int.reduceNeg, nle_T, nlt_T, neq_T, neq_F, b2_0, b2_b, both, reduceCtorEq]
    · obtain ⟨g1, g2, g3, g4⟩ := np_go hS hD hp1 hP8 hx h
      rw [show sk A D n P far (k + 1) x = sk A D n P far k (tkA A true n (goL D x (npA A D n far x P))) from if_neg h]
      have hok := okL_tkA (w := true) hA g4 n (Nat.le_refl n)
      have hat := tkA_at A true (goL D x (npA A D n far x P)) n
      have ih' := ih _ hok (by rw [hat.2]; omega)
      have hAll := fun Q => ct_hasAll (d := d) hV hA hS true _ g4 Q
      have tt : (if true = true then (1 : Int) else 0) = 1 := rfl
      rw [tt] at hAll
      have hnp := fun Q => ct_mnp (d := d) hV hA hS hD hI hP hP8 _ hok far Q
      have hD' : bD (mmx I x 72) := by rw [mmx_o (by omega), hI]; exact hD
      have q72 : mmx I x 72 = D := by rw [mmx_o (by omega), hI]
      obtain ⟨hy1, hy2, hy3⟩ := hx
      have h0 : 0 ≤ mmx I x 57 35 ∧ mmx I x 57 35 < 8 := by rw [mmx_0]; omega
      have h1 : 0 ≤ mmx I x 57 36 ∧ mmx I x 57 36 ≤ 1000000 := by rw [mmx_1]; omega
      have kg := fun Q => ct_goesTo (d := d + 2) hW hD' Q (npA A D n far x P) h0 h1 g1
      have eg : (npA A D n far x P, lAge x + D (8 * (lAt x).toNat + (npA A D n far x P).toNat), lWo x, lHad x) = goL D x (npA A D n far x P) := rfl
      rw [H_X12_lives_35]
      generalize npA A D n far x P = c at h g1 g2 g3 g4 hok hat ih' hAll hnp kg eg ⊢
      cases far with
      | true =>
        have ef : b2 true = 1 := rfl
        rw [ef] at ih' hnp ⊢
        simp (config := { contextual := true }) (disch := omega) only [R_X12_lives_b0, R_X12_lives_b1, hW, kg, mmx_0, mmx_1, q72, mmx_come, eg, hAll, hnp, ih', true_and, and_true, true_implies, not_true_eq_false, false_implies, not_false_eq_true, false_and, and_false, or_true, true_or, false_or, or_false, implies_true, forall_const, kl_i, kl_n, kl_r, kl_l, tl_s, tl_n, List.cons_append, List.nil_append, Int.cast_ofNat_Int, w32_id, w64_id, le_T, le_F, lt_T, lt_F, eq_T, eq_F, reduceIte, ne_eq, Int.toNat_natCast, bi_0, bi_1, bi_b, Nat.reduceAdd, Nat.reduceEqDiff, Int.reduceToNat, Int.reduceNeg, nle_T, nlt_T, neq_T, neq_F, b2_0, b2_b, both, reduceCtorEq]
      | false =>
        have ef : b2 false = 0 := rfl
        rw [ef] at ih' hnp ⊢
        simp (config := { contextual := true }) (disch := omega) only [R_X12_lives_b0, R_X12_lives_b1, hW, kg, mmx_0, mmx_1, q72, mmx_come, eg, hAll, hnp, ih', true_and, and_true, true_implies, not_true_eq_false, false_implies, not_false_eq_true, false_and, and_false, or_true, true_or, false_or, or_false, implies_true, forall_const, kl_i, kl_n, kl_r, kl_l, tl_s, tl_n, List.cons_append, List.nil_append, Int.cast_ofNat_Int, w32_id, w64_id, le_T, le_F, lt_T, lt_F, eq_T, eq_F, reduceIte, ne_eq, Int.toNat_natCast, bi_0, bi_1, bi_b, Nat.reduceAdd, Nat.reduceEqDiff, Int.reduceToNat, Int.reduceNeg, nle_T, nlt_T, neq_T, neq_F, b2_0, b2_b, both, reduceCtorEq]
end LIVE

-- nextPlace of both
def np1 (A : II) (D : Nat → Int) (n : Nat) (far : Bool) (x : LF) (p : Nat) (c : Int) : Int := if wgo A D n x p = true ∧ (c < 0 ∨ (if far = true then D (8 * (lAt x).toNat + c.toNat) < D (8 * (lAt x).toNat + p) else D (8 * (lAt x).toNat + p) < D (8 * (lAt x).toNat + c.toNat))) then p else c
def npA (A : II) (D : Nat → Int) (n : Nat) (far : Bool) (x : LF) : Nat → Int
  | 0 => -1
  | p + 1 => np1 A D n far x p (npA A D n far x p)
def cmi (D : Nat → Int) (x : LF) (c : Int) : Int := if c < 0 then 0 else D (8 * (lAt x).toNat + c.toNat)
theorem npA_b (A : II) (D : Nat → Int) (n : Nat) (far : Bool) (x : LF) : ∀ p : Nat, -1 ≤ npA A D n far x p ∧ npA A D n far x p < p
  | 0 => ⟨by show (-1 : Int) ≤ -1; omega, by show (-1 : Int) < 0; omega⟩
  | p + 1 => by
    have h := npA_b A D n far x p
    show -1 ≤ np1 A D n far x p (npA A D n far x p) ∧ np1 A D n far x p (npA A D n far x p) < ((p + 1 : Nat) : Int)
    unfold np1
    split <;> omega
section NPL
variable {g : GG} {I : II} {d t n P : Nat} {A : II} {D : Nat → Int}
theorem lp_mnp (hV : MV g I A n) (hA : okA A n) (hS : okSt A) (hD : bD D) (hI : I 72 = D) (hP : I 57 14 = (P : Int)) (hP8 : P ≤ 8) (x : LF) (hx : okL x) (far : Bool) (Q : QQ) : ∀ k p : Nat, p + k = P → WP (d + 3) m_X12_nextPlace 4 [some (vr (some 57)), some (vi (b2 far)), some (vi (npA A D n far x p)), some (vi p)] [] g (mmx I x) Q = Q (some (vi (npA A D n far x P))) g (mmx I x) := by
  have hW := hV.1
  have hx0 := hx
  obtain ⟨hy1, hy2, hy3⟩ := hx0
  have q72 : mmx I x 72 = D := by rw [mmx_o (by omega), hI]
  intro k
  induction k with
  | zero =>
    intro p hb
    obtain rfl : p = P := by omega
    rw [H_X12_nextPlace_4]
    simp (config := { contextual := true }) (disch := omega) only [R_X12_nextPlace, hW, hP, mmx_f, true_and, and_true, true_implies, not_true_eq_false, false_implies, not_false_eq_true, false_and, and_false, or_true, true_or, false_or, or_false, implies_true, forall_const, kl_i, kl_n, kl_r, kl_l, tl_s, tl_n, List.cons_append, List.nil_append, Int.cast_ofNat_Int, w32_id, w64_id, le_T, le_F, lt_T, lt_F, eq_T, eq_F, reduceIte, ne_eq, Int.toNat_natCast, bi_0, bi_1, bi_b, Nat.reduceAdd, Nat.reduceEqDiff, Int.reduceToNat, Int.reduceNeg, nle_T, nlt_T, neq_T, neq_F, b2_0, b2_b]
  | succ k ih =>
    intro p hb
    have ih' := ih (p + 1) (by omega)
    have hc := npA_b A D n far x p
    have e1 : npA A D n far x (p + 1) = np1 A D n far x p (npA A D n far x p) := rfl
    have ec : ((p + 1 : Nat) : Int) = (p : Int) + 1 := by omega
    rw [e1, ec] at ih'
    generalize npA A D n far x p = c at ih' hc ⊢
    have key := ct_misWG (d := d) hV hA hS hD hI x hx p (by omega)
    rw [H_X12_nextPlace_4]
    by_cases c1 : wgo A D n x p = true
    · by_cases c2 : c < 0
      · rw [show np1 A D n far x p c = p from if_pos ⟨c1, Or.inl c2⟩] at ih'
        simp (config := { contextual := true }) (disch := omega) only [R_X12_nextPlace, hW, hP, mmx_f, key, c1, ih', reduceCtorEq, true_and, and_true, true_implies, not_true_eq_false, false_implies, not_false_eq_true, false_and, and_false, or_true, true_or, false_or, or_false, implies_true, forall_const, kl_i, kl_n, kl_r, kl_l, tl_s, tl_n, List.cons_append, List.nil_append, Int.cast_ofNat_Int, w32_id, w64_id, le_T, le_F, lt_T, lt_F, eq_T, eq_F, reduceIte, ne_eq, Int.toNat_natCast, bi_0, bi_1, bi_b, Nat.reduceAdd, Nat.reduceEqDiff, Int.reduceToNat, Int.reduceNeg, nle_T, nlt_T, neq_T, neq_F, b2_0, b2_b]
      · cases far with
        | true =>
          have ef : b2 true = 1 := rfl
          rw [ef] at ih' ⊢
          by_cases c3 : D (8 * (lAt x).toNat + c.toNat) < D (8 * (lAt x).toNat + p)
          · rw [show np1 A D n true x p c = p from if_pos ⟨c1, Or.inr (by rw [if_pos rfl]; exact c3)⟩] at ih'
            simp (config := { contextual := true }) (disch := omega) only [R_X12_nextPlace, hW, hP, mmx_f, mmx_0, q72, ct_farOf hW, key, c1, ih', reduceCtorEq, true_and, and_true, true_implies, not_true_eq_false, false_implies, not_false_eq_true, false_and, and_false, or_true, true_or, false_or, or_false, implies_true, forall_const, kl_i, kl_n, kl_r, kl_l, tl_s, tl_n, List.cons_append, List.nil_append, Int.cast_ofNat_Int, w32_id, w64_id, le_T, le_F, lt_T, lt_F, eq_T, eq_F, reduceIte, ne_eq, Int.toNat_natCast, bi_0, bi_1, bi_b, Nat.reduceAdd, Nat.reduceEqDiff, Int.reduceToNat, Int.reduceNeg, nle_T, nlt_T, neq_T, neq_F, b2_0, b2_b]
          · rw [show np1 A D n true x p c = c from if_neg (by rw [if_pos rfl]; rintro ⟨-, q | q⟩; exact c2 q; exact c3 q)] at ih'
            simp (config := { contextual := true }) (disch := omega) only [R_X12_nextPlace, hW, hP, mmx_f, mmx_0, q72, ct_farOf hW, key, c1, ih', reduceCtorEq, true_and, and_true, true_implies, not_true_eq_false, false_implies, not_false_eq_true, false_and, and_false, or_true, true_or, false_or, or_false, implies_true, forall_const, kl_i, kl_n, kl_r, kl_l, tl_s, tl_n, List.cons_append, List.nil_append, Int.cast_ofNat_Int, w32_id, w64_id, le_T, le_F, lt_T, lt_F, eq_T, eq_F, reduceIte, ne_eq, Int.toNat_natCast, bi_0, bi_1, bi_b, Nat.reduceAdd, Nat.reduceEqDiff, Int.reduceToNat, Int.reduceNeg, nle_T, nlt_T, neq_T, neq_F, b2_0, b2_b]
        | false =>
          have ef : b2 false = 0 := rfl
          rw [ef] at ih' ⊢
          by_cases c3 : D (8 * (lAt x).toNat + p) < D (8 * (lAt x).toNat + c.toNat)
          · rw [show np1 A D n false x p c = p from if_pos ⟨c1, Or.inr (by rw [if_neg (by decide)]; exact c3)⟩] at ih'
            simp (config := { contextual := true }) (disch := omega) only [R_X12_nextPlace, hW, hP, mmx_f, mmx_0, q72, ct_farOf hW, key, c1, ih', reduceCtorEq, true_and, and_true, true_implies, not_true_eq_false, false_implies, not_false_eq_true, false_and, and_false, or_true, true_or, false_or, or_false, implies_true, forall_const, kl_i, kl_n, kl_r, kl_l, tl_s, tl_n, List.cons_append, List.nil_append, Int.cast_ofNat_Int, w32_id, w64_id, le_T, le_F, lt_T, lt_F, eq_T, eq_F, reduceIte, ne_eq, Int.toNat_natCast, bi_0, bi_1, bi_b, Nat.reduceAdd, Nat.reduceEqDiff, Int.reduceToNat, Int.reduceNeg, nle_T, nlt_T, neq_T, neq_F, b2_0, b2_b]
          · rw [show np1 A D n false x p c = c from if_neg (by rw [if_neg (by decide)]; rintro ⟨-, q | q⟩; exact c2 q; exact c3 q)] at ih'
            simp (config := { contextual := true }) (disch := omega) only [R_X12_nextPlace, hW, hP, mmx_f, mmx_0, q72, ct_farOf hW, key, c1, ih', reduceCtorEq, true_and, and_true, true_implies, not_true_eq_false, false_implies, not_false_eq_true, false_and, and_false, or_true, true_or, false_or, or_false, implies_true, forall_const, kl_i, kl_n, kl_r, kl_l, tl_s, tl_n, List.cons_append, List.nil_append, Int.cast_ofNat_Int, w32_id, w64_id, le_T, le_F, lt_T, lt_F, eq_T, eq_F, reduceIte, ne_eq, Int.toNat_natCast, bi_0, bi_1, bi_b, Nat.reduceAdd, Nat.reduceEqDiff, Int.reduceToNat, Int.reduceNeg, nle_T, nlt_T, neq_T, neq_F, b2_0, b2_b]
    · rw [show np1 A D n far x p c = c from if_neg (fun q => c1 q.1)] at ih'
      have c1' : wgo A D n x p = false := by cases h : wgo A D n x p; rfl; exact absurd h c1
      simp (config := { contextual := true }) (disch := omega) only [R_X12_nextPlace, hW, hP, mmx_f, key, c1', ih', reduceCtorEq, true_and, and_true, true_implies, not_true_eq_false, false_implies, not_false_eq_true, false_and, and_false, or_true, true_or, false_or, or_false, implies_true, forall_const, kl_i, kl_n, kl_r, kl_l, tl_s, tl_n, List.cons_append, List.nil_append, Int.cast_ofNat_Int, w32_id, w64_id, le_T, le_F, lt_T, lt_F, eq_T, eq_F, reduceIte, ne_eq, Int.toNat_natCast, bi_0, bi_1, bi_b, Nat.reduceAdd, Nat.reduceEqDiff, Int.reduceToNat, Int.reduceNeg, nle_T, nlt_T, neq_T, neq_F, b2_0, b2_b]
theorem ct_mnp (hV : MV g I A n) (hA : okA A n) (hS : okSt A) (hD : bD D) (hI : I 72 = D) (hP : I 57 14 = (P : Int)) (hP8 : P ≤ 8) (x : LF) (hx : okL x) (far : Bool) (Q : QQ) : WP (d + 3) m_X12_nextPlace 0 [some (vr (some 57)), some (vi (b2 far)), none, none] [] g (mmx I x) Q = Q (some (vi (npA A D n far x P))) g (mmx I x) := by
  have h := lp_mnp (d := d) hV hA hS hD hI hP hP8 x hx far Q P 0 (by omega)
  simp (config := { contextual := true }) (disch := omega) only [R_X12_nextPlace, true_and, and_true, true_implies, not_true_eq_false, false_implies, not_false_eq_true, false_and, and_false, or_true, true_or, false_or, or_false, implies_true, forall_const, kl_i, kl_n, kl_r, kl_l, tl_s, tl_n, List.cons_append, List.nil_append, Int.cast_ofNat_Int, w32_id, w64_id, le_T, le_F, lt_T, lt_F, eq_T, eq_F, reduceIte, ne_eq, Int.toNat_natCast, bi_0, bi_1, bi_b, Nat.reduceAdd, Nat.reduceEqDiff, Int.reduceToNat, Int.reduceNeg, nle_T, nlt_T, neq_T, neq_F, b2_0, b2_b]
  exact h
end NPL

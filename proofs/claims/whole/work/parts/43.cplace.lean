-- nextPlace of the class
theorem both (c X : Prop) : ((c → X) ∧ (¬ c → X)) = X := propext ⟨fun h => (Classical.em c).elim h.1 h.2, fun h => ⟨fun _ => h, fun _ => h⟩⟩
section CPL
variable {g : GG} {I : II} {d t n P : Nat} {A : II} {D : Nat → Int}
theorem lp_cnp (hV : CV g I t A n) (hTH : TH g I t A n) (hA : okA A n) (hS : okSt A) (hD : bD D) (hI : e64 (I (t + 2)) D) (hP : I t 0 = (P : Int)) (hP8 : P ≤ 8) (x : LF) (hx : okL x) (far : Bool) (Q : QQ) : ∀ k p : Nat, p + k = P → ∀ l6 l7, WP (d + 4) m_X5_nextPlace 8 [some (vr (some 47)), some (vr (some t)), some (vi (b2 far)), some (vi (npA A D n far x p)), some (vi (cmi D x (npA A D n far x p))), some (vi p), l6, l7] [] g (mcx I x) Q = Q (some (vi (npA A D n far x P))) g (mcx I x) := by
  have hV0 := hV
  obtain ⟨ht, hX, hT, hn, s0, s1, s2, s3⟩ := hV0
  have hL := WL_m hX
  have hx0 := hx
  obtain ⟨hy1, hy2, hy3⟩ := hx0
  have hD' : bD (mcx I x (t + 2)) := by
    rw [mcx_o (by omega)]
    intro j hj
    rw [hI j hj]
    exact hD j hj
  have h0 : 0 ≤ mcx I x 48 0 ∧ mcx I x 48 0 < 8 := by rw [mcx_0]; omega
  have h1 : 0 ≤ mcx I x 48 1 ∧ mcx I x 48 1 ≤ 1000000 := by rw [mcx_1]; omega
  intro k
  induction k with
  | zero =>
    intro p hb l6 l7
    obtain rfl : p = P := by omega
    rw [H_X5_nextPlace_8]
    simp (config := { contextual := true }) (disch := omega) only [R_X5_nextPlace_b0, R_X5_nextPlace_b1, hX, hT, hP, mcx_o, true_and, and_true, true_implies, not_true_eq_false, false_implies, not_false_eq_true, false_and, and_false, or_true, true_or, false_or, or_false, implies_true, forall_const, kl_i, kl_n, kl_r, kl_l, tl_s, tl_n, List.cons_append, List.nil_append, Int.cast_ofNat_Int, w32_id, w64_id, le_T, le_F, lt_T, lt_F, eq_T, eq_F, reduceIte, ne_eq, Int.toNat_natCast, bi_0, bi_1, bi_b, Nat.reduceAdd, Nat.reduceEqDiff, Int.reduceToNat, Int.reduceNeg, nle_T, nlt_T, neq_T, neq_F, b2_0, b2_b]
  | succ k ih =>
    intro p hb l6 l7
    have ih' := ih (p + 1) (by omega)
    have hc := npA_b A D n far x p
    have e1 : npA A D n far x (p + 1) = np1 A D n far x p (npA A D n far x p) := rfl
    have ec : ((p + 1 : Nat) : Int) = (p : Int) + 1 := by omega
    rw [e1, ec] at ih'
    generalize npA A D n far x p = c at ih' hc ⊢
    have hb0 := hD (8 * (lAt x).toNat + p) (by omega)
    have ed : I (t + 2) (8 * (lAt x).toNat + p) = D (8 * (lAt x).toNat + p) := hI _ (by omega)
    have key := ct_isWG (d := d) hV hTH hA hS x hx p (lAge x + D (8 * (lAt x).toNat + p)) (by omega)
    have kc := ct_canCome (d := d + 2) hT hL hD' (p := (p : Int)) (hat := h0) (hage := h1) (hp := by omega)
    have wd : wgo A D n x p = (if (p : Int) = lAt x ∨ A 7 2 < lAge x + D (8 * (lAt x).toNat + p) then false else anW A p (lAge x + D (8 * (lAt x).toNat + p)) (lHad x) n 0) := rfl
    rw [H_X5_nextPlace_8]
    by_cases a1 : (p : Int) = lAt x
    · rw [if_pos (Or.inl a1)] at wd
      rw [show np1 A D n far x p c = c from if_neg (fun q => by rw [wd] at q; cases q.1)] at ih'
      simp (config := { contextual := true }) (disch := omega) only [R_X5_nextPlace_b0, R_X5_nextPlace_b1, hX, hT, hP, mcx_o, mcx_0, mcx_1, ct_miles hT, ed, ih', true_and, and_true, true_implies, not_true_eq_false, false_implies, not_false_eq_true, false_and, and_false, or_true, true_or, false_or, or_false, implies_true, forall_const, kl_i, kl_n, kl_r, kl_l, tl_s, tl_n, List.cons_append, List.nil_append, Int.cast_ofNat_Int, w32_id, w64_id, le_T, le_F, lt_T, lt_F, eq_T, eq_F, reduceIte, ne_eq, Int.toNat_natCast, bi_0, bi_1, bi_b, Nat.reduceAdd, Nat.reduceEqDiff, Int.reduceToNat, Int.reduceNeg, nle_T, nlt_T, neq_T, neq_F, b2_0, b2_b]
    · by_cases a2 : A 7 2 < lAge x + D (8 * (lAt x).toNat + p)
      · rw [if_pos (Or.inr a2)] at wd
        rw [show np1 A D n far x p c = c from if_neg (fun q => by rw [wd] at q; cases q.1)] at ih'
        simp (config := { contextual := true }) (disch := omega) only [R_X5_nextPlace_b0, R_X5_nextPlace_b1, hX, hT, hP, kc, mcx_o, mcx_0, mcx_1, ct_miles hT, ed, s2, ih', true_and, and_true, true_implies, not_true_eq_false, false_implies, not_false_eq_true, false_and, and_false, or_true, true_or, false_or, or_false, implies_true, forall_const, kl_i, kl_n, kl_r, kl_l, tl_s, tl_n, List.cons_append, List.nil_append, Int.cast_ofNat_Int, w32_id, w64_id, le_T, le_F, lt_T, lt_F, eq_T, eq_F, reduceIte, ne_eq, Int.toNat_natCast, bi_0, bi_1, bi_b, Nat.reduceAdd, Nat.reduceEqDiff, Int.reduceToNat, Int.reduceNeg, nle_T, nlt_T, neq_T, neq_F, b2_0, b2_b]
      · rw [if_neg (by omega)] at wd
        cases a3 : anW A p (lAge x + D (8 * (lAt x).toNat + p)) (lHad x) n 0 with
        | false =>
          rw [show np1 A D n far x p c = c from if_neg (fun q => by rw [wd, a3] at q; cases q.1)] at ih'
          simp (config := { contextual := true }) (disch := omega) only [R_X5_nextPlace_b0, R_X5_nextPlace_b1, hX, hT, hP, kc, mcx_o, mcx_0, mcx_1, ct_miles hT, ed, s2, key, a3, ih', reduceCtorEq, true_and, and_true, true_implies, not_true_eq_false, false_implies, not_false_eq_true, false_and, and_false, or_true, true_or, false_or, or_false, implies_true, forall_const, kl_i, kl_n, kl_r, kl_l, tl_s, tl_n, List.cons_append, List.nil_append, Int.cast_ofNat_Int, w32_id, w64_id, le_T, le_F, lt_T, lt_F, eq_T, eq_F, reduceIte, ne_eq, Int.toNat_natCast, bi_0, bi_1, bi_b, Nat.reduceAdd, Nat.reduceEqDiff, Int.reduceToNat, Int.reduceNeg, nle_T, nlt_T, neq_T, neq_F, b2_0, b2_b]
        | true =>
          have c1 : wgo A D n x p = true := by rw [wd, a3]
          by_cases c2 : c < 0
          · rw [show np1 A D n far x p c = p from if_pos ⟨c1, Or.inl c2⟩, show cmi D x p = D (8 * (lAt x).toNat + p) from if_neg (by omega)] at ih'
            cases far with
            | true =>
              have ef : b2 true = 1 := rfl
              rw [ef] at ih' ⊢
              simp (config := { contextual := true }) (disch := omega) only [R_X5_nextPlace_b0, R_X5_nextPlace_b1, hX, hT, hP, kc, mcx_o, mcx_0, mcx_1, ct_miles hT, ed, s2, key, a3, ih', reduceCtorEq, both, true_and, and_true, true_implies, not_true_eq_false, false_implies, not_false_eq_true, false_and, and_false, or_true, true_or, false_or, or_false, implies_true, forall_const, kl_i, kl_n, kl_r, kl_l, tl_s, tl_n, List.cons_append, List.nil_append, Int.cast_ofNat_Int, w32_id, w64_id, le_T, le_F, lt_T, lt_F, eq_T, eq_F, reduceIte, ne_eq, Int.toNat_natCast, bi_0, bi_1, bi_b, Nat.reduceAdd, Nat.reduceEqDiff, Int.reduceToNat, Int.reduceNeg, nle_T, nlt_T, neq_T, neq_F, b2_0, b2_b]
            | false =>
              have ef : b2 false = 0 := rfl
              rw [ef] at ih' ⊢
              simp (config := { contextual := true }) (disch := omega) only [R_X5_nextPlace_b0, R_X5_nextPlace_b1, hX, hT, hP, kc, mcx_o, mcx_0, mcx_1, ct_miles hT, ed, s2, key, a3, ih', reduceCtorEq, both, true_and, and_true, true_implies, not_true_eq_false, false_implies, not_false_eq_true, false_and, and_false, or_true, true_or, false_or, or_false, implies_true, forall_const, kl_i, kl_n, kl_r, kl_l, tl_s, tl_n, List.cons_append, List.nil_append, Int.cast_ofNat_Int, w32_id, w64_id, le_T, le_F, lt_T, lt_F, eq_T, eq_F, reduceIte, ne_eq, Int.toNat_natCast, bi_0, bi_1, bi_b, Nat.reduceAdd, Nat.reduceEqDiff, Int.reduceToNat, Int.reduceNeg, nle_T, nlt_T, neq_T, neq_F, b2_0, b2_b]
          · have ecm : cmi D x c = D (8 * (lAt x).toNat + c.toNat) := if_neg c2
            rw [ecm]
            cases far with
            | true =>
              have ef : b2 true = 1 := rfl
              rw [ef] at ih' ⊢
              by_cases c3 : D (8 * (lAt x).toNat + c.toNat) < D (8 * (lAt x).toNat + p)
              · rw [show np1 A D n true x p c = p from if_pos ⟨c1, Or.inr (by rw [if_pos rfl]; exact c3)⟩, show cmi D x p = D (8 * (lAt x).toNat + p) from if_neg (by omega)] at ih'
                simp (config := { contextual := true }) (disch := omega) only [R_X5_nextPlace_b0, R_X5_nextPlace_b1, hX, hT, hP, kc, mcx_o, mcx_0, mcx_1, ct_miles hT, ed, s2, key, a3, ih', reduceCtorEq, true_and, and_true, true_implies, not_true_eq_false, false_implies, not_false_eq_true, false_and, and_false, or_true, true_or, false_or, or_false, implies_true, forall_const, kl_i, kl_n, kl_r, kl_l, tl_s, tl_n, List.cons_append, List.nil_append, Int.cast_ofNat_Int, w32_id, w64_id, le_T, le_F, lt_T, lt_F, eq_T, eq_F, reduceIte, ne_eq, Int.toNat_natCast, bi_0, bi_1, bi_b, Nat.reduceAdd, Nat.reduceEqDiff, Int.reduceToNat, Int.reduceNeg, nle_T, nlt_T, neq_T, neq_F, b2_0, b2_b]
              · rw [show np1 A D n true x p c = c from if_neg (by rw [if_pos rfl]; rintro ⟨-, q | q⟩; exact c2 q; exact c3 q), ecm] at ih'
                simp (config := { contextual := true }) (disch := omega) only [R_X5_nextPlace_b0, R_X5_nextPlace_b1, hX, hT, hP, kc, mcx_o, mcx_0, mcx_1, ct_miles hT, ed, s2, key, a3, ih', reduceCtorEq, true_and, and_true, true_implies, not_true_eq_false, false_implies, not_false_eq_true, false_and, and_false, or_true, true_or, false_or, or_false, implies_true, forall_const, kl_i, kl_n, kl_r, kl_l, tl_s, tl_n, List.cons_append, List.nil_append, Int.cast_ofNat_Int, w32_id, w64_id, le_T, le_F, lt_T, lt_F, eq_T, eq_F, reduceIte, ne_eq, Int.toNat_natCast, bi_0, bi_1, bi_b, Nat.reduceAdd, Nat.reduceEqDiff, Int.reduceToNat, Int.reduceNeg, nle_T, nlt_T, neq_T, neq_F, b2_0, b2_b]
            | false =>
              have ef : b2 false = 0 := rfl
              rw [ef] at ih' ⊢
              by_cases c3 : D (8 * (lAt x).toNat + p) < D (8 * (lAt x).toNat + c.toNat)
              · rw [show np1 A D n false x p c = p from if_pos ⟨c1, Or.inr (by rw [if_neg (by decide)]; exact c3)⟩, show cmi D x p = D (8 * (lAt x).toNat + p) from if_neg (by omega)] at ih'
                simp (config := { contextual := true }) (disch := omega) only [R_X5_nextPlace_b0, R_X5_nextPlace_b1, hX, hT, hP, kc, mcx_o, mcx_0, mcx_1, ct_miles hT, ed, s2, key, a3, ih', reduceCtorEq, true_and, and_true, true_implies, not_true_eq_false, false_implies, not_false_eq_true, false_and, and_false, or_true, true_or, false_or, or_false, implies_true, forall_const, kl_i, kl_n, kl_r, kl_l, tl_s, tl_n, List.cons_append, List.nil_append, Int.cast_ofNat_Int, w32_id, w64_id, le_T, le_F, lt_T, lt_F, eq_T, eq_F, reduceIte, ne_eq, Int.toNat_natCast, bi_0, bi_1, bi_b, Nat.reduceAdd, Nat.reduceEqDiff, Int.reduceToNat, Int.reduceNeg, nle_T, nlt_T, neq_T, neq_F, b2_0, b2_b]
              · rw [show np1 A D n false x p c = c from if_neg (by rw [if_neg (by decide)]; rintro ⟨-, q | q⟩; exact c2 q; exact c3 q), ecm] at ih'
                simp (config := { contextual := true }) (disch := omega) only [R_X5_nextPlace_b0, R_X5_nextPlace_b1, hX, hT, hP, kc, mcx_o, mcx_0, mcx_1, ct_miles hT, ed, s2, key, a3, ih', reduceCtorEq, true_and, and_true, true_implies, not_true_eq_false, false_implies, not_false_eq_true, false_and, and_false, or_true, true_or, false_or, or_false, implies_true, forall_const, kl_i, kl_n, kl_r, kl_l, tl_s, tl_n, List.cons_append, List.nil_append, Int.cast_ofNat_Int, w32_id, w64_id, le_T, le_F, lt_T, lt_F, eq_T, eq_F, reduceIte, ne_eq, Int.toNat_natCast, bi_0, bi_1, bi_b, Nat.reduceAdd, Nat.reduceEqDiff, Int.reduceToNat, Int.reduceNeg, nle_T, nlt_T, neq_T, neq_F, b2_0, b2_b]
theorem ct_cnp (hV : CV g I t A n) (hTH : TH g I t A n) (hA : okA A n) (hS : okSt A) (hD : bD D) (hI : e64 (I (t + 2)) D) (hP : I t 0 = (P : Int)) (hP8 : P ≤ 8) (x : LF) (hx : okL x) (far : Bool) (Q : QQ) : WP (d + 4) m_X5_nextPlace 0 [some (vr (some 47)), some (vr (some t)), some (vi (b2 far)), none, none, none, none, none] [] g (mcx I x) Q = Q (some (vi (npA A D n far x P))) g (mcx I x) := by
  have h := lp_cnp (d := d) hV hTH hA hS hD hI hP hP8 x hx far Q P 0 (by omega) none none
  simp (config := { contextual := true }) (disch := omega) only [R_X5_nextPlace_b0, R_X5_nextPlace_b1, true_and, and_true, true_implies, not_true_eq_false, false_implies, not_false_eq_true, false_and, and_false, or_true, true_or, false_or, or_false, implies_true, forall_const, kl_i, kl_n, kl_r, kl_l, tl_s, tl_n, List.cons_append, List.nil_append, Int.cast_ofNat_Int, w32_id, w64_id, le_T, le_F, lt_T, lt_F, eq_T, eq_F, reduceIte, ne_eq, Int.toNat_natCast, bi_0, bi_1, bi_b, Nat.reduceAdd, Nat.reduceEqDiff, Int.reduceToNat, Int.reduceNeg, nle_T, nlt_T, neq_T, neq_F, b2_0, b2_b]
  exact h
end CPL

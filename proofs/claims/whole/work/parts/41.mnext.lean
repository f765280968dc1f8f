-- the model's isWorthGoing; nextPlace of both
def wgo (A : II) (D : Nat → Int) (n : Nat) (x : LF) (p : Int) : Bool := if p = lAt x ∨ A 7 2 < lAge x + D (8 * (lAt x).toNat + p.toNat) then false else anW A p (lAge x + D (8 * (lAt x).toNat + p.toNat)) (lHad x) n 0
section MNEXT
variable {g : GG} {I : II} {d t n : Nat} {A : II} {D : Nat → Int}
theorem lp_miW (hV : MV g I A n) (hA : okA A n) (hS : okSt A) (x : LF) (hx : okL x) (p age : Int) (ha : 0 ≤ age ∧ age ≤ 1000000) (Q : QQ) : ∀ k i : Nat, i + k = n → WP (d + 2) m_X12_isWorthGoing 37 [some (vr (some 57)), some (vi p), some (vi age), some (vi i)] [] g (mmx I x) Q = Q (some (vi (b2 (anW A p age (lHad x) k i)))) g (mmx I x) := by
  obtain ⟨hW, hn, r3, r4, r5, r6, r7⟩ := hV
  have hn7 := hA.1
  obtain ⟨hy1, hy2, hy3⟩ := hx
  have q3 : mmx I x 62 = A 3 := by rw [mmx_o (by omega), r3]
  have q4 : mmx I x 63 = A 4 := by rw [mmx_o (by omega), r4]
  have q5 : mmx I x 64 = A 5 := by rw [mmx_o (by omega), r5]
  have q6 : mmx I x 65 = A 6 := by rw [mmx_o (by omega), r6]
  have q7 : mmx I x 66 = A 7 := by rw [mmx_o (by omega), r7]
  have ho : 0 ≤ mmx I x 66 1 ∧ mmx I x 66 1 ≤ 1000 := by rw [q7]; omega
  intro k
  induction k with
  | zero =>
    intro i hb
    obtain rfl : i = n := by omega
    rw [H_X12_isWorthGoing_37]
    have e0 : b2 (anW A p age (lHad x) 0 i) = 0 := rfl
    simp (config := { contextual := true }) (disch := omega) only [R_X12_isWorthGoing_b0, R_X12_isWorthGoing_b1, hW, hn, mmx_f, e0, true_and, and_true, true_implies, not_true_eq_false, false_implies, not_false_eq_true, false_and, and_false, or_true, true_or, false_or, or_false, implies_true, forall_const, kl_i, kl_n, kl_r, kl_l, tl_s, tl_n, List.cons_append, List.nil_append, Int.cast_ofNat_Int, w32_id, w64_id, le_T, le_F, lt_T, lt_F, eq_T, eq_F, reduceIte, ne_eq, Int.toNat_natCast, bi_0, bi_1, bi_b, Nat.reduceAdd, Nat.reduceEqDiff, Int.reduceToNat, Int.reduceNeg, nle_T, nlt_T, neq_T, neq_F, b2_0, b2_b]
  | succ k ih =>
    intro i hb
    have hi : i < n := by omega
    have hi7 : i < 7 := by omega
    have ih' := ih (i + 1) (by omega)
    obtain ⟨ok, hpl⟩ := hA.2 i hi
    have hyi := hy3 i (by omega)
    have ok' : okTh (mmx I x 62 i) i (mmx I x 64 i) (mmx I x 65 i) := by rw [q3, q5, q6]; exact ok
    have h0 : 0 ≤ mmx I x 81 i ∧ mmx I x 81 i ≤ 1000000 := by rw [mmx_h]; omega
    have hk' : 0 ≤ mmx I x 62 i ∧ mmx I x 62 i ≤ 5 := ok'.1
    have hwo' : 0 ≤ mmx I x 64 i ∧ mmx I x 64 i ≤ 99 := ok'.2.2.1
    have ew : wth (A 3 i) (A 5 i) (A 6 i) (A 7 0) (A 7 1) age (lHad x i) = wOf A i age (lHad x i) := rfl
    have ec : ((i + 1 : Nat) : Int) = (i : Int) + 1 := by omega
    rw [ec] at ih'
    rw [H_X12_isWorthGoing_37]
    by_cases c1 : A 4 i = p
    · by_cases c2 : opn (A 3 i) (A 5 i) (A 6 i) i (lHad x)
      · by_cases c3 : 0 < wOf A i age (lHad x i)
        · have e0 : b2 (anW A p age (lHad x) (k + 1) i) = 1 := by unfold anW; rw [if_pos ⟨c1, c2, c3⟩]; rfl
          simp (config := { contextual := true }) (disch := omega) only [R_X12_isWorthGoing_b0, R_X12_isWorthGoing_b1, hW, hn, mmx_f, ct_mayBe hW hi7 ok', ct_worthOf hW hi7 hk' hwo', q3, q4, q5, q6, q7, mmx_h, ew, c1, c2, e0, true_and, and_true, true_implies, not_true_eq_false, false_implies, not_false_eq_true, false_and, and_false, or_true, true_or, false_or, or_false, implies_true, forall_const, kl_i, kl_n, kl_r, kl_l, tl_s, tl_n, List.cons_append, List.nil_append, Int.cast_ofNat_Int, w32_id, w64_id, le_T, le_F, lt_T, lt_F, eq_T, eq_F, reduceIte, ne_eq, Int.toNat_natCast, bi_0, bi_1, bi_b, Nat.reduceAdd, Nat.reduceEqDiff, Int.reduceToNat, Int.reduceNeg, nle_T, nlt_T, neq_T, neq_F, b2_0, b2_b]
        · have e0 : anW A p age (lHad x) (k + 1) i = anW A p age (lHad x) k (i + 1) := by rw [anW, if_neg (fun q => c3 q.2.2)]
          simp (config := { contextual := true }) (disch := omega) only [R_X12_isWorthGoing_b0, R_X12_isWorthGoing_b1, hW, hn, mmx_f, ct_mayBe hW hi7 ok', ct_worthOf hW hi7 hk' hwo', q3, q4, q5, q6, q7, mmx_h, ew, c1, c2, e0, ih', true_and, and_true, true_implies, not_true_eq_false, false_implies, not_false_eq_true, false_and, and_false, or_true, true_or, false_or, or_false, implies_true, forall_const, kl_i, kl_n, kl_r, kl_l, tl_s, tl_n, List.cons_append, List.nil_append, Int.cast_ofNat_Int, w32_id, w64_id, le_T, le_F, lt_T, lt_F, eq_T, eq_F, reduceIte, ne_eq, Int.toNat_natCast, bi_0, bi_1, bi_b, Nat.reduceAdd, Nat.reduceEqDiff, Int.reduceToNat, Int.reduceNeg, nle_T, nlt_T, neq_T, neq_F, b2_0, b2_b]
      · have e0 : anW A p age (lHad x) (k + 1) i = anW A p age (lHad x) k (i + 1) := by rw [anW, if_neg (fun q => c2 q.2.1)]
        simp (config := { contextual := true }) (disch := omega) only [R_X12_isWorthGoing_b0, R_X12_isWorthGoing_b1, hW, hn, mmx_f, ct_mayBe hW hi7 ok', q3, q4, q5, q6, q7, mmx_h, c1, c2, e0, ih', true_and, and_true, true_implies, not_true_eq_false, false_implies, not_false_eq_true, false_and, and_false, or_true, true_or, false_or, or_false, implies_true, forall_const, kl_i, kl_n, kl_r, kl_l, tl_s, tl_n, List.cons_append, List.nil_append, Int.cast_ofNat_Int, w32_id, w64_id, le_T, le_F, lt_T, lt_F, eq_T, eq_F, reduceIte, ne_eq, Int.toNat_natCast, bi_0, bi_1, bi_b, Nat.reduceAdd, Nat.reduceEqDiff, Int.reduceToNat, Int.reduceNeg, nle_T, nlt_T, neq_T, neq_F, b2_0, b2_b]
    · have e0 : anW A p age (lHad x) (k + 1) i = anW A p age (lHad x) k (i + 1) := by rw [anW, if_neg (fun q => c1 q.1)]
      simp (config := { contextual := true }) (disch := omega) only [R_X12_isWorthGoing_b0, R_X12_isWorthGoing_b1, hW, hn, mmx_f, q4, e0, ih', true_and, and_true, true_implies, not_true_eq_false, false_implies, not_false_eq_true, false_and, and_false, or_true, true_or, false_or, or_false, implies_true, forall_const, kl_i, kl_n, kl_r, kl_l, tl_s, tl_n, List.cons_append, List.nil_append, Int.cast_ofNat_Int, w32_id, w64_id, le_T, le_F, lt_T, lt_F, eq_T, eq_F, reduceIte, ne_eq, Int.toNat_natCast, bi_0, bi_1, bi_b, Nat.reduceAdd, Nat.reduceEqDiff, Int.reduceToNat, Int.reduceNeg, nle_T, nlt_T, neq_T, neq_F, b2_0, b2_b]
theorem ct_misWG (hV : MV g I A n) (hA : okA A n) (hS : okSt A) (hD : bD D) (hI : I 72 = D) (x : LF) (hx : okL x) (p : Int) (hp : 0 ≤ p ∧ p < 8) (Q : QQ) : WP (d + 2) m_X12_isWorthGoing 0 [some (vr (some 57)), some (vi p), none, none] [] g (mmx I x) Q = Q (some (vi (b2 (wgo A D n x p)))) g (mmx I x) := by
  have hW := hV.1
  have hx0 := hx
  obtain ⟨hy1, hy2, hy3⟩ := hx
  have h1 := hD (8 * (lAt x).toNat + p.toNat) (by omega)
  have q72 : mmx I x 72 = D := by rw [mmx_o (by omega), hI]
  have q7 : mmx I x 66 = A 7 := by rw [mmx_o (by omega)]; exact hV.2.2.2.2.2.2
  by_cases c1 : p = lAt x
  · have e0 : b2 (wgo A D n x p) = 0 := by unfold wgo; rw [if_pos (Or.inl c1)]; rfl
    simp (config := { contextual := true }) (disch := omega) only [R_X12_isWorthGoing_b0, R_X12_isWorthGoing_b1, hW, ct_farOf hW, mmx_0, mmx_1, q72, q7, e0, true_and, and_true, true_implies, not_true_eq_false, false_implies, not_false_eq_true, false_and, and_false, or_true, true_or, false_or, or_false, implies_true, forall_const, kl_i, kl_n, kl_r, kl_l, tl_s, tl_n, List.cons_append, List.nil_append, Int.cast_ofNat_Int, w32_id, w64_id, le_T, le_F, lt_T, lt_F, eq_T, eq_F, reduceIte, ne_eq, Int.toNat_natCast, bi_0, bi_1, bi_b, Nat.reduceAdd, Nat.reduceEqDiff, Int.reduceToNat, Int.reduceNeg, nle_T, nlt_T, neq_T, neq_F, b2_0, b2_b]
  · by_cases c2 : A 7 2 < lAge x + D (8 * (lAt x).toNat + p.toNat)
    · have e0 : b2 (wgo A D n x p) = 0 := by unfold wgo; rw [if_pos (Or.inr c2)]; rfl
      simp (config := { contextual := true }) (disch := omega) only [R_X12_isWorthGoing_b0, R_X12_isWorthGoing_b1, hW, ct_farOf hW, mmx_0, mmx_1, q72, q7, e0, true_and, and_true, true_implies, not_true_eq_false, false_implies, not_false_eq_true, false_and, and_false, or_true, true_or, false_or, or_false, implies_true, forall_const, kl_i, kl_n, kl_r, kl_l, tl_s, tl_n, List.cons_append, List.nil_append, Int.cast_ofNat_Int, w32_id, w64_id, le_T, le_F, lt_T, lt_F, eq_T, eq_F, reduceIte, ne_eq, Int.toNat_natCast, bi_0, bi_1, bi_b, Nat.reduceAdd, Nat.reduceEqDiff, Int.reduceToNat, Int.reduceNeg, nle_T, nlt_T, neq_T, neq_F, b2_0, b2_b]
    · have e0 : wgo A D n x p = anW A p (lAge x + D (8 * (lAt x).toNat + p.toNat)) (lHad x) n 0 := by unfold wgo; rw [if_neg (by omega)]
      have h := lp_miW (d := d) hV hA hS x hx0 p (lAge x + D (8 * (lAt x).toNat + p.toNat)) (by omega) Q n 0 (by omega)
      rw [e0]
      simp (config := { contextual := true }) (disch := omega) only [R_X12_isWorthGoing_b0, R_X12_isWorthGoing_b1, hW, ct_farOf hW, mmx_0, mmx_1, q72, q7, true_and, and_true, true_implies, not_true_eq_false, false_implies, not_false_eq_true, false_and, and_false, or_true, true_or, false_or, or_false, implies_true, forall_const, kl_i, kl_n, kl_r, kl_l, tl_s, tl_n, List.cons_append, List.nil_append, Int.cast_ofNat_Int, w32_id, w64_id, le_T, le_F, lt_T, lt_F, eq_T, eq_F, reduceIte, ne_eq, Int.toNat_natCast, bi_0, bi_1, bi_b, Nat.reduceAdd, Nat.reduceEqDiff, Int.reduceToNat, Int.reduceNeg, nle_T, nlt_T, neq_T, neq_F, b2_0, b2_b]
      exact h
end MNEXT

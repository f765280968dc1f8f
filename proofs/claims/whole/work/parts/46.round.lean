-- ROUND: along the order
def rdA (A : II) (D : Nat → Int) (n : Nat) : Nat → LF → LF
  | 0, x => x
  | i + 1, x => if lAge (rdA A D n i x) + D (8 * (lAt (rdA A D n i x)).toNat + (A 12 i).toNat) ≤ A 7 2 then tkA A true n (goL D (rdA A D n i x) (A 12 i)) else rdA A D n i x
def okOr (A : II) (m : Nat) : Prop := m ≤ 8 ∧ ∀ i, i < m → 0 ≤ A 12 i ∧ A 12 i < 8
theorem okL_go {A : II} {D : Nat → Int} {x : LF} {p : Int} (hS : okSt A) (hD : bD D) (hx : okL x) (hp : 0 ≤ p ∧ p < 8) (h : lAge x + D (8 * (lAt x).toNat + p.toNat) ≤ A 7 2) : okL (goL D x p) := by
  obtain ⟨hy1, hy2, hy3⟩ := hx
  have h1 := hD (8 * (lAt x).toNat + p.toNat) (by omega)
  refine ⟨hp, ⟨?_, ?_⟩, hy3⟩
  · show 0 ≤ lAge x + D _; omega
  · show lAge x + D _ ≤ 1000; omega
theorem okL_rdA {A : II} {D : Nat → Int} {n m : Nat} (hA : okA A n) (hS : okSt A) (hD : bD D) (hO : okOr A m) {x : LF} (hx : okL x) : ∀ i, i ≤ m → okL (rdA A D n i x)
  | 0, _ => hx
  | i + 1, hi => by
    have ih := okL_rdA hA hS hD hO hx i (by omega)
    unfold rdA
    split
    · rename_i hc; exact okL_tkA hA (okL_go hS hD ih (hO.2 i (by omega)) hc) n (Nat.le_refl n)
    · exact ih
section ROUND
variable {g : GG} {I : II} {d t n P m : Nat} {A : II} {D : Nat → Int}
theorem lp_walk (hV : CV g I t A n) (hTH : TH g I t A n) (hA : okA A n) (hS : okSt A) (hD : bD D) (hI : e64 (I (t + 2)) D) (hO : okOr A m) (hm : I t 7 = (m : Int)) (hor : ∀ j, j < 8 → I (t + 5) j = A 12 j) (x : LF) (hx : okL x) (Q : QQ) : ∀ k i : Nat, i + k = m → WP (d + 5) m_X5_walkOrder 2 [some (vr (some 47)), some (vr (some t)), some (vi i)] [] g (mcx I (rdA A D n i x)) Q = Q none g (mcx I (rdA A D n m x)) := by
  have hV0 := hV
  obtain ⟨ht, hX, hT, hn, s0, s1, s2, s3⟩ := hV0
  have hL := WL_m hX
  have hm8 := hO.1
  intro k
  induction k with
  | zero =>
    intro i hi
    obtain rfl : i = m := by omega
    rw [H_X5_walkOrder_2]
    simp (config := { contextual := true }) (disch := omega) only [R_X5_walkOrder, hX, hT, hm, mcx_o, true_and, and_true, true_implies, not_true_eq_false, false_implies, not_false_eq_true, false_and, and_false, or_true, true_or, false_or, or_false, implies_true, forall_const, kl_i, kl_n, kl_r, kl_l, tl_s, tl_n, List.cons_append, List.nil_append, Int.cast_ofNat_Int, w32_id, w64_id, le_T, le_F, lt_T, lt_F, eq_T, eq_F, reduceIte, ne_eq, Int.toNat_natCast, bi_0, bi_1, bi_b, Nat.reduceAdd, Nat.reduceEqDiff, Int.reduceToNat, Int.reduceNeg, nle_T, nlt_T, neq_T, neq_F, b2_0, b2_b, both, reduceCtorEq]
  | succ k ih =>
    intro i hi
    have ih' := ih (i + 1) (by omega)
    have hy := okL_rdA hA hS hD hO hx i (by omega)
    have e1 : rdA A D n (i + 1) x = if lAge (rdA A D n i x) + D (8 * (lAt (rdA A D n i x)).toNat + (A 12 i).toNat) ≤ A 7 2 then tkA A true n (goL D (rdA A D n i x) (A 12 i)) else rdA A D n i x := rfl
    have ec : ((i + 1 : Nat) : Int) = (i : Int) + 1 := by omega
    rw [e1, ec] at ih'
    generalize rdA A D n i x = y at ih' hy ⊢
    have hp := hO.2 i (by omega)
    have ho := hor i (by omega)
    have hD' : bD (mcx I y (t + 2)) := by
      rw [mcx_o (by omega)]
      intro j hj
      rw [hI j hj]
      exact hD j hj
    have hy0 := hy
    obtain ⟨hy1, hy2, hy3⟩ := hy
    have h0 : 0 ≤ mcx I y 48 0 ∧ mcx I y 48 0 < 8 := by rw [mcx_0]; omega
    have h1 : 0 ≤ mcx I y 48 1 ∧ mcx I y 48 1 ≤ 1000000 := by rw [mcx_1]; omega
    have kc := fun Q => ct_canCome (d := d + 3) hT hL hD' Q (A 12 i) h0 h1 hp
    have kg := fun Q => ct_come (d := d + 3) hT hL hD' Q (A 12 i) h0 h1 hp
    have ed : I (t + 2) (8 * (lAt y).toNat + (A 12 i).toNat) = D (8 * (lAt y).toNat + (A 12 i).toNat) := hI _ (by omega)
    have eg : (A 12 i, lAge y + D (8 * (lAt y).toNat + (A 12 i).toNat), lWo y, lHad y) = goL D y (A 12 i) := rfl
    rw [H_X5_walkOrder_2]
    by_cases c : lAge y + D (8 * (lAt y).toNat + (A 12 i).toNat) ≤ A 7 2
    · rw [if_pos c] at ih'
      have hAll := fun Q => ct_takeWorthy (d := d) hV hTH hA hS _ (okL_go hS hD hy0 hp c) Q
      simp (config := { contextual := true }) (disch := omega) only [R_X5_walkOrder, hX, hT, hm, ho, kc, kg, mcx_0, mcx_1, mcx_o, ed, s2, mcx_come, eg, hAll, ih', true_and, and_true, true_implies, not_true_eq_false, false_implies, not_false_eq_true, false_and, and_false, or_true, true_or, false_or, or_false, implies_true, forall_const, kl_i, kl_n, kl_r, kl_l, tl_s, tl_n, List.cons_append, List.nil_append, Int.cast_ofNat_Int, w32_id, w64_id, le_T, le_F, lt_T, lt_F, eq_T, eq_F, reduceIte, ne_eq, Int.toNat_natCast, bi_0, bi_1, bi_b, Nat.reduceAdd, Nat.reduceEqDiff, Int.reduceToNat, Int.reduceNeg, nle_T, nlt_T, neq_T, neq_F, b2_0, b2_b, both, reduceCtorEq]
    · rw [if_neg c] at ih'
      simp (config := { contextual := true }) (disch := omega) only [R_X5_walkOrder, hX, hT, hm, ho, kc, mcx_0, mcx_1, mcx_o, ed, s2, ih', true_and, and_true, true_implies, not_true_eq_false, false_implies, not_false_eq_true, false_and, and_false, or_true, true_or, false_or, or_false, implies_true, forall_const, kl_i, kl_n, kl_r, kl_l, tl_s, tl_n, List.cons_append, List.nil_append, Int.cast_ofNat_Int, w32_id, w64_id, le_T, le_F, lt_T, lt_F, eq_T, eq_F, reduceIte, ne_eq, Int.toNat_natCast, bi_0, bi_1, bi_b, Nat.reduceAdd, Nat.reduceEqDiff, Int.reduceToNat, Int.reduceNeg, nle_T, nlt_T, neq_T, neq_F, b2_0, b2_b, both, reduceCtorEq]
theorem lp_mround (hV : MV g I A n) (hA : okA A n) (hS : okSt A) (hD : bD D) (hI : I 72 = D) (hO : okOr A m) (hm : I 57 18 = (m : Int)) (hor : I 71 = A 12) (x : LF) (hx : okL x) (Q : QQ) : ∀ k i : Nat, i + k = m → WP (d + 4) m_X12_lives 69 [some (vr (some 57)), some (vi 2), some (vi i)] [] g (mmx I (rdA A D n i x)) Q = Q none g (mmx I (rdA A D n m x)) := by
  have hW := hV.1
  have hm8 := hO.1
  intro k
  induction k with
  | zero =>
    intro i hi
    obtain rfl : i = m := by omega
    rw [H_X12_lives_69]
    simp (config := { contextual := true }) (disch := omega) only [R_X12_lives_b0, R_X12_lives_b1, hW, hm, mmx_f, true_and, and_true, true_implies, not_true_eq_false, false_implies, not_false_eq_true, false_and, and_false, or_true, true_or, false_or, or_false, implies_true, forall_const, kl_i, kl_n, kl_r, kl_l, tl_s, tl_n, List.cons_append, List.nil_append, Int.cast_ofNat_Int, w32_id, w64_id, le_T, le_F, lt_T, lt_F, eq_T, eq_F, reduceIte, ne_eq, Int.toNat_natCast, bi_0, bi_1, bi_b, Nat.reduceAdd, Nat.reduceEqDiff, Int.reduceToNat, Int.reduceNeg, nle_T, nlt_T, neq_T, neq_F, b2_0, b2_b, both, reduceCtorEq]
  | succ k ih =>
    intro i hi
    have ih' := ih (i + 1) (by omega)
    have hy := okL_rdA hA hS hD hO hx i (by omega)
    have e1 : rdA A D n (i + 1) x = if lAge (rdA A D n i x) + D (8 * (lAt (rdA A D n i x)).toNat + (A 12 i).toNat) ≤ A 7 2 then tkA A true n (goL D (rdA A D n i x) (A 12 i)) else rdA A D n i x := rfl
    have ec : ((i + 1 : Nat) : Int) = (i : Int) + 1 := by omega
    rw [e1, ec] at ih'
    generalize rdA A D n i x = y at ih' hy ⊢
    have hp := hO.2 i (by omega)
    have q71 : mmx I y 71 = A 12 := by rw [mmx_o (by omega), hor]
    have q72 : mmx I y 72 = D := by rw [mmx_o (by omega), hI]
    have q7 : mmx I y 66 = A 7 := by rw [mmx_o (by omega)]; exact hV.2.2.2.2.2.2
    have hD' : bD (mmx I y 72) := by rw [q72]; exact hD
    have hy0 := hy
    obtain ⟨hy1, hy2, hy3⟩ := hy
    have h0 : 0 ≤ mmx I y 57 35 ∧ mmx I y 57 35 < 8 := by rw [mmx_0]; omega
    have h1 : 0 ≤ mmx I y 57 36 ∧ mmx I y 57 36 ≤ 1000000 := by rw [mmx_1]; omega
    have kc := fun Q => ct_mayGo (d := d + 2) hW hD' Q (A 12 i) h0 h1 hp
    have kg := fun Q => ct_goesTo (d := d + 2) hW hD' Q (A 12 i) h0 h1 hp
    have eg : (A 12 i, lAge y + D (8 * (lAt y).toNat + (A 12 i).toNat), lWo y, lHad y) = goL D y (A 12 i) := rfl
    rw [H_X12_lives_69]
    by_cases c : lAge y + D (8 * (lAt y).toNat + (A 12 i).toNat) ≤ A 7 2
    · rw [if_pos c] at ih'
      have hAll := fun Q => ct_hasAll (d := d) hV hA hS true _ (okL_go hS hD hy0 hp c) Q
      have tt : (if true = true then (1 : Int) else 0) = 1 := rfl
      rw [tt] at hAll
      simp (config := { contextual := true }) (disch := omega) only [R_X12_lives_b0, R_X12_lives_b1, hW, hm, mmx_f, q71, q72, q7, kc, kg, mmx_0, mmx_1, mmx_come, eg, hAll, ih', true_and, and_true, true_implies, not_true_eq_false, false_implies, not_false_eq_true, false_and, and_false, or_true, true_or, false_or, or_false, implies_true, forall_const, kl_i, kl_n, kl_r, kl_l, tl_s, tl_n, List.cons_append, List.nil_append, Int.cast_ofNat_Int, w32_id, w64_id, le_T, le_F, lt_T, lt_F, eq_T, eq_F, reduceIte, ne_eq, Int.toNat_natCast, bi_0, bi_1, bi_b, Nat.reduceAdd, Nat.reduceEqDiff, Int.reduceToNat, Int.reduceNeg, nle_T, nlt_T, neq_T, neq_F, b2_0, b2_b, both, reduceCtorEq]
    · rw [if_neg c] at ih'
      simp (config := { contextual := true }) (disch := omega) only [R_X12_lives_b0, R_X12_lives_b1, hW, hm, mmx_f, q71, q72, q7, kc, mmx_0, mmx_1, ih', true_and, and_true, true_implies, not_true_eq_false, false_implies, not_false_eq_true, false_and, and_false, or_true, true_or, false_or, or_false, implies_true, forall_const, kl_i, kl_n, kl_r, kl_l, tl_s, tl_n, List.cons_append, List.nil_append, Int.cast_ofNat_Int, w32_id, w64_id, le_T, le_F, lt_T, lt_F, eq_T, eq_F, reduceIte, ne_eq, Int.toNat_natCast, bi_0, bi_1, bi_b, Nat.reduceAdd, Nat.reduceEqDiff, Int.reduceToNat, Int.reduceNeg, nle_T, nlt_T, neq_T, neq_F, b2_0, b2_b, both, reduceCtorEq]
end ROUND

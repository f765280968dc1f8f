-- LAND: the model reads one statement
theorem atA_pr {I : II} {a c : Nat} {f : Nat → Int} (h : ¬ c = 57) : pr (atA I a) c f = atA (pr I c f) a := by
  unfold atA
  rw [pr_o (I := I) (a := c) (by omega : ¬ 57 = c)]
  funext b
  unfold pr
  by_cases e : b = c
  · rw [if_pos e, if_neg (by omega), if_pos e]
  · rw [if_neg e]
    by_cases e2 : b = 57
    · rw [if_pos e2, if_pos e2]
    · rw [if_neg e2, if_neg e2, if_neg e]
theorem TP_pr {I : II} {n c : Nat} {f : Nat → Int} (h : TP I n) (hc : 74 ≤ c) : TP (pr I c f) n := by
  refine ⟨by rw [pr_o (by omega)]; exact h.1, h.2.1, ?_⟩
  rw [pr_o (by omega)]; exact h.2.2
/-- what reading a statement leaves: the rows of statements ahead of it -/
def mp (I J : II) (k : Nat) : Prop := (∀ a, ¬ a = 57 → ¬ (74 ≤ a ∧ a ≤ 79) → J a = I a) ∧ (∀ j, ¬ j = 28 → J 57 j = I 57 j) ∧ (∀ a, 74 ≤ a → a ≤ 79 → ∀ j, ¬ j = k → J a j = I a j)
theorem mp_at (I : II) (k a : Nat) : mp I (atA I a) k := ⟨fun b h1 _ => atA_o h1, fun j hj => atA_f hj, fun b h1 _ j _ => by rw [atA_o (by omega)]⟩
theorem mp_pr {I J : II} {k c a : Nat} {v : Int} (h : mp I (atA J a) k) (hc : 74 ≤ c ∧ c ≤ 79) : mp I (atA (pr J c (uf (J c) k v)) a) k := by
  obtain ⟨h1, h2, h3⟩ := h
  refine ⟨fun b b1 b2 => ?_, fun j hj => ?_, fun b b1 b2 j hj => ?_⟩
  · rw [← h1 b b1 b2, atA_o b1, atA_o b1, pr_o (by omega)]
  · rw [← h2 j hj, atA_f hj, atA_f hj, pr_o (by omega)]
  · rw [← h3 b b1 b2 j hj, atA_o (by omega), atA_o (by omega)]
    by_cases e : b = c
    · subst e; rw [pr_s, uf_o hj]
    · rw [pr_o e]
theorem mp_mv {I J : II} {k a b : Nat} (h : mp I (atA J a) k) : mp I (atA J b) k := by
  obtain ⟨h1, h2, h3⟩ := h
  refine ⟨fun c b1 b2 => ?_, fun j hj => ?_, fun c b1 b2 j hj => ?_⟩
  · rw [← h1 c b1 b2, atA_o b1, atA_o b1]
  · rw [← h2 j hj, atA_f hj, atA_f hj]
  · rw [← h3 c b1 b2 j hj, atA_o (by omega), atA_o (by omega)]
section MSTAT
variable {g : GG} {I I0 : II} {n : Nat}
theorem ct_rW (hW : WM g) (h : TP I n) {k : Nat} (hk : k < 32) (a : Nat) (h0 : mp I0 (atA I a) k) (d : Nat) (Q : QQ) (hQ : ∀ J : II, mp I0 J k → J 57 28 = ((stW (I 73) n a).2.1 : Int) → J 74 = I 74 → J 75 = I 75 → ((stW (I 73) n a).1 = true → J 76 k = (stW (I 73) n a).2.2.2.1 ∧ J 77 k = (stW (I 73) n a).2.2.2.2.1 ∧ J 78 k = (stW (I 73) n a).2.2.2.2.2.1) → Q (some (vi (b2 (stW (I 73) n a).1))) g J) : WP (d + 2) m_X12_readsWay 0 [some (vr (some 57)), some (vi k)] [] g (atA I a) Q := by
  have eW : stW (I 73) n a = if (num (I 73) n 1 a).1 < 0 then noP a else if (num (I 73) n 1 (num (I 73) n 1 a).2).1 < 0 then noP (num (I 73) n 1 a).2 else stE (I 73) n (num (I 73) n 1 (num (I 73) n 1 a).2).2 (fun c => (119, (num (I 73) n 1 a).1, (num (I 73) n 1 (num (I 73) n 1 a).2).1, c, 0)) := rfl
  have bf : b2 false = 0 := rfl
  have bt : b2 true = 1 := rfl
  have k1 := fun Q => ct_num hW h (m := 1) (by omega) a d Q
  have q1 : (num (I 73) n 1 a).1 < 0 → (num (I 73) n 1 a).2 = a := by
    intro q
    unfold num at q ⊢
    by_cases c : dgt (I 73) n a
    · rw [if_pos c] at q
      have := (nbr_v (T := I 73) (n := n) 1 0 a (by omega)).1
      omega
    · rw [if_neg c]
  generalize num (I 73) n 1 a = r1 at eW k1 q1
  obtain ⟨v1, a1⟩ := r1
  have o1 : ((1 : Nat) : Int) = 1 := rfl
  have o3 : ((3 : Nat) : Int) = 3 := rfl
  rw [o1] at k1
  by_cases c1 : v1 < 0
  · have e1 : a1 = a := q1 c1
    subst e1
    rw [if_pos c1] at eW
    rw [eW] at hQ
    have hq := hQ (atA (pr I 76 (uf (I 76) k v1)) a1) (mp_pr h0 (by omega)) atA_28 (by rw [atA_o (by omega), pr_o (by omega)]) (by rw [atA_o (by omega), pr_o (by omega)]) (fun q => by cases q)
    have hq : Q (some (vi 0)) g (atA (pr I 76 (uf (I 76) k v1)) a1) := hq
    simp (config := { contextual := true }) (disch := omega) only [R_X12_readsWay_b0, R_X12_readsWay_b1, hW, k1, up_pr, atA_o, atA_pr, pr_s, uf_s, true_and, and_true, true_implies, not_true_eq_false, false_implies, not_false_eq_true, false_and, and_false, or_true, true_or, false_or, or_false, implies_true, forall_const, kl_i, kl_n, kl_r, kl_l, tl_s, tl_n, List.cons_append, List.nil_append, Int.cast_ofNat_Int, w32_id, w64_id, le_T, le_F, lt_T, lt_F, eq_T, eq_F, reduceIte, ne_eq, Int.toNat_natCast, bi_0, bi_1, bi_b, Nat.reduceAdd, Nat.reduceEqDiff, Int.reduceToNat, Int.reduceNeg, nle_T, nlt_T, neq_T, neq_F, b2_0, b2_b, both, reduceCtorEq]
    exact hq
  rw [if_neg c1] at eW
  have h1 := TP_pr (c := 76) (f := uf (I 76) k v1) h (by omega)
  have k2 := fun Q => ct_num hW h1 (m := 1) (by omega) a1 d Q
  rw [pr_o (by omega), o1] at k2
  have m1 : mp I0 (atA (pr I 76 (uf (I 76) k v1)) a1) k := mp_mv (mp_pr h0 (by omega))
  have eW : stW (I 73) n a = if (num (I 73) n 1 a1).1 < 0 then noP a1 else stE (I 73) n (num (I 73) n 1 a1).2 (fun c => (119, v1, (num (I 73) n 1 a1).1, c, 0)) := eW
  have q2 : (num (I 73) n 1 a1).1 < 0 → (num (I 73) n 1 a1).2 = a1 := by
    intro q
    unfold num at q ⊢
    by_cases c : dgt (I 73) n a1
    · rw [if_pos c] at q
      have := (nbr_v (T := I 73) (n := n) 1 0 a1 (by omega)).1
      omega
    · rw [if_neg c]
  generalize num (I 73) n 1 a1 = r2 at eW k2 q2
  obtain ⟨v2, a2⟩ := r2
  have c1' : 0 ≤ v1 := by omega
  by_cases c2 : v2 < 0
  · have e2 : a2 = a1 := q2 c2
    subst e2
    rw [if_pos c2] at eW
    rw [eW] at hQ
    have hq := hQ (atA (pr (pr I 76 (uf (I 76) k v1)) 77 (uf (I 77) k v2)) a2) (mp_pr (J := pr I 76 (uf (I 76) k v1)) m1 (by omega)) atA_28 (by rw [atA_o (by omega), pr_o (by omega), pr_o (by omega)]) (by rw [atA_o (by omega), pr_o (by omega), pr_o (by omega)]) (fun q => by cases q)
    have hq : Q (some (vi 0)) g (atA (pr (pr I 76 (uf (I 76) k v1)) 77 (uf (I 77) k v2)) a2) := hq
    simp (config := { contextual := true }) (disch := omega) only [R_X12_readsWay_b0, R_X12_readsWay_b1, hW, k1, k2, up_pr, atA_o, atA_pr, pr_s, pr_o, uf_s, true_and, and_true, true_implies, not_true_eq_false, false_implies, not_false_eq_true, false_and, and_false, or_true, true_or, false_or, or_false, implies_true, forall_const, kl_i, kl_n, kl_r, kl_l, tl_s, tl_n, List.cons_append, List.nil_append, Int.cast_ofNat_Int, w32_id, w64_id, le_T, le_F, lt_T, lt_F, eq_T, eq_F, reduceIte, ne_eq, Int.toNat_natCast, bi_0, bi_1, bi_b, Nat.reduceAdd, Nat.reduceEqDiff, Int.reduceToNat, Int.reduceNeg, nle_T, nlt_T, neq_T, neq_F, b2_0, b2_b, both, reduceCtorEq]
    exact hq
  have c2' : 0 ≤ v2 := by omega
  rw [if_neg c2] at eW
  have eW : stW (I 73) n a = stE (I 73) n a2 (fun c => (119, v1, v2, c, 0)) := eW
  have m2 : mp I0 (atA (pr (pr I 76 (uf (I 76) k v1)) 77 (uf (I 77) k v2)) a2) k := mp_mv (mp_pr (J := pr I 76 (uf (I 76) k v1)) m1 (by omega))
  obtain ⟨I2, hI2⟩ : ∃ I2, I2 = pr (pr I 76 (uf (I 76) k v1)) 77 (uf (I 77) k v2) := ⟨_, rfl⟩
  have h2 : TP I2 n := by rw [hI2]; exact TP_pr h1 (by omega)
  have e73 : I2 73 = I 73 := by rw [hI2, pr_o (by omega), pr_o (by omega)]
  have e74 : I2 74 = I 74 := by rw [hI2, pr_o (by omega), pr_o (by omega)]
  have e75 : I2 75 = I 75 := by rw [hI2, pr_o (by omega), pr_o (by omega)]
  have e76 : I2 76 k = v1 := by rw [hI2, pr_o (by omega), pr_s, uf_s]
  have e77 : I2 77 k = v2 := by rw [hI2, pr_s, uf_s]
  have e78 : I2 78 = I 78 := by rw [hI2, pr_o (by omega), pr_o (by omega)]
  rw [← hI2] at m2
  have kn := fun Q => ct_isN hW h2 a2 44 (by omega) d Q
  rw [e73] at kn
  have st : WP (d + 2) m_X12_readsWay 0 [some (vr (some 57)), some (vi k)] [] g (atA I a) Q = WP (d + 2) m_X12_readsWay 42 [some (vr (some 57)), some (vi k)] [] g (atA I2 a2) Q := by
    simp (config := { contextual := true }) (disch := omega) only [R_X12_readsWay_b0, R_X12_readsWay_b1, hW, k1, k2, up_pr, atA_o, atA_pr, pr_s, pr_o, uf_s, ← hI2, true_and, and_true, true_implies, not_true_eq_false, false_implies, not_false_eq_true, false_and, and_false, or_true, true_or, false_or, or_false, implies_true, forall_const, kl_i, kl_n, kl_r, kl_l, tl_s, tl_n, List.cons_append, List.nil_append, Int.cast_ofNat_Int, w32_id, w64_id, le_T, le_F, lt_T, lt_F, eq_T, eq_F, reduceIte, ne_eq, Int.toNat_natCast, bi_0, bi_1, bi_b, Nat.reduceAdd, Nat.reduceEqDiff, Int.reduceToNat, Int.reduceNeg, nle_T, nlt_T, neq_T, neq_F, b2_0, b2_b, both, reduceCtorEq]
  rw [st]
  clear st k1 k2
  have eE : stE (I 73) n a2 (fun c => ((119, v1, v2, c, 0) : RG)) = if ¬ nby (I 73) n a2 = 44 then noP a2 else if (num (I 73) n 3 (a2 + 1)).1 < 0 then noP (a2 + 1) else if nby (I 73) n (num (I 73) n 3 (a2 + 1)).2 = 59 then (true, (num (I 73) n 3 (a2 + 1)).2 + 1, 119, v1, v2, (num (I 73) n 3 (a2 + 1)).1, 0) else noP (num (I 73) n 3 (a2 + 1)).2 := rfl
  rw [eE] at eW
  by_cases c3 : nby (I 73) n a2 = 44
  case neg =>
    rw [if_pos c3] at eW
    rw [eW] at hQ
    have hq : Q (some (vi 0)) g (atA I2 a2) := hQ (atA I2 a2) m2 atA_28 (by rw [atA_o (by omega), e74]) (by rw [atA_o (by omega), e75]) (fun q => by cases q)
    simp (config := { contextual := true }) (disch := omega) only [R_X12_readsWay_b0, R_X12_readsWay_b1, hW, kn, c3, true_and, and_true, true_implies, not_true_eq_false, false_implies, not_false_eq_true, false_and, and_false, or_true, true_or, false_or, or_false, implies_true, forall_const, kl_i, kl_n, kl_r, kl_l, tl_s, tl_n, List.cons_append, List.nil_append, Int.cast_ofNat_Int, w32_id, w64_id, le_T, le_F, lt_T, lt_F, eq_T, eq_F, reduceIte, ne_eq, Int.toNat_natCast, bi_0, bi_1, bi_b, Nat.reduceAdd, Nat.reduceEqDiff, Int.reduceToNat, Int.reduceNeg, nle_T, nlt_T, neq_T, neq_F, b2_0, b2_b, both, reduceCtorEq]
    exact hq
  have c3' : ¬ ¬ nby (I 73) n a2 = 44 := fun q => q c3
  rw [if_neg c3'] at eW
  have k3 := fun Q => ct_num hW h2 (m := 3) (by omega) (a2 + 1) d Q
  rw [e73, o3] at k3
  have q3 : (num (I 73) n 3 (a2 + 1)).1 < 0 → (num (I 73) n 3 (a2 + 1)).2 = a2 + 1 := by
    intro q
    unfold num at q ⊢
    by_cases c : dgt (I 73) n (a2 + 1)
    · rw [if_pos c] at q
      have := (nbr_v (T := I 73) (n := n) 3 0 (a2 + 1) (by omega)).1
      omega
    · rw [if_neg c]
  generalize num (I 73) n 3 (a2 + 1) = r3 at eW k3 q3
  obtain ⟨v3, a3⟩ := r3
  have m3 : mp I0 (atA (pr I2 78 (uf (I2 78) k v3)) a3) k := mp_mv (mp_pr m2 (by omega))
  by_cases c4 : v3 < 0
  · have e3 : a3 = a2 + 1 := q3 c4
    rw [if_pos c4] at eW
    rw [eW] at hQ
    have hq : Q (some (vi 0)) g (atA (pr I2 78 (uf (I2 78) k v3)) a3) := hQ (atA (pr I2 78 (uf (I2 78) k v3)) a3) m3 (by rw [e3]; exact atA_28) (by rw [atA_o (by omega), pr_o (by omega), e74]) (by rw [atA_o (by omega), pr_o (by omega), e75]) (fun q => by cases q)
    simp (config := { contextual := true }) (disch := omega) only [R_X12_readsWay_b0, R_X12_readsWay_b1, hW, kn, c3, k3, up_pr, atA_o, atA_pr, pr_s, pr_o, uf_s, true_and, and_true, true_implies, not_true_eq_false, false_implies, not_false_eq_true, false_and, and_false, or_true, true_or, false_or, or_false, implies_true, forall_const, kl_i, kl_n, kl_r, kl_l, tl_s, tl_n, List.cons_append, List.nil_append, Int.cast_ofNat_Int, w32_id, w64_id, le_T, le_F, lt_T, lt_F, eq_T, eq_F, reduceIte, ne_eq, Int.toNat_natCast, bi_0, bi_1, bi_b, Nat.reduceAdd, Nat.reduceEqDiff, Int.reduceToNat, Int.reduceNeg, nle_T, nlt_T, neq_T, neq_F, b2_0, b2_b, both, reduceCtorEq]
    exact hq
  rw [if_neg c4] at eW
  have eW : stW (I 73) n a = if nby (I 73) n a3 = 59 then (true, a3 + 1, 119, v1, v2, v3, 0) else noP a3 := eW
  have h3 := TP_pr (c := 78) (f := uf (I2 78) k v3) h2 (by omega)
  have kn2 := fun Q => ct_isN hW h3 a3 59 (by omega) d Q
  rw [pr_o (by omega), e73] at kn2
  have c4' : 0 ≤ v3 := by omega
  by_cases c5 : nby (I 73) n a3 = 59
  · rw [if_pos c5] at eW
    rw [eW] at hQ
    have hq : Q (some (vi 1)) g (atA (pr I2 78 (uf (I2 78) k v3)) (a3 + 1)) := hQ (atA (pr I2 78 (uf (I2 78) k v3)) (a3 + 1)) (mp_mv m3) atA_28 (by rw [atA_o (by omega), pr_o (by omega), e74]) (by rw [atA_o (by omega), pr_o (by omega), e75]) (fun q => ⟨by rw [atA_o (by omega), pr_o (by omega)]; exact e76, by rw [atA_o (by omega), pr_o (by omega)]; exact e77, by rw [atA_o (by omega), pr_s, uf_s]⟩)
    simp (config := { contextual := true }) (disch := omega) only [R_X12_readsWay_b0, R_X12_readsWay_b1, hW, kn, c3, k3, kn2, c5, up_pr, atA_o, atA_pr, pr_s, pr_o, uf_s, true_and, and_true, true_implies, not_true_eq_false, false_implies, not_false_eq_true, false_and, and_false, or_true, true_or, false_or, or_false, implies_true, forall_const, kl_i, kl_n, kl_r, kl_l, tl_s, tl_n, List.cons_append, List.nil_append, Int.cast_ofNat_Int, w32_id, w64_id, le_T, le_F, lt_T, lt_F, eq_T, eq_F, reduceIte, ne_eq, Int.toNat_natCast, bi_0, bi_1, bi_b, Nat.reduceAdd, Nat.reduceEqDiff, Int.reduceToNat, Int.reduceNeg, nle_T, nlt_T, neq_T, neq_F, b2_0, b2_b, both, reduceCtorEq]
    exact hq
  · rw [if_neg c5] at eW
    rw [eW] at hQ
    have hq : Q (some (vi 0)) g (atA (pr I2 78 (uf (I2 78) k v3)) a3) := hQ (atA (pr I2 78 (uf (I2 78) k v3)) a3) m3 atA_28 (by rw [atA_o (by omega), pr_o (by omega), e74]) (by rw [atA_o (by omega), pr_o (by omega), e75]) (fun q => by cases q)
    simp (config := { contextual := true }) (disch := omega) only [R_X12_readsWay_b0, R_X12_readsWay_b1, hW, kn, c3, k3, kn2, c5, up_pr, atA_o, atA_pr, pr_s, pr_o, uf_s, true_and, and_true, true_implies, not_true_eq_false, false_implies, not_false_eq_true, false_and, and_false, or_true, true_or, false_or, or_false, implies_true, forall_const, kl_i, kl_n, kl_r, kl_l, tl_s, tl_n, List.cons_append, List.nil_append, Int.cast_ofNat_Int, w32_id, w64_id, le_T, le_F, lt_T, lt_F, eq_T, eq_F, reduceIte, ne_eq, Int.toNat_natCast, bi_0, bi_1, bi_b, Nat.reduceAdd, Nat.reduceEqDiff, Int.reduceToNat, Int.reduceNeg, nle_T, nlt_T, neq_T, neq_F, b2_0, b2_b, both, reduceCtorEq]
    exact hq
end MSTAT

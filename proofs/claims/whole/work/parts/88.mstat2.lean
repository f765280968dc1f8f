-- LAND: the model reads a thing, a statement
theorem num_ng {T : Nat → Int} {n k a : Nat} (q : (num T n k a).1 < 0) : (num T n k a).2 = a := by
  unfold num at q ⊢
  by_cases c : dgt T n a
  · rw [if_pos c] at q
    have := (nbr_v (T := T) (n := n) k 0 a (by omega)).1
    omega
  · rw [if_neg c]
theorem b2_x (b : Bool) : b = false ∨ b2 b = 1 := by cases b <;> simp [b2]
section MSTAT2
variable {g : GG} {I I0 : II} {n : Nat}
theorem ct_rT (hW : WM g) (h : TP I n) {k : Nat} (hk : k < 32) (a : Nat) (h0 : mp I0 (atA I a) k) (d : Nat) (Q : QQ) (hQ : ∀ J : II, mp I0 J k → J 57 28 = ((stT (I 73) n a).2.1 : Int) → J 74 = I 74 → J 75 = I 75 → ((stT (I 73) n a).1 = true → J 76 k = (stT (I 73) n a).2.2.2.1 ∧ J 77 k = (stT (I 73) n a).2.2.2.2.1 ∧ J 78 k = (stT (I 73) n a).2.2.2.2.2.1 ∧ J 79 k = (stT (I 73) n a).2.2.2.2.2.2) → Q (some (vi (b2 (stT (I 73) n a).1))) g J) : WP (d + 2) m_X12_readsThing 0 [some (vr (some 57)), some (vi k)] [] g (atA I a) Q := by
  have eW : stT (I 73) n a = if kdo (nby (I 73) n a) < 0 then noP a else if (num (I 73) n 1 (a + 1)).1 < 0 then noP (a + 1) else if (num (I 73) n 2 (num (I 73) n 1 (a + 1)).2).1 < 0 then noP (num (I 73) n 1 (a + 1)).2 else stE (I 73) n (num (I 73) n 2 (num (I 73) n 1 (a + 1)).2).2 (fun c => (116, kdo (nby (I 73) n a), (num (I 73) n 1 (a + 1)).1, (num (I 73) n 2 (num (I 73) n 1 (a + 1)).2).1, c)) := rfl
  have k0 := fun Q => ct_nby hW h a (d + 1) Q
  have kk := fun (J : II) Q => ct_kdo (g := g) (I := J) (nby (I 73) n a) (d + 1) Q
  have kb := kdo_b (nby (I 73) n a)
  generalize kdo (nby (I 73) n a) = v0 at eW kk kb
  have o1 : ((1 : Nat) : Int) = 1 := rfl
  have o2 : ((2 : Nat) : Int) = 2 := rfl
  have o3 : ((3 : Nat) : Int) = 3 := rfl
  have m0 : mp I0 (atA (pr I 76 (uf (I 76) k v0)) a) k := mp_pr h0 (by omega)
  by_cases c0 : v0 < 0
  · rw [if_pos c0] at eW
    rw [eW] at hQ
    have hq : Q (some (vi 0)) g (atA (pr I 76 (uf (I 76) k v0)) a) := hQ (atA (pr I 76 (uf (I 76) k v0)) a) m0 atA_28 (by rw [atA_o (by omega), pr_o (by omega)]) (by rw [atA_o (by omega), pr_o (by omega)]) (fun q => by cases q)
    simp (config := { contextual := true }) (disch := omega) only [R_X12_readsThing_b0, R_X12_readsThing_b1, hW, k0, kk, up_pr, atA_o, atA_pr, pr_s, uf_s, true_and, and_true, true_implies, not_true_eq_false, false_implies, not_false_eq_true, false_and, and_false, or_true, true_or, false_or, or_false, implies_true, forall_const, kl_i, kl_n, kl_r, kl_l, tl_s, tl_n, List.cons_append, List.nil_append, Int.cast_ofNat_Int, w32_id, w64_id, le_T, le_F, lt_T, lt_F, eq_T, eq_F, reduceIte, ne_eq, Int.toNat_natCast, bi_0, bi_1, bi_b, Nat.reduceAdd, Nat.reduceEqDiff, Int.reduceToNat, Int.reduceNeg, nle_T, nlt_T, neq_T, neq_F, b2_0, b2_b, both, reduceCtorEq]
    exact hq
  rw [if_neg c0] at eW
  have c0' : 0 ≤ v0 := by omega
  obtain ⟨I1, hI1⟩ : ∃ I1, I1 = pr I 76 (uf (I 76) k v0) := ⟨_, rfl⟩
  have h1 : TP I1 n := by rw [hI1]; exact TP_pr h (by omega)
  rw [← hI1] at m0
  have e73 : I1 73 = I 73 := by rw [hI1, pr_o (by omega)]
  have e74 : I1 74 = I 74 := by rw [hI1, pr_o (by omega)]
  have e75 : I1 75 = I 75 := by rw [hI1, pr_o (by omega)]
  have e76 : I1 76 k = v0 := by rw [hI1, pr_s, uf_s]
  have ew := atA_w (I := I1) (a := a) (v := (a : Int) + 1) (a + 1) (by omega)
  have hal : a < 64 := by
    by_cases q : a < n
    · have := h.2.1; omega
    · -- no byte there: no kind
      exfalso
      have : nby (I 73) n a = -1 := nby_n (by omega)
      have kz := ct_kdo (g := g) (I := I) (nby (I 73) n a) 0 (fun v _ _ => v = some (vi (-1)))
      have kz2 := kk I (fun v _ _ => v = some (vi (-1)))
      rw [this] at kz2
      have kz3 := ct_kdo (g := g) (I := I) (-1) (d + 1) (fun v _ _ => v = some (vi (-1)))
      have e : kdo (-1) = -1 := by decide
      rw [e] at kz3
      have := kz3.symm.trans kz2
      have h2 : (some (vi v0) : Option PV) = some (vi (-1)) := this ▸ (rfl : (some (vi (-1)) : Option PV) = some (vi (-1)))
      have h3 : v0 = -1 := by injection h2 with h2; injection h2
      omega
  have st1 : WP (d + 2) m_X12_readsThing 0 [some (vr (some 57)), some (vi k)] [] g (atA I a) Q = WP (d + 2) m_X12_readsThing 34 [some (vr (some 57)), some (vi k)] [] g (atA I1 (a + 1)) Q := by
    simp (config := { contextual := true }) (disch := omega) only [R_X12_readsThing_b0, R_X12_readsThing_b1, hW, k0, kk, up_pr, atA_o, atA_pr, pr_s, uf_s, ← hI1, e76, atA_28, ew, true_and, and_true, true_implies, not_true_eq_false, false_implies, not_false_eq_true, false_and, and_false, or_true, true_or, false_or, or_false, implies_true, forall_const, kl_i, kl_n, kl_r, kl_l, tl_s, tl_n, List.cons_append, List.nil_append, Int.cast_ofNat_Int, w32_id, w64_id, le_T, le_F, lt_T, lt_F, eq_T, eq_F, reduceIte, ne_eq, Int.toNat_natCast, bi_0, bi_1, bi_b, Nat.reduceAdd, Nat.reduceEqDiff, Int.reduceToNat, Int.reduceNeg, nle_T, nlt_T, neq_T, neq_F, b2_0, b2_b, both, reduceCtorEq]
  rw [st1]
  clear st1 k0 kk kb
  have k1 := fun Q => ct_num hW h1 (m := 1) (by omega) (a + 1) d Q
  rw [e73, o1] at k1
  have q1 := fun q => num_ng (T := I 73) (n := n) (k := 1) (a := a + 1) q
  generalize num (I 73) n 1 (a + 1) = r1 at eW k1 q1
  obtain ⟨v1, a1⟩ := r1
  have m1 : mp I0 (atA (pr I1 77 (uf (I1 77) k v1)) a1) k := mp_mv (mp_pr m0 (by omega))
  by_cases c1 : v1 < 0
  · have e1 : a1 = a + 1 := q1 c1
    rw [if_pos c1] at eW
    rw [eW] at hQ
    have hq : Q (some (vi 0)) g (atA (pr I1 77 (uf (I1 77) k v1)) a1) := hQ (atA (pr I1 77 (uf (I1 77) k v1)) a1) m1 (by rw [e1]; exact atA_28) (by rw [atA_o (by omega), pr_o (by omega), e74]) (by rw [atA_o (by omega), pr_o (by omega), e75]) (fun q => by cases q)
    simp (config := { contextual := true }) (disch := omega) only [R_X12_readsThing_b0, R_X12_readsThing_b1, hW, k1, up_pr, atA_o, atA_pr, pr_s, pr_o, uf_s, true_and, and_true, true_implies, not_true_eq_false, false_implies, not_false_eq_true, false_and, and_false, or_true, true_or, false_or, or_false, implies_true, forall_const, kl_i, kl_n, kl_r, kl_l, tl_s, tl_n, List.cons_append, List.nil_append, Int.cast_ofNat_Int, w32_id, w64_id, le_T, le_F, lt_T, lt_F, eq_T, eq_F, reduceIte, ne_eq, Int.toNat_natCast, bi_0, bi_1, bi_b, Nat.reduceAdd, Nat.reduceEqDiff, Int.reduceToNat, Int.reduceNeg, nle_T, nlt_T, neq_T, neq_F, b2_0, b2_b, both, reduceCtorEq]
    exact hq
  rw [if_neg c1] at eW
  have c1' : 0 ≤ v1 := by omega
  have eW : stT (I 73) n a = if (num (I 73) n 2 a1).1 < 0 then noP a1 else stE (I 73) n (num (I 73) n 2 a1).2 (fun c => (116, v0, v1, (num (I 73) n 2 a1).1, c)) := eW
  have h2 : TP (pr I1 77 (uf (I1 77) k v1)) n := TP_pr h1 (by omega)
  have k2 := fun Q => ct_num hW h2 (m := 2) (by omega) a1 d Q
  rw [pr_o (by omega), e73, o2] at k2
  have q2 := fun q => num_ng (T := I 73) (n := n) (k := 2) (a := a1) q
  generalize num (I 73) n 2 a1 = r2 at eW k2 q2
  obtain ⟨v2, a2⟩ := r2
  have m2 : mp I0 (atA (pr (pr I1 77 (uf (I1 77) k v1)) 78 (uf (I1 78) k v2)) a2) k := by
    have := mp_mv (b := a2) (mp_pr (c := 78) (v := v2) m1 (by omega))
    rw [pr_o (I := I1) (a := 77) (b := 78) (by omega)] at this
    exact this
  by_cases c2 : v2 < 0
  · have e2 : a2 = a1 := q2 c2
    rw [if_pos c2] at eW
    rw [eW] at hQ
    have hq : Q (some (vi 0)) g (atA (pr (pr I1 77 (uf (I1 77) k v1)) 78 (uf (I1 78) k v2)) a2) := hQ _ m2 (by rw [e2]; exact atA_28) (by rw [atA_o (by omega), pr_o (by omega), pr_o (by omega), e74]) (by rw [atA_o (by omega), pr_o (by omega), pr_o (by omega), e75]) (fun q => by cases q)
    simp (config := { contextual := true }) (disch := omega) only [R_X12_readsThing_b0, R_X12_readsThing_b1, hW, k1, k2, up_pr, atA_o, atA_pr, pr_s, pr_o, uf_s, true_and, and_true, true_implies, not_true_eq_false, false_implies, not_false_eq_true, false_and, and_false, or_true, true_or, false_or, or_false, implies_true, forall_const, kl_i, kl_n, kl_r, kl_l, tl_s, tl_n, List.cons_append, List.nil_append, Int.cast_ofNat_Int, w32_id, w64_id, le_T, le_F, lt_T, lt_F, eq_T, eq_F, reduceIte, ne_eq, Int.toNat_natCast, bi_0, bi_1, bi_b, Nat.reduceAdd, Nat.reduceEqDiff, Int.reduceToNat, Int.reduceNeg, nle_T, nlt_T, neq_T, neq_F, b2_0, b2_b, both, reduceCtorEq]
    exact hq
  rw [if_neg c2] at eW
  have c2' : 0 ≤ v2 := by omega
  have eW : stT (I 73) n a = stE (I 73) n a2 (fun c => (116, v0, v1, v2, c)) := eW
  obtain ⟨I2, hI2⟩ : ∃ I2, I2 = pr (pr I1 77 (uf (I1 77) k v1)) 78 (uf (I1 78) k v2) := ⟨_, rfl⟩
  have h3 : TP I2 n := by
    rw [hI2]
    exact TP_pr h2 (by omega)
  have p73 : I2 73 = I 73 := by rw [hI2, pr_o (by omega), pr_o (by omega), e73]
  have p74 : I2 74 = I 74 := by rw [hI2, pr_o (by omega), pr_o (by omega), e74]
  have p75 : I2 75 = I 75 := by rw [hI2, pr_o (by omega), pr_o (by omega), e75]
  have p76 : I2 76 k = v0 := by rw [hI2, pr_o (by omega), pr_o (by omega), e76]
  have p77 : I2 77 k = v1 := by rw [hI2, pr_o (by omega), pr_s, uf_s]
  have p78 : I2 78 k = v2 := by rw [hI2, pr_s, uf_s]
  have p79 : I2 79 = I1 79 := by rw [hI2, pr_o (by omega), pr_o (by omega)]
  rw [← hI2] at m2
  have kn := fun Q => ct_isN hW h3 a2 44 (by omega) d Q
  rw [p73] at kn
  have st2 : WP (d + 2) m_X12_readsThing 34 [some (vr (some 57)), some (vi k)] [] g (atA I1 (a + 1)) Q = WP (d + 2) m_X12_readsThing 76 [some (vr (some 57)), some (vi k)] [] g (atA I2 a2) Q := by
    simp (config := { contextual := true }) (disch := omega) only [R_X12_readsThing_b0, R_X12_readsThing_b1, hW, k1, k2, up_pr, atA_o, atA_pr, pr_s, pr_o, uf_s, ← hI2, true_and, and_true, true_implies, not_true_eq_false, false_implies, not_false_eq_true, false_and, and_false, or_true, true_or, false_or, or_false, implies_true, forall_const, kl_i, kl_n, kl_r, kl_l, tl_s, tl_n, List.cons_append, List.nil_append, Int.cast_ofNat_Int, w32_id, w64_id, le_T, le_F, lt_T, lt_F, eq_T, eq_F, reduceIte, ne_eq, Int.toNat_natCast, bi_0, bi_1, bi_b, Nat.reduceAdd, Nat.reduceEqDiff, Int.reduceToNat, Int.reduceNeg, nle_T, nlt_T, neq_T, neq_F, b2_0, b2_b, both, reduceCtorEq]
  rw [st2]
  clear st2 k1 k2
  have eE : stE (I 73) n a2 (fun c => ((116, v0, v1, v2, c) : RG)) = if ¬ nby (I 73) n a2 = 44 then noP a2 else if (num (I 73) n 3 (a2 + 1)).1 < 0 then noP (a2 + 1) else if nby (I 73) n (num (I 73) n 3 (a2 + 1)).2 = 59 then (true, (num (I 73) n 3 (a2 + 1)).2 + 1, 116, v0, v1, v2, (num (I 73) n 3 (a2 + 1)).1) else noP (num (I 73) n 3 (a2 + 1)).2 := rfl
  rw [eE] at eW
  by_cases c3 : nby (I 73) n a2 = 44
  case neg =>
    rw [if_pos c3] at eW
    rw [eW] at hQ
    have hq : Q (some (vi 0)) g (atA I2 a2) := hQ (atA I2 a2) m2 atA_28 (by rw [atA_o (by omega), p74]) (by rw [atA_o (by omega), p75]) (fun q => by cases q)
    simp (config := { contextual := true }) (disch := omega) only [R_X12_readsThing_b0, R_X12_readsThing_b1, hW, kn, c3, true_and, and_true, true_implies, not_true_eq_false, false_implies, not_false_eq_true, false_and, and_false, or_true, true_or, false_or, or_false, implies_true, forall_const, kl_i, kl_n, kl_r, kl_l, tl_s, tl_n, List.cons_append, List.nil_append, Int.cast_ofNat_Int, w32_id, w64_id, le_T, le_F, lt_T, lt_F, eq_T, eq_F, reduceIte, ne_eq, Int.toNat_natCast, bi_0, bi_1, bi_b, Nat.reduceAdd, Nat.reduceEqDiff, Int.reduceToNat, Int.reduceNeg, nle_T, nlt_T, neq_T, neq_F, b2_0, b2_b, both, reduceCtorEq]
    exact hq
  have c3' : ¬ ¬ nby (I 73) n a2 = 44 := fun q => q c3
  rw [if_neg c3'] at eW
  have k3 := fun Q => ct_num hW h3 (m := 3) (by omega) (a2 + 1) d Q
  rw [p73, o3] at k3
  have q3 := fun q => num_ng (T := I 73) (n := n) (k := 3) (a := a2 + 1) q
  generalize num (I 73) n 3 (a2 + 1) = r3 at eW k3 q3
  obtain ⟨v3, a3⟩ := r3
  have m3 : mp I0 (atA (pr I2 79 (uf (I2 79) k v3)) a3) k := mp_mv (mp_pr m2 (by omega))
  by_cases c4 : v3 < 0
  · have e3 : a3 = a2 + 1 := q3 c4
    rw [if_pos c4] at eW
    rw [eW] at hQ
    have hq : Q (some (vi 0)) g (atA (pr I2 79 (uf (I2 79) k v3)) a3) := hQ _ m3 (by rw [e3]; exact atA_28) (by rw [atA_o (by omega), pr_o (by omega), p74]) (by rw [atA_o (by omega), pr_o (by omega), p75]) (fun q => by cases q)
    simp (config := { contextual := true }) (disch := omega) only [R_X12_readsThing_b0, R_X12_readsThing_b1, hW, kn, c3, k3, up_pr, atA_o, atA_pr, pr_s, pr_o, uf_s, true_and, and_true, true_implies, not_true_eq_false, false_implies, not_false_eq_true, false_and, and_false, or_true, true_or, false_or, or_false, implies_true, forall_const, kl_i, kl_n, kl_r, kl_l, tl_s, tl_n, List.cons_append, List.nil_append, Int.cast_ofNat_Int, w32_id, w64_id, le_T, le_F, lt_T, lt_F, eq_T, eq_F, reduceIte, ne_eq, Int.toNat_natCast, bi_0, bi_1, bi_b, Nat.reduceAdd, Nat.reduceEqDiff, Int.reduceToNat, Int.reduceNeg, nle_T, nlt_T, neq_T, neq_F, b2_0, b2_b, both, reduceCtorEq]
    exact hq
  rw [if_neg c4] at eW
  have eW : stT (I 73) n a = if nby (I 73) n a3 = 59 then (true, a3 + 1, 116, v0, v1, v2, v3) else noP a3 := eW
  have h4 := TP_pr (c := 79) (f := uf (I2 79) k v3) h3 (by omega)
  have kn2 := fun Q => ct_isN hW h4 a3 59 (by omega) d Q
  rw [pr_o (by omega), p73] at kn2
  have c4' : 0 ≤ v3 := by omega
  by_cases c5 : nby (I 73) n a3 = 59
  · rw [if_pos c5] at eW
    rw [eW] at hQ
    have hq : Q (some (vi 1)) g (atA (pr I2 79 (uf (I2 79) k v3)) (a3 + 1)) := hQ _ (mp_mv m3) atA_28 (by rw [atA_o (by omega), pr_o (by omega), p74]) (by rw [atA_o (by omega), pr_o (by omega), p75]) (fun q => ⟨by rw [atA_o (by omega), pr_o (by omega)]; exact p76, by rw [atA_o (by omega), pr_o (by omega)]; exact p77, by rw [atA_o (by omega), pr_o (by omega)]; exact p78, by rw [atA_o (by omega), pr_s, uf_s]⟩)
    simp (config := { contextual := true }) (disch := omega) only [R_X12_readsThing_b0, R_X12_readsThing_b1, hW, kn, c3, k3, kn2, c5, up_pr, atA_o, atA_pr, pr_s, pr_o, uf_s, true_and, and_true, true_implies, not_true_eq_false, false_implies, not_false_eq_true, false_and, and_false, or_true, true_or, false_or, or_false, implies_true, forall_const, kl_i, kl_n, kl_r, kl_l, tl_s, tl_n, List.cons_append, List.nil_append, Int.cast_ofNat_Int, w32_id, w64_id, le_T, le_F, lt_T, lt_F, eq_T, eq_F, reduceIte, ne_eq, Int.toNat_natCast, bi_0, bi_1, bi_b, Nat.reduceAdd, Nat.reduceEqDiff, Int.reduceToNat, Int.reduceNeg, nle_T, nlt_T, neq_T, neq_F, b2_0, b2_b, both, reduceCtorEq]
    exact hq
  · rw [if_neg c5] at eW
    rw [eW] at hQ
    have hq : Q (some (vi 0)) g (atA (pr I2 79 (uf (I2 79) k v3)) a3) := hQ _ m3 atA_28 (by rw [atA_o (by omega), pr_o (by omega), p74]) (by rw [atA_o (by omega), pr_o (by omega), p75]) (fun q => by cases q)
    simp (config := { contextual := true }) (disch := omega) only [R_X12_readsThing_b0, R_X12_readsThing_b1, hW, kn, c3, k3, kn2, c5, up_pr, atA_o, atA_pr, pr_s, pr_o, uf_s, true_and, and_true, true_implies, not_true_eq_false, false_implies, not_false_eq_true, false_and, and_false, or_true, true_or, false_or, or_false, implies_true, forall_const, kl_i, kl_n, kl_r, kl_l, tl_s, tl_n, List.cons_append, List.nil_append, Int.cast_ofNat_Int, w32_id, w64_id, le_T, le_F, lt_T, lt_F, eq_T, eq_F, reduceIte, ne_eq, Int.toNat_natCast, bi_0, bi_1, bi_b, Nat.reduceAdd, Nat.reduceEqDiff, Int.reduceToNat, Int.reduceNeg, nle_T, nlt_T, neq_T, neq_F, b2_0, b2_b, both, reduceCtorEq]
    exact hq
/-- a statement's rows, kept at k -/
def rgA (J : II) (k : Nat) (r : RG) : Prop := J 74 k = r.1 ∧ J 76 k = r.2.1 ∧ (¬ r.1 = 110 → J 77 k = r.2.2.1 ∧ J 78 k = r.2.2.2.1) ∧ (r.1 = 116 → J 79 k = r.2.2.2.2)
theorem num_ok {T : Nat → Int} {n k a : Nat} (hk : 1 ≤ k) (h : ¬ (num T n k a).1 < 0) (hn : a ≤ n) : a + 1 ≤ (num T n k a).2 ∧ (num T n k a).2 ≤ n ∧ 0 ≤ (num T n k a).1 ∧ (num T n k a).1 ≤ pw 0 k := by
  unfold num at h ⊢
  by_cases c : dgt T n a
  · rw [if_pos c] at h ⊢
    obtain ⟨k', rfl⟩ : ∃ k', k = k' + 1 := ⟨k - 1, by omega⟩
    have e : nbr T n (k' + 1) 0 a = nbr T n k' (10 * 0 + T a - 48) (a + 1) := if_pos c
    have h1 := nbr_p (T := T) (n := n) k' (10 * 0 + T a - 48) (a + 1) (by omega)
    have h2 := nbr_v (T := T) (n := n) (k' + 1) 0 a (by omega)
    rw [← e] at h1
    omega
  · rw [if_neg c] at h
    exact absurd (by show (-1 : Int) < 0; omega) h
theorem nby_in {T : Nat → Int} {n a : Nat} {b : Int} (h : nby T n a = b) (hb : 0 ≤ b) : a < n := by
  by_cases c : a < n
  · exact c
  · rw [nby_n (by omega)] at h; omega
theorem stE_ok {T : Nat → Int} {n a : Nat} {r : Int → RG} (h : (stE T n a r).1 = true) : ∃ (c : Int) (e : Nat), (0 ≤ c ∧ c ≤ 999) ∧ stE T n a r = (true, e, r c) ∧ (a + 3 ≤ e ∧ e ≤ n) := by
  have eE : stE T n a r = if ¬ nby T n a = 44 then noP a else if (num T n 3 (a + 1)).1 < 0 then noP (a + 1) else if nby T n (num T n 3 (a + 1)).2 = 59 then (true, (num T n 3 (a + 1)).2 + 1, r (num T n 3 (a + 1)).1) else noP (num T n 3 (a + 1)).2 := rfl
  by_cases c1 : nby T n a = 44
  case neg => rw [eE, if_pos c1] at h; cases h
  have c1' : ¬ ¬ nby T n a = 44 := fun q => q c1
  by_cases c2 : (num T n 3 (a + 1)).1 < 0
  · rw [eE, if_neg c1', if_pos c2] at h; cases h
  by_cases c3 : nby T n (num T n 3 (a + 1)).2 = 59
  case neg => rw [eE, if_neg c1', if_neg c2, if_neg c3] at h; cases h
  have q1 := nby_in c1 (by omega)
  have q3 := nby_in c3 (by omega)
  have k := num_ok (k := 3) (by omega) c2 (by omega)
  have e3 : pw 0 3 = 999 := by decide
  rw [e3] at k
  exact ⟨(num T n 3 (a + 1)).1, (num T n 3 (a + 1)).2 + 1, by omega, by rw [eE, if_neg c1', if_neg c2, if_pos c3], by omega⟩
theorem stW_ok {T : Nat → Int} {n a : Nat} (ha : a ≤ n) (h : (stW T n a).1 = true) : ∃ (v1 v2 c : Int) (e : Nat), (0 ≤ v1 ∧ v1 ≤ 9) ∧ (0 ≤ v2 ∧ v2 ≤ 9) ∧ (0 ≤ c ∧ c ≤ 999) ∧ stW T n a = (true, e, 119, v1, v2, c, 0) ∧ (a + 2 ≤ e ∧ e ≤ n) := by
  have eW : stW T n a = if (num T n 1 a).1 < 0 then noP a else if (num T n 1 (num T n 1 a).2).1 < 0 then noP (num T n 1 a).2 else stE T n (num T n 1 (num T n 1 a).2).2 (fun c => (119, (num T n 1 a).1, (num T n 1 (num T n 1 a).2).1, c, 0)) := rfl
  have e1 : pw 0 1 = 9 := by decide
  by_cases c1 : (num T n 1 a).1 < 0
  · rw [eW, if_pos c1] at h; cases h
  have k1 := num_ok (k := 1) (by omega) c1 ha
  by_cases c2 : (num T n 1 (num T n 1 a).2).1 < 0
  · rw [eW, if_neg c1, if_pos c2] at h; cases h
  have k2 := num_ok (k := 1) (by omega) c2 (by omega)
  rw [eW, if_neg c1, if_neg c2] at h ⊢
  obtain ⟨c, e, x1, x2, x3⟩ := stE_ok h
  rw [e1] at k1 k2
  exact ⟨_, _, c, e, by omega, by omega, x1, x2, by omega⟩
theorem stT_ok {T : Nat → Int} {n a : Nat} (ha : a ≤ n) (h : (stT T n a).1 = true) : ∃ (v0 v1 v2 c : Int) (e : Nat), (0 ≤ v0 ∧ v0 ≤ 5) ∧ (0 ≤ v1 ∧ v1 ≤ 9) ∧ (0 ≤ v2 ∧ v2 ≤ 99) ∧ (0 ≤ c ∧ c ≤ 999) ∧ stT T n a = (true, e, 116, v0, v1, v2, c) ∧ (a + 2 ≤ e ∧ e ≤ n) := by
  have eW : stT T n a = if kdo (nby T n a) < 0 then noP a else if (num T n 1 (a + 1)).1 < 0 then noP (a + 1) else if (num T n 2 (num T n 1 (a + 1)).2).1 < 0 then noP (num T n 1 (a + 1)).2 else stE T n (num T n 2 (num T n 1 (a + 1)).2).2 (fun c => (116, kdo (nby T n a), (num T n 1 (a + 1)).1, (num T n 2 (num T n 1 (a + 1)).2).1, c)) := rfl
  have e1 : pw 0 1 = 9 := by decide
  have e2 : pw 0 2 = 99 := by decide
  have kb := kdo_b (nby T n a)
  by_cases c0 : kdo (nby T n a) < 0
  · rw [eW, if_pos c0] at h; cases h
  have hl : a < n := by
    by_cases q : a < n
    · exact q
    · rw [nby_n (by omega)] at c0
      exact absurd (by decide : kdo (-1) < 0) c0
  by_cases c1 : (num T n 1 (a + 1)).1 < 0
  · rw [eW, if_neg c0, if_pos c1] at h; cases h
  have k1 := num_ok (k := 1) (by omega) c1 (by omega)
  by_cases c2 : (num T n 2 (num T n 1 (a + 1)).2).1 < 0
  · rw [eW, if_neg c0, if_neg c1, if_pos c2] at h; cases h
  have k2 := num_ok (k := 2) (by omega) c2 (by omega)
  rw [eW, if_neg c0, if_neg c1, if_neg c2] at h ⊢
  obtain ⟨c, e, x1, x2, x3⟩ := stE_ok h
  rw [e1] at k1
  rw [e2] at k2
  exact ⟨_, _, _, c, e, by omega, by omega, by omega, x1, x2, by omega⟩
theorem ct_stm (hW : WM g) (h : TP I n) {k : Nat} (hk : k < 32) (h29 : I 57 29 = (k : Int)) (a : Nat) (d : Nat) (Q : QQ) (hQ : ∀ J : II, mp I J k → J 57 28 = ((stp (I 73) n a).2.1 : Int) → ((stp (I 73) n a).1 = true → J 75 k = (a : Int) ∧ rgA J k (stp (I 73) n a).2.2) → Q (some (vi (b2 (stp (I 73) n a).1))) g J) : WP (d + 3) m_X12_statement 0 [some (vr (some 57)), none, none] [] g (atA I a) Q := by
  have eS : stp (I 73) n a = if nby (I 73) n a = 110 then stN (I 73) n (a + 1) else if nby (I 73) n a = 119 then stW (I 73) n (a + 1) else if nby (I 73) n a = 116 then stT (I 73) n (a + 1) else noP a := rfl
  have k0 := fun Q => ct_nby hW h a (d + 2) Q
  have hal : ¬ nby (I 73) n a = -1 → a < 64 := by
    intro q
    by_cases c : a < n
    · have := h.2.1; omega
    · exact absurd (nby_n (by omega)) q
  have f29 : atA I a 57 29 = (k : Int) := by rw [atA_f (by omega)]; exact h29
  generalize nby (I 73) n a = b at eS k0 hal
  by_cases cl : b = 110 ∨ b = 119 ∨ b = 116
  case neg =>
    rw [if_neg (by omega), if_neg (by omega), if_neg (by omega)] at eS
    rw [eS] at hQ
    have hq : Q (some (vi 0)) g (atA I a) := hQ (atA I a) (mp_at I k a) atA_28 (fun q => by cases q)
    simp (config := { contextual := true }) (disch := omega) only [R_X12_statement_b0, R_X12_statement_b1, hW, f29, k0, true_and, and_true, true_implies, not_true_eq_false, false_implies, not_false_eq_true, false_and, and_false, or_true, true_or, false_or, or_false, implies_true, forall_const, kl_i, kl_n, kl_r, kl_l, tl_s, tl_n, List.cons_append, List.nil_append, Int.cast_ofNat_Int, w32_id, w64_id, le_T, le_F, lt_T, lt_F, eq_T, eq_F, reduceIte, ne_eq, Int.toNat_natCast, bi_0, bi_1, bi_b, Nat.reduceAdd, Nat.reduceEqDiff, Int.reduceToNat, Int.reduceNeg, nle_T, nlt_T, neq_T, neq_F, b2_0, b2_b, both, reduceCtorEq]
    exact hq
  have ha := hal (by omega)
  obtain ⟨I1, hI1⟩ : ∃ I1, I1 = pr (pr I 74 (uf (I 74) k b)) 75 (uf (I 75) k a) := ⟨_, rfl⟩
  have h1 : TP I1 n := by rw [hI1]; exact TP_pr (TP_pr h (by omega)) (by omega)
  have e73 : I1 73 = I 73 := by rw [hI1, pr_o (by omega), pr_o (by omega)]
  have e74 : I1 74 k = b := by rw [hI1, pr_o (by omega), pr_s, uf_s]
  have e75 : I1 75 k = (a : Int) := by rw [hI1, pr_s, uf_s]
  have m1 : mp I (atA I1 (a + 1)) k := by
    have x1 := mp_pr (c := 74) (v := b) (mp_at I k a) (by omega)
    have x2 := mp_pr (c := 75) (v := (a : Int)) x1 (by omega)
    rw [pr_o (I := I) (a := 74) (b := 75) (by omega), ← hI1] at x2
    exact mp_mv x2
  have ew := atA_w (I := I1) (a := a) (v := (a : Int) + 1) (a + 1) (by omega)
  by_cases c1 : b = 119
  · subst c1
    rw [if_neg (by omega), if_pos rfl] at eS
    rw [eS, ← e73] at hQ
    have hl : (stW (I1 73) n (a + 1)).1 = true → (stW (I1 73) n (a + 1)).2.2.1 = 119 := fun q => by
      by_cases z : a + 1 ≤ n
      · obtain ⟨v1, v2, c, e, -, -, -, x, -⟩ := stW_ok z q
        rw [x]
      · have e : stW (I1 73) n (a + 1) = noP (a + 1) := by
          have : (num (I1 73) n 1 (a + 1)).1 < 0 := by
            by_cases y : (num (I1 73) n 1 (a + 1)).1 < 0
            · exact y
            · have := num_lt y; omega
          exact if_pos this
        rw [e] at q; cases q
    simp (config := { contextual := true }) (disch := omega) only [R_X12_statement_b0, R_X12_statement_b1, hW, f29, k0, up_pr, atA_o, atA_pr, atA_28, pr_s, pr_o, ← hI1, ew, true_and, and_true, true_implies, not_true_eq_false, false_implies, not_false_eq_true, false_and, and_false, or_true, true_or, false_or, or_false, implies_true, forall_const, kl_i, kl_n, kl_r, kl_l, tl_s, tl_n, List.cons_append, List.nil_append, Int.cast_ofNat_Int, w32_id, w64_id, le_T, le_F, lt_T, lt_F, eq_T, eq_F, reduceIte, ne_eq, Int.toNat_natCast, bi_0, bi_1, bi_b, Nat.reduceAdd, Nat.reduceEqDiff, Int.reduceToNat, Int.reduceNeg, nle_T, nlt_T, neq_T, neq_F, b2_0, b2_b, both, reduceCtorEq]
    refine ct_rW hW h1 hk (a + 1) m1 d _ (fun J j1 j2 j3 j4 j5 => ?_)
    have hq := hQ J j1 j2 (fun q => by
      obtain ⟨x1, x2, x3⟩ := j5 q
      refine ⟨by rw [j4]; exact e75, ?_⟩
      unfold rgA
      rw [hl q]
      refine ⟨by rw [j3]; exact e74, x1, fun _ => ⟨x2, x3⟩, fun q => by omega⟩)
    simp (config := { contextual := true }) (disch := omega) only [R_X12_statement_b0, R_X12_statement_b1, hW, true_and, and_true, true_implies, not_true_eq_false, false_implies, not_false_eq_true, false_and, and_false, or_true, true_or, false_or, or_false, implies_true, forall_const, kl_i, kl_n, kl_r, kl_l, tl_s, tl_n, List.cons_append, List.nil_append, Int.cast_ofNat_Int, w32_id, w64_id, le_T, le_F, lt_T, lt_F, eq_T, eq_F, reduceIte, ne_eq, Int.toNat_natCast, bi_0, bi_1, bi_b, Nat.reduceAdd, Nat.reduceEqDiff, Int.reduceToNat, Int.reduceNeg, nle_T, nlt_T, neq_T, neq_F, b2_0, b2_b, both, reduceCtorEq]
    exact ⟨b2_x _, hq⟩
  by_cases c2 : b = 116
  · subst c2
    rw [if_neg (by omega), if_neg (by omega), if_pos rfl] at eS
    rw [eS, ← e73] at hQ
    have hl : (stT (I1 73) n (a + 1)).1 = true → (stT (I1 73) n (a + 1)).2.2.1 = 116 := fun q => by
      by_cases z : a + 1 ≤ n
      · obtain ⟨v0, v1, v2, c, e, -, -, -, -, x, -⟩ := stT_ok z q
        rw [x]
      · have e : stT (I1 73) n (a + 1) = noP (a + 1) := by
          have : kdo (nby (I1 73) n (a + 1)) < 0 := by rw [nby_n (by omega)]; decide
          exact if_pos this
        rw [e] at q; cases q
    simp (config := { contextual := true }) (disch := omega) only [R_X12_statement_b0, R_X12_statement_b1, hW, f29, k0, up_pr, atA_o, atA_pr, atA_28, pr_s, pr_o, ← hI1, ew, true_and, and_true, true_implies, not_true_eq_false, false_implies, not_false_eq_true, false_and, and_false, or_true, true_or, false_or, or_false, implies_true, forall_const, kl_i, kl_n, kl_r, kl_l, tl_s, tl_n, List.cons_append, List.nil_append, Int.cast_ofNat_Int, w32_id, w64_id, le_T, le_F, lt_T, lt_F, eq_T, eq_F, reduceIte, ne_eq, Int.toNat_natCast, bi_0, bi_1, bi_b, Nat.reduceAdd, Nat.reduceEqDiff, Int.reduceToNat, Int.reduceNeg, nle_T, nlt_T, neq_T, neq_F, b2_0, b2_b, both, reduceCtorEq]
    refine ct_rT hW h1 hk (a + 1) m1 d _ (fun J j1 j2 j3 j4 j5 => ?_)
    have hq := hQ J j1 j2 (fun q => by
      obtain ⟨x1, x2, x3, x4⟩ := j5 q
      refine ⟨by rw [j4]; exact e75, ?_⟩
      unfold rgA
      rw [hl q]
      refine ⟨by rw [j3]; exact e74, x1, fun _ => ⟨x2, x3⟩, fun _ => x4⟩)
    simp (config := { contextual := true }) (disch := omega) only [R_X12_statement_b0, R_X12_statement_b1, hW, true_and, and_true, true_implies, not_true_eq_false, false_implies, not_false_eq_true, false_and, and_false, or_true, true_or, false_or, or_false, implies_true, forall_const, kl_i, kl_n, kl_r, kl_l, tl_s, tl_n, List.cons_append, List.nil_append, Int.cast_ofNat_Int, w32_id, w64_id, le_T, le_F, lt_T, lt_F, eq_T, eq_F, reduceIte, ne_eq, Int.toNat_natCast, bi_0, bi_1, bi_b, Nat.reduceAdd, Nat.reduceEqDiff, Int.reduceToNat, Int.reduceNeg, nle_T, nlt_T, neq_T, neq_F, b2_0, b2_b, both, reduceCtorEq]
    exact ⟨b2_x _, hq⟩
  have c3 : b = 110 := by omega
  subst c3
  rw [if_pos rfl] at eS
  have eN : stN (I 73) n (a + 1) = if (num (I 73) n 1 (a + 1)).1 < 0 then noP (a + 1) else if nby (I 73) n (num (I 73) n 1 (a + 1)).2 = 59 then (true, (num (I 73) n 1 (a + 1)).2 + 1, 110, (num (I 73) n 1 (a + 1)).1, 0, 0, 0) else noP (num (I 73) n 1 (a + 1)).2 := rfl
  rw [eN] at eS
  have o1 : ((1 : Nat) : Int) = 1 := rfl
  have k1 := fun Q => ct_num hW h1 (m := 1) (by omega) (a + 1) (d + 1) Q
  rw [e73, o1] at k1
  have q1 := fun q => num_ng (T := I 73) (n := n) (k := 1) (a := a + 1) q
  generalize num (I 73) n 1 (a + 1) = r1 at eS k1 q1
  obtain ⟨v1, a1⟩ := r1
  have m2 : mp I (atA (pr I1 76 (uf (I1 76) k v1)) a1) k := mp_mv (mp_pr m1 (by omega))
  by_cases c4 : v1 < 0
  · have e1 : a1 = a + 1 := q1 c4
    rw [if_pos c4] at eS
    rw [eS] at hQ
    have hq : Q (some (vi 0)) g (atA (pr I1 76 (uf (I1 76) k v1)) a1) := hQ _ m2 (by rw [e1]; exact atA_28) (fun q => by cases q)
    simp (config := { contextual := true }) (disch := omega) only [R_X12_statement_b0, R_X12_statement_b1, hW, f29, k0, up_pr, atA_o, atA_pr, atA_28, pr_s, pr_o, ← hI1, ew, k1, uf_s, true_and, and_true, true_implies, not_true_eq_false, false_implies, not_false_eq_true, false_and, and_false, or_true, true_or, false_or, or_false, implies_true, forall_const, kl_i, kl_n, kl_r, kl_l, tl_s, tl_n, List.cons_append, List.nil_append, Int.cast_ofNat_Int, w32_id, w64_id, le_T, le_F, lt_T, lt_F, eq_T, eq_F, reduceIte, ne_eq, Int.toNat_natCast, bi_0, bi_1, bi_b, Nat.reduceAdd, Nat.reduceEqDiff, Int.reduceToNat, Int.reduceNeg, nle_T, nlt_T, neq_T, neq_F, b2_0, b2_b, both, reduceCtorEq]
    exact hq
  rw [if_neg c4] at eS
  have c4' : 0 ≤ v1 := by omega
  have eS : stp (I 73) n a = if nby (I 73) n a1 = 59 then (true, a1 + 1, 110, v1, 0, 0, 0) else noP a1 := eS
  have h2 := TP_pr (c := 76) (f := uf (I1 76) k v1) h1 (by omega)
  have kn := fun Q => ct_isN hW h2 a1 59 (by omega) (d + 1) Q
  rw [pr_o (by omega), e73] at kn
  by_cases c5 : nby (I 73) n a1 = 59
  · rw [if_pos c5] at eS
    rw [eS] at hQ
    have hq : Q (some (vi 1)) g (atA (pr I1 76 (uf (I1 76) k v1)) (a1 + 1)) := hQ _ (mp_mv m2) atA_28 (fun q => ⟨by rw [atA_o (by omega), pr_o (by omega)]; exact e75, by rw [atA_o (by omega), pr_o (by omega)]; exact e74, by rw [atA_o (by omega), pr_s, uf_s], fun q => absurd rfl q, fun q => by cases q⟩)
    simp (config := { contextual := true }) (disch := omega) only [R_X12_statement_b0, R_X12_statement_b1, hW, f29, k0, up_pr, atA_o, atA_pr, atA_28, pr_s, pr_o, ← hI1, ew, k1, uf_s, kn, c5, true_and, and_true, true_implies, not_true_eq_false, false_implies, not_false_eq_true, false_and, and_false, or_true, true_or, false_or, or_false, implies_true, forall_const, kl_i, kl_n, kl_r, kl_l, tl_s, tl_n, List.cons_append, List.nil_append, Int.cast_ofNat_Int, w32_id, w64_id, le_T, le_F, lt_T, lt_F, eq_T, eq_F, reduceIte, ne_eq, Int.toNat_natCast, bi_0, bi_1, bi_b, Nat.reduceAdd, Nat.reduceEqDiff, Int.reduceToNat, Int.reduceNeg, nle_T, nlt_T, neq_T, neq_F, b2_0, b2_b, both, reduceCtorEq]
    exact hq
  · rw [if_neg c5] at eS
    rw [eS] at hQ
    have hq : Q (some (vi 0)) g (atA (pr I1 76 (uf (I1 76) k v1)) a1) := hQ _ m2 atA_28 (fun q => by cases q)
    simp (config := { contextual := true }) (disch := omega) only [R_X12_statement_b0, R_X12_statement_b1, hW, f29, k0, up_pr, atA_o, atA_pr, atA_28, pr_s, pr_o, ← hI1, ew, k1, uf_s, kn, c5, true_and, and_true, true_implies, not_true_eq_false, false_implies, not_false_eq_true, false_and, and_false, or_true, true_or, false_or, or_false, implies_true, forall_const, kl_i, kl_n, kl_r, kl_l, tl_s, tl_n, List.cons_append, List.nil_append, Int.cast_ofNat_Int, w32_id, w64_id, le_T, le_F, lt_T, lt_F, eq_T, eq_F, reduceIte, ne_eq, Int.toNat_natCast, bi_0, bi_1, bi_b, Nat.reduceAdd, Nat.reduceEqDiff, Int.reduceToNat, Int.reduceNeg, nle_T, nlt_T, neq_T, neq_F, b2_0, b2_b, both, reduceCtorEq]
    exact hq
end MSTAT2

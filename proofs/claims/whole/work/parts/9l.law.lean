-- THE LAW'S LOOP: one lemma a case (wip/whole/mk9l.py)
theorem RR_mono {L : Nat} {xs : Nat → Int32} {X X' Y Y' : Nat} {g : GG} {I : II} (h : RR L xs X Y g I) (hX : X ≤ X') (hY : Y ≤ Y') : RR L xs X' Y' g I := by
  obtain ⟨h1, ⟨h2, h3, h4⟩, h5⟩ := h
  exact ⟨h1, ⟨h2, by omega, by omega⟩, h5⟩
section LAW
variable {L : Nat} {xs : Nat → Int32} {X Y : Nat} {g : GG} {I : II}
theorem lw_0 (h : RR L xs X Y g I) {i : Nat} (hi : i + 5 ≤ L) (hL : L ≤ 2560) (hk : iAnd (xs i).toInt 31 = 0) (Q : QQ) (hQ : ∀ g' I', RR L xs (X + 30) (Y + 300) g' I' → WP 1000 m_L_law 18 [some (vr (some 0)), some (vr (some 5)), some (vr (some 57)), some (vi ((i : Int) + 5))] [] g' I' Q) : WP 1000 m_L_law 18 [some (vr (some 0)), some (vr (some 5)), some (vr (some 57)), some (vi i)] [] g I Q := by
  obtain ⟨hs, hb, t, dr, A, P, w, n, q, m, hr⟩ := h
  obtain ⟨z, g1, I1, g2, I2, c1, ⟨hs1, hg1⟩, c2, hR⟩ := cs_feed hs hb.1 hr (xs (i + 1)).toInt (lOr (lShl (xs (i + 2)).toInt 32) (lAnd (xs (i + 3)).toInt 4294967295)) (r32_toInt _).2
  have k0 : gK g 0 = (5, L) := hs.1
  have e0 : ∀ j, I 0 j = (xs j).toInt := hs.2.2.2.2.1
  have k5 : gK g 5 = (0, 10) := hr.2.2.1.2.1.1
  have k10 : gK g1 0 = (5, L) := hs1.1
  have e10 : ∀ j, I1 0 j = (xs j).toInt := hs1.2.2.2.2.1
  have t1 : ((i : Int) + 1).toNat = i + 1 := by omega
  have t2 : ((i : Int) + 2).toNat = i + 2 := by omega
  have t3 : ((i : Int) + 3).toNat = i + 3 := by omega
  have t4 : ((i : Int) + 4).toNat = i + 4 := by omega
  have hq := hQ g2 I2 (RR_mono hR (by omega) (by omega))
  clear hQ hR hs hs1 hr
  rw [H_L_law_18]
  simp (config := { contextual := true }) (disch := omega) only [R_L_0, R_L_1, R_L_2, R_L_19, k0, e0, hk, k5, c1, k10, e10, hg1, c2, t1, t2, t3, t4, true_and, and_true, true_implies, not_true_eq_false, false_implies, not_false_eq_true, false_and, and_false, or_true, true_or, false_or, or_false, implies_true, forall_const, kl_i, kl_n, kl_r, kl_l, tl_s, tl_n, List.cons_append, List.nil_append, Int.cast_ofNat_Int, w32_id, w64_id, le_T, le_F, lt_T, lt_F, eq_T, eq_F, reduceIte, ne_eq, Int.toNat_natCast, bi_0, bi_1, bi_b, Nat.reduceAdd, Nat.reduceEqDiff, Int.reduceToNat, Int.reduceNeg, nle_T, nlt_T, neq_T, neq_F, b2_0, b2_b, both, reduceCtorEq, lcm3_eq]
  exact hq
theorem lw_1 (h : RR L xs X Y g I) {i : Nat} (hi : i + 5 ≤ L) (hL : L ≤ 2560) (hk : iAnd (xs i).toInt 31 = 1) (Q : QQ) (hQ : ∀ g' I', RR L xs (X + 30) (Y + 300) g' I' → WP 1000 m_L_law 18 [some (vr (some 0)), some (vr (some 5)), some (vr (some 57)), some (vi ((i : Int) + 5))] [] g' I' Q) : WP 1000 m_L_law 18 [some (vr (some 0)), some (vr (some 5)), some (vr (some 57)), some (vi i)] [] g I Q := by
  obtain ⟨hs, hb, t, dr, A, P, w, n, q, m, hr⟩ := h
  obtain ⟨z, g1, I1, g2, I2, c1, ⟨hs1, hg1⟩, c2, hR⟩ := cs_land hs hb.1 hr
  have k0 : gK g 0 = (5, L) := hs.1
  have e0 : ∀ j, I 0 j = (xs j).toInt := hs.2.2.2.2.1
  have k5 : gK g 5 = (0, 10) := hr.2.2.1.2.1.1
  have k10 : gK g1 0 = (5, L) := hs1.1
  have e10 : ∀ j, I1 0 j = (xs j).toInt := hs1.2.2.2.2.1
  have t1 : ((i : Int) + 1).toNat = i + 1 := by omega
  have t2 : ((i : Int) + 2).toNat = i + 2 := by omega
  have t3 : ((i : Int) + 3).toNat = i + 3 := by omega
  have t4 : ((i : Int) + 4).toNat = i + 4 := by omega
  have hq := hQ g2 I2 (RR_mono hR (by omega) (by omega))
  clear hQ hR hs hs1 hr
  rw [H_L_law_18]
  simp (config := { contextual := true }) (disch := omega) only [R_L_0, R_L_1, R_L_2, R_L_19, k0, e0, hk, k5, c1, k10, e10, hg1, c2, t1, t2, t3, t4, true_and, and_true, true_implies, not_true_eq_false, false_implies, not_false_eq_true, false_and, and_false, or_true, true_or, false_or, or_false, implies_true, forall_const, kl_i, kl_n, kl_r, kl_l, tl_s, tl_n, List.cons_append, List.nil_append, Int.cast_ofNat_Int, w32_id, w64_id, le_T, le_F, lt_T, lt_F, eq_T, eq_F, reduceIte, ne_eq, Int.toNat_natCast, bi_0, bi_1, bi_b, Nat.reduceAdd, Nat.reduceEqDiff, Int.reduceToNat, Int.reduceNeg, nle_T, nlt_T, neq_T, neq_F, b2_0, b2_b, both, reduceCtorEq, lcm3_eq]
  exact hq
theorem lw_2 (h : RR L xs X Y g I) {i : Nat} (hi : i + 5 ≤ L) (hL : L ≤ 2560) (hk : iAnd (xs i).toInt 31 = 2) (Q : QQ) (hQ : ∀ g' I', RR L xs (X + 30) (Y + 300) g' I' → WP 1000 m_L_law 18 [some (vr (some 0)), some (vr (some 5)), some (vr (some 57)), some (vi ((i : Int) + 5))] [] g' I' Q) : WP 1000 m_L_law 18 [some (vr (some 0)), some (vr (some 5)), some (vr (some 57)), some (vi i)] [] g I Q := by
  obtain ⟨hs, hb, t, dr, A, P, w, n, q, m, hr⟩ := h
  obtain ⟨z, g1, I1, g2, I2, c1, ⟨hs1, hg1⟩, c2, hR⟩ := cs_far hs hb.1 hr (xs (i + 1)).toInt (xs (i + 2)).toInt
  have k0 : gK g 0 = (5, L) := hs.1
  have e0 : ∀ j, I 0 j = (xs j).toInt := hs.2.2.2.2.1
  have k5 : gK g 5 = (0, 10) := hr.2.2.1.2.1.1
  have k10 : gK g1 0 = (5, L) := hs1.1
  have e10 : ∀ j, I1 0 j = (xs j).toInt := hs1.2.2.2.2.1
  have t1 : ((i : Int) + 1).toNat = i + 1 := by omega
  have t2 : ((i : Int) + 2).toNat = i + 2 := by omega
  have t3 : ((i : Int) + 3).toNat = i + 3 := by omega
  have t4 : ((i : Int) + 4).toNat = i + 4 := by omega
  have hq := hQ g2 I2 (RR_mono hR (by omega) (by omega))
  clear hQ hR hs hs1 hr
  rw [H_L_law_18]
  simp (config := { contextual := true }) (disch := omega) only [R_L_0, R_L_1, R_L_2, R_L_3, R_L_19, k0, e0, hk, k5, c1, k10, e10, hg1, c2, t1, t2, t3, t4, true_and, and_true, true_implies, not_true_eq_false, false_implies, not_false_eq_true, false_and, and_false, or_true, true_or, false_or, or_false, implies_true, forall_const, kl_i, kl_n, kl_r, kl_l, tl_s, tl_n, List.cons_append, List.nil_append, Int.cast_ofNat_Int, w32_id, w64_id, le_T, le_F, lt_T, lt_F, eq_T, eq_F, reduceIte, ne_eq, Int.toNat_natCast, bi_0, bi_1, bi_b, Nat.reduceAdd, Nat.reduceEqDiff, Int.reduceToNat, Int.reduceNeg, nle_T, nlt_T, neq_T, neq_F, b2_0, b2_b, both, reduceCtorEq, lcm3_eq]
  exact hq
theorem lw_3 (h : RR L xs X Y g I) {i : Nat} (hi : i + 5 ≤ L) (hL : L ≤ 2560) (hk : iAnd (xs i).toInt 31 = 3) (Q : QQ) (hQ : ∀ g' I', RR L xs (X + 30) (Y + 300) g' I' → WP 1000 m_L_law 18 [some (vr (some 0)), some (vr (some 5)), some (vr (some 57)), some (vi ((i : Int) + 5))] [] g' I' Q) : WP 1000 m_L_law 18 [some (vr (some 0)), some (vr (some 5)), some (vr (some 57)), some (vi i)] [] g I Q := by
  obtain ⟨hs, hb, t, dr, A, P, w, n, q, m, hr⟩ := h
  obtain ⟨z, g1, I1, g2, I2, c1, ⟨hs1, hg1⟩, c2, hR⟩ := cs_thing hs hb.1 hr (xs (i + 1)).toInt (xs (i + 2)).toInt
  have k0 : gK g 0 = (5, L) := hs.1
  have e0 : ∀ j, I 0 j = (xs j).toInt := hs.2.2.2.2.1
  have k5 : gK g 5 = (0, 10) := hr.2.2.1.2.1.1
  have k10 : gK g1 0 = (5, L) := hs1.1
  have e10 : ∀ j, I1 0 j = (xs j).toInt := hs1.2.2.2.2.1
  have t1 : ((i : Int) + 1).toNat = i + 1 := by omega
  have t2 : ((i : Int) + 2).toNat = i + 2 := by omega
  have t3 : ((i : Int) + 3).toNat = i + 3 := by omega
  have t4 : ((i : Int) + 4).toNat = i + 4 := by omega
  have hq := hQ g2 I2 (RR_mono hR (by omega) (by omega))
  clear hQ hR hs hs1 hr
  rw [H_L_law_18]
  simp (config := { contextual := true }) (disch := omega) only [R_L_0, R_L_1, R_L_3, R_L_4, R_L_19, k0, e0, hk, k5, c1, k10, e10, hg1, c2, t1, t2, t3, t4, true_and, and_true, true_implies, not_true_eq_false, false_implies, not_false_eq_true, false_and, and_false, or_true, true_or, false_or, or_false, implies_true, forall_const, kl_i, kl_n, kl_r, kl_l, tl_s, tl_n, List.cons_append, List.nil_append, Int.cast_ofNat_Int, w32_id, w64_id, le_T, le_F, lt_T, lt_F, eq_T, eq_F, reduceIte, ne_eq, Int.toNat_natCast, bi_0, bi_1, bi_b, Nat.reduceAdd, Nat.reduceEqDiff, Int.reduceToNat, Int.reduceNeg, nle_T, nlt_T, neq_T, neq_F, b2_0, b2_b, both, reduceCtorEq, lcm3_eq]
  exact hq
theorem lw_4 (h : RR L xs X Y g I) {i : Nat} (hi : i + 5 ≤ L) (hL : L ≤ 2560) (hk : iAnd (xs i).toInt 31 = 4) (Q : QQ) (hQ : ∀ g' I', RR L xs (X + 30) (Y + 300) g' I' → WP 1000 m_L_law 18 [some (vr (some 0)), some (vr (some 5)), some (vr (some 57)), some (vi ((i : Int) + 5))] [] g' I' Q) : WP 1000 m_L_law 18 [some (vr (some 0)), some (vr (some 5)), some (vr (some 57)), some (vi i)] [] g I Q := by
  obtain ⟨hs, hb, t, dr, A, P, w, n, q, m, hr⟩ := h
  obtain ⟨z, g1, I1, g2, I2, c1, ⟨hs1, hg1⟩, c2, hR⟩ := cs_set hs hb.1 hr (xs (i + 1)).toInt (xs (i + 2)).toInt
  have k0 : gK g 0 = (5, L) := hs.1
  have e0 : ∀ j, I 0 j = (xs j).toInt := hs.2.2.2.2.1
  have k5 : gK g 5 = (0, 10) := hr.2.2.1.2.1.1
  have k10 : gK g1 0 = (5, L) := hs1.1
  have e10 : ∀ j, I1 0 j = (xs j).toInt := hs1.2.2.2.2.1
  have t1 : ((i : Int) + 1).toNat = i + 1 := by omega
  have t2 : ((i : Int) + 2).toNat = i + 2 := by omega
  have t3 : ((i : Int) + 3).toNat = i + 3 := by omega
  have t4 : ((i : Int) + 4).toNat = i + 4 := by omega
  have hq := hQ g2 I2 (RR_mono hR (by omega) (by omega))
  clear hQ hR hs hs1 hr
  rw [H_L_law_18]
  simp (config := { contextual := true }) (disch := omega) only [R_L_0, R_L_1, R_L_4, R_L_19, k0, e0, hk, k5, c1, k10, e10, hg1, c2, t1, t2, t3, t4, true_and, and_true, true_implies, not_true_eq_false, false_implies, not_false_eq_true, false_and, and_false, or_true, true_or, false_or, or_false, implies_true, forall_const, kl_i, kl_n, kl_r, kl_l, tl_s, tl_n, List.cons_append, List.nil_append, Int.cast_ofNat_Int, w32_id, w64_id, le_T, le_F, lt_T, lt_F, eq_T, eq_F, reduceIte, ne_eq, Int.toNat_natCast, bi_0, bi_1, bi_b, Nat.reduceAdd, Nat.reduceEqDiff, Int.reduceToNat, Int.reduceNeg, nle_T, nlt_T, neq_T, neq_F, b2_0, b2_b, both, reduceCtorEq, lcm3_eq]
  exact hq
theorem lw_5 (h : RR L xs X Y g I) {i : Nat} (hi : i + 5 ≤ L) (hL : L ≤ 2560) (hk : iAnd (xs i).toInt 31 = 5) (Q : QQ) (hQ : ∀ g' I', RR L xs (X + 30) (Y + 300) g' I' → WP 1000 m_L_law 18 [some (vr (some 0)), some (vr (some 5)), some (vr (some 57)), some (vi ((i : Int) + 5))] [] g' I' Q) : WP 1000 m_L_law 18 [some (vr (some 0)), some (vr (some 5)), some (vr (some 57)), some (vi i)] [] g I Q := by
  obtain ⟨hs, hb, t, dr, A, P, w, n, q, m, hr⟩ := h
  obtain ⟨z, g1, I1, g2, I2, c1, ⟨hs1, hg1⟩, c2, hR⟩ := cs_go hs hb.1 hr (xs (i + 1)).toInt
  have k0 : gK g 0 = (5, L) := hs.1
  have e0 : ∀ j, I 0 j = (xs j).toInt := hs.2.2.2.2.1
  have k5 : gK g 5 = (0, 10) := hr.2.2.1.2.1.1
  have k10 : gK g1 0 = (5, L) := hs1.1
  have e10 : ∀ j, I1 0 j = (xs j).toInt := hs1.2.2.2.2.1
  have t1 : ((i : Int) + 1).toNat = i + 1 := by omega
  have t2 : ((i : Int) + 2).toNat = i + 2 := by omega
  have t3 : ((i : Int) + 3).toNat = i + 3 := by omega
  have t4 : ((i : Int) + 4).toNat = i + 4 := by omega
  have hq := hQ g2 I2 (RR_mono hR (by omega) (by omega))
  clear hQ hR hs hs1 hr
  rw [H_L_law_18]
  simp (config := { contextual := true }) (disch := omega) only [R_L_0, R_L_1, R_L_4, R_L_5, R_L_19, k0, e0, hk, k5, c1, k10, e10, hg1, c2, t1, t2, t3, t4, true_and, and_true, true_implies, not_true_eq_false, false_implies, not_false_eq_true, false_and, and_false, or_true, true_or, false_or, or_false, implies_true, forall_const, kl_i, kl_n, kl_r, kl_l, tl_s, tl_n, List.cons_append, List.nil_append, Int.cast_ofNat_Int, w32_id, w64_id, le_T, le_F, lt_T, lt_F, eq_T, eq_F, reduceIte, ne_eq, Int.toNat_natCast, bi_0, bi_1, bi_b, Nat.reduceAdd, Nat.reduceEqDiff, Int.reduceToNat, Int.reduceNeg, nle_T, nlt_T, neq_T, neq_F, b2_0, b2_b, both, reduceCtorEq, lcm3_eq]
  exact hq
theorem lw_6 (h : RR L xs X Y g I) {i : Nat} (hi : i + 5 ≤ L) (hL : L ≤ 2560) (hk : iAnd (xs i).toInt 31 = 6) (Q : QQ) (hQ : ∀ g' I', RR L xs (X + 30) (Y + 300) g' I' → WP 1000 m_L_law 18 [some (vr (some 0)), some (vr (some 5)), some (vr (some 57)), some (vi ((i : Int) + 5))] [] g' I' Q) : WP 1000 m_L_law 18 [some (vr (some 0)), some (vr (some 5)), some (vr (some 57)), some (vi i)] [] g I Q := by
  obtain ⟨hs, hb, t, dr, A, P, w, n, q, m, hr⟩ := h
  obtain ⟨z, g1, I1, g2, I2, c1, ⟨hs1, hg1⟩, c2, hR⟩ := cs_have hs hb.1 hr (xs (i + 1)).toInt
  have k0 : gK g 0 = (5, L) := hs.1
  have e0 : ∀ j, I 0 j = (xs j).toInt := hs.2.2.2.2.1
  have k5 : gK g 5 = (0, 10) := hr.2.2.1.2.1.1
  have k10 : gK g1 0 = (5, L) := hs1.1
  have e10 : ∀ j, I1 0 j = (xs j).toInt := hs1.2.2.2.2.1
  have t1 : ((i : Int) + 1).toNat = i + 1 := by omega
  have t2 : ((i : Int) + 2).toNat = i + 2 := by omega
  have t3 : ((i : Int) + 3).toNat = i + 3 := by omega
  have t4 : ((i : Int) + 4).toNat = i + 4 := by omega
  have hq := hQ g2 I2 (RR_mono hR (by omega) (by omega))
  clear hQ hR hs hs1 hr
  rw [H_L_law_18]
  simp (config := { contextual := true }) (disch := omega) only [R_L_0, R_L_1, R_L_5, R_L_19, k0, e0, hk, k5, c1, k10, e10, hg1, c2, t1, t2, t3, t4, true_and, and_true, true_implies, not_true_eq_false, false_implies, not_false_eq_true, false_and, and_false, or_true, true_or, false_or, or_false, implies_true, forall_const, kl_i, kl_n, kl_r, kl_l, tl_s, tl_n, List.cons_append, List.nil_append, Int.cast_ofNat_Int, w32_id, w64_id, le_T, le_F, lt_T, lt_F, eq_T, eq_F, reduceIte, ne_eq, Int.toNat_natCast, bi_0, bi_1, bi_b, Nat.reduceAdd, Nat.reduceEqDiff, Int.reduceToNat, Int.reduceNeg, nle_T, nlt_T, neq_T, neq_F, b2_0, b2_b, both, reduceCtorEq, lcm3_eq]
  exact hq
theorem lw_7 (h : RR L xs X Y g I) {i : Nat} (hi : i + 5 ≤ L) (hL : L ≤ 2560) (hk : iAnd (xs i).toInt 31 = 7) (Q : QQ) (hQ : ∀ g' I', RR L xs (X + 30) (Y + 300) g' I' → WP 1000 m_L_law 18 [some (vr (some 0)), some (vr (some 5)), some (vr (some 57)), some (vi ((i : Int) + 5))] [] g' I' Q) : WP 1000 m_L_law 18 [some (vr (some 0)), some (vr (some 5)), some (vr (some 57)), some (vi i)] [] g I Q := by
  obtain ⟨hs, hb, t, dr, A, P, w, n, q, m, hr⟩ := h
  obtain ⟨z, g1, I1, g2, I2, c1, ⟨hs1, hg1⟩, c2, hR⟩ := cs_worthAt hs hb.1 hr (xs (i + 1)).toInt (xs (i + 2)).toInt (xs (i + 3)).toInt
  have k0 : gK g 0 = (5, L) := hs.1
  have e0 : ∀ j, I 0 j = (xs j).toInt := hs.2.2.2.2.1
  have k5 : gK g 5 = (0, 10) := hr.2.2.1.2.1.1
  have k10 : gK g1 0 = (5, L) := hs1.1
  have e10 : ∀ j, I1 0 j = (xs j).toInt := hs1.2.2.2.2.1
  have t1 : ((i : Int) + 1).toNat = i + 1 := by omega
  have t2 : ((i : Int) + 2).toNat = i + 2 := by omega
  have t3 : ((i : Int) + 3).toNat = i + 3 := by omega
  have t4 : ((i : Int) + 4).toNat = i + 4 := by omega
  have hq := hQ g2 I2 (RR_mono hR (by omega) (by omega))
  clear hQ hR hs hs1 hr
  rw [H_L_law_18]
  simp (config := { contextual := true }) (disch := omega) only [R_L_0, R_L_1, R_L_5, R_L_6, R_L_19, k0, e0, hk, k5, c1, k10, e10, hg1, c2, t1, t2, t3, t4, true_and, and_true, true_implies, not_true_eq_false, false_implies, not_false_eq_true, false_and, and_false, or_true, true_or, false_or, or_false, implies_true, forall_const, kl_i, kl_n, kl_r, kl_l, tl_s, tl_n, List.cons_append, List.nil_append, Int.cast_ofNat_Int, w32_id, w64_id, le_T, le_F, lt_T, lt_F, eq_T, eq_F, reduceIte, ne_eq, Int.toNat_natCast, bi_0, bi_1, bi_b, Nat.reduceAdd, Nat.reduceEqDiff, Int.reduceToNat, Int.reduceNeg, nle_T, nlt_T, neq_T, neq_F, b2_0, b2_b, both, reduceCtorEq, lcm3_eq]
  exact hq
theorem lw_8 (h : RR L xs X Y g I) {i : Nat} (hi : i + 5 ≤ L) (hL : L ≤ 2560) (hk : iAnd (xs i).toInt 31 = 8) (Q : QQ) (hQ : ∀ g' I', RR L xs (X + 30) (Y + 300) g' I' → WP 1000 m_L_law 18 [some (vr (some 0)), some (vr (some 5)), some (vr (some 57)), some (vi ((i : Int) + 5))] [] g' I' Q) : WP 1000 m_L_law 18 [some (vr (some 0)), some (vr (some 5)), some (vr (some 57)), some (vi i)] [] g I Q := by
  obtain ⟨hs, hb, t, dr, A, P, w, n, q, m, hr⟩ := h
  obtain ⟨z, g1, I1, g2, I2, c1, ⟨hs1, hg1⟩, c2, hR⟩ := cs_may hs hb.1 hr (xs (i + 1)).toInt
  have k0 : gK g 0 = (5, L) := hs.1
  have e0 : ∀ j, I 0 j = (xs j).toInt := hs.2.2.2.2.1
  have k5 : gK g 5 = (0, 10) := hr.2.2.1.2.1.1
  have k10 : gK g1 0 = (5, L) := hs1.1
  have e10 : ∀ j, I1 0 j = (xs j).toInt := hs1.2.2.2.2.1
  have t1 : ((i : Int) + 1).toNat = i + 1 := by omega
  have t2 : ((i : Int) + 2).toNat = i + 2 := by omega
  have t3 : ((i : Int) + 3).toNat = i + 3 := by omega
  have t4 : ((i : Int) + 4).toNat = i + 4 := by omega
  have hq := hQ g2 I2 (RR_mono hR (by omega) (by omega))
  clear hQ hR hs hs1 hr
  rw [H_L_law_18]
  simp (config := { contextual := true }) (disch := omega) only [R_L_0, R_L_1, R_L_6, R_L_19, k0, e0, hk, k5, c1, k10, e10, hg1, c2, t1, t2, t3, t4, true_and, and_true, true_implies, not_true_eq_false, false_implies, not_false_eq_true, false_and, and_false, or_true, true_or, false_or, or_false, implies_true, forall_const, kl_i, kl_n, kl_r, kl_l, tl_s, tl_n, List.cons_append, List.nil_append, Int.cast_ofNat_Int, w32_id, w64_id, le_T, le_F, lt_T, lt_F, eq_T, eq_F, reduceIte, ne_eq, Int.toNat_natCast, bi_0, bi_1, bi_b, Nat.reduceAdd, Nat.reduceEqDiff, Int.reduceToNat, Int.reduceNeg, nle_T, nlt_T, neq_T, neq_F, b2_0, b2_b, both, reduceCtorEq, lcm3_eq]
  exact hq
theorem lw_9 (h : RR L xs X Y g I) {i : Nat} (hi : i + 5 ≤ L) (hL : L ≤ 2560) (hk : iAnd (xs i).toInt 31 = 9) (Q : QQ) (hQ : ∀ g' I', RR L xs (X + 30) (Y + 300) g' I' → WP 1000 m_L_law 18 [some (vr (some 0)), some (vr (some 5)), some (vr (some 57)), some (vi ((i : Int) + 5))] [] g' I' Q) : WP 1000 m_L_law 18 [some (vr (some 0)), some (vr (some 5)), some (vr (some 57)), some (vi i)] [] g I Q := by
  obtain ⟨hs, hb, t, dr, A, P, w, n, q, m, hr⟩ := h
  obtain ⟨z, g1, I1, g2, I2, c1, ⟨hs1, hg1⟩, c2, hR⟩ := cs_life hs hb.1 hr (xs (i + 1)).toInt
  have k0 : gK g 0 = (5, L) := hs.1
  have e0 : ∀ j, I 0 j = (xs j).toInt := hs.2.2.2.2.1
  have k5 : gK g 5 = (0, 10) := hr.2.2.1.2.1.1
  have k10 : gK g1 0 = (5, L) := hs1.1
  have e10 : ∀ j, I1 0 j = (xs j).toInt := hs1.2.2.2.2.1
  have t1 : ((i : Int) + 1).toNat = i + 1 := by omega
  have t2 : ((i : Int) + 2).toNat = i + 2 := by omega
  have t3 : ((i : Int) + 3).toNat = i + 3 := by omega
  have t4 : ((i : Int) + 4).toNat = i + 4 := by omega
  have hq := hQ g2 I2 (RR_mono hR (by omega) (by omega))
  clear hQ hR hs hs1 hr
  rw [H_L_law_18]
  simp (config := { contextual := true }) (disch := omega) only [R_L_0, R_L_1, R_L_6, R_L_7, R_L_19, k0, e0, hk, k5, c1, k10, e10, hg1, c2, t1, t2, t3, t4, true_and, and_true, true_implies, not_true_eq_false, false_implies, not_false_eq_true, false_and, and_false, or_true, true_or, false_or, or_false, implies_true, forall_const, kl_i, kl_n, kl_r, kl_l, tl_s, tl_n, List.cons_append, List.nil_append, Int.cast_ofNat_Int, w32_id, w64_id, le_T, le_F, lt_T, lt_F, eq_T, eq_F, reduceIte, ne_eq, Int.toNat_natCast, bi_0, bi_1, bi_b, Nat.reduceAdd, Nat.reduceEqDiff, Int.reduceToNat, Int.reduceNeg, nle_T, nlt_T, neq_T, neq_F, b2_0, b2_b, both, reduceCtorEq, lcm3_eq]
  exact hq
theorem lw_10 (h : RR L xs X Y g I) {i : Nat} (hi : i + 5 ≤ L) (hL : L ≤ 2560) (hk : iAnd (xs i).toInt 31 = 10) (Q : QQ) (hQ : ∀ g' I', RR L xs (X + 30) (Y + 300) g' I' → WP 1000 m_L_law 18 [some (vr (some 0)), some (vr (some 5)), some (vr (some 57)), some (vi ((i : Int) + 5))] [] g' I' Q) : WP 1000 m_L_law 18 [some (vr (some 0)), some (vr (some 5)), some (vr (some 57)), some (vi i)] [] g I Q := by
  obtain ⟨hs, hb, t, dr, A, P, w, n, q, m, hr⟩ := h
  obtain ⟨z, g1, I1, g2, I2, c1, ⟨hs1, hg1⟩, c2, hR⟩ := cs_nextLife hs hb.1 hr
  have k0 : gK g 0 = (5, L) := hs.1
  have e0 : ∀ j, I 0 j = (xs j).toInt := hs.2.2.2.2.1
  have k5 : gK g 5 = (0, 10) := hr.2.2.1.2.1.1
  have k10 : gK g1 0 = (5, L) := hs1.1
  have e10 : ∀ j, I1 0 j = (xs j).toInt := hs1.2.2.2.2.1
  have t1 : ((i : Int) + 1).toNat = i + 1 := by omega
  have t2 : ((i : Int) + 2).toNat = i + 2 := by omega
  have t3 : ((i : Int) + 3).toNat = i + 3 := by omega
  have t4 : ((i : Int) + 4).toNat = i + 4 := by omega
  have hq := hQ g2 I2 (RR_mono hR (by omega) (by omega))
  clear hQ hR hs hs1 hr
  rw [H_L_law_18]
  simp (config := { contextual := true }) (disch := omega) only [R_L_0, R_L_1, R_L_7, R_L_19, k0, e0, hk, k5, c1, k10, e10, hg1, c2, t1, t2, t3, t4, true_and, and_true, true_implies, not_true_eq_false, false_implies, not_false_eq_true, false_and, and_false, or_true, true_or, false_or, or_false, implies_true, forall_const, kl_i, kl_n, kl_r, kl_l, tl_s, tl_n, List.cons_append, List.nil_append, Int.cast_ofNat_Int, w32_id, w64_id, le_T, le_F, lt_T, lt_F, eq_T, eq_F, reduceIte, ne_eq, Int.toNat_natCast, bi_0, bi_1, bi_b, Nat.reduceAdd, Nat.reduceEqDiff, Int.reduceToNat, Int.reduceNeg, nle_T, nlt_T, neq_T, neq_F, b2_0, b2_b, both, reduceCtorEq, lcm3_eq]
  exact hq
theorem lw_11 (h : RR L xs X Y g I) {i : Nat} (hi : i + 5 ≤ L) (hL : L ≤ 2560) (hk : iAnd (xs i).toInt 31 = 11) (Q : QQ) (hQ : ∀ g' I', RR L xs (X + 30) (Y + 300) g' I' → WP 1000 m_L_law 18 [some (vr (some 0)), some (vr (some 5)), some (vr (some 57)), some (vi ((i : Int) + 5))] [] g' I' Q) : WP 1000 m_L_law 18 [some (vr (some 0)), some (vr (some 5)), some (vr (some 57)), some (vi i)] [] g I Q := by
  obtain ⟨hs, hb, t, dr, A, P, w, n, q, m, hr⟩ := h
  obtain ⟨z, g1, I1, g2, I2, c1, ⟨hs1, hg1⟩, c2, hR⟩ := cs_order hs hb.1 hr (xs (i + 1)).toInt (lOr (lShl (xs (i + 2)).toInt 32) (lAnd (xs (i + 3)).toInt 4294967295)) (r64_toInt _)
  have k0 : gK g 0 = (5, L) := hs.1
  have e0 : ∀ j, I 0 j = (xs j).toInt := hs.2.2.2.2.1
  have k5 : gK g 5 = (0, 10) := hr.2.2.1.2.1.1
  have k10 : gK g1 0 = (5, L) := hs1.1
  have e10 : ∀ j, I1 0 j = (xs j).toInt := hs1.2.2.2.2.1
  have t1 : ((i : Int) + 1).toNat = i + 1 := by omega
  have t2 : ((i : Int) + 2).toNat = i + 2 := by omega
  have t3 : ((i : Int) + 3).toNat = i + 3 := by omega
  have t4 : ((i : Int) + 4).toNat = i + 4 := by omega
  have hq := hQ g2 I2 (RR_mono hR (by omega) (by omega))
  clear hQ hR hs hs1 hr
  rw [H_L_law_18]
  simp (config := { contextual := true }) (disch := omega) only [R_L_0, R_L_1, R_L_7, R_L_8, R_L_19, k0, e0, hk, k5, c1, k10, e10, hg1, c2, t1, t2, t3, t4, true_and, and_true, true_implies, not_true_eq_false, false_implies, not_false_eq_true, false_and, and_false, or_true, true_or, false_or, or_false, implies_true, forall_const, kl_i, kl_n, kl_r, kl_l, tl_s, tl_n, List.cons_append, List.nil_append, Int.cast_ofNat_Int, w32_id, w64_id, le_T, le_F, lt_T, lt_F, eq_T, eq_F, reduceIte, ne_eq, Int.toNat_natCast, bi_0, bi_1, bi_b, Nat.reduceAdd, Nat.reduceEqDiff, Int.reduceToNat, Int.reduceNeg, nle_T, nlt_T, neq_T, neq_F, b2_0, b2_b, both, reduceCtorEq, lcm3_eq]
  exact hq
theorem lw_12 (h : RR L xs X Y g I) {i : Nat} (hi : i + 5 ≤ L) (hL : L ≤ 2560) (hk : iAnd (xs i).toInt 31 = 12) (Q : QQ) (hQ : ∀ g' I', RR L xs (X + 30) (Y + 300) g' I' → WP 1000 m_L_law 18 [some (vr (some 0)), some (vr (some 5)), some (vr (some 57)), some (vi ((i : Int) + 5))] [] g' I' Q) : WP 1000 m_L_law 18 [some (vr (some 0)), some (vr (some 5)), some (vr (some 57)), some (vi i)] [] g I Q := by
  obtain ⟨hs, hb, t, dr, A, P, w, n, q, m, hr⟩ := h
  obtain ⟨z, g1, I1, g2, I2, c1, ⟨hs1, hg1⟩, c2, hR⟩ := cs_lived hs hb.1 hr (xs (i + 1)).toInt (xs (i + 2)).toInt
  have k0 : gK g 0 = (5, L) := hs.1
  have e0 : ∀ j, I 0 j = (xs j).toInt := hs.2.2.2.2.1
  have k5 : gK g 5 = (0, 10) := hr.2.2.1.2.1.1
  have k10 : gK g1 0 = (5, L) := hs1.1
  have e10 : ∀ j, I1 0 j = (xs j).toInt := hs1.2.2.2.2.1
  have t1 : ((i : Int) + 1).toNat = i + 1 := by omega
  have t2 : ((i : Int) + 2).toNat = i + 2 := by omega
  have t3 : ((i : Int) + 3).toNat = i + 3 := by omega
  have t4 : ((i : Int) + 4).toNat = i + 4 := by omega
  have hq := hQ g2 I2 (RR_mono hR (by omega) (by omega))
  clear hQ hR hs hs1 hr
  rw [H_L_law_18]
  simp (config := { contextual := true }) (disch := omega) only [R_L_0, R_L_1, R_L_8, R_L_9, R_L_19, k0, e0, hk, k5, c1, k10, e10, hg1, c2, t1, t2, t3, t4, true_and, and_true, true_implies, not_true_eq_false, false_implies, not_false_eq_true, false_and, and_false, or_true, true_or, false_or, or_false, implies_true, forall_const, kl_i, kl_n, kl_r, kl_l, tl_s, tl_n, List.cons_append, List.nil_append, Int.cast_ofNat_Int, w32_id, w64_id, le_T, le_F, lt_T, lt_F, eq_T, eq_F, reduceIte, ne_eq, Int.toNat_natCast, bi_0, bi_1, bi_b, Nat.reduceAdd, Nat.reduceEqDiff, Int.reduceToNat, Int.reduceNeg, nle_T, nlt_T, neq_T, neq_F, b2_0, b2_b, both, reduceCtorEq, lcm3_eq]
  exact hq
theorem lw_13 (h : RR L xs X Y g I) {i : Nat} (hi : i + 5 ≤ L) (hL : L ≤ 2560) (hk : iAnd (xs i).toInt 31 = 13) (Q : QQ) (hQ : ∀ g' I', RR L xs (X + 30) (Y + 300) g' I' → WP 1000 m_L_law 18 [some (vr (some 0)), some (vr (some 5)), some (vr (some 57)), some (vi ((i : Int) + 5))] [] g' I' Q) : WP 1000 m_L_law 18 [some (vr (some 0)), some (vr (some 5)), some (vr (some 57)), some (vi i)] [] g I Q := by
  obtain ⟨hs, hb, t, dr, A, P, w, n, q, m, hr⟩ := h
  obtain ⟨z, g1, I1, g2, I2, c1, ⟨hs1, hg1⟩, c2, hR⟩ := cs_best hs hb.1 hr (xs (i + 1)).toInt (r32_toInt _)
  have k0 : gK g 0 = (5, L) := hs.1
  have e0 : ∀ j, I 0 j = (xs j).toInt := hs.2.2.2.2.1
  have k5 : gK g 5 = (0, 10) := hr.2.2.1.2.1.1
  have k10 : gK g1 0 = (5, L) := hs1.1
  have e10 : ∀ j, I1 0 j = (xs j).toInt := hs1.2.2.2.2.1
  have t1 : ((i : Int) + 1).toNat = i + 1 := by omega
  have t2 : ((i : Int) + 2).toNat = i + 2 := by omega
  have t3 : ((i : Int) + 3).toNat = i + 3 := by omega
  have t4 : ((i : Int) + 4).toNat = i + 4 := by omega
  have hq := hQ g2 I2 (RR_mono hR (by omega) (by omega))
  clear hQ hR hs hs1 hr
  rw [H_L_law_18]
  simp (config := { contextual := true }) (disch := omega) only [R_L_0, R_L_1, R_L_9, R_L_19, k0, e0, hk, k5, c1, k10, e10, hg1, c2, t1, t2, t3, t4, true_and, and_true, true_implies, not_true_eq_false, false_implies, not_false_eq_true, false_and, and_false, or_true, true_or, false_or, or_false, implies_true, forall_const, kl_i, kl_n, kl_r, kl_l, tl_s, tl_n, List.cons_append, List.nil_append, Int.cast_ofNat_Int, w32_id, w64_id, le_T, le_F, lt_T, lt_F, eq_T, eq_F, reduceIte, ne_eq, Int.toNat_natCast, bi_0, bi_1, bi_b, Nat.reduceAdd, Nat.reduceEqDiff, Int.reduceToNat, Int.reduceNeg, nle_T, nlt_T, neq_T, neq_F, b2_0, b2_b, both, reduceCtorEq, lcm3_eq]
  exact hq
theorem lw_14 (h : RR L xs X Y g I) {i : Nat} (hi : i + 5 ≤ L) (hL : L ≤ 2560) (hk : iAnd (xs i).toInt 31 = 14) (Q : QQ) (hQ : ∀ g' I', RR L xs (X + 30) (Y + 300) g' I' → WP 1000 m_L_law 18 [some (vr (some 0)), some (vr (some 5)), some (vr (some 57)), some (vi ((i : Int) + 5))] [] g' I' Q) : WP 1000 m_L_law 18 [some (vr (some 0)), some (vr (some 5)), some (vr (some 57)), some (vi i)] [] g I Q := by
  obtain ⟨hs, hb, t, dr, A, P, w, n, q, m, hr⟩ := h
  obtain ⟨z, g1, I1, g2, I2, c1, ⟨hs1, hg1⟩, c2, hR⟩ := cs_house hs hb.1 hr
  have k0 : gK g 0 = (5, L) := hs.1
  have e0 : ∀ j, I 0 j = (xs j).toInt := hs.2.2.2.2.1
  have k5 : gK g 5 = (0, 10) := hr.2.2.1.2.1.1
  have k10 : gK g1 0 = (5, L) := hs1.1
  have e10 : ∀ j, I1 0 j = (xs j).toInt := hs1.2.2.2.2.1
  have t1 : ((i : Int) + 1).toNat = i + 1 := by omega
  have t2 : ((i : Int) + 2).toNat = i + 2 := by omega
  have t3 : ((i : Int) + 3).toNat = i + 3 := by omega
  have t4 : ((i : Int) + 4).toNat = i + 4 := by omega
  have hq := hQ g2 I2 (RR_mono hR (by omega) (by omega))
  clear hQ hR hs hs1 hr
  rw [H_L_law_18]
  simp (config := { contextual := true }) (disch := omega) only [R_L_0, R_L_1, R_L_9, R_L_10, R_L_19, k0, e0, hk, k5, c1, k10, e10, hg1, c2, t1, t2, t3, t4, true_and, and_true, true_implies, not_true_eq_false, false_implies, not_false_eq_true, false_and, and_false, or_true, true_or, false_or, or_false, implies_true, forall_const, kl_i, kl_n, kl_r, kl_l, tl_s, tl_n, List.cons_append, List.nil_append, Int.cast_ofNat_Int, w32_id, w64_id, le_T, le_F, lt_T, lt_F, eq_T, eq_F, reduceIte, ne_eq, Int.toNat_natCast, bi_0, bi_1, bi_b, Nat.reduceAdd, Nat.reduceEqDiff, Int.reduceToNat, Int.reduceNeg, nle_T, nlt_T, neq_T, neq_F, b2_0, b2_b, both, reduceCtorEq, lcm3_eq]
  exact hq
theorem lw_15 (h : RR L xs X Y g I) {i : Nat} (hi : i + 5 ≤ L) (hL : L ≤ 2560) (hk : iAnd (xs i).toInt 31 = 15) (Q : QQ) (hQ : ∀ g' I', RR L xs (X + 30) (Y + 300) g' I' → WP 1000 m_L_law 18 [some (vr (some 0)), some (vr (some 5)), some (vr (some 57)), some (vi ((i : Int) + 5))] [] g' I' Q) : WP 1000 m_L_law 18 [some (vr (some 0)), some (vr (some 5)), some (vr (some 57)), some (vi i)] [] g I Q := by
  obtain ⟨hs, hb, t, dr, A, P, w, n, q, m, hr⟩ := h
  obtain ⟨z, g1, I1, g2, I2, c1, ⟨hs1, hg1⟩, c2, hR⟩ := cs_call hs hb.1 hr (xs (i + 1)).toInt (xs (i + 2)).toInt (xs (i + 3)).toInt
  have k0 : gK g 0 = (5, L) := hs.1
  have e0 : ∀ j, I 0 j = (xs j).toInt := hs.2.2.2.2.1
  have k5 : gK g 5 = (0, 10) := hr.2.2.1.2.1.1
  have k10 : gK g1 0 = (5, L) := hs1.1
  have e10 : ∀ j, I1 0 j = (xs j).toInt := hs1.2.2.2.2.1
  have t1 : ((i : Int) + 1).toNat = i + 1 := by omega
  have t2 : ((i : Int) + 2).toNat = i + 2 := by omega
  have t3 : ((i : Int) + 3).toNat = i + 3 := by omega
  have t4 : ((i : Int) + 4).toNat = i + 4 := by omega
  have hq := hQ g2 I2 (RR_mono hR (by omega) (by omega))
  clear hQ hR hs hs1 hr
  rw [H_L_law_18]
  simp (config := { contextual := true }) (disch := omega) only [R_L_0, R_L_1, R_L_10, R_L_11, R_L_19, k0, e0, hk, k5, c1, k10, e10, hg1, c2, t1, t2, t3, t4, true_and, and_true, true_implies, not_true_eq_false, false_implies, not_false_eq_true, false_and, and_false, or_true, true_or, false_or, or_false, implies_true, forall_const, kl_i, kl_n, kl_r, kl_l, tl_s, tl_n, List.cons_append, List.nil_append, Int.cast_ofNat_Int, w32_id, w64_id, le_T, le_F, lt_T, lt_F, eq_T, eq_F, reduceIte, ne_eq, Int.toNat_natCast, bi_0, bi_1, bi_b, Nat.reduceAdd, Nat.reduceEqDiff, Int.reduceToNat, Int.reduceNeg, nle_T, nlt_T, neq_T, neq_F, b2_0, b2_b, both, reduceCtorEq, lcm3_eq]
  exact hq
theorem lw_16 (h : RR L xs X Y g I) {i : Nat} (hi : i + 5 ≤ L) (hL : L ≤ 2560) (hk : iAnd (xs i).toInt 31 = 16) (Q : QQ) (hQ : ∀ g' I', RR L xs (X + 30) (Y + 300) g' I' → WP 1000 m_L_law 18 [some (vr (some 0)), some (vr (some 5)), some (vr (some 57)), some (vi ((i : Int) + 5))] [] g' I' Q) : WP 1000 m_L_law 18 [some (vr (some 0)), some (vr (some 5)), some (vr (some 57)), some (vi i)] [] g I Q := by
  obtain ⟨hs, hb, t, dr, A, P, w, n, q, m, hr⟩ := h
  obtain ⟨z, g1, I1, g2, I2, c1, ⟨hs1, hg1⟩, c2, hR⟩ := cs_calls hs hb.1 hr (xs (i + 1)).toInt (xs (i + 2)).toInt (xs (i + 3)).toInt
  have k0 : gK g 0 = (5, L) := hs.1
  have e0 : ∀ j, I 0 j = (xs j).toInt := hs.2.2.2.2.1
  have k5 : gK g 5 = (0, 10) := hr.2.2.1.2.1.1
  have k10 : gK g1 0 = (5, L) := hs1.1
  have e10 : ∀ j, I1 0 j = (xs j).toInt := hs1.2.2.2.2.1
  have t1 : ((i : Int) + 1).toNat = i + 1 := by omega
  have t2 : ((i : Int) + 2).toNat = i + 2 := by omega
  have t3 : ((i : Int) + 3).toNat = i + 3 := by omega
  have t4 : ((i : Int) + 4).toNat = i + 4 := by omega
  have hq := hQ g2 I2 (RR_mono hR (by omega) (by omega))
  clear hQ hR hs hs1 hr
  rw [H_L_law_18]
  simp (config := { contextual := true }) (disch := omega) only [R_L_0, R_L_1, R_L_11, R_L_19, k0, e0, hk, k5, c1, k10, e10, hg1, c2, t1, t2, t3, t4, true_and, and_true, true_implies, not_true_eq_false, false_implies, not_false_eq_true, false_and, and_false, or_true, true_or, false_or, or_false, implies_true, forall_const, kl_i, kl_n, kl_r, kl_l, tl_s, tl_n, List.cons_append, List.nil_append, Int.cast_ofNat_Int, w32_id, w64_id, le_T, le_F, lt_T, lt_F, eq_T, eq_F, reduceIte, ne_eq, Int.toNat_natCast, bi_0, bi_1, bi_b, Nat.reduceAdd, Nat.reduceEqDiff, Int.reduceToNat, Int.reduceNeg, nle_T, nlt_T, neq_T, neq_F, b2_0, b2_b, both, reduceCtorEq, lcm3_eq]
  exact hq
theorem lw_17 (h : RR L xs X Y g I) {i : Nat} (hi : i + 5 ≤ L) (hL : L ≤ 2560) (hk : iAnd (xs i).toInt 31 = 17) (Q : QQ) (hQ : ∀ g' I', RR L xs (X + 30) (Y + 300) g' I' → WP 1000 m_L_law 18 [some (vr (some 0)), some (vr (some 5)), some (vr (some 57)), some (vi ((i : Int) + 5))] [] g' I' Q) : WP 1000 m_L_law 18 [some (vr (some 0)), some (vr (some 5)), some (vr (some 57)), some (vi i)] [] g I Q := by
  obtain ⟨hs, hb, t, dr, A, P, w, n, q, m, hr⟩ := h
  obtain ⟨z, g1, I1, g2, I2, c1, ⟨hs1, hg1⟩, c2, hR⟩ := cs_goes hs hb.1 hr (xs (i + 1)).toInt (xs (i + 2)).toInt (xs (i + 3)).toInt
  have k0 : gK g 0 = (5, L) := hs.1
  have e0 : ∀ j, I 0 j = (xs j).toInt := hs.2.2.2.2.1
  have k5 : gK g 5 = (0, 10) := hr.2.2.1.2.1.1
  have k10 : gK g1 0 = (5, L) := hs1.1
  have e10 : ∀ j, I1 0 j = (xs j).toInt := hs1.2.2.2.2.1
  have t1 : ((i : Int) + 1).toNat = i + 1 := by omega
  have t2 : ((i : Int) + 2).toNat = i + 2 := by omega
  have t3 : ((i : Int) + 3).toNat = i + 3 := by omega
  have t4 : ((i : Int) + 4).toNat = i + 4 := by omega
  have hq := hQ g2 I2 (RR_mono hR (by omega) (by omega))
  clear hQ hR hs hs1 hr
  rw [H_L_law_18]
  simp (config := { contextual := true }) (disch := omega) only [R_L_0, R_L_1, R_L_11, R_L_12, R_L_19, k0, e0, hk, k5, c1, k10, e10, hg1, c2, t1, t2, t3, t4, true_and, and_true, true_implies, not_true_eq_false, false_implies, not_false_eq_true, false_and, and_false, or_true, true_or, false_or, or_false, implies_true, forall_const, kl_i, kl_n, kl_r, kl_l, tl_s, tl_n, List.cons_append, List.nil_append, Int.cast_ofNat_Int, w32_id, w64_id, le_T, le_F, lt_T, lt_F, eq_T, eq_F, reduceIte, ne_eq, Int.toNat_natCast, bi_0, bi_1, bi_b, Nat.reduceAdd, Nat.reduceEqDiff, Int.reduceToNat, Int.reduceNeg, nle_T, nlt_T, neq_T, neq_F, b2_0, b2_b, both, reduceCtorEq, lcm3_eq]
  exact hq
theorem lw_18 (h : RR L xs X Y g I) {i : Nat} (hi : i + 5 ≤ L) (hL : L ≤ 2560) (hk : iAnd (xs i).toInt 31 = 18) (Q : QQ) (hQ : ∀ g' I', RR L xs (X + 30) (Y + 300) g' I' → WP 1000 m_L_law 18 [some (vr (some 0)), some (vr (some 5)), some (vr (some 57)), some (vi ((i : Int) + 5))] [] g' I' Q) : WP 1000 m_L_law 18 [some (vr (some 0)), some (vr (some 5)), some (vr (some 57)), some (vi i)] [] g I Q := by
  obtain ⟨hs, hb, t, dr, A, P, w, n, q, m, hr⟩ := h
  obtain ⟨z, g1, I1, g2, I2, c1, ⟨hs1, hg1⟩, c2, hR⟩ := cs_together hs hb.1 hr (xs (i + 1)).toInt (xs (i + 2)).toInt
  have k0 : gK g 0 = (5, L) := hs.1
  have e0 : ∀ j, I 0 j = (xs j).toInt := hs.2.2.2.2.1
  have k5 : gK g 5 = (0, 10) := hr.2.2.1.2.1.1
  have k10 : gK g1 0 = (5, L) := hs1.1
  have e10 : ∀ j, I1 0 j = (xs j).toInt := hs1.2.2.2.2.1
  have t1 : ((i : Int) + 1).toNat = i + 1 := by omega
  have t2 : ((i : Int) + 2).toNat = i + 2 := by omega
  have t3 : ((i : Int) + 3).toNat = i + 3 := by omega
  have t4 : ((i : Int) + 4).toNat = i + 4 := by omega
  have hq := hQ g2 I2 (RR_mono hR (by omega) (by omega))
  clear hQ hR hs hs1 hr
  rw [H_L_law_18]
  simp (config := { contextual := true }) (disch := omega) only [R_L_0, R_L_1, R_L_12, R_L_13, R_L_19, k0, e0, hk, k5, c1, k10, e10, hg1, c2, t1, t2, t3, t4, true_and, and_true, true_implies, not_true_eq_false, false_implies, not_false_eq_true, false_and, and_false, or_true, true_or, false_or, or_false, implies_true, forall_const, kl_i, kl_n, kl_r, kl_l, tl_s, tl_n, List.cons_append, List.nil_append, Int.cast_ofNat_Int, w32_id, w64_id, le_T, le_F, lt_T, lt_F, eq_T, eq_F, reduceIte, ne_eq, Int.toNat_natCast, bi_0, bi_1, bi_b, Nat.reduceAdd, Nat.reduceEqDiff, Int.reduceToNat, Int.reduceNeg, nle_T, nlt_T, neq_T, neq_F, b2_0, b2_b, both, reduceCtorEq, lcm3_eq]
  exact hq
theorem lw_19 (h : RR L xs X Y g I) {i : Nat} (hi : i + 5 ≤ L) (hL : L ≤ 2560) (hk : iAnd (xs i).toInt 31 = 19) (Q : QQ) (hQ : ∀ g' I', RR L xs (X + 30) (Y + 300) g' I' → WP 1000 m_L_law 18 [some (vr (some 0)), some (vr (some 5)), some (vr (some 57)), some (vi ((i : Int) + 5))] [] g' I' Q) : WP 1000 m_L_law 18 [some (vr (some 0)), some (vr (some 5)), some (vr (some 57)), some (vi i)] [] g I Q := by
  obtain ⟨hs, hb, t, dr, A, P, w, n, q, m, hr⟩ := h
  obtain ⟨z, g1, I1, g2, I2, c1, ⟨hs1, hg1⟩, c2, hR⟩ := cs_child hs hb.1 hr (xs (i + 1)).toInt (xs (i + 2)).toInt (xs (i + 3)).toInt
  have k0 : gK g 0 = (5, L) := hs.1
  have e0 : ∀ j, I 0 j = (xs j).toInt := hs.2.2.2.2.1
  have k5 : gK g 5 = (0, 10) := hr.2.2.1.2.1.1
  have k10 : gK g1 0 = (5, L) := hs1.1
  have e10 : ∀ j, I1 0 j = (xs j).toInt := hs1.2.2.2.2.1
  have t1 : ((i : Int) + 1).toNat = i + 1 := by omega
  have t2 : ((i : Int) + 2).toNat = i + 2 := by omega
  have t3 : ((i : Int) + 3).toNat = i + 3 := by omega
  have t4 : ((i : Int) + 4).toNat = i + 4 := by omega
  have hq := hQ g2 I2 (RR_mono hR (by omega) (by omega))
  clear hQ hR hs hs1 hr
  rw [H_L_law_18]
  simp (config := { contextual := true }) (disch := omega) only [R_L_0, R_L_1, R_L_13, R_L_14, R_L_19, k0, e0, hk, k5, c1, k10, e10, hg1, c2, t1, t2, t3, t4, true_and, and_true, true_implies, not_true_eq_false, false_implies, not_false_eq_true, false_and, and_false, or_true, true_or, false_or, or_false, implies_true, forall_const, kl_i, kl_n, kl_r, kl_l, tl_s, tl_n, List.cons_append, List.nil_append, Int.cast_ofNat_Int, w32_id, w64_id, le_T, le_F, lt_T, lt_F, eq_T, eq_F, reduceIte, ne_eq, Int.toNat_natCast, bi_0, bi_1, bi_b, Nat.reduceAdd, Nat.reduceEqDiff, Int.reduceToNat, Int.reduceNeg, nle_T, nlt_T, neq_T, neq_F, b2_0, b2_b, both, reduceCtorEq, lcm3_eq]
  exact hq
theorem lw_20 (h : RR L xs X Y g I) {i : Nat} (hi : i + 5 ≤ L) (hL : L ≤ 2560) (hk : iAnd (xs i).toInt 31 = 20) (Q : QQ) (hQ : ∀ g' I', RR L xs (X + 30) (Y + 300) g' I' → WP 1000 m_L_law 18 [some (vr (some 0)), some (vr (some 5)), some (vr (some 57)), some (vi ((i : Int) + 5))] [] g' I' Q) : WP 1000 m_L_law 18 [some (vr (some 0)), some (vr (some 5)), some (vr (some 57)), some (vi i)] [] g I Q := by
  obtain ⟨hs, hb, t, dr, A, P, w, n, q, m, hr⟩ := h
  obtain ⟨z, g1, I1, g2, I2, c1, ⟨hs1, hg1⟩, c2, hR⟩ := cs_person hs hb.1 hr (xs (i + 1)).toInt (xs (i + 2)).toInt
  have k0 : gK g 0 = (5, L) := hs.1
  have e0 : ∀ j, I 0 j = (xs j).toInt := hs.2.2.2.2.1
  have k5 : gK g 5 = (0, 10) := hr.2.2.1.2.1.1
  have k10 : gK g1 0 = (5, L) := hs1.1
  have e10 : ∀ j, I1 0 j = (xs j).toInt := hs1.2.2.2.2.1
  have t1 : ((i : Int) + 1).toNat = i + 1 := by omega
  have t2 : ((i : Int) + 2).toNat = i + 2 := by omega
  have t3 : ((i : Int) + 3).toNat = i + 3 := by omega
  have t4 : ((i : Int) + 4).toNat = i + 4 := by omega
  have hq := hQ g2 I2 (RR_mono hR (by omega) (by omega))
  clear hQ hR hs hs1 hr
  rw [H_L_law_18]
  simp (config := { contextual := true }) (disch := omega) only [R_L_0, R_L_1, R_L_14, R_L_15, R_L_19, k0, e0, hk, k5, c1, k10, e10, hg1, c2, t1, t2, t3, t4, true_and, and_true, true_implies, not_true_eq_false, false_implies, not_false_eq_true, false_and, and_false, or_true, true_or, false_or, or_false, implies_true, forall_const, kl_i, kl_n, kl_r, kl_l, tl_s, tl_n, List.cons_append, List.nil_append, Int.cast_ofNat_Int, w32_id, w64_id, le_T, le_F, lt_T, lt_F, eq_T, eq_F, reduceIte, ne_eq, Int.toNat_natCast, bi_0, bi_1, bi_b, Nat.reduceAdd, Nat.reduceEqDiff, Int.reduceToNat, Int.reduceNeg, nle_T, nlt_T, neq_T, neq_F, b2_0, b2_b, both, reduceCtorEq, lcm3_eq]
  exact hq
theorem lw_21 (h : RR L xs X Y g I) {i : Nat} (hi : i + 5 ≤ L) (hL : L ≤ 2560) (hk : iAnd (xs i).toInt 31 = 21) (Q : QQ) (hQ : ∀ g' I', RR L xs (X + 30) (Y + 300) g' I' → WP 1000 m_L_law 18 [some (vr (some 0)), some (vr (some 5)), some (vr (some 57)), some (vi ((i : Int) + 5))] [] g' I' Q) : WP 1000 m_L_law 18 [some (vr (some 0)), some (vr (some 5)), some (vr (some 57)), some (vi i)] [] g I Q := by
  obtain ⟨hs, hb, t, dr, A, P, w, n, q, m, hr⟩ := h
  obtain ⟨z, g1, I1, g2, I2, c1, ⟨hs1, hg1⟩, c2, hR⟩ := cs_send hs hb.1 hr (xs (i + 1)).toInt (xs (i + 2)).toInt
  have k0 : gK g 0 = (5, L) := hs.1
  have e0 : ∀ j, I 0 j = (xs j).toInt := hs.2.2.2.2.1
  have k5 : gK g 5 = (0, 10) := hr.2.2.1.2.1.1
  have k10 : gK g1 0 = (5, L) := hs1.1
  have e10 : ∀ j, I1 0 j = (xs j).toInt := hs1.2.2.2.2.1
  have t1 : ((i : Int) + 1).toNat = i + 1 := by omega
  have t2 : ((i : Int) + 2).toNat = i + 2 := by omega
  have t3 : ((i : Int) + 3).toNat = i + 3 := by omega
  have t4 : ((i : Int) + 4).toNat = i + 4 := by omega
  have hq := hQ g2 I2 (RR_mono hR (by omega) (by omega))
  clear hQ hR hs hs1 hr
  rw [H_L_law_18]
  simp (config := { contextual := true }) (disch := omega) only [R_L_0, R_L_1, R_L_15, R_L_19, k0, e0, hk, k5, c1, k10, e10, hg1, c2, t1, t2, t3, t4, true_and, and_true, true_implies, not_true_eq_false, false_implies, not_false_eq_true, false_and, and_false, or_true, true_or, false_or, or_false, implies_true, forall_const, kl_i, kl_n, kl_r, kl_l, tl_s, tl_n, List.cons_append, List.nil_append, Int.cast_ofNat_Int, w32_id, w64_id, le_T, le_F, lt_T, lt_F, eq_T, eq_F, reduceIte, ne_eq, Int.toNat_natCast, bi_0, bi_1, bi_b, Nat.reduceAdd, Nat.reduceEqDiff, Int.reduceToNat, Int.reduceNeg, nle_T, nlt_T, neq_T, neq_F, b2_0, b2_b, both, reduceCtorEq, lcm3_eq]
  exact hq
theorem lw_22 (h : RR L xs X Y g I) {i : Nat} (hi : i + 5 ≤ L) (hL : L ≤ 2560) (hk : iAnd (xs i).toInt 31 = 22) (Q : QQ) (hQ : ∀ g' I', RR L xs (X + 30) (Y + 300) g' I' → WP 1000 m_L_law 18 [some (vr (some 0)), some (vr (some 5)), some (vr (some 57)), some (vi ((i : Int) + 5))] [] g' I' Q) : WP 1000 m_L_law 18 [some (vr (some 0)), some (vr (some 5)), some (vr (some 57)), some (vi i)] [] g I Q := by
  obtain ⟨hs, hb, t, dr, A, P, w, n, q, m, hr⟩ := h
  obtain ⟨z, g1, I1, g2, I2, c1, ⟨hs1, hg1⟩, c2, hR⟩ := cs_wells hs hb.1 hr (xs (i + 1)).toInt
  have k0 : gK g 0 = (5, L) := hs.1
  have e0 : ∀ j, I 0 j = (xs j).toInt := hs.2.2.2.2.1
  have k5 : gK g 5 = (0, 10) := hr.2.2.1.2.1.1
  have k10 : gK g1 0 = (5, L) := hs1.1
  have e10 : ∀ j, I1 0 j = (xs j).toInt := hs1.2.2.2.2.1
  have t1 : ((i : Int) + 1).toNat = i + 1 := by omega
  have t2 : ((i : Int) + 2).toNat = i + 2 := by omega
  have t3 : ((i : Int) + 3).toNat = i + 3 := by omega
  have t4 : ((i : Int) + 4).toNat = i + 4 := by omega
  have hq := hQ g2 I2 (RR_mono hR (by omega) (by omega))
  clear hQ hR hs hs1 hr
  rw [H_L_law_18]
  simp (config := { contextual := true }) (disch := omega) only [R_L_0, R_L_1, R_L_15, R_L_16, R_L_19, k0, e0, hk, k5, c1, k10, e10, hg1, c2, t1, t2, t3, t4, true_and, and_true, true_implies, not_true_eq_false, false_implies, not_false_eq_true, false_and, and_false, or_true, true_or, false_or, or_false, implies_true, forall_const, kl_i, kl_n, kl_r, kl_l, tl_s, tl_n, List.cons_append, List.nil_append, Int.cast_ofNat_Int, w32_id, w64_id, le_T, le_F, lt_T, lt_F, eq_T, eq_F, reduceIte, ne_eq, Int.toNat_natCast, bi_0, bi_1, bi_b, Nat.reduceAdd, Nat.reduceEqDiff, Int.reduceToNat, Int.reduceNeg, nle_T, nlt_T, neq_T, neq_F, b2_0, b2_b, both, reduceCtorEq, lcm3_eq]
  exact hq
theorem lw_23 (h : RR L xs X Y g I) {i : Nat} (hi : i + 5 ≤ L) (hL : L ≤ 2560) (hk : iAnd (xs i).toInt 31 = 23) (Q : QQ) (hQ : ∀ g' I', RR L xs (X + 30) (Y + 300) g' I' → WP 1000 m_L_law 18 [some (vr (some 0)), some (vr (some 5)), some (vr (some 57)), some (vi ((i : Int) + 5))] [] g' I' Q) : WP 1000 m_L_law 18 [some (vr (some 0)), some (vr (some 5)), some (vr (some 57)), some (vi i)] [] g I Q := by
  obtain ⟨hs, hb, t, dr, A, P, w, n, q, m, hr⟩ := h
  obtain ⟨z, g1, I1, g2, I2, c1, ⟨hs1, hg1⟩, c2, hR⟩ := cs_many hs hb.1 hr (xs (i + 1)).toInt (xs (i + 2)).toInt (xs (i + 3)).toInt (xs (i + 4)).toInt
  have k0 : gK g 0 = (5, L) := hs.1
  have e0 : ∀ j, I 0 j = (xs j).toInt := hs.2.2.2.2.1
  have k5 : gK g 5 = (0, 10) := hr.2.2.1.2.1.1
  have k10 : gK g1 0 = (5, L) := hs1.1
  have e10 : ∀ j, I1 0 j = (xs j).toInt := hs1.2.2.2.2.1
  have t1 : ((i : Int) + 1).toNat = i + 1 := by omega
  have t2 : ((i : Int) + 2).toNat = i + 2 := by omega
  have t3 : ((i : Int) + 3).toNat = i + 3 := by omega
  have t4 : ((i : Int) + 4).toNat = i + 4 := by omega
  have hq := hQ g2 I2 (RR_mono hR (by omega) (by omega))
  clear hQ hR hs hs1 hr
  rw [H_L_law_18]
  simp (config := { contextual := true }) (disch := omega) only [R_L_0, R_L_1, R_L_16, R_L_17, R_L_19, k0, e0, hk, k5, c1, k10, e10, hg1, c2, t1, t2, t3, t4, true_and, and_true, true_implies, not_true_eq_false, false_implies, not_false_eq_true, false_and, and_false, or_true, true_or, false_or, or_false, implies_true, forall_const, kl_i, kl_n, kl_r, kl_l, tl_s, tl_n, List.cons_append, List.nil_append, Int.cast_ofNat_Int, w32_id, w64_id, le_T, le_F, lt_T, lt_F, eq_T, eq_F, reduceIte, ne_eq, Int.toNat_natCast, bi_0, bi_1, bi_b, Nat.reduceAdd, Nat.reduceEqDiff, Int.reduceToNat, Int.reduceNeg, nle_T, nlt_T, neq_T, neq_F, b2_0, b2_b, both, reduceCtorEq, lcm3_eq]
  exact hq
theorem lw_24 (h : RR L xs X Y g I) {i : Nat} (hi : i + 5 ≤ L) (hL : L ≤ 2560) (hk : iAnd (xs i).toInt 31 = 24) (Q : QQ) (hQ : ∀ g' I', RR L xs (X + 30) (Y + 300) g' I' → WP 1000 m_L_law 18 [some (vr (some 0)), some (vr (some 5)), some (vr (some 57)), some (vi ((i : Int) + 5))] [] g' I' Q) : WP 1000 m_L_law 18 [some (vr (some 0)), some (vr (some 5)), some (vr (some 57)), some (vi i)] [] g I Q := by
  obtain ⟨hs, hb, t, dr, A, P, w, n, q, m, hr⟩ := h
  obtain ⟨z, g1, I1, g2, I2, c1, ⟨hs1, hg1⟩, c2, hR⟩ := cs_stray hs hb.1 hr (xs (i + 1)).toInt (xs (i + 2)).toInt
  have k0 : gK g 0 = (5, L) := hs.1
  have e0 : ∀ j, I 0 j = (xs j).toInt := hs.2.2.2.2.1
  have k5 : gK g 5 = (0, 10) := hr.2.2.1.2.1.1
  have k10 : gK g1 0 = (5, L) := hs1.1
  have e10 : ∀ j, I1 0 j = (xs j).toInt := hs1.2.2.2.2.1
  have t1 : ((i : Int) + 1).toNat = i + 1 := by omega
  have t2 : ((i : Int) + 2).toNat = i + 2 := by omega
  have t3 : ((i : Int) + 3).toNat = i + 3 := by omega
  have t4 : ((i : Int) + 4).toNat = i + 4 := by omega
  have hq := hQ g2 I2 (RR_mono hR (by omega) (by omega))
  clear hQ hR hs hs1 hr
  rw [H_L_law_18]
  simp (config := { contextual := true }) (disch := omega) only [R_L_0, R_L_1, R_L_17, R_L_18, R_L_19, k0, e0, hk, k5, c1, k10, e10, hg1, c2, t1, t2, t3, t4, true_and, and_true, true_implies, not_true_eq_false, false_implies, not_false_eq_true, false_and, and_false, or_true, true_or, false_or, or_false, implies_true, forall_const, kl_i, kl_n, kl_r, kl_l, tl_s, tl_n, List.cons_append, List.nil_append, Int.cast_ofNat_Int, w32_id, w64_id, le_T, le_F, lt_T, lt_F, eq_T, eq_F, reduceIte, ne_eq, Int.toNat_natCast, bi_0, bi_1, bi_b, Nat.reduceAdd, Nat.reduceEqDiff, Int.reduceToNat, Int.reduceNeg, nle_T, nlt_T, neq_T, neq_F, b2_0, b2_b, both, reduceCtorEq, lcm3_eq]
  exact hq
theorem lw_25 (h : RR L xs X Y g I) {i : Nat} (hi : i + 5 ≤ L) (hL : L ≤ 2560) (hk : iAnd (xs i).toInt 31 = 25) (Q : QQ) (hQ : ∀ g' I', RR L xs (X + 30) (Y + 300) g' I' → WP 1000 m_L_law 18 [some (vr (some 0)), some (vr (some 5)), some (vr (some 57)), some (vi ((i : Int) + 5))] [] g' I' Q) : WP 1000 m_L_law 18 [some (vr (some 0)), some (vr (some 5)), some (vr (some 57)), some (vi i)] [] g I Q := by
  obtain ⟨hs, hb, t, dr, A, P, w, n, q, m, hr⟩ := h
  obtain ⟨z, g1, I1, g2, I2, c1, ⟨hs1, hg1⟩, c2, hR⟩ := cs_row hs hb.1 hr (xs (i + 1)).toInt
  have k0 : gK g 0 = (5, L) := hs.1
  have e0 : ∀ j, I 0 j = (xs j).toInt := hs.2.2.2.2.1
  have k5 : gK g 5 = (0, 10) := hr.2.2.1.2.1.1
  have k10 : gK g1 0 = (5, L) := hs1.1
  have e10 : ∀ j, I1 0 j = (xs j).toInt := hs1.2.2.2.2.1
  have t1 : ((i : Int) + 1).toNat = i + 1 := by omega
  have t2 : ((i : Int) + 2).toNat = i + 2 := by omega
  have t3 : ((i : Int) + 3).toNat = i + 3 := by omega
  have t4 : ((i : Int) + 4).toNat = i + 4 := by omega
  have hq := hQ g2 I2 (RR_mono hR (by omega) (by omega))
  clear hQ hR hs hs1 hr
  rw [H_L_law_18]
  simp (config := { contextual := true }) (disch := omega) only [R_L_0, R_L_1, R_L_18, R_L_19, k0, e0, hk, k5, c1, k10, e10, hg1, c2, t1, t2, t3, t4, true_and, and_true, true_implies, not_true_eq_false, false_implies, not_false_eq_true, false_and, and_false, or_true, true_or, false_or, or_false, implies_true, forall_const, kl_i, kl_n, kl_r, kl_l, tl_s, tl_n, List.cons_append, List.nil_append, Int.cast_ofNat_Int, w32_id, w64_id, le_T, le_F, lt_T, lt_F, eq_T, eq_F, reduceIte, ne_eq, Int.toNat_natCast, bi_0, bi_1, bi_b, Nat.reduceAdd, Nat.reduceEqDiff, Int.reduceToNat, Int.reduceNeg, nle_T, nlt_T, neq_T, neq_F, b2_0, b2_b, both, reduceCtorEq, lcm3_eq]
  exact hq
theorem lw_26 (h : RR L xs X Y g I) {i : Nat} (hi : i + 5 ≤ L) (hL : L ≤ 2560) (hk : iAnd (xs i).toInt 31 = 26) (Q : QQ) (hQ : ∀ g' I', RR L xs (X + 30) (Y + 300) g' I' → WP 1000 m_L_law 18 [some (vr (some 0)), some (vr (some 5)), some (vr (some 57)), some (vi ((i : Int) + 5))] [] g' I' Q) : WP 1000 m_L_law 18 [some (vr (some 0)), some (vr (some 5)), some (vr (some 57)), some (vi i)] [] g I Q := by
  obtain ⟨hs, hb, t, dr, A, P, w, n, q, m, hr⟩ := h
  obtain ⟨z, g1, I1, g2, I2, c1, ⟨hs1, hg1⟩, c2, hR⟩ := cs_judge hs hb.1 hr (xs (i + 1)).toInt
  have k0 : gK g 0 = (5, L) := hs.1
  have e0 : ∀ j, I 0 j = (xs j).toInt := hs.2.2.2.2.1
  have k5 : gK g 5 = (0, 10) := hr.2.2.1.2.1.1
  have k10 : gK g1 0 = (5, L) := hs1.1
  have e10 : ∀ j, I1 0 j = (xs j).toInt := hs1.2.2.2.2.1
  have t1 : ((i : Int) + 1).toNat = i + 1 := by omega
  have t2 : ((i : Int) + 2).toNat = i + 2 := by omega
  have t3 : ((i : Int) + 3).toNat = i + 3 := by omega
  have t4 : ((i : Int) + 4).toNat = i + 4 := by omega
  have hq := hQ g2 I2 (RR_mono hR (by omega) (by omega))
  clear hQ hR hs hs1 hr
  rw [H_L_law_18]
  simp (config := { contextual := true }) (disch := omega) only [R_L_0, R_L_1, R_L_18, R_L_19, k0, e0, hk, k5, c1, k10, e10, hg1, c2, t1, t2, t3, t4, true_and, and_true, true_implies, not_true_eq_false, false_implies, not_false_eq_true, false_and, and_false, or_true, true_or, false_or, or_false, implies_true, forall_const, kl_i, kl_n, kl_r, kl_l, tl_s, tl_n, List.cons_append, List.nil_append, Int.cast_ofNat_Int, w32_id, w64_id, le_T, le_F, lt_T, lt_F, eq_T, eq_F, reduceIte, ne_eq, Int.toNat_natCast, bi_0, bi_1, bi_b, Nat.reduceAdd, Nat.reduceEqDiff, Int.reduceToNat, Int.reduceNeg, nle_T, nlt_T, neq_T, neq_F, b2_0, b2_b, both, reduceCtorEq, lcm3_eq]
  exact hq
theorem lw_27 (h : RR L xs X Y g I) {i : Nat} (hi : i + 5 ≤ L) (hL : L ≤ 2560) (hk : iAnd (xs i).toInt 31 = 27) (Q : QQ) (hQ : ∀ g' I', RR L xs (X + 30) (Y + 300) g' I' → WP 1000 m_L_law 18 [some (vr (some 0)), some (vr (some 5)), some (vr (some 57)), some (vi ((i : Int) + 5))] [] g' I' Q) : WP 1000 m_L_law 18 [some (vr (some 0)), some (vr (some 5)), some (vr (some 57)), some (vi i)] [] g I Q := by
  obtain ⟨hs, hb, t, dr, A, P, w, n, q, m, hr⟩ := h
  obtain ⟨z, g1, I1, g2, I2, c1, ⟨hs1, hg1⟩, c2, hR⟩ := cs_image hs hb.1 hr
  have k0 : gK g 0 = (5, L) := hs.1
  have e0 : ∀ j, I 0 j = (xs j).toInt := hs.2.2.2.2.1
  have k5 : gK g 5 = (0, 10) := hr.2.2.1.2.1.1
  have k10 : gK g1 0 = (5, L) := hs1.1
  have e10 : ∀ j, I1 0 j = (xs j).toInt := hs1.2.2.2.2.1
  have t1 : ((i : Int) + 1).toNat = i + 1 := by omega
  have t2 : ((i : Int) + 2).toNat = i + 2 := by omega
  have t3 : ((i : Int) + 3).toNat = i + 3 := by omega
  have t4 : ((i : Int) + 4).toNat = i + 4 := by omega
  have hq := hQ g2 I2 (RR_mono hR (by omega) (by omega))
  clear hQ hR hs hs1 hr
  rw [H_L_law_18]
  simp (config := { contextual := true }) (disch := omega) only [R_L_0, R_L_1, R_L_19, k0, e0, hk, k5, c1, k10, e10, hg1, c2, t1, t2, t3, t4, true_and, and_true, true_implies, not_true_eq_false, false_implies, not_false_eq_true, false_and, and_false, or_true, true_or, false_or, or_false, implies_true, forall_const, kl_i, kl_n, kl_r, kl_l, tl_s, tl_n, List.cons_append, List.nil_append, Int.cast_ofNat_Int, w32_id, w64_id, le_T, le_F, lt_T, lt_F, eq_T, eq_F, reduceIte, ne_eq, Int.toNat_natCast, bi_0, bi_1, bi_b, Nat.reduceAdd, Nat.reduceEqDiff, Int.reduceToNat, Int.reduceNeg, nle_T, nlt_T, neq_T, neq_F, b2_0, b2_b, both, reduceCtorEq, lcm3_eq]
  exact hq
theorem lw_28 (h : RR L xs X Y g I) {i : Nat} (hi : i + 5 ≤ L) (hL : L ≤ 2560) (hk : iAnd (xs i).toInt 31 = 28) (Q : QQ) (hQ : ∀ g' I', RR L xs (X + 30) (Y + 300) g' I' → WP 1000 m_L_law 18 [some (vr (some 0)), some (vr (some 5)), some (vr (some 57)), some (vi ((i : Int) + 5))] [] g' I' Q) : WP 1000 m_L_law 18 [some (vr (some 0)), some (vr (some 5)), some (vr (some 57)), some (vi i)] [] g I Q := by
  obtain ⟨hs, hb, t, dr, A, P, w, n, q, m, hr⟩ := h
  obtain ⟨z, g1, I1, g2, I2, c1, ⟨hs1, hg1⟩, c2, hR⟩ := cs_on hs hb.1 hr
  have k0 : gK g 0 = (5, L) := hs.1
  have e0 : ∀ j, I 0 j = (xs j).toInt := hs.2.2.2.2.1
  have k5 : gK g 5 = (0, 10) := hr.2.2.1.2.1.1
  have k10 : gK g1 0 = (5, L) := hs1.1
  have e10 : ∀ j, I1 0 j = (xs j).toInt := hs1.2.2.2.2.1
  have t1 : ((i : Int) + 1).toNat = i + 1 := by omega
  have t2 : ((i : Int) + 2).toNat = i + 2 := by omega
  have t3 : ((i : Int) + 3).toNat = i + 3 := by omega
  have t4 : ((i : Int) + 4).toNat = i + 4 := by omega
  have hq := hQ g2 I2 (RR_mono hR (by omega) (by omega))
  clear hQ hR hs hs1 hr
  rw [H_L_law_18]
  simp (config := { contextual := true }) (disch := omega) only [R_L_0, R_L_1, R_L_19, k0, e0, hk, k5, c1, k10, e10, hg1, c2, t1, t2, t3, t4, true_and, and_true, true_implies, not_true_eq_false, false_implies, not_false_eq_true, false_and, and_false, or_true, true_or, false_or, or_false, implies_true, forall_const, kl_i, kl_n, kl_r, kl_l, tl_s, tl_n, List.cons_append, List.nil_append, Int.cast_ofNat_Int, w32_id, w64_id, le_T, le_F, lt_T, lt_F, eq_T, eq_F, reduceIte, ne_eq, Int.toNat_natCast, bi_0, bi_1, bi_b, Nat.reduceAdd, Nat.reduceEqDiff, Int.reduceToNat, Int.reduceNeg, nle_T, nlt_T, neq_T, neq_F, b2_0, b2_b, both, reduceCtorEq, lcm3_eq]
  exact hq
theorem lw_29 (h : RR L xs X Y g I) {i : Nat} (hi : i + 5 ≤ L) (hL : L ≤ 2560) (hk : iAnd (xs i).toInt 31 = 29) (Q : QQ) (hQ : ∀ g' I', RR L xs (X + 30) (Y + 300) g' I' → WP 1000 m_L_law 18 [some (vr (some 0)), some (vr (some 5)), some (vr (some 57)), some (vi ((i : Int) + 5))] [] g' I' Q) : WP 1000 m_L_law 18 [some (vr (some 0)), some (vr (some 5)), some (vr (some 57)), some (vi i)] [] g I Q := by
  obtain ⟨hs, hb, t, dr, A, P, w, n, q, m, hr⟩ := h
  obtain ⟨z, g1, I1, g2, I2, c1, ⟨hs1, hg1⟩, c2, hR⟩ := cs_count hs hb.1 hr (xs (i + 1)).toInt
  have k0 : gK g 0 = (5, L) := hs.1
  have e0 : ∀ j, I 0 j = (xs j).toInt := hs.2.2.2.2.1
  have k5 : gK g 5 = (0, 10) := hr.2.2.1.2.1.1
  have k10 : gK g1 0 = (5, L) := hs1.1
  have e10 : ∀ j, I1 0 j = (xs j).toInt := hs1.2.2.2.2.1
  have t1 : ((i : Int) + 1).toNat = i + 1 := by omega
  have t2 : ((i : Int) + 2).toNat = i + 2 := by omega
  have t3 : ((i : Int) + 3).toNat = i + 3 := by omega
  have t4 : ((i : Int) + 4).toNat = i + 4 := by omega
  have hq := hQ g2 I2 (RR_mono hR (by omega) (by omega))
  clear hQ hR hs hs1 hr
  rw [H_L_law_18]
  simp (config := { contextual := true }) (disch := omega) only [R_L_0, R_L_1, R_L_19, k0, e0, hk, k5, c1, k10, e10, hg1, c2, t1, t2, t3, t4, true_and, and_true, true_implies, not_true_eq_false, false_implies, not_false_eq_true, false_and, and_false, or_true, true_or, false_or, or_false, implies_true, forall_const, kl_i, kl_n, kl_r, kl_l, tl_s, tl_n, List.cons_append, List.nil_append, Int.cast_ofNat_Int, w32_id, w64_id, le_T, le_F, lt_T, lt_F, eq_T, eq_F, reduceIte, ne_eq, Int.toNat_natCast, bi_0, bi_1, bi_b, Nat.reduceAdd, Nat.reduceEqDiff, Int.reduceToNat, Int.reduceNeg, nle_T, nlt_T, neq_T, neq_F, b2_0, b2_b, both, reduceCtorEq, lcm3_eq]
  exact hq
theorem lw_d (h : RR L xs X Y g I) {i : Nat} (hi : i + 5 ≤ L) (hL : L ≤ 2560) (hk : iAnd (xs i).toInt 31 < 0 ∨ 29 < iAnd (xs i).toInt 31) (Q : QQ) (hQ : ∀ g' I', RR L xs (X + 30) (Y + 300) g' I' → WP 1000 m_L_law 18 [some (vr (some 0)), some (vr (some 5)), some (vr (some 57)), some (vi ((i : Int) + 5))] [] g' I' Q) : WP 1000 m_L_law 18 [some (vr (some 0)), some (vr (some 5)), some (vr (some 57)), some (vi i)] [] g I Q := by
  have hq := hQ g I (RR_mono h (by omega) (by omega))
  obtain ⟨hs, hb, -⟩ := h
  have k0 : gK g 0 = (5, L) := hs.1
  have e0 : ∀ j, I 0 j = (xs j).toInt := hs.2.2.2.2.1
  clear hQ hs
  generalize hv : iAnd (xs i).toInt 31 = v at hk
  rw [H_L_law_18]
  simp (config := { contextual := true }) (disch := omega) only [R_L_0, R_L_1, R_L_19, k0, e0, hv, true_and, and_true, true_implies, not_true_eq_false, false_implies, not_false_eq_true, false_and, and_false, or_true, true_or, false_or, or_false, implies_true, forall_const, kl_i, kl_n, kl_r, kl_l, tl_s, tl_n, List.cons_append, List.nil_append, Int.cast_ofNat_Int, w32_id, w64_id, le_T, le_F, lt_T, lt_F, eq_T, eq_F, reduceIte, ne_eq, Int.toNat_natCast, bi_0, bi_1, bi_b, Nat.reduceAdd, Nat.reduceEqDiff, Int.reduceToNat, Int.reduceNeg, nle_T, nlt_T, neq_T, neq_F, b2_0, b2_b, both, reduceCtorEq]
  exact hq
theorem law_loop (hL : L ≤ 2560) (Q : QQ) (hQ : ∀ g' I', RR L xs 16000 200000 g' I' → Q (some (vi 1)) g' I') : ∀ (k i X Y : Nat) (g : GG) (I : II), L ≤ i + 5 * k → i ≤ L → X + 30 * k ≤ 16000 → Y + 300 * k ≤ 200000 → RR L xs X Y g I → WP 1000 m_L_law 18 [some (vr (some 0)), some (vr (some 5)), some (vr (some 57)), some (vi i)] [] g I Q := by
  have hex : ∀ (i X Y : Nat) (g : GG) (I : II), i ≤ L → L < i + 5 → X ≤ 16000 → Y ≤ 200000 → RR L xs X Y g I → WP 1000 m_L_law 18 [some (vr (some 0)), some (vr (some 5)), some (vr (some 57)), some (vi i)] [] g I Q := by
    intro i X Y g I hi0 hi hX hY h
    have hq := hQ g I (RR_mono h hX hY)
    obtain ⟨hs, hb, -⟩ := h
    have k0 : gK g 0 = (5, L) := hs.1
    clear hQ hs
    rw [H_L_law_18]
    simp (config := { contextual := true }) (disch := omega) only [R_L_0, R_L_1, R_L_19, k0, true_and, and_true, true_implies, not_true_eq_false, false_implies, not_false_eq_true, false_and, and_false, or_true, true_or, false_or, or_false, implies_true, forall_const, kl_i, kl_n, kl_r, kl_l, tl_s, tl_n, List.cons_append, List.nil_append, Int.cast_ofNat_Int, w32_id, w64_id, le_T, le_F, lt_T, lt_F, eq_T, eq_F, reduceIte, ne_eq, Int.toNat_natCast, bi_0, bi_1, bi_b, Nat.reduceAdd, Nat.reduceEqDiff, Int.reduceToNat, Int.reduceNeg, nle_T, nlt_T, neq_T, neq_F, b2_0, b2_b, both, reduceCtorEq]
    exact hq
  intro k
  induction k with
  | zero =>
    intro i X Y g I h1 h2 h3 h4 h
    exact hex i X Y g I h2 (by omega) (by omega) (by omega) h
  | succ k ih =>
    intro i X Y g I h1 h2 h3 h4 h
    by_cases hi : i + 5 ≤ L
    · have hn : ∀ g' I', RR L xs (X + 30) (Y + 300) g' I' → WP 1000 m_L_law 18 [some (vr (some 0)), some (vr (some 5)), some (vr (some 57)), some (vi ((i : Int) + 5))] [] g' I' Q := fun g' I' h' => ih (i + 5) (X + 30) (Y + 300) g' I' (by omega) hi (by omega) (by omega) h'
      by_cases e0 : iAnd (xs i).toInt 31 = 0
      · exact lw_0 h hi hL e0 Q hn
      by_cases e1 : iAnd (xs i).toInt 31 = 1
      · exact lw_1 h hi hL e1 Q hn
      by_cases e2 : iAnd (xs i).toInt 31 = 2
      · exact lw_2 h hi hL e2 Q hn
      by_cases e3 : iAnd (xs i).toInt 31 = 3
      · exact lw_3 h hi hL e3 Q hn
      by_cases e4 : iAnd (xs i).toInt 31 = 4
      · exact lw_4 h hi hL e4 Q hn
      by_cases e5 : iAnd (xs i).toInt 31 = 5
      · exact lw_5 h hi hL e5 Q hn
      by_cases e6 : iAnd (xs i).toInt 31 = 6
      · exact lw_6 h hi hL e6 Q hn
      by_cases e7 : iAnd (xs i).toInt 31 = 7
      · exact lw_7 h hi hL e7 Q hn
      by_cases e8 : iAnd (xs i).toInt 31 = 8
      · exact lw_8 h hi hL e8 Q hn
      by_cases e9 : iAnd (xs i).toInt 31 = 9
      · exact lw_9 h hi hL e9 Q hn
      by_cases e10 : iAnd (xs i).toInt 31 = 10
      · exact lw_10 h hi hL e10 Q hn
      by_cases e11 : iAnd (xs i).toInt 31 = 11
      · exact lw_11 h hi hL e11 Q hn
      by_cases e12 : iAnd (xs i).toInt 31 = 12
      · exact lw_12 h hi hL e12 Q hn
      by_cases e13 : iAnd (xs i).toInt 31 = 13
      · exact lw_13 h hi hL e13 Q hn
      by_cases e14 : iAnd (xs i).toInt 31 = 14
      · exact lw_14 h hi hL e14 Q hn
      by_cases e15 : iAnd (xs i).toInt 31 = 15
      · exact lw_15 h hi hL e15 Q hn
      by_cases e16 : iAnd (xs i).toInt 31 = 16
      · exact lw_16 h hi hL e16 Q hn
      by_cases e17 : iAnd (xs i).toInt 31 = 17
      · exact lw_17 h hi hL e17 Q hn
      by_cases e18 : iAnd (xs i).toInt 31 = 18
      · exact lw_18 h hi hL e18 Q hn
      by_cases e19 : iAnd (xs i).toInt 31 = 19
      · exact lw_19 h hi hL e19 Q hn
      by_cases e20 : iAnd (xs i).toInt 31 = 20
      · exact lw_20 h hi hL e20 Q hn
      by_cases e21 : iAnd (xs i).toInt 31 = 21
      · exact lw_21 h hi hL e21 Q hn
      by_cases e22 : iAnd (xs i).toInt 31 = 22
      · exact lw_22 h hi hL e22 Q hn
      by_cases e23 : iAnd (xs i).toInt 31 = 23
      · exact lw_23 h hi hL e23 Q hn
      by_cases e24 : iAnd (xs i).toInt 31 = 24
      · exact lw_24 h hi hL e24 Q hn
      by_cases e25 : iAnd (xs i).toInt 31 = 25
      · exact lw_25 h hi hL e25 Q hn
      by_cases e26 : iAnd (xs i).toInt 31 = 26
      · exact lw_26 h hi hL e26 Q hn
      by_cases e27 : iAnd (xs i).toInt 31 = 27
      · exact lw_27 h hi hL e27 Q hn
      by_cases e28 : iAnd (xs i).toInt 31 = 28
      · exact lw_28 h hi hL e28 Q hn
      by_cases e29 : iAnd (xs i).toInt 31 = 29
      · exact lw_29 h hi hL e29 Q hn
      exact lw_d h hi hL (by omega) Q hn
    · exact hex i X Y g I h2 (by omega) (by omega) (by omega) h
end LAW
def LawPure : Prop := ∀ (L : Nat) (xs : Nat → Int32), L ≤ 2560 → WP 1000 0 0 [some (vr (some 0)), none, none, none] [] (g0 L) (I0 xs) (fun v g1 _ => v = some (vi 1) ∧ gN g1 ≤ 600005 ∧ gS g1 ≤ 7302250)
theorem law_pure : LawPure := fun L xs hL => law_start _ (fun g' I' h => law_loop hL _ (fun g2 I2 h2 => ⟨rfl, by have := h2.2.1.2.1; omega, by have := h2.2.1.2.2; omega⟩) 512 0 100 20000 g' I' (by omega) (by omega) (by omega) (by omega) h)

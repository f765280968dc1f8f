-- LAND: the class tells one statement
abbrev FR (g0 : GG) (I0 : II) (dr : Nat) (g : GG) (I : II) : Prop := (∀ a, a < gN g0 → gK g a = gK g0 a) ∧ (∀ a k, a < gN g0 → ¬ a = dr + 3 → gR g a k = gR g0 a k) ∧ (∀ a, a < gN g0 → ¬ (dr ≤ a ∧ a ≤ dr + 11) → ¬ a = 45 → I a = I0 a) ∧ gN g0 ≤ gN g
/-- what stands while the class reads and tells -/
def CI (g0 : GG) (I0 : II) (n dr q m c : Nat) (g : GG) (I : II) (s : LST) : Prop := WZ g ∧ 90 ≤ gN g ∧ STR g I ∧ XP g I n ∧ TW g I dr s.1 s.2.2.1 s.2.2.2 ∧ okLS s q m ∧ FR g0 I0 dr g I ∧ (gN g ≤ gN g0 + c ∧ gS g ≤ gS g0 + 5 * c) ∧ 90 ≤ gN g0
theorem STR_fr {g g' : GG} {I I' : II} (h : STR g I) (hk : gK g' 1 = gK g 1 ∧ gK g' 2 = gK g 2 ∧ gR g' 1 0 = gR g 1 0) (h1 : I' 1 = I 1) (h2 : I' 2 = I 2) : STR g' I' := by
  obtain ⟨a1, a2, a3, a4, a5⟩ := h
  exact ⟨hk.1.trans a1, hk.2.1.trans a2, hk.2.2.trans a3, fun j => by rw [h2]; exact a4 j, by rw [h1]; exact a5⟩
theorem XP_fr {g g' : GG} {I I' : II} {n : Nat} (h : XP g I n) (hk : gK g' 45 = gK g 45 ∧ gR g' 45 0 = gR g 45 0 ∧ gK g' 52 = gK g 52) (h1 : I' 45 1 = I 45 1) (h2 : I' 52 = I 52) : XP g' I' n := by
  obtain ⟨a1, a2, a3, a4, a5, a6⟩ := h
  exact ⟨hk.1.trans a1, hk.2.1.trans a2, hk.2.2.trans a3, h1.trans a4, a5, fun j hj => by rw [h2]; exact a6 j hj⟩
section CIS
variable {g0 g g' : GG} {I0 I I' : II} {n dr q m c : Nat} {s s' : LST}
theorem CI_st (h : CI g0 I0 n dr q m c g I s) (hd : dr = 6 ∨ dr = 19) (hZ : WZ g') (hK : ∀ a, a < gN g → gK g' a = gK g a) (hR : ∀ a k, a < gN g → ¬ a = dr + 3 → gR g' a k = gR g a k) (hN : gN g ≤ gN g' ∧ gN g' ≤ gN g + 1) (hS : gS g' ≤ gS g + 5) (hI : ∀ a, a < gN g → ¬ (dr ≤ a ∧ a ≤ dr + 11) → I' a = I a) (hT : TW g' I' dr s'.1 s'.2.2.1 s'.2.2.2) (ho : okLS s' q m) : CI g0 I0 n dr q m (c + 1) g' I' s' := by
  obtain ⟨h1, h2, h3, h4, h5, h6, ⟨f1, f2, f3, f4⟩, h8, h9⟩ := h
  refine ⟨hZ, by omega, STR_fr h3 ⟨hK 1 (by omega), hK 2 (by omega), hR 1 0 (by omega) (by omega)⟩ (hI 1 (by omega) (by omega)) (hI 2 (by omega) (by omega)), XP_fr h4 ⟨hK 45 (by omega), hR 45 0 (by omega) (by omega), hK 52 (by omega)⟩ (by rw [hI 45 (by omega) (by omega)]) (hI 52 (by omega) (by omega)), hT, ho, ⟨fun a ha => ?_, fun a k ha h3 => ?_, fun a ha x y => ?_, by omega⟩, by omega, h9⟩
  · rw [hK a (by omega)]; exact f1 a ha
  · rw [hR a k (by omega) h3]; exact f2 a k ha h3
  · rw [hI a (by omega) x]; exact f3 a ha x y
theorem CI_s1 (h : CI g0 I0 n dr q m c g I s) : CI g0 I0 n dr q m (c + 1) g I s := by
  obtain ⟨h1, h2, h3, h4, h5, h6, h7, h8, h9⟩ := h
  exact ⟨h1, h2, h3, h4, h5, h6, h7, by omega, h9⟩
theorem CI_le {c' : Nat} (h : CI g0 I0 n dr q m c g I s) (hc : c ≤ c') : CI g0 I0 n dr q m c' g I s := by
  obtain ⟨h1, h2, h3, h4, h5, h6, h7, h8, h9⟩ := h
  exact ⟨h1, h2, h3, h4, h5, h6, h7, by omega, h9⟩
end CIS
theorem fitS_N {A : II} {P w n q m : Nat} {x1 x2 x3 x4 : Int} : fitS (A, P, w, n) q m (110, x1, x2, x3, x4) = (2 ≤ x1 ∧ x1 ≤ 8 ∧ needA A w n q m ≤ x1) := by
  refine propext ⟨fun z => ?_, fun z => Or.inl ⟨rfl, z⟩⟩
  rcases z with z | z | z
  · exact z.2
  · exact absurd z.1 (by simp)
  · exact absurd z.1 (by simp)
theorem fitS_W {A : II} {P w n q m : Nat} {x1 x2 x3 x4 : Int} : fitS (A, P, w, n) q m (119, x1, x2, x3, x4) = fitW A P w x1 x2 x3 := by
  refine propext ⟨fun z => ?_, fun z => Or.inr (Or.inl ⟨rfl, z⟩)⟩
  rcases z with z | z | z
  · exact absurd z.1 (by simp)
  · exact z.2
  · exact absurd z.1 (by simp)
theorem fitS_T {A : II} {P w n q m : Nat} {x1 x2 x3 x4 : Int} : fitS (A, P, w, n) q m (116, x1, x2, x3, x4) = (x2 < P ∧ n < 7 ∧ (x1 = 2 → x4 < n)) := by
  refine propext ⟨fun z => ?_, fun z => Or.inr (Or.inr ⟨rfl, z⟩)⟩
  rcases z with z | z | z
  · exact absurd z.1 (by simp)
  · exact absurd z.1 (by simp)
  · exact z.2
section CTS
variable {g0 g : GG} {I0 I : II} {n dr q m c : Nat} {s : LST}
theorem CI_WT (h : CI g0 I0 n dr q m c g I s) (hd : dr = 6 ∨ dr = 19) : WT g dr ∧ TN g dr := by
  obtain ⟨-, -, ⟨h6, h19, -⟩, n6, n19, -⟩ := h.1
  rcases hd with r | r <;> subst r
  · exact ⟨h6, n6⟩
  · exact ⟨h19, n19⟩
theorem ct_tellS {r : RG} (h : CI g0 I0 n dr q m c g I s) (hd : dr = 6 ∨ dr = 19) (hr : okRG r) (hf : rgC r (I 45 4) (I 45 5) (I 45 6) (I 45 7)) (tp wr cn i st : Int) (l9 : Option PV) (d : Nat) (Q : QQ) (hq : ∀ g' I' v, CI g0 I0 n dr q m (c + 1) g' I' (nyS s q m r) → I' 45 = I 45 → (fitS s q m r → v = 1) → (¬ fitS s q m r → v = 0) → WP (d + 7) m_X7_read 155 [some (vr (some 45)), some (vr (some 52)), some (vi tp), some (vr (some dr)), some (vi wr), some (vi cn), some (vi i), some (vi st), some (vi r.1), some (vi v)] [] g' I' Q) : WP (d + 7) m_X7_read 85 [some (vr (some 45)), some (vr (some 52)), some (vi tp), some (vr (some dr)), some (vi wr), some (vi cn), some (vi i), some (vi st), some (vi r.1), l9] [] g I Q := by
  obtain ⟨hW, hTN⟩ := CI_WT h hd
  have hN := h.2.1
  have hSt := h.2.2.1
  have h45 := h.2.2.2.1.1
  have kD : gK g dr = (0, 8) := hW.1
  obtain ⟨A, P, w, nn⟩ := s
  obtain ⟨l, x1, x2, x3, x4⟩ := r
  have hT : TW g I dr A w nn := h.2.2.2.2.1
  have hS : okS A P w nn q m := h.2.2.2.2.2.1
  obtain ⟨c1, c2, c3⟩ := hf
  have hn : ¬ fitS (A, P, w, nn) q m (l, x1, x2, x3, x4) → WP (d + 7) m_X7_read 155 [some (vr (some 45)), some (vr (some 52)), some (vi tp), some (vr (some dr)), some (vi wr), some (vi cn), some (vi i), some (vi st), some (vi l), some (vi 0)] [] g I Q := fun z => hq g I 0 (by rw [nyS_n z]; exact CI_s1 h) rfl (fun y => absurd y z) (fun _ => rfl)
  have hy := fun (g' : GG) (I' : II) (z : fitS (A, P, w, nn) q m (l, x1, x2, x3, x4)) (hc : CI g0 I0 n dr q m (c + 1) g' I' (nxS (A, P, w, nn) (l, x1, x2, x3, x4))) (h45 : I' 45 = I 45) => hq g' I' 1 (by rw [nyS_y z]; exact hc) h45 (fun _ => rfl) (fun y => absurd z y)
  clear hq
  have hok := fun z => okLS_nx (s := (A, P, w, nn)) hS hr z
  rcases hr with ⟨e, h1⟩ | ⟨e, h1, h2, h3⟩ | ⟨e, h1, h2, h3, h4⟩
  all_goals
    have e : l = _ := e
    subst e
  · have e5 : I 45 5 = x1 := c1 rfl
    have kp := fun d Q => ct_tellPlaces hW hT hS x1 d Q
    by_cases z : 2 ≤ x1 ∧ x1 ≤ 8 ∧ needA A w nn q m ≤ x1
    · have hz : fitS (A, P, w, nn) q m (110, x1, x2, x3, x4) := by rw [fitS_N]; exact z
      have hq := hy g (pr I dr (uf (I dr) 0 x1)) hz (CI_st h hd h.1 (fun _ _ => rfl) (fun _ _ _ _ => rfl) (by omega) (by omega) (fun a _ ha => pr_o (by omega)) (TW_nxP (by omega) hT x1) (hok hz)) (pr_o (by omega))
      have kp := fun d Q => (kp d Q).trans (if_pos z)
      refine Eq.mp (Eq.symm ?_) hq
      simp (config := { contextual := true }) (disch := omega) only [R_X7_read_b0, R_X7_read_b1, h45, kD, e5, kp, true_and, and_true, true_implies, not_true_eq_false, false_implies, not_false_eq_true, false_and, and_false, or_true, true_or, false_or, or_false, implies_true, forall_const, kl_i, kl_n, kl_r, kl_l, tl_s, tl_n, List.cons_append, List.nil_append, Int.cast_ofNat_Int, w32_id, w64_id, le_T, le_F, lt_T, lt_F, eq_T, eq_F, reduceIte, ne_eq, Int.toNat_natCast, bi_0, bi_1, bi_b, Nat.reduceAdd, Nat.reduceEqDiff, Int.reduceToNat, Int.reduceNeg, nle_T, nlt_T, neq_T, neq_F, b2_0, b2_b, both, reduceCtorEq]
    · have hq := hn (by rw [fitS_N]; exact z)
      have kp := fun d Q => (kp d Q).trans (if_neg z)
      refine Eq.mp (Eq.symm ?_) hq
      simp (config := { contextual := true }) (disch := omega) only [R_X7_read_b0, R_X7_read_b1, h45, kD, e5, kp, true_and, and_true, true_implies, not_true_eq_false, false_implies, not_false_eq_true, false_and, and_false, or_true, true_or, false_or, or_false, implies_true, forall_const, kl_i, kl_n, kl_r, kl_l, tl_s, tl_n, List.cons_append, List.nil_append, Int.cast_ofNat_Int, w32_id, w64_id, le_T, le_F, lt_T, lt_F, eq_T, eq_F, reduceIte, ne_eq, Int.toNat_natCast, bi_0, bi_1, bi_b, Nat.reduceAdd, Nat.reduceEqDiff, Int.reduceToNat, Int.reduceNeg, nle_T, nlt_T, neq_T, neq_F, b2_0, b2_b, both, reduceCtorEq]
  · obtain ⟨e5, e6, e7⟩ := c2 rfl
    have e5 : I 45 5 = x1 := e5
    have e6 : I 45 6 = x2 := e6
    have e7 : I 45 7 = x3 := e7
    have h1 : 0 ≤ x1 ∧ x1 ≤ 9 := h1
    have h2 : 0 ≤ x2 ∧ x2 ≤ 9 := h2
    obtain ⟨a, rfl⟩ := Int.eq_ofNat_of_zero_le h1.1
    obtain ⟨b, rfl⟩ := Int.eq_ofNat_of_zero_le h2.1
    by_cases z : fitW A P w a b x3
    · have hz : fitS (A, P, w, nn) q m (119, (a : Int), (b : Int), x3, x4) := by rw [fitS_W]; exact z
      have hq := hy g _ hz (CI_st h hd h.1 (fun _ _ => rfl) (fun _ _ _ _ => rfl) (by omega) (by omega) (fun c _ hc => by rw [pr_o (by omega), pr_o (by omega)]) (TW_nxW (a := a) (b := b) (l := x3) (by omega) hT) (hok hz)) (by rw [pr_o (by omega), pr_o (by omega)])
      have kp := fun d Q => ct_tellWay_y hW hT hS z d Q
      refine Eq.mp (Eq.symm ?_) hq
      simp (config := { contextual := true }) (disch := omega) only [R_X7_read_b0, R_X7_read_b1, h45, kD, e5, e6, e7, kp, true_and, and_true, true_implies, not_true_eq_false, false_implies, not_false_eq_true, false_and, and_false, or_true, true_or, false_or, or_false, implies_true, forall_const, kl_i, kl_n, kl_r, kl_l, tl_s, tl_n, List.cons_append, List.nil_append, Int.cast_ofNat_Int, w32_id, w64_id, le_T, le_F, lt_T, lt_F, eq_T, eq_F, reduceIte, ne_eq, Int.toNat_natCast, bi_0, bi_1, bi_b, Nat.reduceAdd, Nat.reduceEqDiff, Int.reduceToNat, Int.reduceNeg, nle_T, nlt_T, neq_T, neq_F, b2_0, b2_b, both, reduceCtorEq]
    · have hq := hn (by rw [fitS_W]; exact z)
      have kp := fun d Q => ct_tellWay_n hW hT hS z d Q
      refine Eq.mp (Eq.symm ?_) hq
      simp (config := { contextual := true }) (disch := omega) only [R_X7_read_b0, R_X7_read_b1, h45, kD, e5, e6, e7, kp, true_and, and_true, true_implies, not_true_eq_false, false_implies, not_false_eq_true, false_and, and_false, or_true, true_or, false_or, or_false, implies_true, forall_const, kl_i, kl_n, kl_r, kl_l, tl_s, tl_n, List.cons_append, List.nil_append, Int.cast_ofNat_Int, w32_id, w64_id, le_T, le_F, lt_T, lt_F, eq_T, eq_F, reduceIte, ne_eq, Int.toNat_natCast, bi_0, bi_1, bi_b, Nat.reduceAdd, Nat.reduceEqDiff, Int.reduceToNat, Int.reduceNeg, nle_T, nlt_T, neq_T, neq_F, b2_0, b2_b, both, reduceCtorEq]
  · obtain ⟨e4, e5, e6, e7⟩ := c3 rfl
    have e4 : I 45 4 = x1 := e4
    have e5 : I 45 5 = x2 := e5
    have e6 : I 45 6 = x3 := e6
    have e7 : I 45 7 = x4 := e7
    have h1 : 0 ≤ x1 ∧ x1 ≤ 5 := h1
    have h2 : 0 ≤ x2 ∧ x2 ≤ 9 := h2
    have h4 : 0 ≤ x4 ∧ x4 ≤ 999 := h4
    have f0 : I dr 0 = (P : Int) := hT.1.1.trans hS.1.1
    have f4 : I dr 4 = (nn : Int) := hT.1.2.2.1.trans hS.1.2.2.1
    have kp := fun d Q => ct_tellThing (I := I) (wo := x3) hW hd hSt hN f0 f4 hS.2.2.2.1.1 hS.2.1.2 h1 h2.1 h4.1 d Q
    by_cases z : x2 < P ∧ nn < 7 ∧ (x1 = 2 → x4 < nn)
    · have hz : fitS (A, P, w, nn) q m (116, x1, x2, x3, x4) := by rw [fitS_T]; exact z
      have hq := hy (gth g dr x1 nn) _ hz (CI_st h hd (WZ_gth hd hN h.1 h1) (fun a ha => gth_K (by omega)) (fun a k ha h3 => gth_Ro h3 (by omega)) (by rw [gth_N]; omega) (by rw [gth_S]; omega) (fun c hc hc2 => by rw [pr_o (by omega), pr_o (by omega)]) (TW_nxT (kd := x1) (pl := x2) (wo := x3) (ak := x4) hd hN hTN z.2.1 hT) (hok hz)) (by rw [pr_o (by omega), pr_o (by omega)])
      have kp := fun d Q => (kp d Q).trans (if_pos z)
      refine Eq.mp (Eq.symm ?_) hq
      simp (config := { contextual := true }) (disch := omega) only [R_X7_read_b0, R_X7_read_b1, h45, kD, e4, e5, e6, e7, kp, true_and, and_true, true_implies, not_true_eq_false, false_implies, not_false_eq_true, false_and, and_false, or_true, true_or, false_or, or_false, implies_true, forall_const, kl_i, kl_n, kl_r, kl_l, tl_s, tl_n, List.cons_append, List.nil_append, Int.cast_ofNat_Int, w32_id, w64_id, le_T, le_F, lt_T, lt_F, eq_T, eq_F, reduceIte, ne_eq, Int.toNat_natCast, bi_0, bi_1, bi_b, Nat.reduceAdd, Nat.reduceEqDiff, Int.reduceToNat, Int.reduceNeg, nle_T, nlt_T, neq_T, neq_F, b2_0, b2_b, both, reduceCtorEq]
    · have hq := hn (by rw [fitS_T]; exact z)
      have kp := fun d Q => (kp d Q).trans (if_neg z)
      refine Eq.mp (Eq.symm ?_) hq
      simp (config := { contextual := true }) (disch := omega) only [R_X7_read_b0, R_X7_read_b1, h45, kD, e4, e5, e6, e7, kp, true_and, and_true, true_implies, not_true_eq_false, false_implies, not_false_eq_true, false_and, and_false, or_true, true_or, false_or, or_false, implies_true, forall_const, kl_i, kl_n, kl_r, kl_l, tl_s, tl_n, List.cons_append, List.nil_append, Int.cast_ofNat_Int, w32_id, w64_id, le_T, le_F, lt_T, lt_F, eq_T, eq_F, reduceIte, ne_eq, Int.toNat_natCast, bi_0, bi_1, bi_b, Nat.reduceAdd, Nat.reduceEqDiff, Int.reduceToNat, Int.reduceNeg, nle_T, nlt_T, neq_T, neq_F, b2_0, b2_b, both, reduceCtorEq]
end CTS

-- LAND: a way told, on both sides
def wyS (A : II) (w : Nat) (a b : Int) : Prop := ∀ e, e < w → ¬ (A 0 e = a ∧ A 1 e = b) ∧ ¬ (A 0 e = b ∧ A 1 e = a)
def fitW (A : II) (P w : Nat) (a b l : Int) : Prop := ((0 ≤ a ∧ a < P) ∧ (0 ≤ b ∧ b < P) ∧ ¬ a = b ∧ (1 ≤ l ∧ l ≤ 200)) ∧ w < 14 ∧ wyS A w a b
def nxW (A : II) (w : Nat) (a b l : Int) : II := pr (pr (pr (pr A 0 (uf (A 0) w a)) 1 (uf (A 1) w b)) 2 (uf (A 2) w l)) 14 (uf (A 14) 1 ((w : Int) + 1))
section WAY
variable {g : GG} {I A : II} {t P w n q m : Nat}
theorem ways_s (hT : TW g I t A w n) (hS : okS A P w n q m) {a b : Nat} (ha : a < 8) (hb : b < 8) : ¬ 0 < I (t + 1) (8 * a + b) ↔ wyS A w a b := by
  have hw := okS_w8 hS
  rw [hT.2.1 _ (by omega), dwy_pos w hw]
  constructor
  · intro h e he
    exact ⟨fun z => h ⟨e, he, Or.inl (by rw [z.1, z.2]; rfl)⟩, fun z => h ⟨e, he, Or.inr (by rw [z.1, z.2]; rfl)⟩⟩
  · rintro h ⟨e, he, z⟩
    obtain ⟨h1, h2⟩ := h e he
    have := hw e he
    rcases z with z | z
    · exact h1 (by omega)
    · exact h2 (by omega)
theorem ct_tellWay_y (hW : WT g t) (hT : TW g I t A w n) (hS : okS A P w n q m) {a b : Nat} {l : Int} (hf : fitW A P w a b l) (d : Nat) (Q : QQ) : WP (d + 1) m_X9_tellWay 0 [some (vr (some t)), some (vi a), some (vi b), some (vi l)] [] g I Q = Q (some (vi 1)) g (pr (pr I (t + 1) (uf (uf (I (t + 1)) (8 * a + b) l) (8 * b + a) l)) t (uf (I t) 1 ((w : Int) + 1))) := by
  obtain ⟨⟨ha, hb, hab, hl⟩, hw, hy⟩ := hf
  have hP := hS.2.1
  have hz := (ways_s hT hS (a := a) (b := b) (by omega) (by omega)).mpr hy
  have e0 : I t 0 = (P : Int) := by rw [hT.1.1]; exact hS.1.1
  have e1 : I t 1 = (w : Int) := by rw [hT.1.2.1]; exact hS.1.2.1
  have i1 : ((a : Int) * 8 + (b : Int)).toNat = 8 * a + b := by omega
  have i2 : ((b : Int) * 8 + (a : Int)).toNat = 8 * b + a := by omega
  simp (config := { contextual := true }) (disch := omega) only [R_X9_tellWay_b0, R_X9_tellWay_b1, hW, ct_isPlace hW, e0, e1, i1, i2, up_pr, pr_s, pr_o, pr_pr, hz, true_and, and_true, true_implies, not_true_eq_false, false_implies, not_false_eq_true, false_and, and_false, or_true, true_or, false_or, or_false, implies_true, forall_const, kl_i, kl_n, kl_r, kl_l, tl_s, tl_n, List.cons_append, List.nil_append, Int.cast_ofNat_Int, w32_id, w64_id, le_T, le_F, lt_T, lt_F, eq_T, eq_F, reduceIte, ne_eq, Int.toNat_natCast, bi_0, bi_1, bi_b, Nat.reduceAdd, Nat.reduceEqDiff, Int.reduceToNat, Int.reduceNeg, nle_T, nlt_T, neq_T, neq_F, b2_0, b2_b, both, reduceCtorEq]
theorem ct_tellWay_n (hW : WT g t) (hT : TW g I t A w n) (hS : okS A P w n q m) {a b : Nat} {l : Int} (hf : ¬ fitW A P w a b l) (d : Nat) (Q : QQ) : WP (d + 1) m_X9_tellWay 0 [some (vr (some t)), some (vi a), some (vi b), some (vi l)] [] g I Q = Q (some (vi 0)) g I := by
  have hP := hS.2.1
  have e0 : I t 0 = (P : Int) := by rw [hT.1.1]; exact hS.1.1
  have e1 : I t 1 = (w : Int) := by rw [hT.1.2.1]; exact hS.1.2.1
  have hw14 := hS.2.2.1.1
  by_cases c1 : (a : Int) < P
  case neg => simp (config := { contextual := true }) (disch := omega) only [R_X9_tellWay_b0, R_X9_tellWay_b1, hW, ct_isPlace hW, e0, e1, true_and, and_true, true_implies, not_true_eq_false, false_implies, not_false_eq_true, false_and, and_false, or_true, true_or, false_or, or_false, implies_true, forall_const, kl_i, kl_n, kl_r, kl_l, tl_s, tl_n, List.cons_append, List.nil_append, Int.cast_ofNat_Int, w32_id, w64_id, le_T, le_F, lt_T, lt_F, eq_T, eq_F, reduceIte, ne_eq, Int.toNat_natCast, bi_0, bi_1, bi_b, Nat.reduceAdd, Nat.reduceEqDiff, Int.reduceToNat, Int.reduceNeg, nle_T, nlt_T, neq_T, neq_F, b2_0, b2_b, both, reduceCtorEq]
  by_cases c2 : (b : Int) < P
  case neg => simp (config := { contextual := true }) (disch := omega) only [R_X9_tellWay_b0, R_X9_tellWay_b1, hW, ct_isPlace hW, e0, e1, true_and, and_true, true_implies, not_true_eq_false, false_implies, not_false_eq_true, false_and, and_false, or_true, true_or, false_or, or_false, implies_true, forall_const, kl_i, kl_n, kl_r, kl_l, tl_s, tl_n, List.cons_append, List.nil_append, Int.cast_ofNat_Int, w32_id, w64_id, le_T, le_F, lt_T, lt_F, eq_T, eq_F, reduceIte, ne_eq, Int.toNat_natCast, bi_0, bi_1, bi_b, Nat.reduceAdd, Nat.reduceEqDiff, Int.reduceToNat, Int.reduceNeg, nle_T, nlt_T, neq_T, neq_F, b2_0, b2_b, both, reduceCtorEq]
  by_cases c3 : (a : Int) = b
  case pos => simp (config := { contextual := true }) (disch := omega) only [R_X9_tellWay_b0, R_X9_tellWay_b1, hW, ct_isPlace hW, e0, e1, true_and, and_true, true_implies, not_true_eq_false, false_implies, not_false_eq_true, false_and, and_false, or_true, true_or, false_or, or_false, implies_true, forall_const, kl_i, kl_n, kl_r, kl_l, tl_s, tl_n, List.cons_append, List.nil_append, Int.cast_ofNat_Int, w32_id, w64_id, le_T, le_F, lt_T, lt_F, eq_T, eq_F, reduceIte, ne_eq, Int.toNat_natCast, bi_0, bi_1, bi_b, Nat.reduceAdd, Nat.reduceEqDiff, Int.reduceToNat, Int.reduceNeg, nle_T, nlt_T, neq_T, neq_F, b2_0, b2_b, both, reduceCtorEq]
  by_cases c4 : 1 ≤ l
  case neg => simp (config := { contextual := true }) (disch := omega) only [R_X9_tellWay_b0, R_X9_tellWay_b1, hW, ct_isPlace hW, e0, e1, true_and, and_true, true_implies, not_true_eq_false, false_implies, not_false_eq_true, false_and, and_false, or_true, true_or, false_or, or_false, implies_true, forall_const, kl_i, kl_n, kl_r, kl_l, tl_s, tl_n, List.cons_append, List.nil_append, Int.cast_ofNat_Int, w32_id, w64_id, le_T, le_F, lt_T, lt_F, eq_T, eq_F, reduceIte, ne_eq, Int.toNat_natCast, bi_0, bi_1, bi_b, Nat.reduceAdd, Nat.reduceEqDiff, Int.reduceToNat, Int.reduceNeg, nle_T, nlt_T, neq_T, neq_F, b2_0, b2_b, both, reduceCtorEq]
  by_cases c5 : l ≤ 200
  case neg => simp (config := { contextual := true }) (disch := omega) only [R_X9_tellWay_b0, R_X9_tellWay_b1, hW, ct_isPlace hW, e0, e1, true_and, and_true, true_implies, not_true_eq_false, false_implies, not_false_eq_true, false_and, and_false, or_true, true_or, false_or, or_false, implies_true, forall_const, kl_i, kl_n, kl_r, kl_l, tl_s, tl_n, List.cons_append, List.nil_append, Int.cast_ofNat_Int, w32_id, w64_id, le_T, le_F, lt_T, lt_F, eq_T, eq_F, reduceIte, ne_eq, Int.toNat_natCast, bi_0, bi_1, bi_b, Nat.reduceAdd, Nat.reduceEqDiff, Int.reduceToNat, Int.reduceNeg, nle_T, nlt_T, neq_T, neq_F, b2_0, b2_b, both, reduceCtorEq]
  have i1 : ((a : Int) * 8 + (b : Int)).toNat = 8 * a + b := by omega
  have hz := ways_s hT hS (a := a) (b := b) (by omega) (by omega)
  by_cases c6 : 0 < I (t + 1) (8 * a + b)
  · simp (config := { contextual := true }) (disch := omega) only [R_X9_tellWay_b0, R_X9_tellWay_b1, hW, ct_isPlace hW, e0, e1, i1, true_and, and_true, true_implies, not_true_eq_false, false_implies, not_false_eq_true, false_and, and_false, or_true, true_or, false_or, or_false, implies_true, forall_const, kl_i, kl_n, kl_r, kl_l, tl_s, tl_n, List.cons_append, List.nil_append, Int.cast_ofNat_Int, w32_id, w64_id, le_T, le_F, lt_T, lt_F, eq_T, eq_F, reduceIte, ne_eq, Int.toNat_natCast, bi_0, bi_1, bi_b, Nat.reduceAdd, Nat.reduceEqDiff, Int.reduceToNat, Int.reduceNeg, nle_T, nlt_T, neq_T, neq_F, b2_0, b2_b, both, reduceCtorEq]
  · have c7 : ¬ w < 14 := fun z => hf ⟨⟨⟨by omega, c1⟩, ⟨by omega, c2⟩, c3, c4, c5⟩, z, hz.mp c6⟩
    simp (config := { contextual := true }) (disch := omega) only [R_X9_tellWay_b0, R_X9_tellWay_b1, hW, ct_isPlace hW, e0, e1, i1, true_and, and_true, true_implies, not_true_eq_false, false_implies, not_false_eq_true, false_and, and_false, or_true, true_or, false_or, or_false, implies_true, forall_const, kl_i, kl_n, kl_r, kl_l, tl_s, tl_n, List.cons_append, List.nil_append, Int.cast_ofNat_Int, w32_id, w64_id, le_T, le_F, lt_T, lt_F, eq_T, eq_F, reduceIte, ne_eq, Int.toNat_natCast, bi_0, bi_1, bi_b, Nat.reduceAdd, Nat.reduceEqDiff, Int.reduceToNat, Int.reduceNeg, nle_T, nlt_T, neq_T, neq_F, b2_0, b2_b, both, reduceCtorEq]
theorem lp_cwN (hW : WM g) (h15 : I 57 15 = (w : Int)) (hw : w ≤ 14) {a b l : Int} (d : Nat) (Q : QQ) : ∀ k i : Nat, i + k = w → (∀ e, i ≤ e → e < w → ¬ (I 59 e = a ∧ I 60 e = b) ∧ ¬ (I 59 e = b ∧ I 60 e = a)) → WP d m_X12_comesWay 46 [some (vr (some 57)), some (vi a), some (vi b), some (vi l), some (vi i)] [] g I Q = WP d m_X12_comesWay 46 [some (vr (some 57)), some (vi a), some (vi b), some (vi l), some (vi w)] [] g I Q := by
  intro k
  induction k with
  | zero =>
    intro i hi _
    obtain rfl : i = w := by omega
    rfl
  | succ k ih =>
    intro i hi h
    have ih' := ih (i + 1) (by omega) (fun e h1 h2 => h e (by omega) h2)
    have ec : ((i + 1 : Nat) : Int) = (i : Int) + 1 := by omega
    rw [ec] at ih'
    obtain ⟨h1, h2⟩ := h i (by omega) (by omega)
    rw [← ih']
    clear ih' ih
    have st : WP d m_X12_comesWay 46 [some (vr (some 57)), some (vi a), some (vi b), some (vi l), some (vi i)] [] g I Q = WP d m_X12_comesWay 46 [some (vr (some 57)), some (vi a), some (vi b), some (vi l), some (vi ((i : Int) + 1))] [] g I Q := by
      rw [H_X12_comesWay_46]
      by_cases c1 : I 59 i = a
      · by_cases c2 : I 60 i = b
        · exact absurd ⟨c1, c2⟩ h1
        · by_cases c3 : I 59 i = b
          · by_cases c4 : I 60 i = a
            · exact absurd ⟨c3, c4⟩ h2
            · have c1' : b = a := c3.symm.trans c1
              simp (config := { contextual := true }) (disch := omega) only [R_X12_comesWay_b0, R_X12_comesWay_b1, hW, h15, c1, c2, c4, c1', true_and, and_true, true_implies, not_true_eq_false, false_implies, not_false_eq_true, false_and, and_false, or_true, true_or, false_or, or_false, implies_true, forall_const, kl_i, kl_n, kl_r, kl_l, tl_s, tl_n, List.cons_append, List.nil_append, Int.cast_ofNat_Int, w32_id, w64_id, le_T, le_F, lt_T, lt_F, eq_T, eq_F, reduceIte, ne_eq, Int.toNat_natCast, bi_0, bi_1, bi_b, Nat.reduceAdd, Nat.reduceEqDiff, Int.reduceToNat, Int.reduceNeg, nle_T, nlt_T, neq_T, neq_F, b2_0, b2_b, both, reduceCtorEq]
          · have c3' : ¬ a = b := fun z => c3 (c1.trans z)
            simp (config := { contextual := true }) (disch := omega) only [R_X12_comesWay_b0, R_X12_comesWay_b1, hW, h15, c1, c2, c3', true_and, and_true, true_implies, not_true_eq_false, false_implies, not_false_eq_true, false_and, and_false, or_true, true_or, false_or, or_false, implies_true, forall_const, kl_i, kl_n, kl_r, kl_l, tl_s, tl_n, List.cons_append, List.nil_append, Int.cast_ofNat_Int, w32_id, w64_id, le_T, le_F, lt_T, lt_F, eq_T, eq_F, reduceIte, ne_eq, Int.toNat_natCast, bi_0, bi_1, bi_b, Nat.reduceAdd, Nat.reduceEqDiff, Int.reduceToNat, Int.reduceNeg, nle_T, nlt_T, neq_T, neq_F, b2_0, b2_b, both, reduceCtorEq]
      · by_cases c3 : I 59 i = b
        · by_cases c4 : I 60 i = a
          · exact absurd ⟨c3, c4⟩ h2
          · have c3' : ¬ b = a := fun z => c1 (c3.trans z)
            simp (config := { contextual := true }) (disch := omega) only [R_X12_comesWay_b0, R_X12_comesWay_b1, hW, h15, c3, c4, c3', true_and, and_true, true_implies, not_true_eq_false, false_implies, not_false_eq_true, false_and, and_false, or_true, true_or, false_or, or_false, implies_true, forall_const, kl_i, kl_n, kl_r, kl_l, tl_s, tl_n, List.cons_append, List.nil_append, Int.cast_ofNat_Int, w32_id, w64_id, le_T, le_F, lt_T, lt_F, eq_T, eq_F, reduceIte, ne_eq, Int.toNat_natCast, bi_0, bi_1, bi_b, Nat.reduceAdd, Nat.reduceEqDiff, Int.reduceToNat, Int.reduceNeg, nle_T, nlt_T, neq_T, neq_F, b2_0, b2_b, both, reduceCtorEq]
        · simp (config := { contextual := true }) (disch := omega) only [R_X12_comesWay_b0, R_X12_comesWay_b1, hW, h15, c1, c3, true_and, and_true, true_implies, not_true_eq_false, false_implies, not_false_eq_true, false_and, and_false, or_true, true_or, false_or, or_false, implies_true, forall_const, kl_i, kl_n, kl_r, kl_l, tl_s, tl_n, List.cons_append, List.nil_append, Int.cast_ofNat_Int, w32_id, w64_id, le_T, le_F, lt_T, lt_F, eq_T, eq_F, reduceIte, ne_eq, Int.toNat_natCast, bi_0, bi_1, bi_b, Nat.reduceAdd, Nat.reduceEqDiff, Int.reduceToNat, Int.reduceNeg, nle_T, nlt_T, neq_T, neq_F, b2_0, b2_b, both, reduceCtorEq]
    exact st
theorem lp_cwY (hW : WM g) (h15 : I 57 15 = (w : Int)) (hw : w ≤ 14) {a b l : Int} (d : Nat) (Q : QQ) : ∀ k i : Nat, i + k = w → (∃ e, i ≤ e ∧ e < w ∧ ((I 59 e = a ∧ I 60 e = b) ∨ (I 59 e = b ∧ I 60 e = a))) → WP d m_X12_comesWay 46 [some (vr (some 57)), some (vi a), some (vi b), some (vi l), some (vi i)] [] g I Q = Q (some (vi 0)) g I := by
  intro k
  induction k with
  | zero =>
    rintro i hi ⟨e, h1, h2, _⟩
    omega
  | succ k ih =>
    rintro i hi ⟨e, h1, h2, h3⟩
    have ec : ((i + 1 : Nat) : Int) = (i : Int) + 1 := by omega
    rw [H_X12_comesWay_46]
    by_cases c : (I 59 i = a ∧ I 60 i = b) ∨ (I 59 i = b ∧ I 60 i = a)
    · rcases c with ⟨c1, c2⟩ | ⟨c1, c2⟩
      · simp (config := { contextual := true }) (disch := omega) only [R_X12_comesWay_b0, R_X12_comesWay_b1, hW, h15, c1, c2, true_and, and_true, true_implies, not_true_eq_false, false_implies, not_false_eq_true, false_and, and_false, or_true, true_or, false_or, or_false, implies_true, forall_const, kl_i, kl_n, kl_r, kl_l, tl_s, tl_n, List.cons_append, List.nil_append, Int.cast_ofNat_Int, w32_id, w64_id, le_T, le_F, lt_T, lt_F, eq_T, eq_F, reduceIte, ne_eq, Int.toNat_natCast, bi_0, bi_1, bi_b, Nat.reduceAdd, Nat.reduceEqDiff, Int.reduceToNat, Int.reduceNeg, nle_T, nlt_T, neq_T, neq_F, b2_0, b2_b, both, reduceCtorEq]
      · by_cases c3 : b = a
        · subst c3
          simp (config := { contextual := true }) (disch := omega) only [R_X12_comesWay_b0, R_X12_comesWay_b1, hW, h15, c1, c2, true_and, and_true, true_implies, not_true_eq_false, false_implies, not_false_eq_true, false_and, and_false, or_true, true_or, false_or, or_false, implies_true, forall_const, kl_i, kl_n, kl_r, kl_l, tl_s, tl_n, List.cons_append, List.nil_append, Int.cast_ofNat_Int, w32_id, w64_id, le_T, le_F, lt_T, lt_F, eq_T, eq_F, reduceIte, ne_eq, Int.toNat_natCast, bi_0, bi_1, bi_b, Nat.reduceAdd, Nat.reduceEqDiff, Int.reduceToNat, Int.reduceNeg, nle_T, nlt_T, neq_T, neq_F, b2_0, b2_b, both, reduceCtorEq]
        · simp (config := { contextual := true }) (disch := omega) only [R_X12_comesWay_b0, R_X12_comesWay_b1, hW, h15, c1, c2, c3, true_and, and_true, true_implies, not_true_eq_false, false_implies, not_false_eq_true, false_and, and_false, or_true, true_or, false_or, or_false, implies_true, forall_const, kl_i, kl_n, kl_r, kl_l, tl_s, tl_n, List.cons_append, List.nil_append, Int.cast_ofNat_Int, w32_id, w64_id, le_T, le_F, lt_T, lt_F, eq_T, eq_F, reduceIte, ne_eq, Int.toNat_natCast, bi_0, bi_1, bi_b, Nat.reduceAdd, Nat.reduceEqDiff, Int.reduceToNat, Int.reduceNeg, nle_T, nlt_T, neq_T, neq_F, b2_0, b2_b, both, reduceCtorEq]
    · have ih' := ih (i + 1) (by omega) ⟨e, by
        by_cases z : e = i
        · rw [z] at h3; exact absurd h3 c
        · omega, h2, h3⟩
      rw [ec] at ih'
      have n1 : ¬ (I 59 i = a ∧ I 60 i = b) := fun z => c (Or.inl z)
      have n2 : ¬ (I 59 i = b ∧ I 60 i = a) := fun z => c (Or.inr z)
      by_cases c1 : I 59 i = a
      · have c2 : ¬ I 60 i = b := fun z => n1 ⟨c1, z⟩
        by_cases c3 : I 59 i = b
        · have c4 : ¬ I 60 i = a := fun z => n2 ⟨c3, z⟩
          have c1' : b = a := c3.symm.trans c1
          rw [c1'] at ih'
          simp (config := { contextual := true }) (disch := omega) only [R_X12_comesWay_b0, R_X12_comesWay_b1, hW, h15, c1, c2, c4, c1', ih', true_and, and_true, true_implies, not_true_eq_false, false_implies, not_false_eq_true, false_and, and_false, or_true, true_or, false_or, or_false, implies_true, forall_const, kl_i, kl_n, kl_r, kl_l, tl_s, tl_n, List.cons_append, List.nil_append, Int.cast_ofNat_Int, w32_id, w64_id, le_T, le_F, lt_T, lt_F, eq_T, eq_F, reduceIte, ne_eq, Int.toNat_natCast, bi_0, bi_1, bi_b, Nat.reduceAdd, Nat.reduceEqDiff, Int.reduceToNat, Int.reduceNeg, nle_T, nlt_T, neq_T, neq_F, b2_0, b2_b, both, reduceCtorEq]
        · have c3' : ¬ a = b := fun z => c3 (c1.trans z)
          simp (config := { contextual := true }) (disch := omega) only [R_X12_comesWay_b0, R_X12_comesWay_b1, hW, h15, c1, c2, c3', ih', true_and, and_true, true_implies, not_true_eq_false, false_implies, not_false_eq_true, false_and, and_false, or_true, true_or, false_or, or_false, implies_true, forall_const, kl_i, kl_n, kl_r, kl_l, tl_s, tl_n, List.cons_append, List.nil_append, Int.cast_ofNat_Int, w32_id, w64_id, le_T, le_F, lt_T, lt_F, eq_T, eq_F, reduceIte, ne_eq, Int.toNat_natCast, bi_0, bi_1, bi_b, Nat.reduceAdd, Nat.reduceEqDiff, Int.reduceToNat, Int.reduceNeg, nle_T, nlt_T, neq_T, neq_F, b2_0, b2_b, both, reduceCtorEq]
      · by_cases c3 : I 59 i = b
        · have c4 : ¬ I 60 i = a := fun z => n2 ⟨c3, z⟩
          have c3' : ¬ b = a := fun z => c1 (c3.trans z)
          simp (config := { contextual := true }) (disch := omega) only [R_X12_comesWay_b0, R_X12_comesWay_b1, hW, h15, c3, c4, c3', ih', true_and, and_true, true_implies, not_true_eq_false, false_implies, not_false_eq_true, false_and, and_false, or_true, true_or, false_or, or_false, implies_true, forall_const, kl_i, kl_n, kl_r, kl_l, tl_s, tl_n, List.cons_append, List.nil_append, Int.cast_ofNat_Int, w32_id, w64_id, le_T, le_F, lt_T, lt_F, eq_T, eq_F, reduceIte, ne_eq, Int.toNat_natCast, bi_0, bi_1, bi_b, Nat.reduceAdd, Nat.reduceEqDiff, Int.reduceToNat, Int.reduceNeg, nle_T, nlt_T, neq_T, neq_F, b2_0, b2_b, both, reduceCtorEq]
        · simp (config := { contextual := true }) (disch := omega) only [R_X12_comesWay_b0, R_X12_comesWay_b1, hW, h15, c1, c3, ih', true_and, and_true, true_implies, not_true_eq_false, false_implies, not_false_eq_true, false_and, and_false, or_true, true_or, false_or, or_false, implies_true, forall_const, kl_i, kl_n, kl_r, kl_l, tl_s, tl_n, List.cons_append, List.nil_append, Int.cast_ofNat_Int, w32_id, w64_id, le_T, le_F, lt_T, lt_F, eq_T, eq_F, reduceIte, ne_eq, Int.toNat_natCast, bi_0, bi_1, bi_b, Nat.reduceAdd, Nat.reduceEqDiff, Int.reduceToNat, Int.reduceNeg, nle_T, nlt_T, neq_T, neq_F, b2_0, b2_b, both, reduceCtorEq]
theorem ct_cw_y (hW : WM g) (hM : MR I A) (hS : okS A P w n q m) {a b l : Int} (hf : fitW A P w a b l) (d : Nat) (Q : QQ) : WP (d + 1) m_X12_comesWay 0 [some (vr (some 57)), some (vi a), some (vi b), some (vi l), none] [] g I Q = Q (some (vi 1)) g (pr (pr (pr (pr I 59 (uf (I 59) w a)) 60 (uf (I 60) w b)) 61 (uf (I 61) w l)) 57 (uf (I 57) 15 ((w : Int) + 1))) := by
  obtain ⟨⟨ha, hb, hab, hl⟩, hw, hy⟩ := hf
  have e14 : I 57 14 = (P : Int) := hM.2.2.2.2.2.2.2.2.2.2.2.2.2.2.1.trans hS.1.1
  have e15 : I 57 15 = (w : Int) := hM.2.2.2.2.2.2.2.2.2.2.2.2.2.2.2.1.trans hS.1.2.1
  have lp := lp_cwN hW e15 (by omega) (a := a) (b := b) (l := l) (d + 1) Q w 0 (by omega) (fun e _ h2 => by rw [hM.1, hM.2.1]; exact hy e h2)
  have ez : ((0 : Nat) : Int) = 0 := rfl
  rw [ez] at lp
  have st : WP (d + 1) m_X12_comesWay 0 [some (vr (some 57)), some (vi a), some (vi b), some (vi l), none] [] g I Q = WP (d + 1) m_X12_comesWay 46 [some (vr (some 57)), some (vi a), some (vi b), some (vi l), some (vi 0)] [] g I Q := by
    simp (config := { contextual := true }) (disch := omega) only [R_X12_comesWay_b0, R_X12_comesWay_b1, hW, ct_misPlace hW, ct_isIn, e14, e15, true_and, and_true, true_implies, not_true_eq_false, false_implies, not_false_eq_true, false_and, and_false, or_true, true_or, false_or, or_false, implies_true, forall_const, kl_i, kl_n, kl_r, kl_l, tl_s, tl_n, List.cons_append, List.nil_append, Int.cast_ofNat_Int, w32_id, w64_id, le_T, le_F, lt_T, lt_F, eq_T, eq_F, reduceIte, ne_eq, Int.toNat_natCast, bi_0, bi_1, bi_b, Nat.reduceAdd, Nat.reduceEqDiff, Int.reduceToNat, Int.reduceNeg, nle_T, nlt_T, neq_T, neq_F, b2_0, b2_b, both, reduceCtorEq]
  rw [st, lp, H_X12_comesWay_46]
  simp (config := { contextual := true }) (disch := omega) only [R_X12_comesWay_b0, R_X12_comesWay_b1, hW, e15, up_pr, pr_o, true_and, and_true, true_implies, not_true_eq_false, false_implies, not_false_eq_true, false_and, and_false, or_true, true_or, false_or, or_false, implies_true, forall_const, kl_i, kl_n, kl_r, kl_l, tl_s, tl_n, List.cons_append, List.nil_append, Int.cast_ofNat_Int, w32_id, w64_id, le_T, le_F, lt_T, lt_F, eq_T, eq_F, reduceIte, ne_eq, Int.toNat_natCast, bi_0, bi_1, bi_b, Nat.reduceAdd, Nat.reduceEqDiff, Int.reduceToNat, Int.reduceNeg, nle_T, nlt_T, neq_T, neq_F, b2_0, b2_b, both, reduceCtorEq]
theorem ct_cw_n (hW : WM g) (hM : MR I A) (hS : okS A P w n q m) {a b l : Int} (ha : 0 ≤ a ∧ 0 ≤ b) (hf : ¬ fitW A P w a b l) (d : Nat) (Q : QQ) : WP (d + 1) m_X12_comesWay 0 [some (vr (some 57)), some (vi a), some (vi b), some (vi l), none] [] g I Q = Q (some (vi 0)) g I := by
  have e14 : I 57 14 = (P : Int) := hM.2.2.2.2.2.2.2.2.2.2.2.2.2.2.1.trans hS.1.1
  have e15 : I 57 15 = (w : Int) := hM.2.2.2.2.2.2.2.2.2.2.2.2.2.2.2.1.trans hS.1.2.1
  have hw14 := hS.2.2.1.1
  by_cases c1 : a < P
  case neg => simp (config := { contextual := true }) (disch := omega) only [R_X12_comesWay_b0, R_X12_comesWay_b1, hW, ct_misPlace hW, ct_isIn, e14, e15, true_and, and_true, true_implies, not_true_eq_false, false_implies, not_false_eq_true, false_and, and_false, or_true, true_or, false_or, or_false, implies_true, forall_const, kl_i, kl_n, kl_r, kl_l, tl_s, tl_n, List.cons_append, List.nil_append, Int.cast_ofNat_Int, w32_id, w64_id, le_T, le_F, lt_T, lt_F, eq_T, eq_F, reduceIte, ne_eq, Int.toNat_natCast, bi_0, bi_1, bi_b, Nat.reduceAdd, Nat.reduceEqDiff, Int.reduceToNat, Int.reduceNeg, nle_T, nlt_T, neq_T, neq_F, b2_0, b2_b, both, reduceCtorEq]
  by_cases c2 : b < P
  case neg => simp (config := { contextual := true }) (disch := omega) only [R_X12_comesWay_b0, R_X12_comesWay_b1, hW, ct_misPlace hW, ct_isIn, e14, e15, true_and, and_true, true_implies, not_true_eq_false, false_implies, not_false_eq_true, false_and, and_false, or_true, true_or, false_or, or_false, implies_true, forall_const, kl_i, kl_n, kl_r, kl_l, tl_s, tl_n, List.cons_append, List.nil_append, Int.cast_ofNat_Int, w32_id, w64_id, le_T, le_F, lt_T, lt_F, eq_T, eq_F, reduceIte, ne_eq, Int.toNat_natCast, bi_0, bi_1, bi_b, Nat.reduceAdd, Nat.reduceEqDiff, Int.reduceToNat, Int.reduceNeg, nle_T, nlt_T, neq_T, neq_F, b2_0, b2_b, both, reduceCtorEq]
  by_cases c3 : a = b
  case pos => simp (config := { contextual := true }) (disch := omega) only [R_X12_comesWay_b0, R_X12_comesWay_b1, hW, ct_misPlace hW, ct_isIn, e14, e15, c3, true_and, and_true, true_implies, not_true_eq_false, false_implies, not_false_eq_true, false_and, and_false, or_true, true_or, false_or, or_false, implies_true, forall_const, kl_i, kl_n, kl_r, kl_l, tl_s, tl_n, List.cons_append, List.nil_append, Int.cast_ofNat_Int, w32_id, w64_id, le_T, le_F, lt_T, lt_F, eq_T, eq_F, reduceIte, ne_eq, Int.toNat_natCast, bi_0, bi_1, bi_b, Nat.reduceAdd, Nat.reduceEqDiff, Int.reduceToNat, Int.reduceNeg, nle_T, nlt_T, neq_T, neq_F, b2_0, b2_b, both, reduceCtorEq]
  by_cases c4 : 1 ≤ l
  case neg => simp (config := { contextual := true }) (disch := omega) only [R_X12_comesWay_b0, R_X12_comesWay_b1, hW, ct_misPlace hW, ct_isIn, e14, e15, true_and, and_true, true_implies, not_true_eq_false, false_implies, not_false_eq_true, false_and, and_false, or_true, true_or, false_or, or_false, implies_true, forall_const, kl_i, kl_n, kl_r, kl_l, tl_s, tl_n, List.cons_append, List.nil_append, Int.cast_ofNat_Int, w32_id, w64_id, le_T, le_F, lt_T, lt_F, eq_T, eq_F, reduceIte, ne_eq, Int.toNat_natCast, bi_0, bi_1, bi_b, Nat.reduceAdd, Nat.reduceEqDiff, Int.reduceToNat, Int.reduceNeg, nle_T, nlt_T, neq_T, neq_F, b2_0, b2_b, both, reduceCtorEq]
  by_cases c5 : l ≤ 200
  case neg => simp (config := { contextual := true }) (disch := omega) only [R_X12_comesWay_b0, R_X12_comesWay_b1, hW, ct_misPlace hW, ct_isIn, e14, e15, true_and, and_true, true_implies, not_true_eq_false, false_implies, not_false_eq_true, false_and, and_false, or_true, true_or, false_or, or_false, implies_true, forall_const, kl_i, kl_n, kl_r, kl_l, tl_s, tl_n, List.cons_append, List.nil_append, Int.cast_ofNat_Int, w32_id, w64_id, le_T, le_F, lt_T, lt_F, eq_T, eq_F, reduceIte, ne_eq, Int.toNat_natCast, bi_0, bi_1, bi_b, Nat.reduceAdd, Nat.reduceEqDiff, Int.reduceToNat, Int.reduceNeg, nle_T, nlt_T, neq_T, neq_F, b2_0, b2_b, both, reduceCtorEq]
  by_cases c6 : w < 14
  case neg => simp (config := { contextual := true }) (disch := omega) only [R_X12_comesWay_b0, R_X12_comesWay_b1, hW, ct_misPlace hW, ct_isIn, e14, e15, true_and, and_true, true_implies, not_true_eq_false, false_implies, not_false_eq_true, false_and, and_false, or_true, true_or, false_or, or_false, implies_true, forall_const, kl_i, kl_n, kl_r, kl_l, tl_s, tl_n, List.cons_append, List.nil_append, Int.cast_ofNat_Int, w32_id, w64_id, le_T, le_F, lt_T, lt_F, eq_T, eq_F, reduceIte, ne_eq, Int.toNat_natCast, bi_0, bi_1, bi_b, Nat.reduceAdd, Nat.reduceEqDiff, Int.reduceToNat, Int.reduceNeg, nle_T, nlt_T, neq_T, neq_F, b2_0, b2_b, both, reduceCtorEq]
  have lp := lp_cwY hW e15 (by omega) (a := a) (b := b) (l := l) (d + 1) Q w 0 (by omega) (by
    refine Classical.byContradiction (fun z => hf ⟨⟨⟨ha.1, c1⟩, ⟨ha.2, c2⟩, c3, c4, c5⟩, c6, fun e he => ⟨fun y => z ⟨e, by omega, he, Or.inl ?_⟩, fun y => z ⟨e, by omega, he, Or.inr ?_⟩⟩⟩)
    · rw [hM.1, hM.2.1]; exact y
    · rw [hM.1, hM.2.1]; exact y)
  have ez : ((0 : Nat) : Int) = 0 := rfl
  rw [ez] at lp
  rw [← lp]
  simp (config := { contextual := true }) (disch := omega) only [R_X12_comesWay_b0, R_X12_comesWay_b1, hW, ct_misPlace hW, ct_isIn, e14, e15, true_and, and_true, true_implies, not_true_eq_false, false_implies, not_false_eq_true, false_and, and_false, or_true, true_or, false_or, or_false, implies_true, forall_const, kl_i, kl_n, kl_r, kl_l, tl_s, tl_n, List.cons_append, List.nil_append, Int.cast_ofNat_Int, w32_id, w64_id, le_T, le_F, lt_T, lt_F, eq_T, eq_F, reduceIte, ne_eq, Int.toNat_natCast, bi_0, bi_1, bi_b, Nat.reduceAdd, Nat.reduceEqDiff, Int.reduceToNat, Int.reduceNeg, nle_T, nlt_T, neq_T, neq_F, b2_0, b2_b, both, reduceCtorEq]
end WAY

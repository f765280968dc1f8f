-- A LIFE of the class
abbrev WL (g : GG) (l h : Nat) : Prop := gK g l = (0, 4) ∧ gR g l 3 = some h ∧ gK g h = (1, 7)
def TH (g : GG) (I : II) (t : Nat) (A : II) (n : Nat) : Prop := ∀ i, i < n → ∃ b, 90 ≤ b ∧ gR g (t + 3) i = some b ∧ ThA g I b (A 3 i) i (A 4 i) (A 5 i) (A 6 i)
def okA (A : II) (n : Nat) : Prop := n ≤ 7 ∧ ∀ i, i < n → okTh (A 3 i) i (A 5 i) (A 6 i) ∧ (0 ≤ A 4 i ∧ A 4 i < 8)
theorem TH_pr {g : GG} {I : II} {t : Nat} {A : II} {n a : Nat} {f : Nat → Int} (h : TH g I t A n) (ha : a < 90) : TH g (pr I a f) t A n := by
  intro i hi
  obtain ⟨b, h1, h2, h3⟩ := h i hi
  refine ⟨b, h1, h2, ?_⟩
  have e : pr I a f b = I b := pr_o (by omega)
  rw [ThA, e]
  exact h3
section LIFE
variable {g : GG} {I : II} {d t l h a n : Nat} {D : Nat → Int} {A : II}
theorem lp_fill {v : Int} (hk : gK g a = (1, n)) (hn : n ≤ 10000) (Q : QQ) (hQ : Q none g (pr I a (fll (fun _ => v) n D))) : ∀ k i : Nat, i + k = n → WP d m_J7_fill_53178 5 [some (vr (some a)), some (vi v), some (vi i), some (vi n)] [] g (pr I a (fll (fun _ => v) i D)) Q := by
  intro k
  induction k with
  | zero =>
    intro i hb
    obtain rfl : i = n := by omega
    rw [H_J7_fill_53178_5]
    simp (config := { contextual := true }) (disch := omega) only [R_J7_fill_53178, hk, true_and, and_true, true_implies, not_true_eq_false, false_implies, not_false_eq_true, false_and, and_false, or_true, true_or, false_or, or_false, implies_true, forall_const, kl_i, kl_n, kl_r, kl_l, tl_s, tl_n, List.cons_append, List.nil_append, Int.cast_ofNat_Int, w32_id, w64_id, le_T, le_F, lt_T, lt_F, eq_T, eq_F, reduceIte, ne_eq, Int.toNat_natCast, bi_0, bi_1, bi_b, Nat.reduceAdd, Nat.reduceEqDiff, Int.reduceToNat, Int.reduceNeg, nle_T, nlt_T, neq_T, neq_F]
    exact hQ
  | succ k ih =>
    intro i hb
    rw [H_J7_fill_53178_5]
    simp (config := { contextual := true }) (disch := omega) only [R_J7_fill_53178, hk, pr_s, up_pr, pr_pr, true_and, and_true, true_implies, not_true_eq_false, false_implies, not_false_eq_true, false_and, and_false, or_true, true_or, false_or, or_false, implies_true, forall_const, kl_i, kl_n, kl_r, kl_l, tl_s, tl_n, List.cons_append, List.nil_append, Int.cast_ofNat_Int, w32_id, w64_id, le_T, le_F, lt_T, lt_F, eq_T, eq_F, reduceIte, ne_eq, Int.toNat_natCast, bi_0, bi_1, bi_b, Nat.reduceAdd, Nat.reduceEqDiff, Int.reduceToNat, Int.reduceNeg, nle_T, nlt_T, neq_T, neq_F]
    rw [fll_s (fun _ => v) i D rfl]
    exact ih (i + 1) (by omega)
theorem ct_fill {v : Int} (hk : gK g a = (1, n)) (hn : n ≤ 10000) (Q : QQ) : WP d m_J7_fill_53178 0 [some (vr (some a)), some (vi v), none, none] [] g I Q = Q none g (pr I a (fll (fun _ => v) n (I a))) := by
  refine WP_fun (fun Q hQ => ?_) Q
  simp (config := { contextual := true }) (disch := omega) only [R_J7_fill_53178, hk, true_and, and_true, true_implies, not_true_eq_false, false_implies, not_false_eq_true, false_and, and_false, or_true, true_or, false_or, or_false, implies_true, forall_const, kl_i, kl_n, kl_r, kl_l, tl_s, tl_n, List.cons_append, List.nil_append, Int.cast_ofNat_Int, w32_id, w64_id, le_T, le_F, lt_T, lt_F, eq_T, eq_F, reduceIte, ne_eq, Int.toNat_natCast, bi_0, bi_1, bi_b, Nat.reduceAdd, Nat.reduceEqDiff, Int.reduceToNat, Int.reduceNeg, nle_T, nlt_T, neq_T, neq_F]
  have h := lp_fill (d := d) (I := I) (D := I a) hk hn Q hQ n 0 (by omega)
  rw [fll_0, pr_id] at h
  exact h
theorem lp_fillL {v : Int} (hk : gK g a = (2, n)) (hn : n ≤ 10000) (Q : QQ) (hQ : Q none g (pr I a (fll (fun _ => v) n D))) : ∀ k i : Nat, i + k = n → WP d m_J7_fill_d0a16 6 [some (vr (some a)), some (vl v), none, some (vi i), some (vi n)] [] g (pr I a (fll (fun _ => v) i D)) Q := by
  intro k
  induction k with
  | zero =>
    intro i hb
    obtain rfl : i = n := by omega
    rw [H_J7_fill_d0a16_6]
    simp (config := { contextual := true }) (disch := omega) only [R_J7_fill_d0a16, hk, true_and, and_true, true_implies, not_true_eq_false, false_implies, not_false_eq_true, false_and, and_false, or_true, true_or, false_or, or_false, implies_true, forall_const, kl_i, kl_n, kl_r, kl_l, tl_s, tl_n, List.cons_append, List.nil_append, Int.cast_ofNat_Int, w32_id, w64_id, le_T, le_F, lt_T, lt_F, eq_T, eq_F, reduceIte, ne_eq, Int.toNat_natCast, bi_0, bi_1, bi_b, Nat.reduceAdd, Nat.reduceEqDiff, Int.reduceToNat, Int.reduceNeg, nle_T, nlt_T, neq_T, neq_F]
    exact hQ
  | succ k ih =>
    intro i hb
    rw [H_J7_fill_d0a16_6]
    simp (config := { contextual := true }) (disch := omega) only [R_J7_fill_d0a16, hk, pr_s, up_pr, pr_pr, true_and, and_true, true_implies, not_true_eq_false, false_implies, not_false_eq_true, false_and, and_false, or_true, true_or, false_or, or_false, implies_true, forall_const, kl_i, kl_n, kl_r, kl_l, tl_s, tl_n, List.cons_append, List.nil_append, Int.cast_ofNat_Int, w32_id, w64_id, le_T, le_F, lt_T, lt_F, eq_T, eq_F, reduceIte, ne_eq, Int.toNat_natCast, bi_0, bi_1, bi_b, Nat.reduceAdd, Nat.reduceEqDiff, Int.reduceToNat, Int.reduceNeg, nle_T, nlt_T, neq_T, neq_F]
    rw [fll_s (fun _ => v) i D rfl]
    exact ih (i + 1) (by omega)
theorem ct_fillL {v : Int} (hk : gK g a = (2, n)) (hn : n ≤ 10000) (Q : QQ) : WP d m_J7_fill_d0a16 0 [some (vr (some a)), some (vl v), none, none, none] [] g I Q = Q none g (pr I a (fll (fun _ => v) n (I a))) := by
  refine WP_fun (fun Q hQ => ?_) Q
  simp (config := { contextual := true }) (disch := omega) only [R_J7_fill_d0a16, hk, true_and, and_true, true_implies, not_true_eq_false, false_implies, not_false_eq_true, false_and, and_false, or_true, true_or, false_or, or_false, implies_true, forall_const, kl_i, kl_n, kl_r, kl_l, tl_s, tl_n, List.cons_append, List.nil_append, Int.cast_ofNat_Int, w32_id, w64_id, le_T, le_F, lt_T, lt_F, eq_T, eq_F, reduceIte, ne_eq, Int.toNat_natCast, bi_0, bi_1, bi_b, Nat.reduceAdd, Nat.reduceEqDiff, Int.reduceToNat, Int.reduceNeg, nle_T, nlt_T, neq_T, neq_F]
  have h := lp_fillL (d := d) (I := I) (D := I a) hk hn Q hQ n 0 (by omega)
  rw [fll_0, pr_id] at h
  exact h
theorem ct_begin (hL : WL g l h) (hlh : l ≠ h) (Q : QQ) (p : Int) : WP (d + 1) m_X4_begin 0 [some (vr (some l)), some (vi p)] [] g I Q = Q none g (pr (pr I l (uf (uf (uf (I l) 0 p) 1 0) 2 0)) h (fll (fun _ => 0) 7 (I h))) := by
  simp (config := { contextual := true }) (disch := omega) only [R_X4_begin, hL, up_pr, pr_s, pr_pr, ct_fill hL.2.2, pr_o, true_and, and_true, true_implies, not_true_eq_false, false_implies, not_false_eq_true, false_and, and_false, or_true, true_or, false_or, or_false, implies_true, forall_const, kl_i, kl_n, kl_r, kl_l, tl_s, tl_n, List.cons_append, List.nil_append, Int.cast_ofNat_Int, w32_id, w64_id, le_T, le_F, lt_T, lt_F, eq_T, eq_F, reduceIte, ne_eq, Int.toNat_natCast, bi_0, bi_1, bi_b, Nat.reduceAdd, Nat.reduceEqDiff, Int.reduceToNat, Int.reduceNeg, nle_T, nlt_T, neq_T, neq_F]
theorem ct_canCome (hT : WT g t) (hL : WL g l h) (hD : bD (I (t + 2))) (Q : QQ) (p : Int) (hat : 0 ≤ I l 0 ∧ I l 0 < 8) (hage : 0 ≤ I l 1 ∧ I l 1 ≤ 1000000) (hp : 0 ≤ p ∧ p < 8) : WP (d + 1) m_X4_canCome 0 [some (vr (some l)), some (vr (some t)), some (vi p)] [] g I Q = Q (some (vi (bi (I l 1 + I (t + 2) (8 * (I l 0).toNat + p.toNat) ≤ I (t + 4) 2)))) g I := by
  have h1 := hD (8 * (I l 0).toNat + p.toNat) (by omega)
  by_cases e : I l 1 + I (t + 2) (8 * (I l 0).toNat + p.toNat) ≤ I (t + 4) 2
  · rw [bi_T e]
    simp (config := { contextual := true }) (disch := omega) only [R_X4_canCome, hT, hL, ct_miles hT, true_and, and_true, true_implies, not_true_eq_false, false_implies, not_false_eq_true, false_and, and_false, or_true, true_or, false_or, or_false, implies_true, forall_const, kl_i, kl_n, kl_r, kl_l, tl_s, tl_n, List.cons_append, List.nil_append, Int.cast_ofNat_Int, w32_id, w64_id, le_T, le_F, lt_T, lt_F, eq_T, eq_F, reduceIte, ne_eq, Int.toNat_natCast, bi_0, bi_1, bi_b, Nat.reduceAdd, Nat.reduceEqDiff, Int.reduceToNat, Int.reduceNeg, nle_T, nlt_T, neq_T, neq_F]
  · rw [bi_F e]
    simp (config := { contextual := true }) (disch := omega) only [R_X4_canCome, hT, hL, ct_miles hT, true_and, and_true, true_implies, not_true_eq_false, false_implies, not_false_eq_true, false_and, and_false, or_true, true_or, false_or, or_false, implies_true, forall_const, kl_i, kl_n, kl_r, kl_l, tl_s, tl_n, List.cons_append, List.nil_append, Int.cast_ofNat_Int, w32_id, w64_id, le_T, le_F, lt_T, lt_F, eq_T, eq_F, reduceIte, ne_eq, Int.toNat_natCast, bi_0, bi_1, bi_b, Nat.reduceAdd, Nat.reduceEqDiff, Int.reduceToNat, Int.reduceNeg, nle_T, nlt_T, neq_T, neq_F]
theorem ct_come (hT : WT g t) (hL : WL g l h) (hD : bD (I (t + 2))) (Q : QQ) (p : Int) (hat : 0 ≤ I l 0 ∧ I l 0 < 8) (hage : 0 ≤ I l 1 ∧ I l 1 ≤ 1000000) (hp : 0 ≤ p ∧ p < 8) : WP (d + 1) m_X4_come 0 [some (vr (some l)), some (vr (some t)), some (vi p)] [] g I Q = Q none g (pr I l (uf (uf (I l) 1 (I l 1 + I (t + 2) (8 * (I l 0).toNat + p.toNat))) 0 p)) := by
  have h1 := hD (8 * (I l 0).toNat + p.toNat) (by omega)
  simp (config := { contextual := true }) (disch := omega) only [R_X4_come, hT, hL, ct_miles hT, up_pr, pr_s, pr_pr, true_and, and_true, true_implies, not_true_eq_false, false_implies, not_false_eq_true, false_and, and_false, or_true, true_or, false_or, or_false, implies_true, forall_const, kl_i, kl_n, kl_r, kl_l, tl_s, tl_n, List.cons_append, List.nil_append, Int.cast_ofNat_Int, w32_id, w64_id, le_T, le_F, lt_T, lt_F, eq_T, eq_F, reduceIte, ne_eq, Int.toNat_natCast, bi_0, bi_1, bi_b, Nat.reduceAdd, Nat.reduceEqDiff, Int.reduceToNat, Int.reduceNeg, nle_T, nlt_T, neq_T, neq_F]
theorem ct_mayTake (hT : WT g t) (hL : WL g l h) (hTH : TH g I t A n) (hA : okA A n) {i : Nat} (hi : i < n) (h0 : 0 ≤ I h i) (Q : QQ) : WP (d + 2) m_X4_mayTake 0 [some (vr (some l)), some (vr (some t)), some (vi i), none] [] g I Q = Q (some (vi (bi (A 4 i = I l 0 ∧ opn (A 3 i) (A 5 i) (A 6 i) i (I h))))) g I := by
  obtain ⟨b, hb1, hb2, hb3⟩ := hTH i hi
  obtain ⟨ok, hpl⟩ := hA.2 i hi
  have hn7 := hA.1
  have hTb : isTh g b := by
    refine isTh_of hb3.1 ?_
    rcases kd_six ok.1 with e | e | e | e | e | e <;> rw [e] <;> decide
  by_cases e1 : A 4 i = I l 0
  · by_cases e2 : opn (A 3 i) (A 5 i) (A 6 i) i (I h)
    · rw [bi_T ⟨e1, e2⟩]
      simp (config := { contextual := true }) (disch := omega) only [R_X4_mayTake, hT, hL, hb2, hb3, hTb, ct_oT hb3 ok hL.2.2 h0, e1, e2, true_and, and_true, true_implies, not_true_eq_false, false_implies, not_false_eq_true, false_and, and_false, or_true, true_or, false_or, or_false, implies_true, forall_const, kl_i, kl_n, kl_r, kl_l, tl_s, tl_n, List.cons_append, List.nil_append, Int.cast_ofNat_Int, w32_id, w64_id, le_T, le_F, lt_T, lt_F, eq_T, eq_F, reduceIte, ne_eq, Int.toNat_natCast, bi_0, bi_1, bi_b, Nat.reduceAdd, Nat.reduceEqDiff, Int.reduceToNat, Int.reduceNeg, nle_T, nlt_T, neq_T, neq_F]
    · rw [bi_F (fun q => e2 q.2)]
      simp (config := { contextual := true }) (disch := omega) only [R_X4_mayTake, hT, hL, hb2, hb3, hTb, ct_oT hb3 ok hL.2.2 h0, e1, e2, true_and, and_true, true_implies, not_true_eq_false, false_implies, not_false_eq_true, false_and, and_false, or_true, true_or, false_or, or_false, implies_true, forall_const, kl_i, kl_n, kl_r, kl_l, tl_s, tl_n, List.cons_append, List.nil_append, Int.cast_ofNat_Int, w32_id, w64_id, le_T, le_F, lt_T, lt_F, eq_T, eq_F, reduceIte, ne_eq, Int.toNat_natCast, bi_0, bi_1, bi_b, Nat.reduceAdd, Nat.reduceEqDiff, Int.reduceToNat, Int.reduceNeg, nle_T, nlt_T, neq_T, neq_F]
  · rw [bi_F (fun q => e1 q.1)]
    simp (config := { contextual := true }) (disch := omega) only [R_X4_mayTake, hT, hL, hb2, hb3, hTb, true_and, and_true, true_implies, not_true_eq_false, false_implies, not_false_eq_true, false_and, and_false, or_true, true_or, false_or, or_false, implies_true, forall_const, kl_i, kl_n, kl_r, kl_l, tl_s, tl_n, List.cons_append, List.nil_append, Int.cast_ofNat_Int, w32_id, w64_id, le_T, le_F, lt_T, lt_F, eq_T, eq_F, reduceIte, ne_eq, Int.toNat_natCast, bi_0, bi_1, bi_b, Nat.reduceAdd, Nat.reduceEqDiff, Int.reduceToNat, Int.reduceNeg, nle_T, nlt_T, neq_T, neq_F]
theorem ct_take (hT : WT g t) (hL : WL g l h) (hlh : l ≠ h) (hTH : TH g I t A n) (hA : okA A n) {i : Nat} (hi : i < n) (h0 : 0 ≤ I h i) (hage : 0 ≤ I l 1 ∧ I l 1 ≤ 1000000) (ho : 0 ≤ I (t + 4) 1 ∧ I (t + 4) 1 ≤ 1000) (Q : QQ) : WP (d + 3) m_X4_take 0 [some (vr (some l)), some (vr (some t)), some (vi i), none] [] g I Q = Q (some (vi (wth (A 3 i) (A 5 i) (A 6 i) (I (t + 4) 0) (I (t + 4) 1) (I l 1) (I h i)))) g (pr (pr I h (uf (I h) i (w32 (I h i + 1)))) l (uf (I l) 2 (w32 (I l 2 + wth (A 3 i) (A 5 i) (A 6 i) (I (t + 4) 0) (I (t + 4) 1) (I l 1) (I h i))))) := by
  obtain ⟨b, hb1, hb2, hb3⟩ := hTH i hi
  obtain ⟨ok, hpl⟩ := hA.2 i hi
  have hn7 := hA.1
  have hs : gK g (t + 4) = (1, 4) := by simp only [hT]
  simp (config := { contextual := true }) (disch := omega) only [R_X4_take, hT, hL, hb2, hb3, ct_wT hb3 ok hs, up_pr, pr_s, pr_o, true_and, and_true, true_implies, not_true_eq_false, false_implies, not_false_eq_true, false_and, and_false, or_true, true_or, false_or, or_false, implies_true, forall_const, kl_i, kl_n, kl_r, kl_l, tl_s, tl_n, List.cons_append, List.nil_append, Int.cast_ofNat_Int, w32_id, w64_id, le_T, le_F, lt_T, lt_F, eq_T, eq_F, reduceIte, ne_eq, Int.toNat_natCast, bi_0, bi_1, bi_b, Nat.reduceAdd, Nat.reduceEqDiff, Int.reduceToNat, Int.reduceNeg, nle_T, nlt_T, neq_T, neq_F]
end LIFE

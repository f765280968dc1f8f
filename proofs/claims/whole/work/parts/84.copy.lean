-- copyFrom of the class
def gcp (g : GG) (o t : Nat) : Nat → GG
  | 0 => g
  | i + 1 => gput (gcp g o t i) (t + 3) i (gR g (o + 3) i)
/-- the same shape, but for the things told of at t -/
abbrev gsm (g g' : GG) (t : Nat) : Prop := (∀ a, gK g' a = gK g a) ∧ gN g' = gN g ∧ gS g' = gS g ∧ ∀ a k, ¬ a = t + 3 → gR g' a k = gR g a k
theorem gcp_sm (g : GG) (o t : Nat) : ∀ i, gsm g (gcp g o t i) t ∧ ∀ k, gR (gcp g o t i) (t + 3) k = if k < i then gR g (o + 3) k else gR g (t + 3) k
  | 0 => ⟨⟨fun _ => rfl, rfl, rfl, fun _ _ _ => rfl⟩, fun k => by rw [if_neg (by omega)]; rfl⟩
  | i + 1 => by
    obtain ⟨⟨h1, h2, h3, h4⟩, h5⟩ := gcp_sm g o t i
    have hg : ∀ a k, gR (gput (gcp g o t i) (t + 3) i (gR g (o + 3) i)) a k = if a = t + 3 then (if k = i then gR g (o + 3) i else gR (gcp g o t i) (t + 3) k) else gR (gcp g o t i) a k := by
      intro a k
      show (if a = t + 3 then (fun j => if j = i then gR g (o + 3) i else gR (gcp g o t i) (t + 3) j) else (gcp g o t i).2.1 a) k = _
      by_cases c : a = t + 3
      · rw [if_pos c, if_pos c]
      · rw [if_neg c, if_neg c]; rfl
    refine ⟨⟨h1, h2, h3, fun a k ha => ?_⟩, fun k => ?_⟩
    · show gR (gput (gcp g o t i) (t + 3) i (gR g (o + 3) i)) a k = _
      rw [hg, if_neg ha, h4 a k ha]
    · show gR (gput (gcp g o t i) (t + 3) i (gR g (o + 3) i)) (t + 3) k = _
      rw [hg, if_pos rfl, h5 k]
      by_cases c : k = i
      · rw [if_pos c, if_pos (by omega), c]
      · rw [if_neg c]
        by_cases c2 : k < i
        · rw [if_pos c2, if_pos (by omega)]
        · rw [if_neg c2, if_neg (by omega)]
theorem isTh_sm {g g' : GG} (h : ∀ a, gK g' a = gK g a) (b : Nat) : isTh g' b = isTh g b := by unfold isTh; rw [h b]
theorem WZ_sm {g g' : GG} {t : Nat} (h : gsm g g' t) (ht : t = 6 ∨ t = 19 ∨ t = 32) (hg : WZ g) (hT : TN g' t) : WZ g' := by
  obtain ⟨hK, hN, hS, hR⟩ := h
  obtain ⟨h1, h2, ⟨h6, h19, h32⟩, n6, n19, n32⟩ := hg
  have r57 : ∀ k, gR g' 57 k = gR g 57 k := fun k => hR 57 k (by omega)
  have r5 : ∀ k, gR g' 5 k = gR g 5 k := fun k => hR 5 k (by omega)
  have r47 : ∀ k, gR g' 47 k = gR g 47 k := fun k => hR 47 k (by omega)
  have r48 : ∀ k, gR g' 48 k = gR g 48 k := fun k => hR 48 k (by omega)
  have hwt : ∀ T, WT g T → (T = 6 ∨ T = 19 ∨ T = 32) → WT g' T := by
    intro T hT hT3
    have a1 : ∀ k, gR g' T k = gR g T k := fun k => hR T k (by omega)
    have a2 : ∀ k, gR g' (T + 10) k = gR g (T + 10) k := fun k => hR (T + 10) k (by omega)
    unfold WT
    simp only [hK, a1, a2]
    exact hT
  have htn : ∀ T, TN g T → (T = 6 ∨ T = 19 ∨ T = 32) → TN g' T := by
    intro T hTT hT3
    by_cases c : T = t
    · rw [c]; exact hT
    · intro i hi
      obtain ⟨b, b1, b2, b3, b4⟩ := hTT i hi
      exact ⟨b, by rw [hR (T + 3) i (by omega)]; exact b1, b2, by rw [hN]; exact b3, by rw [isTh_sm hK]; exact b4⟩
  refine ⟨?_, ?_, ⟨hwt 6 h6 (by omega), hwt 19 h19 (by omega), hwt 32 h32 (by omega)⟩, htn 6 n6 (by omega), htn 19 n19 (by omega), htn 32 n32 (by omega)⟩
  · unfold WM
    simp only [hK, r57]
    exact h1
  · unfold WX
    simp only [hK, r5, r47, r48]
    exact h2
theorem fll_t {h D : Nat → Int} {n j : Nat} (c : j < n) : fll h n D j = h j := if_pos c
section COPY
variable {g : GG} {I : II} {o t n : Nat}
theorem ct_copyRow {a b k : Nat} (ha : gK g a = (1, k)) (hb : gK g b = (1, k)) (hk : k ≤ 10000) (d : Nat) (Q : QQ) : WP d m_X9_copyRow 0 [some (vr (some a)), some (vr (some b))] [] g I Q = Q none g (pr I b (fll (I a) k (I b))) := by
  have e : min (k : Int) (k : Int) = (k : Int) := by omega
  simp (config := { contextual := true }) (disch := omega) only [R_X9_copyRow, ha, hb, e, icpy_pr, true_and, and_true, true_implies, not_true_eq_false, false_implies, not_false_eq_true, false_and, and_false, or_true, true_or, false_or, or_false, implies_true, forall_const, kl_i, kl_n, kl_r, kl_l, tl_s, tl_n, List.cons_append, List.nil_append, Int.cast_ofNat_Int, w32_id, w64_id, le_T, le_F, lt_T, lt_F, eq_T, eq_F, reduceIte, ne_eq, Int.toNat_natCast, bi_0, bi_1, bi_b, Nat.reduceAdd, Nat.reduceEqDiff, Int.reduceToNat, Int.reduceNeg, nle_T, nlt_T, neq_T, neq_F, b2_0, b2_b, both, reduceCtorEq]
theorem ct_copyLife {l h l' h' : Nat} (hL : WL g l h) (hL' : WL g l' h') (hd : ¬ l = l' ∧ ¬ h = h' ∧ ¬ l = h ∧ ¬ l = h' ∧ ¬ l' = h ∧ ¬ l' = h') (d : Nat) (Q : QQ) : WP d m_X4_copyFrom 0 [some (vr (some l)), some (vr (some l'))] [] g I Q = Q none g (pr (pr I l (uf (uf (uf (I l) 0 (I l' 0)) 1 (I l' 1)) 2 (I l' 2))) h (fll (I h') 7 (I h))) := by
  simp (config := { contextual := true }) (disch := omega) only [R_X4_copyFrom, hL, hL', up_pr, pr_o, pr_s, pr_pr, icpy_pr, true_and, and_true, true_implies, not_true_eq_false, false_implies, not_false_eq_true, false_and, and_false, or_true, true_or, false_or, or_false, implies_true, forall_const, kl_i, kl_n, kl_r, kl_l, tl_s, tl_n, List.cons_append, List.nil_append, Int.cast_ofNat_Int, w32_id, w64_id, le_T, le_F, lt_T, lt_F, eq_T, eq_F, reduceIte, ne_eq, Int.toNat_natCast, bi_0, bi_1, bi_b, Nat.reduceAdd, Nat.reduceEqDiff, Int.reduceToNat, Int.reduceNeg, nle_T, nlt_T, neq_T, neq_F, b2_0, b2_b, both, reduceCtorEq]
/-- what a Told holds behind copyFrom -/
def CP (I J : II) (o t : Nat) : Prop := (∀ a, ¬ (t ≤ a ∧ a ≤ t + 11) → J a = I a) ∧ (J t 0 = I o 0 ∧ J t 1 = I o 1 ∧ J t 4 = I o 4 ∧ J t 7 = I o 7 ∧ J t 11 = I o 11) ∧ (∀ j, j < 64 → J (t + 1) j = I (o + 1) j) ∧ (∀ j, j < 64 → J (t + 2) j = I (o + 2) j) ∧ (∀ j, j < 4 → J (t + 4) j = I (o + 4) j) ∧ (∀ j, j < 8 → J (t + 5) j = I (o + 5) j) ∧ (∀ j, j < 8 → J (t + 6) j = I (o + 6) j) ∧ (∀ j, j < 8 → J (t + 7) j = I (o + 7) j) ∧ (∀ j, j < 4 → J (t + 8) j = I (o + 8) j) ∧ (∀ j, j < 4 → J (t + 9) j = I (o + 9) j) ∧ (J (t + 10) 0 = I (o + 10) 0 ∧ J (t + 10) 1 = I (o + 10) 1 ∧ J (t + 10) 2 = I (o + 10) 2) ∧ (∀ j, j < 7 → J (t + 11) j = I (o + 11) j)
theorem lp_cpT (hT : WT g t) (hO : WT g o) (hno : TN g o) (hto : t + 12 < o ∨ o + 12 < t) (d : Nat) {J : II} (Q : QQ) : ∀ k i : Nat, i + k = 7 → WP d m_X9_copyFrom 48 [some (vr (some t)), some (vr (some o)), some (vi i)] [] (gcp g o t i) J Q = WP d m_X9_copyFrom 72 [some (vr (some t)), some (vr (some o)), some (vi 7)] [] (gcp g o t 7) J Q := by
  intro k
  induction k with
  | zero =>
    intro i hi
    obtain rfl : i = 7 := by omega
    rw [H_X9_copyFrom_48]
    have e : ((7 : Nat) : Int) = 7 := rfl
    rw [e]
    simp (disch := omega) only [R_X9_copyFrom_b0, lt_F, not_false_eq_true, true_implies, false_implies, true_and]
  | succ k ih =>
    intro i hi
    have ih' := ih (i + 1) (by omega)
    have ec : ((i + 1 : Nat) : Int) = (i : Int) + 1 := by omega
    obtain ⟨⟨hK, hN, hS, hR⟩, hR3⟩ := gcp_sm g o t i
    obtain ⟨b, b1, b2, b3, b4⟩ := hno i (by omega)
    have eT : gR (gcp g o t i) t 5 = some (t + 3) := by rw [hR t 5 (by omega)]; simp only [hT]
    have eO : gR (gcp g o t i) o 5 = some (o + 3) := by rw [hR o 5 (by omega)]; simp only [hO]
    have kT : gK (gcp g o t i) t = (0, 8) := by rw [hK]; simp only [hT]
    have kO : gK (gcp g o t i) o = (0, 8) := by rw [hK]; simp only [hO]
    have kT3 : gK (gcp g o t i) (t + 3) = (3, 7) := by rw [hK]; simp only [hT]
    have kO3 : gK (gcp g o t i) (o + 3) = (3, 7) := by rw [hK]; simp only [hO]
    have eb : gR (gcp g o t i) (o + 3) i = some b := by rw [hR (o + 3) i (by omega)]; exact b1
    have hb : isTh (gcp g o t i) b := by rw [isTh_sm hK]; exact b4
    have e1 : gcp g o t (i + 1) = gput (gcp g o t i) (t + 3) i (some b) := by rw [← b1]; rfl
    rw [e1, ec] at ih'
    refine Eq.trans ?_ ih'
    rw [H_X9_copyFrom_48]
    simp (config := { contextual := true }) (disch := omega) only [R_X9_copyFrom_b0, R_X9_copyFrom_b1, eT, eO, kT, kO, kT3, kO3, eb, hb, true_and, and_true, true_implies, not_true_eq_false, false_implies, not_false_eq_true, false_and, and_false, or_true, true_or, false_or, or_false, implies_true, forall_const, kl_i, kl_n, kl_r, kl_l, tl_s, tl_n, List.cons_append, List.nil_append, Int.cast_ofNat_Int, w32_id, w64_id, le_T, le_F, lt_T, lt_F, eq_T, eq_F, reduceIte, ne_eq, Int.toNat_natCast, bi_0, bi_1, bi_b, Nat.reduceAdd, Nat.reduceEqDiff, Int.reduceToNat, Int.reduceNeg, nle_T, nlt_T, neq_T, neq_F, b2_0, b2_b, both, reduceCtorEq]
set_option maxHeartbeats 4000000 in
theorem ct_copyFrom (hT : WT g t) (hO : WT g o) (hno : TN g o) (hto : t + 12 < o ∨ o + 12 < t) (hz : WT (gcp g o t 7) t = WT g t ∧ WT (gcp g o t 7) o = WT g o) (d : Nat) (Q : QQ) (hQ : ∀ J, CP I J o t → Q none (gcp g o t 7) J) : WP (d + 1) m_X9_copyFrom 0 [some (vr (some t)), some (vr (some o)), none] [] g I Q := by
  have hT7 : WT (gcp g o t 7) t := by rw [hz.1]; exact hT
  have hO7 : WT (gcp g o t 7) o := by rw [hz.2]; exact hO
  have k1 : gK g (t + 1) = (1, 64) := by simp only [hT]
  have k2 : gK g (t + 2) = (1, 64) := by simp only [hT]
  have q1 : gK g (o + 1) = (1, 64) := by simp only [hO]
  have q2 : gK g (o + 2) = (1, 64) := by simp only [hO]
  have k4 : gK (gcp g o t 7) (t + 4) = (1, 4) := by simp only [hT7]
  have k5 : gK (gcp g o t 7) (t + 5) = (1, 8) := by simp only [hT7]
  have k6 : gK (gcp g o t 7) (t + 6) = (1, 8) := by simp only [hT7]
  have k7 : gK (gcp g o t 7) (t + 7) = (1, 8) := by simp only [hT7]
  have k8 : gK (gcp g o t 7) (t + 8) = (1, 4) := by simp only [hT7]
  have k9 : gK (gcp g o t 7) (t + 9) = (1, 4) := by simp only [hT7]
  have q4 : gK (gcp g o t 7) (o + 4) = (1, 4) := by simp only [hO7]
  have q5 : gK (gcp g o t 7) (o + 5) = (1, 8) := by simp only [hO7]
  have q6 : gK (gcp g o t 7) (o + 6) = (1, 8) := by simp only [hO7]
  have q7 : gK (gcp g o t 7) (o + 7) = (1, 8) := by simp only [hO7]
  have q8 : gK (gcp g o t 7) (o + 8) = (1, 4) := by simp only [hO7]
  have q9 : gK (gcp g o t 7) (o + 9) = (1, 4) := by simp only [hO7]
  have hL : WL (gcp g o t 7) (t + 10) (t + 11) := by simp only [WL, hT7, and_self]
  have hL' : WL (gcp g o t 7) (o + 10) (o + 11) := by simp only [WL, hO7, and_self]
  have kl := fun J Q => ct_copyLife (g := gcp g o t 7) (I := J) hL hL' (by omega) d Q
  have e0 : gcp g o t 0 = g := rfl
  have hl := fun J Q => lp_cpT hT hO hno hto (d + 1) (J := J) Q 7 0 (by omega)
  rw [e0] at hl
  have ez : ((0 : Nat) : Int) = 0 := rfl
  rw [ez] at hl
  simp (config := { contextual := true }) (disch := omega) only [R_X9_copyFrom_b0, R_X9_copyFrom_b1, hT, hO, up_pr, pr_o, pr_s, pr_pr, ct_copyRow q1 k1, ct_copyRow q2 k2, true_and, and_true, true_implies, not_true_eq_false, false_implies, not_false_eq_true, false_and, and_false, or_true, true_or, false_or, or_false, implies_true, forall_const, kl_i, kl_n, kl_r, kl_l, tl_s, tl_n, List.cons_append, List.nil_append, Int.cast_ofNat_Int, w32_id, w64_id, le_T, le_F, lt_T, lt_F, eq_T, eq_F, reduceIte, ne_eq, Int.toNat_natCast, bi_0, bi_1, bi_b, Nat.reduceAdd, Nat.reduceEqDiff, Int.reduceToNat, Int.reduceNeg, nle_T, nlt_T, neq_T, neq_F, b2_0, b2_b, both, reduceCtorEq]
  rw [hl]
  simp (config := { contextual := true }) (disch := omega) only [R_X9_copyFrom_b0, R_X9_copyFrom_b1, hT7, hO7, up_pr, pr_o, pr_s, pr_pr, ct_copyRow q4 k4, ct_copyRow q5 k5, ct_copyRow q6 k6, ct_copyRow q7 k7, ct_copyRow q8 k8, ct_copyRow q9 k9, kl, true_and, and_true, true_implies, not_true_eq_false, false_implies, not_false_eq_true, false_and, and_false, or_true, true_or, false_or, or_false, implies_true, forall_const, kl_i, kl_n, kl_r, kl_l, tl_s, tl_n, List.cons_append, List.nil_append, Int.cast_ofNat_Int, w32_id, w64_id, le_T, le_F, lt_T, lt_F, eq_T, eq_F, reduceIte, ne_eq, Int.toNat_natCast, bi_0, bi_1, bi_b, Nat.reduceAdd, Nat.reduceEqDiff, Int.reduceToNat, Int.reduceNeg, nle_T, nlt_T, neq_T, neq_F, b2_0, b2_b, both, reduceCtorEq]
  refine hQ _ ⟨fun a ha => ?_, ⟨?_, ?_, ?_, ?_, ?_⟩, fun j hj => ?_, fun j hj => ?_, fun j hj => ?_, fun j hj => ?_, fun j hj => ?_, fun j hj => ?_, fun j hj => ?_, fun j hj => ?_, ⟨?_, ?_, ?_⟩, fun j hj => ?_⟩
  all_goals simp (disch := omega) only [pr_o, pr_s, uf_o, uf_s, fll_t]
end COPY
-- the image and ON: what is told is as it was told
theorem TR_cp {g : GG} {I J : II} {o t : Nat} {A : II} {P w n : Nat} (h : TR g I o A P w n) (hn : n ≤ 7) (ht : t ≤ 32) (hto : t + 12 < o ∨ o + 12 < t) (hc : CP I J o t) : TR (gcp g o t 7) J t A P w n := by
  obtain ⟨c0, ⟨c1, c2, c3, c4, c5⟩, c6, c7, c8, c9, c10, c11, c12, c13, ⟨c14, c15, c16⟩, c17⟩ := hc
  obtain ⟨⟨a1, a2, a3, a4, a5⟩, a6, a7, a8, a9, a10, a11, a12, a13, a14, ⟨a15, a16, a17⟩, a18⟩ := h
  obtain ⟨⟨hK, hN, hS, hR⟩, hR3⟩ := gcp_sm g o t 7
  refine ⟨⟨c1.trans a1, c2.trans a2, c3.trans a3, c4.trans a4, c5.trans a5⟩, fun j hj => (c6 j hj).trans (a6 j hj), fun j hj => (c7 j hj).trans (a7 j hj), fun i hi => ?_, fun j hj => (c8 j hj).trans (a9 j hj), fun j hj => (c9 j hj).trans (a10 j hj), fun j hj => (c10 j hj).trans (a11 j hj), fun j hj => (c11 j hj).trans (a12 j hj), fun j hj => (c12 j hj).trans (a13 j hj), fun j hj => (c13 j hj).trans (a14 j hj), ⟨c14.trans a15, c15.trans a16, c16.trans a17⟩, fun j hj => (c17 j hj).trans (a18 j hj)⟩
  obtain ⟨b, b1, b2, b3⟩ := a8 i hi
  refine ⟨b, b1, by rw [hR3 i, if_pos (by omega)]; exact b2, ?_⟩
  rw [ThA, hK, c0 b (by omega)]
  exact b3
theorem WT_gcp (g : GG) (o t : Nat) (ht : t = 6 ∨ t = 19 ∨ t = 32) (T : Nat) (hT : T = 6 ∨ T = 19 ∨ T = 32) : WT (gcp g o t 7) T = WT g T := by
  obtain ⟨⟨hK, hN, hS, hR⟩, hR3⟩ := gcp_sm g o t 7
  have a1 : ∀ k, gR (gcp g o t 7) T k = gR g T k := fun k => hR T k (by omega)
  have a2 : ∀ k, gR (gcp g o t 7) (T + 10) k = gR g (T + 10) k := fun k => hR (T + 10) k (by omega)
  unfold WT
  simp only [hK, a1, a2]
theorem TN_gcp {g : GG} {o t : Nat} (h : TN g o) : TN (gcp g o t 7) t := by
  obtain ⟨⟨hK, hN, hS, hR⟩, hR3⟩ := gcp_sm g o t 7
  intro i hi
  obtain ⟨b, b1, b2, b3, b4⟩ := h i hi
  exact ⟨b, by rw [hR3 i, if_pos hi]; exact b1, b2, by rw [hN]; exact b3, by rw [isTh_sm hK]; exact b4⟩
theorem WZ_gcp {g : GG} {o t : Nat} (hg : WZ g) (hno : TN g o) (ht : t = 6 ∨ t = 19 ∨ t = 32) : WZ (gcp g o t 7) := WZ_sm (gcp_sm g o t 7).1 ht hg (TN_gcp hno)

-- THE START: a Told is made
theorem gK_p {g : GG} {a k b : Nat} {r : Option Nat} : gK (gput g a k r) b = gK g b := rfl
theorem gN_p {g : GG} {a k : Nat} {r : Option Nat} : gN (gput g a k r) = gN g := rfl
theorem gS_p {g : GG} {a k : Nat} {r : Option Nat} : gS (gput g a k r) = gS g := rfl
theorem gR_p {g : GG} {a k b j : Nat} {r : Option Nat} : gR (gput g a k r) b j = if b = a then (if j = k then r else gR g b j) else gR g b j := by
  by_cases c : b = a
  · subst c
    rw [gput_at, if_pos rfl]
  · rw [gput_ne c, if_neg c]
theorem gR_n {g : GG} {kd : Nat × Nat} {sl b j : Nat} : gR (gnew g kd sl) b j = if b = gN g then none else gR g b j := by
  rw [gR_new]
  by_cases c : b = gN g
  · rw [if_pos c, if_pos c]
  · rw [if_neg c, if_neg c]
theorem nEq_F {a b : Nat} (h : ¬ a = b) : (a = b) = False := eq_false h
def A0 : II := fun k j => if k = 7 then (if j = 0 then 100 else if j = 1 then 300 else if j = 2 then 400 else 0) else if k = 14 then (if j = 0 then 4 else 0) else 0
theorem A0_z {k : Nat} (h : ¬ k = 7 ∧ ¬ k = 14) : A0 k = z0 := by
  funext j
  unfold A0 z0
  rw [if_neg h.1, if_neg h.2]
theorem A0_14 {j : Nat} (h : ¬ j = 0) : A0 14 j = 0 := by
  unfold A0
  rw [if_neg (by omega), if_pos rfl, if_neg h]
theorem z0_0 (j : Nat) : z0 j = 0 := rfl
theorem okS_0 : okS A0 4 0 0 0 0 := by
  have e0 : A0 14 0 = 4 := rfl
  have s0 : A0 7 0 = 100 := rfl
  have s1 : A0 7 1 = 300 := rfl
  have s2 : A0 7 2 = 400 := rfl
  have s3 : A0 7 3 = 0 := rfl
  refine ⟨⟨e0, A0_14 (by omega), A0_14 (by omega), A0_14 (by omega), A0_14 (by omega)⟩, by omega, ⟨by omega, fun j hj => by omega⟩, ⟨by omega, fun j hj => by omega⟩, fun j hj => by omega, ?_, by rw [s3]; omega, fun j hj => ?_, ⟨by omega, fun j hj => by omega⟩, ⟨by omega, fun j hj => by omega⟩, ⟨fun j hj => ?_, fun j hj hj2 => ?_⟩, ?_, ?_⟩
  · unfold okSt
    rw [s0, s1, s2, s3]
    omega
  · rw [A0_z (by omega), A0_z (by omega), z0_0]
    omega
  · rw [A0_z (by omega), z0_0]
    omega
  · rw [A0_z (by omega), z0_0]
  · rw [A0_14 (by omega)]
    omega
  · rw [A0_14 (by omega)]
    omega
def gfl (g : GG) (a b : Nat) : Nat → GG
  | 0 => g
  | i + 1 => gput (gfl g a b i) a i (some b)
theorem gfl_sm (g : GG) (a b : Nat) : ∀ i, ((∀ c, gK (gfl g a b i) c = gK g c) ∧ gN (gfl g a b i) = gN g ∧ gS (gfl g a b i) = gS g ∧ (∀ c k, ¬ c = a → gR (gfl g a b i) c k = gR g c k)) ∧ ∀ k, k < i → gR (gfl g a b i) a k = some b
  | 0 => ⟨⟨fun _ => rfl, rfl, rfl, fun _ _ _ => rfl⟩, fun k hk => by omega⟩
  | i + 1 => by
    obtain ⟨⟨h1, h2, h3, h4⟩, h5⟩ := gfl_sm g a b i
    have e : gfl g a b (i + 1) = gput (gfl g a b i) a i (some b) := rfl
    rw [e]
    refine ⟨⟨h1, h2, h3, fun c k hc => by rw [gput_ne hc]; exact h4 c k hc⟩, fun k hk => ?_⟩
    rw [gput_at]
    by_cases c : k = i
    · rw [if_pos c]
    · rw [if_neg c]
      exact h5 k (by omega)
section TOLD
variable {g : GG} {I : II} {t : Nat}
theorem lp_ti {b : Nat} (hK : gK g t = (0, 8)) (hK3 : gK g (t + 3) = (3, 7)) (hR : gR g t 5 = some (t + 3)) (hb : isTh g b) (d : Nat) (Q : QQ) : ∀ k i : Nat, i + k = 7 → WP d m_X9_init 146 [some (vr (some t)), some (vr (some b)), some (vi i)] [] (gfl g (t + 3) b i) I Q = WP d m_X9_init 165 [some (vr (some t)), some (vr (some b)), some (vi 7)] [] (gfl g (t + 3) b 7) I Q := by
  intro k
  induction k with
  | zero =>
    intro i hi
    obtain rfl : i = 7 := by omega
    rw [H_X9_init_146]
    have e : ((7 : Nat) : Int) = 7 := rfl
    rw [e]
    simp (disch := omega) only [R_X9_init_b0, R_X9_init_b1, lt_F, not_false_eq_true, true_implies, false_implies, true_and]
  | succ k ih =>
    intro i hi
    have ih' := ih (i + 1) (by omega)
    have ec : ((i + 1 : Nat) : Int) = (i : Int) + 1 := by omega
    obtain ⟨⟨h1, h2, h3, h4⟩, h5⟩ := gfl_sm g (t + 3) b i
    have kT : gK (gfl g (t + 3) b i) t = (0, 8) := by rw [h1]; exact hK
    have kT3 : gK (gfl g (t + 3) b i) (t + 3) = (3, 7) := by rw [h1]; exact hK3
    have eT : gR (gfl g (t + 3) b i) t 5 = some (t + 3) := by rw [h4 t 5 (by omega)]; exact hR
    have hb' : isTh (gfl g (t + 3) b i) b := by rw [isTh_sm h1]; exact hb
    have e1 : gfl g (t + 3) b (i + 1) = gput (gfl g (t + 3) b i) (t + 3) i (some b) := rfl
    rw [e1, ec] at ih'
    refine Eq.trans ?_ ih'
    rw [H_X9_init_146]
    simp (config := { contextual := true }) (disch := omega) only [R_X9_init_b0, R_X9_init_b1, eT, kT, kT3, hb', true_and, and_true, true_implies, not_true_eq_false, false_implies, not_false_eq_true, false_and, and_false, or_true, true_or, false_or, or_false, implies_true, forall_const, kl_i, kl_n, kl_r, kl_l, tl_s, tl_n, List.cons_append, List.nil_append, Int.cast_ofNat_Int, w32_id, w64_id, le_T, le_F, lt_T, lt_F, eq_T, eq_F, reduceIte, ne_eq, Int.toNat_natCast, bi_0, bi_1, bi_b, Nat.reduceAdd, Nat.reduceEqDiff, Int.reduceToNat, Int.reduceNeg, nle_T, nlt_T, neq_T, neq_F, b2_0, b2_b, both, reduceCtorEq]
/-- what making a Told at t leaves -/
def TI (g : GG) (I : II) (t : Nat) (g' : GG) (I' : II) : Prop := WT g' t ∧ TN g' t ∧ TR g' I' t A0 4 0 0 ∧ (gN g' = t + 13 ∧ gS g' ≤ gS g + 300) ∧ (∀ a, a ≤ t → gK g' a = gK g a) ∧ (∀ a k, a < t → gR g' a k = gR g a k) ∧ (∀ a, a < t → I' a = I a)
theorem ct_toldL (ht : t = 6 ∨ t = 19 ∨ t = 32) (hW : WT g t) (hb : isTh g (t + 12)) (hN : gN g = t + 13) (h0 : I t 0 = 4 ∧ I t 1 = 0 ∧ I t 4 = 0 ∧ I t 7 = 0 ∧ I t 11 = 0) (h1 : I (t + 1) = z0) (h4 : ∀ j, j < 4 → I (t + 4) j = A0 7 j) (h5 : I (t + 5) = z0 ∧ I (t + 6) = z0 ∧ I (t + 7) = z0 ∧ I (t + 8) = z0 ∧ I (t + 9) = z0) (h10 : I (t + 10) 0 = 0 ∧ I (t + 10) 1 = 0 ∧ I (t + 10) 2 = 0) (h11 : I (t + 11) = z0) (d : Nat) (Q : QQ) (hQ : ∀ g' I', WT g' t → TN g' t → TR g' I' t A0 4 0 0 → gN g' = t + 13 → gS g' = gS g → (∀ a, gK g' a = gK g a) → (∀ a k, ¬ a = t + 3 → gR g' a k = gR g a k) → (∀ a, ¬ a = t + 2 → I' a = I a) → Q none g' I') : WP (d + 2) m_X9_init 146 [some (vr (some t)), some (vr (some (t + 12))), some (vi 0)] [] g I Q := by
  have hl := lp_ti (I := I) (g := g) (t := t) (b := t + 12) (by simp only [hW]) (by simp only [hW]) (by simp only [hW]) hb (d + 2) Q 7 0 (by omega)
  have e0 : gfl g (t + 3) (t + 12) 0 = g := rfl
  have ez : ((0 : Nat) : Int) = 0 := rfl
  rw [e0, ez] at hl
  rw [hl]
  clear hl
  obtain ⟨⟨f1, f2, f3, f4⟩, f5⟩ := gfl_sm g (t + 3) (t + 12) 7
  generalize gfl g (t + 3) (t + 12) 7 = G at f1 f2 f3 f4 f5 ⊢
  have hG : WT G t := by
    have a1 : ∀ k, gR G t k = gR g t k := fun k => f4 t k (by omega)
    have a2 : ∀ k, gR G (t + 10) k = gR g (t + 10) k := fun k => f4 (t + 10) k (by omega)
    unfold WT
    simp only [f1, a1, a2]
    exact hW
  have kf := fun Q => ct_reckonFar (d := d) (I := I) hG (fun j _ => by rw [h1, z0_0]; omega) Q
  have kT : gK G t = (0, 8) := hG.1
  simp (config := { contextual := true }) (disch := omega) only [R_X9_init_b0, R_X9_init_b1, kT, kf, true_and, and_true, true_implies, not_true_eq_false, false_implies, not_false_eq_true, false_and, and_false, or_true, true_or, false_or, or_false, implies_true, forall_const, kl_i, kl_n, kl_r, kl_l, tl_s, tl_n, List.cons_append, List.nil_append, Int.cast_ofNat_Int, w32_id, w64_id, le_T, le_F, lt_T, lt_F, eq_T, eq_F, reduceIte, ne_eq, Int.toNat_natCast, bi_0, bi_1, bi_b, Nat.reduceAdd, Nat.reduceEqDiff, Int.reduceToNat, Int.reduceNeg, nle_T, nlt_T, neq_T, neq_F, b2_0, b2_b, both, reduceCtorEq]
  refine hQ _ _ hG (fun i hi => ⟨t + 12, f5 i hi, by omega, by omega, by rw [isTh_sm f1]; exact hb⟩) ?_ (by rw [f2]; exact hN) f3 f1 f4 (fun a ha => pr_o ha)
  have eD : e64 (xfar (I (t + 1)) (I (t + 2))) (DA A0 4 0) := xfar_DA okS_0 (by rw [h1]; exact fun _ _ => rfl)
  refine ⟨?_, ?_, ?_, fun i hi => by omega, ?_, ?_, ?_, ?_, ?_, ?_, ?_, ?_⟩
  · have e0 : A0 14 0 = 4 := rfl
    rw [pr_o (by omega), e0, A0_14 (by omega), A0_14 (by omega), A0_14 (by omega), A0_14 (by omega)]
    exact h0
  · rw [pr_o (by omega), h1]
    exact fun _ _ => rfl
  · rw [pr_s]
    exact eD
  · rw [pr_o (by omega)]
    exact h4
  · rw [pr_o (by omega), h5.1, A0_z (by omega)]
    exact fun _ _ => rfl
  · rw [pr_o (by omega), h5.2.1, A0_z (by omega)]
    exact fun _ _ => rfl
  · rw [pr_o (by omega), h5.2.2.1, A0_z (by omega)]
    exact fun _ _ => rfl
  · rw [pr_o (by omega), h5.2.2.2.1, A0_z (by omega)]
    exact fun _ _ => rfl
  · rw [pr_o (by omega), h5.2.2.2.2, A0_z (by omega)]
    exact fun _ _ => rfl
  · rw [pr_o (by omega), A0_14 (by omega), A0_14 (by omega), A0_14 (by omega)]
    exact h10
  · rw [pr_o (by omega), h11, A0_z (by omega)]
    exact fun _ _ => rfl
end TOLD

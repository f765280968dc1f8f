-- CALLS: the means, and the class's way to them
def sgm (f : Nat → Int) : Nat → Int
  | 0 => 0
  | k + 1 => sgm f k + f k
theorem sgm_b {f : Nat → Int} {c : Int} : ∀ k : Nat, (∀ j, j < k → 0 ≤ f j ∧ f j ≤ c) → 0 ≤ sgm f k ∧ sgm f k ≤ c * (k : Int)
  | 0, _ => ⟨by show (0 : Int) ≤ 0; omega, by show (0 : Int) ≤ c * ((0 : Nat) : Int); simp⟩
  | k + 1, h => by
    have h1 := sgm_b (c := c) k (fun j hj => h j (by omega))
    have h2 := h k (by omega)
    have e : c * ((k + 1 : Nat) : Int) = c * (k : Int) + c := by rw [Int.natCast_add, Int.mul_add]; simp
    show 0 ≤ sgm f k + f k ∧ sgm f k + f k ≤ c * ((k + 1 : Nat) : Int)
    rw [e]
    omega
theorem sgm_z {f : Nat → Int} {n : Nat} : ∀ k : Nat, (∀ j, n ≤ j → j < n + k → f j = 0) → sgm f (n + k) = sgm f n
  | 0, _ => rfl
  | k + 1, h => by
    show sgm f (n + k) + f (n + k) = sgm f n
    rw [sgm_z k (fun j h1 h2 => h j h1 (by omega)), h (n + k) (by omega) (by omega)]
    omega
theorem sgm_c {f h : Nat → Int} : ∀ k : Nat, (∀ j, j < k → f j = h j) → sgm f k = sgm h k
  | 0, _ => rfl
  | k + 1, e => by
    show sgm f k + f k = sgm h k + h k
    rw [sgm_c k (fun j hj => e j (by omega)), e k (by omega)]
def ub : Nat → Int
  | 0 => 1
  | k + 1 => 72 * ub k
def mb : Nat → Int
  | 0 => 0
  | k + 1 => 72 * (99 * ub k + mb k)
theorem ub_b : ∀ k, k ≤ 6 → 1 ≤ ub k ∧ ub k ≤ 139314069504 ∧ 0 ≤ mb k ∧ mb k ≤ 82752557285376 := by decide
def tpm (A : II) (D : Nat → Int) (u : Int) (f : Nat → Int) (h p : Nat) : Int := A 8 p * (if D (8 * (A 7 3).toNat + p) ≤ (h : Int) then max (f h) (A 9 p * u + f (h - (D (8 * (A 7 3).toNat + p)).toNat)) else f h)
def smp (A : II) (D : Nat → Int) (u : Int) (f : Nat → Int) (h : Nat) : Nat → Int
  | 0 => 0
  | p + 1 => smp A D u f h p + tpm A D u f h p
def uk (W : Int) : Nat → Int
  | 0 => 1
  | k + 1 => uk W k * W
def mn (A : II) (D : Nat → Int) (P : Nat) (W : Int) : Nat → Nat → Int
  | 0 => fun _ => 0
  | k + 1 => fun h => smp A D (uk W k) (mn A D P W k) h P
theorem uk_b {W : Int} (h1 : 0 ≤ W) (h2 : W ≤ 72) : ∀ k, 0 ≤ uk W k ∧ uk W k ≤ ub k
  | 0 => ⟨by show (0 : Int) ≤ 1; omega, by show (1 : Int) ≤ 1; omega⟩
  | k + 1 => by
    have ih := uk_b h1 h2 k
    refine ⟨Int.mul_nonneg ih.1 h1, ?_⟩
    show uk W k * W ≤ 72 * ub k
    rw [Int.mul_comm 72]
    exact Int.mul_le_mul ih.2 h2 h1 (by omega)
section MN
variable {A : II} {D : Nat → Int} {P : Nat}
abbrev okW (A : II) : Prop := ∀ j, j < 8 → (0 ≤ A 8 j ∧ A 8 j ≤ 9) ∧ (0 ≤ A 9 j ∧ A 9 j ≤ 99)
theorem tpm_in {u U M : Int} {f : Nat → Int} {h p : Nat} (hw : okW A) (hp : p < 8) (hD : 0 ≤ D (8 * (A 7 3).toNat + p)) (hu : 0 ≤ u ∧ u ≤ U) (hf : ∀ j, j ≤ h → 0 ≤ f j ∧ f j ≤ M) : (0 ≤ A 9 p * u ∧ A 9 p * u ≤ 99 * U) ∧ (0 ≤ (if D (8 * (A 7 3).toNat + p) ≤ (h : Int) then max (f h) (A 9 p * u + f (h - (D (8 * (A 7 3).toNat + p)).toNat)) else f h) ∧ (if D (8 * (A 7 3).toNat + p) ≤ (h : Int) then max (f h) (A 9 p * u + f (h - (D (8 * (A 7 3).toNat + p)).toNat)) else f h) ≤ 99 * U + M) := by
  have w := hw p hp
  have h1 : 0 ≤ A 9 p * u ∧ A 9 p * u ≤ 99 * U := ⟨Int.mul_nonneg w.2.1 hu.1, Int.mul_le_mul w.2.2 hu.2 hu.1 (by omega)⟩
  have h2 := hf h (Nat.le_refl h)
  have h3 := hf (h - (D (8 * (A 7 3).toNat + p)).toNat) (Nat.sub_le _ _)
  refine ⟨h1, ?_⟩
  split <;> omega
theorem tpm_b {u U M : Int} {f : Nat → Int} {h p : Nat} (hw : okW A) (hp : p < 8) (hD : 0 ≤ D (8 * (A 7 3).toNat + p)) (hu : 0 ≤ u ∧ u ≤ U) (hf : ∀ j, j ≤ h → 0 ≤ f j ∧ f j ≤ M) : 0 ≤ tpm A D u f h p ∧ tpm A D u f h p ≤ A 8 p * (99 * U + M) := by
  obtain ⟨-, h1, h2⟩ := tpm_in hw hp hD hu hf
  have w := (hw p hp).1
  exact ⟨Int.mul_nonneg w.1 h1, Int.mul_le_mul_of_nonneg_left h2 w.1⟩
theorem smp_b {u U M : Int} {f : Nat → Int} {h : Nat} (hw : okW A) (hD : ∀ p, p < 8 → 0 ≤ D (8 * (A 7 3).toNat + p)) (hu : 0 ≤ u ∧ u ≤ U) (hf : ∀ j, j ≤ h → 0 ≤ f j ∧ f j ≤ M) : ∀ p, p ≤ 8 → 0 ≤ smp A D u f h p ∧ smp A D u f h p ≤ sgm (A 8) p * (99 * U + M)
  | 0, _ => ⟨by show (0 : Int) ≤ 0; omega, by show (0 : Int) ≤ 0 * _; omega⟩
  | p + 1, hp => by
    have h1 := smp_b hw hD hu hf p (by omega)
    have h2 := tpm_b hw (p := p) (by omega) (hD p (by omega)) hu hf
    show 0 ≤ smp A D u f h p + tpm A D u f h p ∧ smp A D u f h p + tpm A D u f h p ≤ (sgm (A 8) p + A 8 p) * (99 * U + M)
    rw [Int.add_mul]
    omega
theorem smp_c {u : Int} {f f' : Nat → Int} {h : Nat} (e : ∀ j, j ≤ h → f j = f' j) : ∀ p, smp A D u f h p = smp A D u f' h p
  | 0 => rfl
  | p + 1 => by
    show smp A D u f h p + tpm A D u f h p = smp A D u f' h p + tpm A D u f' h p
    rw [smp_c e p]
    unfold tpm
    rw [e h (Nat.le_refl h), e (h - (D (8 * (A 7 3).toNat + p)).toNat) (Nat.sub_le _ _)]
theorem mn_b (hw : okW A) (hD : ∀ p, p < 8 → 0 ≤ D (8 * (A 7 3).toNat + p)) (hP : P ≤ 8) {W : Int} (hW : 0 ≤ W ∧ W ≤ 72) (hsg : sgm (A 8) P ≤ 72) : ∀ k, k ≤ 6 → ∀ h, 0 ≤ mn A D P W k h ∧ mn A D P W k h ≤ mb k
  | 0, _, h => ⟨by show (0 : Int) ≤ 0; omega, by show (0 : Int) ≤ 0; omega⟩
  | k + 1, hk, h => by
    have ih := mn_b hw hD hP hW hsg k (by omega)
    have hu := uk_b hW.1 hW.2 k
    have h1 := smp_b (h := h) hw hD hu (fun j _ => ih j) P hP
    have hb := ub_b k (by omega)
    refine ⟨h1.1, ?_⟩
    show smp A D (uk W k) (mn A D P W k) h P ≤ 72 * (99 * ub k + mb k)
    have h2 : sgm (A 8) P * (99 * ub k + mb k) ≤ 72 * (99 * ub k + mb k) := Int.mul_le_mul_of_nonneg_right hsg (by omega)
    omega
end MN
-- the class
def mixr (f G : Nat → Int) (lo hi : Nat) : Nat → Int := fun j => if lo ≤ j ∧ j ≤ hi then G j else f j
theorem mixr_s (f G : Nat → Int) (lo hi : Nat) (h : lo ≤ hi) : uf (mixr f G (lo + 1) hi) lo (G lo) = mixr f G lo hi := by
  funext j
  unfold uf mixr
  by_cases e : j = lo
  · subst e
    rw [if_pos rfl, if_pos (by omega)]
  · rw [if_neg e]
    by_cases c : lo ≤ j ∧ j ≤ hi
    · rw [if_pos c, if_pos (by omega)]
    · rw [if_neg c, if_neg (by omega)]
theorem mixr_0 (f G : Nat → Int) (hi : Nat) : mixr f G (hi + 1) hi = f := by
  funext j
  unfold mixr
  rw [if_neg (by omega)]
section CMEANS
variable {g : GG} {I : II} {t n P : Nat} {A : II} {D : Nat → Int}
theorem lp_aW (hT : WT g t) (hP : I t 0 = (P : Int)) (hP8 : P ≤ 8) (hw : ∀ j, j < 8 → I (t + 6) j = A 8 j) (hb : okW A) (d : Nat) (Q : QQ) : ∀ k p : Nat, p + k = P → WP d m_X9_allWeights 4 [some (vr (some t)), some (vi (sgm (A 8) p)), some (vi p)] [] g I Q = Q (some (vi (sgm (A 8) P))) g I := by
  intro k
  induction k with
  | zero =>
    intro p hp
    obtain rfl : p = P := by omega
    rw [H_X9_allWeights_4]
    simp (config := { contextual := true }) (disch := omega) only [R_X9_allWeights, hT, hP, true_and, and_true, true_implies, not_true_eq_false, false_implies, not_false_eq_true, false_and, and_false, or_true, true_or, false_or, or_false, implies_true, forall_const, kl_i, kl_n, kl_r, kl_l, tl_s, tl_n, List.cons_append, List.nil_append, Int.cast_ofNat_Int, w32_id, w64_id, le_T, le_F, lt_T, lt_F, eq_T, eq_F, reduceIte, ne_eq, Int.toNat_natCast, bi_0, bi_1, bi_b, Nat.reduceAdd, Nat.reduceEqDiff, Int.reduceToNat, Int.reduceNeg, nle_T, nlt_T, neq_T, neq_F, b2_0, b2_b, both, reduceCtorEq]
  | succ k ih =>
    intro p hp
    have ih' := ih (p + 1) (by omega)
    have e1 : sgm (A 8) (p + 1) = sgm (A 8) p + A 8 p := rfl
    have ec : ((p + 1 : Nat) : Int) = (p : Int) + 1 := by omega
    rw [e1, ec] at ih'
    have h1 := sgm_b (f := A 8) (c := 9) p (fun j hj => (hb j (by omega)).1)
    have h2 := (hb p (by omega)).1
    have h3 := hw p (by omega)
    rw [H_X9_allWeights_4]
    simp (config := { contextual := true }) (disch := omega) only [R_X9_allWeights, hT, hP, h3, ih', true_and, and_true, true_implies, not_true_eq_false, false_implies, not_false_eq_true, false_and, and_false, or_true, true_or, false_or, or_false, implies_true, forall_const, kl_i, kl_n, kl_r, kl_l, tl_s, tl_n, List.cons_append, List.nil_append, Int.cast_ofNat_Int, w32_id, w64_id, le_T, le_F, lt_T, lt_F, eq_T, eq_F, reduceIte, ne_eq, Int.toNat_natCast, bi_0, bi_1, bi_b, Nat.reduceAdd, Nat.reduceEqDiff, Int.reduceToNat, Int.reduceNeg, nle_T, nlt_T, neq_T, neq_F, b2_0, b2_b, both, reduceCtorEq]
theorem ct_aW (hT : WT g t) (hP : I t 0 = (P : Int)) (hP8 : P ≤ 8) (hw : ∀ j, j < 8 → I (t + 6) j = A 8 j) (hb : okW A) (d : Nat) (Q : QQ) : WP d m_X9_allWeights 0 [some (vr (some t)), none, none] [] g I Q = Q (some (vi (sgm (A 8) P))) g I := by
  have h := lp_aW hT hP hP8 hw hb d Q P 0 (by omega)
  simp (config := { contextual := true }) (disch := omega) only [R_X9_allWeights, true_and, and_true, true_implies, not_true_eq_false, false_implies, not_false_eq_true, false_and, and_false, or_true, true_or, false_or, or_false, implies_true, forall_const, kl_i, kl_n, kl_r, kl_l, tl_s, tl_n, List.cons_append, List.nil_append, Int.cast_ofNat_Int, w32_id, w64_id, le_T, le_F, lt_T, lt_F, eq_T, eq_F, reduceIte, ne_eq, Int.toNat_natCast, bi_0, bi_1, bi_b, Nat.reduceAdd, Nat.reduceEqDiff, Int.reduceToNat, Int.reduceNeg, nle_T, nlt_T, neq_T, neq_F, b2_0, b2_b, both, reduceCtorEq]
  exact h
/-- what the class's means rest on -/
abbrev CW (g : GG) (I : II) (t P : Nat) (A : II) (D : Nat → Int) : Prop := (t ≤ 19 ∧ WX g ∧ WT g t ∧ gR g 5 0 = some t) ∧ (I t 0 = (P : Int) ∧ P ≤ 8) ∧ (∀ j, j < 8 → I (t + 6) j = A 8 j) ∧ (∀ j, j < 8 → I (t + 7) j = A 9 j) ∧ (I (t + 4) 3 = A 7 3 ∧ 0 ≤ A 7 3 ∧ A 7 3 < 8) ∧ e64 (I (t + 2)) D ∧ bD D ∧ okW A
theorem CW_pr (h : CW g I t P A D) (f : Nat → Int) : CW g (pr I 54 f) t P A D := by
  obtain ⟨⟨a1, a2, a3, a4⟩, b, c, e, k, l, m⟩ := h
  refine ⟨⟨a1, a2, a3, a4⟩, ?_⟩
  rw [pr_o (by omega), pr_o (by omega), pr_o (by omega), pr_o (by omega), pr_o (by omega)]
  exact ⟨b, c, e, k, l, m⟩
theorem lp_ocm (hC : CW g I t P A D) {h : Nat} (hh : h < 500) {u U M : Int} (hu : 0 ≤ u ∧ u ≤ U) (hU : 0 ≤ U ∧ U ≤ 139314069504) (hM : 0 ≤ M ∧ M ≤ 82752557285376) (hf : ∀ j, j ≤ h → 0 ≤ I 54 j ∧ I 54 j ≤ M) (d : Nat) (Q : QQ) : ∀ k p : Nat, p + k = P → ∀ l7 l8 l9, WP (d + 2) m_X11_oneCallMore 6 [some (vr (some 5)), some (vi h), some (vl u), none, some (vl (smp A D u (I 54) h p)), none, some (vi p), l7, l8, l9] [] g I Q = Q (some (vl (smp A D u (I 54) h P))) g I := by
  obtain ⟨⟨a1, hX, hT, h50⟩, ⟨hP, hP8⟩, hw, hpy, ⟨hs3, hh1, hh2⟩, he, hD, hb⟩ := hC
  intro k
  induction k with
  | zero =>
    intro p hp l7 l8 l9
    obtain rfl : p = P := by omega
    rw [H_X11_oneCallMore_6]
    simp (config := { contextual := true }) (disch := omega) only [R_X11_oneCallMore_b0, R_X11_oneCallMore_b1, hX, hT, h50, hP, true_and, and_true, true_implies, not_true_eq_false, false_implies, not_false_eq_true, false_and, and_false, or_true, true_or, false_or, or_false, implies_true, forall_const, kl_i, kl_n, kl_r, kl_l, tl_s, tl_n, List.cons_append, List.nil_append, Int.cast_ofNat_Int, w32_id, w64_id, le_T, le_F, lt_T, lt_F, eq_T, eq_F, reduceIte, ne_eq, Int.toNat_natCast, bi_0, bi_1, bi_b, Nat.reduceAdd, Nat.reduceEqDiff, Int.reduceToNat, Int.reduceNeg, nle_T, nlt_T, neq_T, neq_F, b2_0, b2_b, both, reduceCtorEq]
  | succ k ih =>
    intro p hp l7 l8 l9
    have ih' := ih (p + 1) (by omega)
    have e1 : smp A D u (I 54) h (p + 1) = smp A D u (I 54) h p + tpm A D u (I 54) h p := rfl
    have ec : ((p + 1 : Nat) : Int) = (p : Int) + 1 := by omega
    rw [e1, ec] at ih'
    have hd := hD (8 * (A 7 3).toNat + p) (by omega)
    have ed := he (8 * (A 7 3).toNat + p) (by omega)
    have b1 := tpm_in hb (by omega : p < 8) hd.1 hu hf
    have b2 := tpm_b hb (by omega : p < 8) hd.1 hu hf
    have b3 := smp_b hb (fun p hp => (hD _ (by omega)).1) hu hf p (by omega)
    have w1 := (hb p (by omega)).1
    have wsg := sgm_b (f := A 8) (c := 9) p (fun j hj => (hb j (by omega)).1)
    have b4 : A 8 p * (99 * U + M) ≤ 9 * (99 * U + M) := Int.mul_le_mul_of_nonneg_right w1.2 (by omega)
    have b5 : sgm (A 8) p * (99 * U + M) ≤ 72 * (99 * U + M) := Int.mul_le_mul_of_nonneg_right (by omega) (by omega)
    have w2 := hw p (by omega)
    have w3 := hpy p (by omega)
    have f1 := hf h (Nat.le_refl h)
    have td : tpm A D u (I 54) h p = A 8 p * (if D (8 * (A 7 3).toNat + p) ≤ (h : Int) then max (I 54 h) (A 9 p * u + I 54 (h - (D (8 * (A 7 3).toNat + p)).toNat)) else I 54 h) := rfl
    rw [H_X11_oneCallMore_6]
    by_cases c : D (8 * (A 7 3).toNat + p) ≤ (h : Int)
    · rw [if_pos c] at td b1
      have f2 := hf (h - (D (8 * (A 7 3).toNat + p)).toNat) (Nat.sub_le _ _)
      have ei : ((h : Int) - D (8 * (A 7 3).toNat + p)).toNat = h - (D (8 * (A 7 3).toNat + p)).toNat := by omega
      rw [td] at b2 ih'
      simp (config := { contextual := true }) (disch := omega) only [R_X11_oneCallMore_b0, R_X11_oneCallMore_b1, hX, hT, h50, hP, hs3, ct_miles hT, ed, w2, w3, ei, ih', true_and, and_true, true_implies, not_true_eq_false, false_implies, not_false_eq_true, false_and, and_false, or_true, true_or, false_or, or_false, implies_true, forall_const, kl_i, kl_n, kl_r, kl_l, tl_s, tl_n, List.cons_append, List.nil_append, Int.cast_ofNat_Int, w32_id, w64_id, le_T, le_F, lt_T, lt_F, eq_T, eq_F, reduceIte, ne_eq, Int.toNat_natCast, bi_0, bi_1, bi_b, Nat.reduceAdd, Nat.reduceEqDiff, Int.reduceToNat, Int.reduceNeg, nle_T, nlt_T, neq_T, neq_F, b2_0, b2_b, both, reduceCtorEq]
    · rw [if_neg c] at td b1
      rw [td] at b2 ih'
      simp (config := { contextual := true }) (disch := omega) only [R_X11_oneCallMore_b0, R_X11_oneCallMore_b1, hX, hT, h50, hP, hs3, ct_miles hT, ed, w2, w3, ih', true_and, and_true, true_implies, not_true_eq_false, false_implies, not_false_eq_true, false_and, and_false, or_true, true_or, false_or, or_false, implies_true, forall_const, kl_i, kl_n, kl_r, kl_l, tl_s, tl_n, List.cons_append, List.nil_append, Int.cast_ofNat_Int, w32_id, w64_id, le_T, le_F, lt_T, lt_F, eq_T, eq_F, reduceIte, ne_eq, Int.toNat_natCast, bi_0, bi_1, bi_b, Nat.reduceAdd, Nat.reduceEqDiff, Int.reduceToNat, Int.reduceNeg, nle_T, nlt_T, neq_T, neq_F, b2_0, b2_b, both, reduceCtorEq]
theorem ct_ocm (hC : CW g I t P A D) {h : Nat} (hh : h < 500) {u U M : Int} (hu : 0 ≤ u ∧ u ≤ U) (hU : 0 ≤ U ∧ U ≤ 139314069504) (hM : 0 ≤ M ∧ M ≤ 82752557285376) (hf : ∀ j, j ≤ h → 0 ≤ I 54 j ∧ I 54 j ≤ M) (d : Nat) (Q : QQ) : WP (d + 2) m_X11_oneCallMore 0 [some (vr (some 5)), some (vi h), some (vl u), none, none, none, none, none, none, none] [] g I Q = Q (some (vl (smp A D u (I 54) h P))) g I := by
  have hh := lp_ocm hC hh hu hU hM hf d Q P 0 (by omega) none none none
  simp (config := { contextual := true }) (disch := omega) only [R_X11_oneCallMore_b0, R_X11_oneCallMore_b1, true_and, and_true, true_implies, not_true_eq_false, false_implies, not_false_eq_true, false_and, and_false, or_true, true_or, false_or, or_false, implies_true, forall_const, kl_i, kl_n, kl_r, kl_l, tl_s, tl_n, List.cons_append, List.nil_append, Int.cast_ofNat_Int, w32_id, w64_id, le_T, le_F, lt_T, lt_F, eq_T, eq_F, reduceIte, ne_eq, Int.toNat_natCast, bi_0, bi_1, bi_b, Nat.reduceAdd, Nat.reduceEqDiff, Int.reduceToNat, Int.reduceNeg, nle_T, nlt_T, neq_T, neq_F, b2_0, b2_b, both, reduceCtorEq]
  exact hh
end CMEANS

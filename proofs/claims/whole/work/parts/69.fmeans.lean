-- CALLS: fillMeans, the common divisor, findMeans
def cmr (A : II) (D : Nat → Int) (P : Nat) (W : Int) (half : Nat) (f0 : Nat → Int) : Nat → (Nat → Int)
  | 0 => f0
  | i + 1 => mixr (cmr A D P W half f0 i) (fun j => smp A D (uk W i) (cmr A D P W half f0 i) j P) 0 half
theorem cmr_mn {A : II} {D : Nat → Int} {P : Nat} {W : Int} {half : Nat} {f0 : Nat → Int} (h0 : ∀ j, j ≤ half → f0 j = 0) : ∀ (i j : Nat), j ≤ half → cmr A D P W half f0 i j = mn A D P W i j
  | 0, j, hj => h0 j hj
  | i + 1, j, hj => by
    show mixr (cmr A D P W half f0 i) (fun j => smp A D (uk W i) (cmr A D P W half f0 i) j P) 0 half j = smp A D (uk W i) (mn A D P W i) j P
    unfold mixr
    rw [if_pos (by omega)]
    exact smp_c (fun q hq => cmr_mn h0 i q (by omega)) P
section FM
variable {g : GG} {I : II} {t n P : Nat} {A : II} {D : Nat → Int}
theorem lp_in (hC : CW g I t P A D) {half : Nat} (hh : half < 500) {u U M : Int} (hu : 0 ≤ u ∧ u ≤ U) (hU : 0 ≤ U ∧ U ≤ 139314069504) (hM : 0 ≤ M ∧ M ≤ 82752557285376) {f : Nat → Int} (hf : ∀ j, j ≤ half → 0 ≤ f j ∧ f j ≤ M) {zn zw zi : Int} (d : Nat) (Q : QQ) : ∀ lo : Nat, lo ≤ half + 1 → WP (d + 3) m_X11_fillMeans 31 [some (vr (some 5)), some (vi half), some (vi zn), some (vi zw), some (vl u), none, some (vi zi), some (vi ((lo : Int) - 1))] [] g (pr I 54 (mixr f (fun j => smp A D u f j P) lo half)) Q = WP (d + 3) m_X11_fillMeans 57 [some (vr (some 5)), some (vi half), some (vi zn), some (vi zw), some (vl u), none, some (vi zi), some (vi (-1))] [] g (pr I 54 (mixr f (fun j => smp A D u f j P) 0 half)) Q := by
  intro lo
  have hX := hC.1.2.1
  induction lo with
  | zero =>
    intro _
    have e : ((0 : Nat) : Int) - 1 = -1 := rfl
    rw [e, H_X11_fillMeans_31]
    simp (config := { contextual := true }) (disch := omega) only [R_X11_fillMeans, hX, true_and, and_true, true_implies, not_true_eq_false, false_implies, not_false_eq_true, false_and, and_false, or_true, true_or, false_or, or_false, implies_true, forall_const, kl_i, kl_n, kl_r, kl_l, tl_s, tl_n, List.cons_append, List.nil_append, Int.cast_ofNat_Int, w32_id, w64_id, le_T, le_F, lt_T, lt_F, eq_T, eq_F, reduceIte, ne_eq, Int.toNat_natCast, bi_0, bi_1, bi_b, Nat.reduceAdd, Nat.reduceEqDiff, Int.reduceToNat, Int.reduceNeg, nle_T, nlt_T, neq_T, neq_F, b2_0, b2_b, both, reduceCtorEq]
  | succ lo ih =>
    intro hlo
    have ih' := ih (by omega)
    have e : ((lo + 1 : Nat) : Int) - 1 = (lo : Int) := by omega
    have ko := fun Q => ct_ocm (I := pr I 54 (mixr f (fun j => smp A D u f j P) (lo + 1) half)) (CW_pr hC _) (h := lo) (by omega) hu hU hM (fun j hj => by
      rw [pr_s]
      unfold mixr
      rw [if_neg (by omega)]
      exact hf j (by omega)) d Q
    rw [pr_s, smp_c (f' := f) (fun j hj => by unfold mixr; rw [if_neg (by omega)]) P] at ko
    have em := mixr_s f (fun j => smp A D u f j P) lo half (by omega)
    rw [← em] at ih'
    have ed : (lo : Int) + -1 = (lo : Int) - 1 := by omega
    rw [e, H_X11_fillMeans_31]
    simp (config := { contextual := true }) (disch := omega) only [R_X11_fillMeans, hX, ko, pr_s, up_pr, pr_pr, ed, ih', true_and, and_true, true_implies, not_true_eq_false, false_implies, not_false_eq_true, false_and, and_false, or_true, true_or, false_or, or_false, implies_true, forall_const, kl_i, kl_n, kl_r, kl_l, tl_s, tl_n, List.cons_append, List.nil_append, Int.cast_ofNat_Int, w32_id, w64_id, le_T, le_F, lt_T, lt_F, eq_T, eq_F, reduceIte, ne_eq, Int.toNat_natCast, bi_0, bi_1, bi_b, Nat.reduceAdd, Nat.reduceEqDiff, Int.reduceToNat, Int.reduceNeg, nle_T, nlt_T, neq_T, neq_F, b2_0, b2_b, both, reduceCtorEq]
theorem lp_out (hC : CW g I t P A D) {half : Nat} (hh : half < 500) {W : Int} (hW : 0 ≤ W ∧ W ≤ 72) (hsg : sgm (A 8) P ≤ 72) {f0 : Nat → Int} (h0 : ∀ j, j ≤ half → f0 j = 0) {N : Nat} (hN : N ≤ 6) (d : Nat) (Q : QQ) : ∀ k i : Nat, i + k = N → ∀ l7, WP (d + 3) m_X11_fillMeans 22 [some (vr (some 5)), some (vi half), some (vi N), some (vi W), some (vl (uk W i)), none, some (vi i), l7] [] g (pr I 54 (cmr A D P W half f0 i)) Q = Q (some (vl (uk W N))) g (pr I 54 (cmr A D P W half f0 N)) := by
  have hX := hC.1.2.1
  have hC0 := hC
  obtain ⟨-, ⟨hP, hP8⟩, hw, hpy, ⟨hs3, hh1, hh2⟩, he, hD, hb⟩ := hC
  intro k
  induction k with
  | zero =>
    intro i hi l7
    obtain rfl : i = N := by omega
    rw [H_X11_fillMeans_22]
    simp (config := { contextual := true }) (disch := omega) only [R_X11_fillMeans, hX, true_and, and_true, true_implies, not_true_eq_false, false_implies, not_false_eq_true, false_and, and_false, or_true, true_or, false_or, or_false, implies_true, forall_const, kl_i, kl_n, kl_r, kl_l, tl_s, tl_n, List.cons_append, List.nil_append, Int.cast_ofNat_Int, w32_id, w64_id, le_T, le_F, lt_T, lt_F, eq_T, eq_F, reduceIte, ne_eq, Int.toNat_natCast, bi_0, bi_1, bi_b, Nat.reduceAdd, Nat.reduceEqDiff, Int.reduceToNat, Int.reduceNeg, nle_T, nlt_T, neq_T, neq_F, b2_0, b2_b, both, reduceCtorEq]
  | succ k ih =>
    intro i hi l7
    have ih' := ih (i + 1) (by omega) (some (vi (-1)))
    have ec : ((i + 1 : Nat) : Int) = (i : Int) + 1 := by omega
    have hu := uk_b hW.1 hW.2 i
    have hu1 := uk_b hW.1 hW.2 (i + 1)
    have hub := ub_b i (by omega)
    have hub1 := ub_b (i + 1) (by omega)
    have eu : uk W (i + 1) = uk W i * W := rfl
    have hmn := fun j => mn_b (A := A) (D := D) (P := P) hb (fun p hp => (hD _ (by omega)).1) hP8 hW hsg i (by omega) j
    have hl := fun Q => lp_in hC0 (half := half) hh hu (by omega) (by omega : 0 ≤ mb i ∧ mb i ≤ 82752557285376) (f := cmr A D P W half f0 i) (fun j hj => by rw [cmr_mn h0 i j hj]; exact hmn j) (zn := (N : Int)) (zw := W) (zi := (i : Int)) d Q (half + 1) (Nat.le_refl _)
    rw [mixr_0, show ((half + 1 : Nat) : Int) - 1 = (half : Int) by omega] at hl
    have em : mixr (cmr A D P W half f0 i) (fun j => smp A D (uk W i) (cmr A D P W half f0 i) j P) 0 half = cmr A D P W half f0 (i + 1) := rfl
    rw [em] at hl
    rw [ec, eu] at ih'
    rw [eu] at hu1
    rw [H_X11_fillMeans_22]
    simp (config := { contextual := true }) (disch := omega) only [R_X11_fillMeans, hX, hl, ih', true_and, and_true, true_implies, not_true_eq_false, false_implies, not_false_eq_true, false_and, and_false, or_true, true_or, false_or, or_false, implies_true, forall_const, kl_i, kl_n, kl_r, kl_l, tl_s, tl_n, List.cons_append, List.nil_append, Int.cast_ofNat_Int, w32_id, w64_id, le_T, le_F, lt_T, lt_F, eq_T, eq_F, reduceIte, ne_eq, Int.toNat_natCast, bi_0, bi_1, bi_b, Nat.reduceAdd, Nat.reduceEqDiff, Int.reduceToNat, Int.reduceNeg, nle_T, nlt_T, neq_T, neq_F, b2_0, b2_b, both, reduceCtorEq]
theorem ct_fillMeans (hC : CW g I t P A D) {half : Nat} (hh : half < 500) {N : Nat} (hN : N ≤ 6) (hsg : sgm (A 8) P ≤ 72) (d : Nat) (Q : QQ) : WP (d + 3) m_X11_fillMeans 0 [some (vr (some 5)), some (vi half), some (vi N), none, none, none, none, none] [] g I Q = Q (some (vl (uk (sgm (A 8) P) N))) g (pr I 54 (cmr A D P (sgm (A 8) P) half (fll (fun _ => 0) 500 (I 54)) N)) := by
  have hC0 := hC
  obtain ⟨⟨a1, hX, hT, h50⟩, ⟨hP, hP8⟩, hw, hpy, ⟨hs3, hh1, hh2⟩, he, hD, hb⟩ := hC
  have hk : gK g 54 = (2, 500) := by simp only [hX]
  have kf := fun Q => ct_fillL (d := d + 2) (I := I) (v := 0) hk (by omega) Q
  have ka := fun Q => ct_aW (I := pr I 54 (fll (fun _ => 0) 500 (I 54))) hT (by rw [pr_o (by omega)]; exact hP) hP8 (fun j hj => by rw [pr_o (by omega)]; exact hw j hj) hb (d + 2) Q
  have hs0 := sgm_b (f := A 8) (c := 9) P (fun j hj => (hb j (by omega)).1)
  have kl := fun l7 => lp_out hC0 hh (W := sgm (A 8) P) ⟨hs0.1, hsg⟩ hsg (f0 := fll (fun _ => 0) 500 (I 54)) (fun j hj => by unfold fll; rw [if_pos (by omega)]) hN d Q N 0 (by omega) l7
  have e0 : cmr A D P (sgm (A 8) P) half (fll (fun _ => 0) 500 (I 54)) 0 = fll (fun _ => 0) 500 (I 54) := rfl
  have e1 : uk (sgm (A 8) P) 0 = 1 := rfl
  rw [e0, e1] at kl
  simp (config := { contextual := true }) (disch := omega) only [R_X11_fillMeans, hX, hT, h50, kf, ka, true_and, and_true, true_implies, not_true_eq_false, false_implies, not_false_eq_true, false_and, and_false, or_true, true_or, false_or, or_false, implies_true, forall_const, kl_i, kl_n, kl_r, kl_l, tl_s, tl_n, List.cons_append, List.nil_append, Int.cast_ofNat_Int, w32_id, w64_id, le_T, le_F, lt_T, lt_F, eq_T, eq_F, reduceIte, ne_eq, Int.toNat_natCast, bi_0, bi_1, bi_b, Nat.reduceAdd, Nat.reduceEqDiff, Int.reduceToNat, Int.reduceNeg, nle_T, nlt_T, neq_T, neq_F, b2_0, b2_b, both, reduceCtorEq]
  exact kl none
-- the divisors
theorem lp_cd {a0 a2 : Int} (d : Nat) (Q : QQ) : ∀ (j i x y : Nat), y < 2 ^ j → x < 2 ^ 60 → y < 2 ^ 60 → i + 2 * j + 1 ≤ 200 → 0 < Nat.gcd x y → ∀ l9 l10, WP d m_X11_commonDivisor 9 [some (vl a0), none, some (vl a2), none, some (vl x), none, some (vl y), none, some (vi i), l9, l10] [] g I Q = Q (some (vl (Nat.gcd x y : Nat))) g I
  | 0, i, x, y, hy, hx, hy6, hi, hg, l9, l10 => by
    have e : y = 0 := by simp at hy; exact hy
    subst e
    rw [Nat.gcd_zero_right] at hg ⊢
    have hx' : ((2 ^ 60 : Nat) : Int) = 1152921504606846976 := by decide
    rw [H_X11_commonDivisor_9]
    simp (config := { contextual := true }) (disch := omega) only [R_X11_commonDivisor, lcm3_eq, lcm3_gt, lcm3_lt, true_and, and_true, true_implies, not_true_eq_false, false_implies, not_false_eq_true, false_and, and_false, or_true, true_or, false_or, or_false, implies_true, forall_const, kl_i, kl_n, kl_r, kl_l, tl_s, tl_n, List.cons_append, List.nil_append, Int.cast_ofNat_Int, w32_id, w64_id, le_T, le_F, lt_T, lt_F, eq_T, eq_F, reduceIte, ne_eq, Int.toNat_natCast, bi_0, bi_1, bi_b, Nat.reduceAdd, Nat.reduceEqDiff, Int.reduceToNat, Int.reduceNeg, nle_T, nlt_T, neq_T, neq_F, b2_0, b2_b, both, reduceCtorEq]
  | j + 1, i, x, y, hy, hx, hy6, hi, hg, l9, l10 => by
    have h60 : (2 : Nat) ^ 60 = 1152921504606846976 := by decide
    rw [H_X11_commonDivisor_9]
    by_cases e : y = 0
    · subst e
      rw [Nat.gcd_zero_right] at hg ⊢
      simp (config := { contextual := true }) (disch := omega) only [R_X11_commonDivisor, lcm3_eq, lcm3_gt, lcm3_lt, true_and, and_true, true_implies, not_true_eq_false, false_implies, not_false_eq_true, false_and, and_false, or_true, true_or, false_or, or_false, implies_true, forall_const, kl_i, kl_n, kl_r, kl_l, tl_s, tl_n, List.cons_append, List.nil_append, Int.cast_ofNat_Int, w32_id, w64_id, le_T, le_F, lt_T, lt_F, eq_T, eq_F, reduceIte, ne_eq, Int.toNat_natCast, bi_0, bi_1, bi_b, Nat.reduceAdd, Nat.reduceEqDiff, Int.reduceToNat, Int.reduceNeg, nle_T, nlt_T, neq_T, neq_F, b2_0, b2_b, both, reduceCtorEq]
    · have hr : x % y < y := Nat.mod_lt _ (by omega)
      have er : lRem (x : Int) (y : Int) = ((x % y : Nat) : Int) := by rw [lRem_eq (by omega) (by omega) (by omega) (by omega)]; omega
      have g1 : Nat.gcd x y = Nat.gcd y (x % y) := by rw [Nat.gcd_comm x y, Nat.gcd_rec, Nat.gcd_comm]
      by_cases e2 : x % y = 0
      · rw [e2] at er
        have g2 : Nat.gcd x y = y := by rw [g1, e2, Nat.gcd_zero_right]
        rw [g2]
        simp (config := { contextual := true }) (disch := omega) only [R_X11_commonDivisor, lcm3_eq, lcm3_gt, lcm3_lt, er, true_and, and_true, true_implies, not_true_eq_false, false_implies, not_false_eq_true, false_and, and_false, or_true, true_or, false_or, or_false, implies_true, forall_const, kl_i, kl_n, kl_r, kl_l, tl_s, tl_n, List.cons_append, List.nil_append, Int.cast_ofNat_Int, w32_id, w64_id, le_T, le_F, lt_T, lt_F, eq_T, eq_F, reduceIte, ne_eq, Int.toNat_natCast, bi_0, bi_1, bi_b, Nat.reduceAdd, Nat.reduceEqDiff, Int.reduceToNat, Int.reduceNeg, nle_T, nlt_T, neq_T, neq_F, b2_0, b2_b, both, reduceCtorEq]
        rw [H_X11_commonDivisor_9]
        simp (config := { contextual := true }) (disch := omega) only [R_X11_commonDivisor, lcm3_eq, lcm3_gt, lcm3_lt, true_and, and_true, true_implies, not_true_eq_false, false_implies, not_false_eq_true, false_and, and_false, or_true, true_or, false_or, or_false, implies_true, forall_const, kl_i, kl_n, kl_r, kl_l, tl_s, tl_n, List.cons_append, List.nil_append, Int.cast_ofNat_Int, w32_id, w64_id, le_T, le_F, lt_T, lt_F, eq_T, eq_F, reduceIte, ne_eq, Int.toNat_natCast, bi_0, bi_1, bi_b, Nat.reduceAdd, Nat.reduceEqDiff, Int.reduceToNat, Int.reduceNeg, nle_T, nlt_T, neq_T, neq_F, b2_0, b2_b, both, reduceCtorEq]
      · have er2 : lRem (y : Int) ((x % y : Nat) : Int) = ((y % (x % y) : Nat) : Int) := by rw [lRem_eq (by omega) (by omega) (by omega) (by omega)]; omega
        have hr2 : y % (x % y) < x % y := Nat.mod_lt _ (by omega)
        have hr3 : y % (x % y) < 2 ^ j := by
          have h1 : y % (x % y) + (x % y) * (y / (x % y)) = y := Nat.mod_add_div _ _
          have h2 : 1 ≤ y / (x % y) := Nat.div_pos (by omega) (by omega)
          have h3 : x % y ≤ (x % y) * (y / (x % y)) := Nat.le_mul_of_pos_right _ h2
          have h4 : 2 ^ (j + 1) = 2 * 2 ^ j := by rw [Nat.pow_succ]; omega
          omega
        have g2 : Nat.gcd x y = Nat.gcd (x % y) (y % (x % y)) := by rw [g1, Nat.gcd_comm y, Nat.gcd_rec (x % y) y, Nat.gcd_comm]
        have ih := lp_cd (a0 := a0) (a2 := a2) d Q j (i + 2) (x % y) (y % (x % y)) hr3 (by omega) (by omega) (by omega) (by rw [← g2]; exact hg) (some (vl ((y % (x % y) : Nat) : Int))) none
        rw [← g2, show ((i + 2 : Nat) : Int) = (i : Int) + 1 + 1 by omega] at ih
        generalize hgg : Nat.gcd x y = G at ih hg ⊢
        generalize x % y = r at *
        generalize y % r = r2 at *
        simp (config := { contextual := true }) (disch := omega) only [R_X11_commonDivisor, lcm3_eq, lcm3_gt, lcm3_lt, er, true_and, and_true, true_implies, not_true_eq_false, false_implies, not_false_eq_true, false_and, and_false, or_true, true_or, false_or, or_false, implies_true, forall_const, kl_i, kl_n, kl_r, kl_l, tl_s, tl_n, List.cons_append, List.nil_append, Int.cast_ofNat_Int, w32_id, w64_id, le_T, le_F, lt_T, lt_F, eq_T, eq_F, reduceIte, ne_eq, Int.toNat_natCast, bi_0, bi_1, bi_b, Nat.reduceAdd, Nat.reduceEqDiff, Int.reduceToNat, Int.reduceNeg, nle_T, nlt_T, neq_T, neq_F, b2_0, b2_b, both, reduceCtorEq]
        rw [H_X11_commonDivisor_9]
        simp (config := { contextual := true }) (disch := omega) only [R_X11_commonDivisor, lcm3_eq, lcm3_gt, lcm3_lt, er2, true_and, and_true, true_implies, not_true_eq_false, false_implies, not_false_eq_true, false_and, and_false, or_true, true_or, false_or, or_false, implies_true, forall_const, kl_i, kl_n, kl_r, kl_l, tl_s, tl_n, List.cons_append, List.nil_append, Int.cast_ofNat_Int, w32_id, w64_id, le_T, le_F, lt_T, lt_F, eq_T, eq_F, reduceIte, ne_eq, Int.toNat_natCast, bi_0, bi_1, bi_b, Nat.reduceAdd, Nat.reduceEqDiff, Int.reduceToNat, Int.reduceNeg, nle_T, nlt_T, neq_T, neq_F, b2_0, b2_b, both, reduceCtorEq]
        exact ih
theorem ct_cd (d : Nat) (Q : QQ) (x y : Nat) (hx : x < 2 ^ 60) (hy : y < 2 ^ 60) (hg : 0 < Nat.gcd x y) : WP d m_X11_commonDivisor 0 [some (vl x), none, some (vl y), none, none, none, none, none, none, none, none] [] g I Q = Q (some (vl (Nat.gcd x y : Nat))) g I := by
  have h := lp_cd (g := g) (I := I) (a0 := x) (a2 := y) d Q 60 0 x y hy hx hy (by omega) hg none none
  simp (config := { contextual := true }) (disch := omega) only [R_X11_commonDivisor, true_and, and_true, true_implies, not_true_eq_false, false_implies, not_false_eq_true, false_and, and_false, or_true, true_or, false_or, or_false, implies_true, forall_const, kl_i, kl_n, kl_r, kl_l, tl_s, tl_n, List.cons_append, List.nil_append, Int.cast_ofNat_Int, w32_id, w64_id, le_T, le_F, lt_T, lt_F, eq_T, eq_F, reduceIte, ne_eq, Int.toNat_natCast, bi_0, bi_1, bi_b, Nat.reduceAdd, Nat.reduceEqDiff, Int.reduceToNat, Int.reduceNeg, nle_T, nlt_T, neq_T, neq_F, b2_0, b2_b, both, reduceCtorEq]
  exact h
theorem lp_dv {a0 a2 : Int} (d : Nat) (Q : QQ) : ∀ (k y x : Nat), y ≤ k → x < 2 ^ 60 → y < 2 ^ 60 → ∀ l8 l9, WP d m_X12_divisor 6 [some (vl a0), none, some (vl a2), none, some (vl x), none, some (vl y), none, l8, l9] [] g I Q = Q (some (vl (Nat.gcd x y : Nat))) g I := by
  have h60 : (2 : Nat) ^ 60 = 1152921504606846976 := by decide
  intro k
  induction k with
  | zero =>
    intro y x hk hx hy l8 l9
    obtain rfl : y = 0 := by omega
    rw [H_X12_divisor_6, Nat.gcd_zero_right]
    simp (config := { contextual := true }) (disch := omega) only [R_X12_divisor, lcm3_eq, lcm3_gt, lcm3_lt, true_and, and_true, true_implies, not_true_eq_false, false_implies, not_false_eq_true, false_and, and_false, or_true, true_or, false_or, or_false, implies_true, forall_const, kl_i, kl_n, kl_r, kl_l, tl_s, tl_n, List.cons_append, List.nil_append, Int.cast_ofNat_Int, w32_id, w64_id, le_T, le_F, lt_T, lt_F, eq_T, eq_F, reduceIte, ne_eq, Int.toNat_natCast, bi_0, bi_1, bi_b, Nat.reduceAdd, Nat.reduceEqDiff, Int.reduceToNat, Int.reduceNeg, nle_T, nlt_T, neq_T, neq_F, b2_0, b2_b, both, reduceCtorEq]
  | succ k ih =>
    intro y x hk hx hy l8 l9
    by_cases e : y = 0
    · subst e
      rw [H_X12_divisor_6, Nat.gcd_zero_right]
      simp (config := { contextual := true }) (disch := omega) only [R_X12_divisor, lcm3_eq, lcm3_gt, lcm3_lt, true_and, and_true, true_implies, not_true_eq_false, false_implies, not_false_eq_true, false_and, and_false, or_true, true_or, false_or, or_false, implies_true, forall_const, kl_i, kl_n, kl_r, kl_l, tl_s, tl_n, List.cons_append, List.nil_append, Int.cast_ofNat_Int, w32_id, w64_id, le_T, le_F, lt_T, lt_F, eq_T, eq_F, reduceIte, ne_eq, Int.toNat_natCast, bi_0, bi_1, bi_b, Nat.reduceAdd, Nat.reduceEqDiff, Int.reduceToNat, Int.reduceNeg, nle_T, nlt_T, neq_T, neq_F, b2_0, b2_b, both, reduceCtorEq]
    · have hr : x % y < y := Nat.mod_lt _ (by omega)
      have er : lRem (x : Int) (y : Int) = ((x % y : Nat) : Int) := by rw [lRem_eq (by omega) (by omega) (by omega) (by omega)]; omega
      have g1 : Nat.gcd x y = Nat.gcd y (x % y) := by rw [Nat.gcd_comm x y, Nat.gcd_rec, Nat.gcd_comm]
      have ih' := ih (x % y) y (by omega) hy (by omega)
      rw [← g1] at ih'
      rw [H_X12_divisor_6]
      generalize Nat.gcd x y = G at ih' ⊢
      generalize x % y = r at *
      simp (config := { contextual := true }) (disch := omega) only [R_X12_divisor, lcm3_eq, lcm3_gt, lcm3_lt, er, ih', true_and, and_true, true_implies, not_true_eq_false, false_implies, not_false_eq_true, false_and, and_false, or_true, true_or, false_or, or_false, implies_true, forall_const, kl_i, kl_n, kl_r, kl_l, tl_s, tl_n, List.cons_append, List.nil_append, Int.cast_ofNat_Int, w32_id, w64_id, le_T, le_F, lt_T, lt_F, eq_T, eq_F, reduceIte, ne_eq, Int.toNat_natCast, bi_0, bi_1, bi_b, Nat.reduceAdd, Nat.reduceEqDiff, Int.reduceToNat, Int.reduceNeg, nle_T, nlt_T, neq_T, neq_F, b2_0, b2_b, both, reduceCtorEq]
theorem ct_dv (d : Nat) (Q : QQ) (x y : Nat) (hx : x < 2 ^ 60) (hy : y < 2 ^ 60) : WP d m_X12_divisor 0 [some (vl x), none, some (vl y), none, none, none, none, none, none, none] [] g I Q = Q (some (vl (Nat.gcd x y : Nat))) g I := by
  have h := lp_dv (g := g) (I := I) (a0 := x) (a2 := y) d Q y y x (Nat.le_refl y) hx hy none none
  simp (config := { contextual := true }) (disch := omega) only [R_X12_divisor, true_and, and_true, true_implies, not_true_eq_false, false_implies, not_false_eq_true, false_and, and_false, or_true, true_or, false_or, or_false, implies_true, forall_const, kl_i, kl_n, kl_r, kl_l, tl_s, tl_n, List.cons_append, List.nil_append, Int.cast_ofNat_Int, w32_id, w64_id, le_T, le_F, lt_T, lt_F, eq_T, eq_F, reduceIte, ne_eq, Int.toNat_natCast, bi_0, bi_1, bi_b, Nat.reduceAdd, Nat.reduceEqDiff, Int.reduceToNat, Int.reduceNeg, nle_T, nlt_T, neq_T, neq_F, b2_0, b2_b, both, reduceCtorEq]
  exact h
-- the model
theorem lp_maW (hW : WM g) (hw : I 67 = A 8) (hb : okW A) (d : Nat) (Q : QQ) : ∀ k p : Nat, p + k = 8 → WP d m_X12_allWeights 4 [some (vr (some 57)), some (vi (sgm (A 8) p)), some (vi p)] [] g I Q = Q (some (vi (sgm (A 8) 8))) g I := by
  intro k
  induction k with
  | zero =>
    intro p hp
    obtain rfl : p = 8 := by omega
    rw [H_X12_allWeights_4]
    simp (config := { contextual := true }) (disch := omega) only [R_X12_allWeights, hW, true_and, and_true, true_implies, not_true_eq_false, false_implies, not_false_eq_true, false_and, and_false, or_true, true_or, false_or, or_false, implies_true, forall_const, kl_i, kl_n, kl_r, kl_l, tl_s, tl_n, List.cons_append, List.nil_append, Int.cast_ofNat_Int, w32_id, w64_id, le_T, le_F, lt_T, lt_F, eq_T, eq_F, reduceIte, ne_eq, Int.toNat_natCast, bi_0, bi_1, bi_b, Nat.reduceAdd, Nat.reduceEqDiff, Int.reduceToNat, Int.reduceNeg, nle_T, nlt_T, neq_T, neq_F, b2_0, b2_b, both, reduceCtorEq]
  | succ k ih =>
    intro p hp
    have ih' := ih (p + 1) (by omega)
    have e1 : sgm (A 8) (p + 1) = sgm (A 8) p + A 8 p := rfl
    have ec : ((p + 1 : Nat) : Int) = (p : Int) + 1 := by omega
    rw [e1, ec] at ih'
    have h1 := sgm_b (f := A 8) (c := 9) p (fun j hj => (hb j (by omega)).1)
    have h2 := (hb p (by omega)).1
    rw [H_X12_allWeights_4]
    simp (config := { contextual := true }) (disch := omega) only [R_X12_allWeights, hW, hw, ih', true_and, and_true, true_implies, not_true_eq_false, false_implies, not_false_eq_true, false_and, and_false, or_true, true_or, false_or, or_false, implies_true, forall_const, kl_i, kl_n, kl_r, kl_l, tl_s, tl_n, List.cons_append, List.nil_append, Int.cast_ofNat_Int, w32_id, w64_id, le_T, le_F, lt_T, lt_F, eq_T, eq_F, reduceIte, ne_eq, Int.toNat_natCast, bi_0, bi_1, bi_b, Nat.reduceAdd, Nat.reduceEqDiff, Int.reduceToNat, Int.reduceNeg, nle_T, nlt_T, neq_T, neq_F, b2_0, b2_b, both, reduceCtorEq]
theorem ct_maW (hW : WM g) (hw : I 67 = A 8) (hb : okW A) (d : Nat) (Q : QQ) : WP d m_X12_allWeights 0 [some (vr (some 57)), none, none] [] g I Q = Q (some (vi (sgm (A 8) 8))) g I := by
  have h := lp_maW hW hw hb d Q 8 0 (by omega)
  simp (config := { contextual := true }) (disch := omega) only [R_X12_allWeights, true_and, and_true, true_implies, not_true_eq_false, false_implies, not_false_eq_true, false_and, and_false, or_true, true_or, false_or, or_false, implies_true, forall_const, kl_i, kl_n, kl_r, kl_l, tl_s, tl_n, List.cons_append, List.nil_append, Int.cast_ofNat_Int, w32_id, w64_id, le_T, le_F, lt_T, lt_F, eq_T, eq_F, reduceIte, ne_eq, Int.toNat_natCast, bi_0, bi_1, bi_b, Nat.reduceAdd, Nat.reduceEqDiff, Int.reduceToNat, Int.reduceNeg, nle_T, nlt_T, neq_T, neq_F, b2_0, b2_b, both, reduceCtorEq]
  exact h
end FM

-- WELLS on both sides
def bcE (v : Int) : Int :=
  let a := w32 (v - iAnd (iUshr v 1) 1431655765)
  let b := w32 (iAnd a 858993459 + iAnd (iUshr a 2) 858993459)
  let c := iAnd (w32 (b + iUshr b 4)) 252645135
  let e := w32 (c + iUshr c 8)
  let f := w32 (e + iUshr e 16)
  iAnd f 63
def bit (v : Int) (k : Nat) : Int := iAnd (iShr v k) 1
def bts (v : Int) : Int := sgm (bit v) 31
theorem bit_b : ∀ v, v < 256 → ∀ k, k < 31 → 0 ≤ bit ((v : Nat) : Int) k ∧ bit ((v : Nat) : Int) k ≤ 1 := by decide +kernel
theorem bc_tab : ∀ v, v < 256 → bcE ((v : Nat) : Int) = bts ((v : Nat) : Int) := by decide +kernel
theorem shl_tab : ∀ P, P < 9 → iShl 1 ((P : Nat) : Int) = ((2 ^ P : Nat) : Int) := by decide +kernel
theorem pw_tab : ∀ P, P < 9 → 1 ≤ 2 ^ P ∧ 2 ^ P ≤ 256 := by decide
def nrA (D : Nat → Int) (v : Int) (p : Nat) : Nat → Int
  | 0 => 100000
  | w + 1 => if bit v w = 1 then min (nrA D v p w) (D (8 * p + w)) else nrA D v p w
def swA (D : Nat → Int) (P : Nat) (v : Int) : Nat → Int
  | 0 => 0
  | p + 1 => swA D P v p + (if nrA D v p P < 100000 then nrA D v p P else 1000)
section WE
variable {g : GG} {I : II} {t P : Nat} {D : Nat → Int}
theorem nrA_b (hD : bD D) {v : Int} {p : Nat} (hp : p < 8) : ∀ w, w ≤ 8 → 0 ≤ nrA D v p w ∧ nrA D v p w ≤ 100000
  | 0, _ => ⟨by show (0 : Int) ≤ 100000; omega, by show (100000 : Int) ≤ 100000; omega⟩
  | w + 1, hw => by
    have ih := nrA_b hD (v := v) hp w (by omega)
    have hd := hD (8 * p + w) (by omega)
    unfold nrA
    split <;> omega
theorem swA_b (hD : bD D) (hP : P ≤ 8) {v : Int} : ∀ p, p ≤ 8 → 0 ≤ swA D P v p ∧ swA D P v p ≤ 100000 * (p : Int)
  | 0, _ => ⟨by show (0 : Int) ≤ 0; omega, by show (0 : Int) ≤ _; omega⟩
  | p + 1, hp => by
    have ih := swA_b hD hP (v := v) p (by omega)
    have hn := nrA_b hD (v := v) (p := p) (by omega) P hP
    show 0 ≤ swA D P v p + (if nrA D v p P < 100000 then nrA D v p P else 1000) ∧ swA D P v p + (if nrA D v p P < 100000 then nrA D v p P else 1000) ≤ 100000 * ((p + 1 : Nat) : Int)
    split <;> omega
theorem lp_ne (hX : WX g) (hT : WT g t) (h50 : gR g 5 0 = some t) (hD : bD D) (he : e64 (I (t + 2)) D) (hP : I t 0 = (P : Int)) (hP8 : P ≤ 8) {v zs : Int} {p : Nat} (hp : p < 8) (d : Nat) (Q : QQ) : ∀ k w : Nat, w + k = P → WP (d + 1) m_X11_sumToWells 22 [some (vr (some 5)), some (vi v), some (vi zs), some (vi p), some (vi (nrA D v p w)), some (vi w)] [] g I Q = WP (d + 1) m_X11_sumToWells 67 [some (vr (some 5)), some (vi v), some (vi zs), some (vi p), some (vi (nrA D v p P)), some (vi P)] [] g I Q := by
  intro k
  induction k with
  | zero =>
    intro w hw
    obtain rfl : w = P := by omega
    rw [H_X11_sumToWells_22]
    simp (config := { contextual := true }) (disch := omega) only [R_X11_sumToWells, hX, hT, h50, hP, true_and, and_true, true_implies, not_true_eq_false, false_implies, not_false_eq_true, false_and, and_false, or_true, true_or, false_or, or_false, implies_true, forall_const, kl_i, kl_n, kl_r, kl_l, tl_s, tl_n, List.cons_append, List.nil_append, Int.cast_ofNat_Int, w32_id, w64_id, le_T, le_F, lt_T, lt_F, eq_T, eq_F, reduceIte, ne_eq, Int.toNat_natCast, bi_0, bi_1, bi_b, Nat.reduceAdd, Nat.reduceEqDiff, Int.reduceToNat, Int.reduceNeg, nle_T, nlt_T, neq_T, neq_F, b2_0, b2_b, both, reduceCtorEq]
  | succ k ih =>
    intro w hw
    have ih' := ih (w + 1) (by omega)
    have ec : ((w + 1 : Nat) : Int) = (w : Int) + 1 := by omega
    have e : nrA D v p (w + 1) = if bit v w = 1 then min (nrA D v p w) (D (8 * p + w)) else nrA D v p w := rfl
    have eb : iAnd (iShr v (w : Int)) 1 = bit v w := rfl
    have ed := he (8 * p + w) (by omega)
    rw [e, ec] at ih'
    rw [H_X11_sumToWells_22]
    by_cases c : bit v w = 1
    · rw [if_pos c] at ih'
      refine Eq.trans ?_ ih'
      simp (config := { contextual := true }) (disch := omega) only [R_X11_sumToWells, hX, hT, h50, hP, eb, c, ct_miles hT, ed, true_and, and_true, true_implies, not_true_eq_false, false_implies, not_false_eq_true, false_and, and_false, or_true, true_or, false_or, or_false, implies_true, forall_const, kl_i, kl_n, kl_r, kl_l, tl_s, tl_n, List.cons_append, List.nil_append, Int.cast_ofNat_Int, w32_id, w64_id, le_T, le_F, lt_T, lt_F, eq_T, eq_F, reduceIte, ne_eq, Int.toNat_natCast, bi_0, bi_1, bi_b, Nat.reduceAdd, Nat.reduceEqDiff, Int.reduceToNat, Int.reduceNeg, nle_T, nlt_T, neq_T, neq_F, b2_0, b2_b, both, reduceCtorEq]
    · rw [if_neg c] at ih'
      refine Eq.trans ?_ ih'
      simp (config := { contextual := true }) (disch := omega) only [R_X11_sumToWells, hX, hT, h50, hP, eb, c, true_and, and_true, true_implies, not_true_eq_false, false_implies, not_false_eq_true, false_and, and_false, or_true, true_or, false_or, or_false, implies_true, forall_const, kl_i, kl_n, kl_r, kl_l, tl_s, tl_n, List.cons_append, List.nil_append, Int.cast_ofNat_Int, w32_id, w64_id, le_T, le_F, lt_T, lt_F, eq_T, eq_F, reduceIte, ne_eq, Int.toNat_natCast, bi_0, bi_1, bi_b, Nat.reduceAdd, Nat.reduceEqDiff, Int.reduceToNat, Int.reduceNeg, nle_T, nlt_T, neq_T, neq_F, b2_0, b2_b, both, reduceCtorEq]
theorem lp_sC (hX : WX g) (hT : WT g t) (h50 : gR g 5 0 = some t) (hD : bD D) (he : e64 (I (t + 2)) D) (hP : I t 0 = (P : Int)) (hP8 : P ≤ 8) {v : Int} (d : Nat) (Q : QQ) : ∀ k p : Nat, p + k = P → ∀ l4 l5, WP (d + 1) m_X11_sumToWells 4 [some (vr (some 5)), some (vi v), some (vi (swA D P v p)), some (vi p), l4, l5] [] g I Q = Q (some (vi (swA D P v P))) g I := by
  intro k
  induction k with
  | zero =>
    intro p hp l4 l5
    obtain rfl : p = P := by omega
    rw [H_X11_sumToWells_4]
    simp (config := { contextual := true }) (disch := omega) only [R_X11_sumToWells, hX, hT, h50, hP, true_and, and_true, true_implies, not_true_eq_false, false_implies, not_false_eq_true, false_and, and_false, or_true, true_or, false_or, or_false, implies_true, forall_const, kl_i, kl_n, kl_r, kl_l, tl_s, tl_n, List.cons_append, List.nil_append, Int.cast_ofNat_Int, w32_id, w64_id, le_T, le_F, lt_T, lt_F, eq_T, eq_F, reduceIte, ne_eq, Int.toNat_natCast, bi_0, bi_1, bi_b, Nat.reduceAdd, Nat.reduceEqDiff, Int.reduceToNat, Int.reduceNeg, nle_T, nlt_T, neq_T, neq_F, b2_0, b2_b, both, reduceCtorEq]
  | succ k ih =>
    intro p hp l4 l5
    have ih' := ih (p + 1) (by omega) (some (vi (nrA D v p P))) (some (vi P))
    have ec : ((p + 1 : Nat) : Int) = (p : Int) + 1 := by omega
    have e : swA D P v (p + 1) = swA D P v p + (if nrA D v p P < 100000 then nrA D v p P else 1000) := rfl
    have hn := nrA_b hD (v := v) (p := p) (by omega) P hP8
    have hb := swA_b hD hP8 (v := v) p (by omega)
    have hne := lp_ne hX hT h50 hD he hP hP8 (v := v) (zs := swA D P v p) (p := p) (by omega) d Q P 0 (by omega)
    have e0 : nrA D v p 0 = 100000 := rfl
    have ez : ((0 : Nat) : Int) = 0 := rfl
    rw [e0, ez] at hne
    rw [e, ec] at ih'
    have st : WP (d + 1) m_X11_sumToWells 4 [some (vr (some 5)), some (vi v), some (vi (swA D P v p)), some (vi p), l4, l5] [] g I Q = WP (d + 1) m_X11_sumToWells 22 [some (vr (some 5)), some (vi v), some (vi (swA D P v p)), some (vi p), some (vi 100000), some (vi 0)] [] g I Q := by
      rw [H_X11_sumToWells_4]
      simp (config := { contextual := true }) (disch := omega) only [R_X11_sumToWells, hX, hT, h50, hP, true_and, and_true, true_implies, not_true_eq_false, false_implies, not_false_eq_true, false_and, and_false, or_true, true_or, false_or, or_false, implies_true, forall_const, kl_i, kl_n, kl_r, kl_l, tl_s, tl_n, List.cons_append, List.nil_append, Int.cast_ofNat_Int, w32_id, w64_id, le_T, le_F, lt_T, lt_F, eq_T, eq_F, reduceIte, ne_eq, Int.toNat_natCast, bi_0, bi_1, bi_b, Nat.reduceAdd, Nat.reduceEqDiff, Int.reduceToNat, Int.reduceNeg, nle_T, nlt_T, neq_T, neq_F, b2_0, b2_b, both, reduceCtorEq]
    rw [st, hne]
    by_cases c : nrA D v p P < 100000
    · rw [if_pos c] at ih'
      simp (config := { contextual := true }) (disch := omega) only [R_X11_sumToWells, hX, ih', true_and, and_true, true_implies, not_true_eq_false, false_implies, not_false_eq_true, false_and, and_false, or_true, true_or, false_or, or_false, implies_true, forall_const, kl_i, kl_n, kl_r, kl_l, tl_s, tl_n, List.cons_append, List.nil_append, Int.cast_ofNat_Int, w32_id, w64_id, le_T, le_F, lt_T, lt_F, eq_T, eq_F, reduceIte, ne_eq, Int.toNat_natCast, bi_0, bi_1, bi_b, Nat.reduceAdd, Nat.reduceEqDiff, Int.reduceToNat, Int.reduceNeg, nle_T, nlt_T, neq_T, neq_F, b2_0, b2_b, both, reduceCtorEq]
    · rw [if_neg c] at ih'
      simp (config := { contextual := true }) (disch := omega) only [R_X11_sumToWells, hX, ih', true_and, and_true, true_implies, not_true_eq_false, false_implies, not_false_eq_true, false_and, and_false, or_true, true_or, false_or, or_false, implies_true, forall_const, kl_i, kl_n, kl_r, kl_l, tl_s, tl_n, List.cons_append, List.nil_append, Int.cast_ofNat_Int, w32_id, w64_id, le_T, le_F, lt_T, lt_F, eq_T, eq_F, reduceIte, ne_eq, Int.toNat_natCast, bi_0, bi_1, bi_b, Nat.reduceAdd, Nat.reduceEqDiff, Int.reduceToNat, Int.reduceNeg, nle_T, nlt_T, neq_T, neq_F, b2_0, b2_b, both, reduceCtorEq]
theorem ct_sC (hX : WX g) (hT : WT g t) (h50 : gR g 5 0 = some t) (hD : bD D) (he : e64 (I (t + 2)) D) (hP : I t 0 = (P : Int)) (hP8 : P ≤ 8) (v : Int) (d : Nat) (Q : QQ) : WP (d + 1) m_X11_sumToWells 0 [some (vr (some 5)), some (vi v), none, none, none, none] [] g I Q = Q (some (vi (swA D P v P))) g I := by
  have h := lp_sC hX hT h50 hD he hP hP8 (v := v) d Q P 0 (by omega) none none
  simp (config := { contextual := true }) (disch := omega) only [R_X11_sumToWells, true_and, and_true, true_implies, not_true_eq_false, false_implies, not_false_eq_true, false_and, and_false, or_true, true_or, false_or, or_false, implies_true, forall_const, kl_i, kl_n, kl_r, kl_l, tl_s, tl_n, List.cons_append, List.nil_append, Int.cast_ofNat_Int, w32_id, w64_id, le_T, le_F, lt_T, lt_F, eq_T, eq_F, reduceIte, ne_eq, Int.toNat_natCast, bi_0, bi_1, bi_b, Nat.reduceAdd, Nat.reduceEqDiff, Int.reduceToNat, Int.reduceNeg, nle_T, nlt_T, neq_T, neq_F, b2_0, b2_b, both, reduceCtorEq]
  exact h
theorem lp_nM (hW : WM g) (hD : bD D) (h72 : I 72 = D) (hP : I 57 14 = (P : Int)) (hP8 : P ≤ 8) {v zs : Int} {p : Nat} (hp : p < 8) (d : Nat) (Q : QQ) : ∀ k w : Nat, w + k = P → WP (d + 1) m_X12_sumTo 19 [some (vr (some 57)), some (vi v), some (vi zs), some (vi p), some (vi (nrA D v p w)), some (vi w)] [] g I Q = WP (d + 1) m_X12_sumTo 70 [some (vr (some 57)), some (vi v), some (vi zs), some (vi p), some (vi (nrA D v p P)), some (vi P)] [] g I Q := by
  intro k
  induction k with
  | zero =>
    intro w hw
    obtain rfl : w = P := by omega
    rw [H_X12_sumTo_19]
    simp (config := { contextual := true }) (disch := omega) only [R_X12_sumTo, hW, hP, true_and, and_true, true_implies, not_true_eq_false, false_implies, not_false_eq_true, false_and, and_false, or_true, true_or, false_or, or_false, implies_true, forall_const, kl_i, kl_n, kl_r, kl_l, tl_s, tl_n, List.cons_append, List.nil_append, Int.cast_ofNat_Int, w32_id, w64_id, le_T, le_F, lt_T, lt_F, eq_T, eq_F, reduceIte, ne_eq, Int.toNat_natCast, bi_0, bi_1, bi_b, Nat.reduceAdd, Nat.reduceEqDiff, Int.reduceToNat, Int.reduceNeg, nle_T, nlt_T, neq_T, neq_F, b2_0, b2_b, both, reduceCtorEq]
  | succ k ih =>
    intro w hw
    have ih' := ih (w + 1) (by omega)
    have ec : ((w + 1 : Nat) : Int) = (w : Int) + 1 := by omega
    have e : nrA D v p (w + 1) = if bit v w = 1 then min (nrA D v p w) (D (8 * p + w)) else nrA D v p w := rfl
    have eb : iAnd (iShr v (w : Int)) 1 = bit v w := rfl
    rw [e, ec] at ih'
    rw [H_X12_sumTo_19]
    by_cases c : bit v w = 1
    · rw [if_pos c] at ih'
      by_cases c2 : D (8 * p + w) < nrA D v p w
      · rw [Int.min_eq_right (by omega)] at ih'
        refine Eq.trans ?_ ih'
        simp (config := { contextual := true }) (disch := omega) only [R_X12_sumTo, hW, hP, eb, c, ct_farOf hW, h72, true_and, and_true, true_implies, not_true_eq_false, false_implies, not_false_eq_true, false_and, and_false, or_true, true_or, false_or, or_false, implies_true, forall_const, kl_i, kl_n, kl_r, kl_l, tl_s, tl_n, List.cons_append, List.nil_append, Int.cast_ofNat_Int, w32_id, w64_id, le_T, le_F, lt_T, lt_F, eq_T, eq_F, reduceIte, ne_eq, Int.toNat_natCast, bi_0, bi_1, bi_b, Nat.reduceAdd, Nat.reduceEqDiff, Int.reduceToNat, Int.reduceNeg, nle_T, nlt_T, neq_T, neq_F, b2_0, b2_b, both, reduceCtorEq]
      · rw [Int.min_eq_left (by omega)] at ih'
        refine Eq.trans ?_ ih'
        simp (config := { contextual := true }) (disch := omega) only [R_X12_sumTo, hW, hP, eb, c, ct_farOf hW, h72, true_and, and_true, true_implies, not_true_eq_false, false_implies, not_false_eq_true, false_and, and_false, or_true, true_or, false_or, or_false, implies_true, forall_const, kl_i, kl_n, kl_r, kl_l, tl_s, tl_n, List.cons_append, List.nil_append, Int.cast_ofNat_Int, w32_id, w64_id, le_T, le_F, lt_T, lt_F, eq_T, eq_F, reduceIte, ne_eq, Int.toNat_natCast, bi_0, bi_1, bi_b, Nat.reduceAdd, Nat.reduceEqDiff, Int.reduceToNat, Int.reduceNeg, nle_T, nlt_T, neq_T, neq_F, b2_0, b2_b, both, reduceCtorEq]
    · rw [if_neg c] at ih'
      refine Eq.trans ?_ ih'
      simp (config := { contextual := true }) (disch := omega) only [R_X12_sumTo, hW, hP, eb, c, true_and, and_true, true_implies, not_true_eq_false, false_implies, not_false_eq_true, false_and, and_false, or_true, true_or, false_or, or_false, implies_true, forall_const, kl_i, kl_n, kl_r, kl_l, tl_s, tl_n, List.cons_append, List.nil_append, Int.cast_ofNat_Int, w32_id, w64_id, le_T, le_F, lt_T, lt_F, eq_T, eq_F, reduceIte, ne_eq, Int.toNat_natCast, bi_0, bi_1, bi_b, Nat.reduceAdd, Nat.reduceEqDiff, Int.reduceToNat, Int.reduceNeg, nle_T, nlt_T, neq_T, neq_F, b2_0, b2_b, both, reduceCtorEq]
theorem lp_sM (hW : WM g) (hD : bD D) (h72 : I 72 = D) (hP : I 57 14 = (P : Int)) (hP8 : P ≤ 8) {v : Int} (d : Nat) (Q : QQ) : ∀ k p : Nat, p + k = P → ∀ l4 l5, WP (d + 1) m_X12_sumTo 4 [some (vr (some 57)), some (vi v), some (vi (swA D P v p)), some (vi p), l4, l5] [] g I Q = Q (some (vi (swA D P v P))) g I := by
  intro k
  induction k with
  | zero =>
    intro p hp l4 l5
    obtain rfl : p = P := by omega
    rw [H_X12_sumTo_4]
    simp (config := { contextual := true }) (disch := omega) only [R_X12_sumTo, hW, hP, true_and, and_true, true_implies, not_true_eq_false, false_implies, not_false_eq_true, false_and, and_false, or_true, true_or, false_or, or_false, implies_true, forall_const, kl_i, kl_n, kl_r, kl_l, tl_s, tl_n, List.cons_append, List.nil_append, Int.cast_ofNat_Int, w32_id, w64_id, le_T, le_F, lt_T, lt_F, eq_T, eq_F, reduceIte, ne_eq, Int.toNat_natCast, bi_0, bi_1, bi_b, Nat.reduceAdd, Nat.reduceEqDiff, Int.reduceToNat, Int.reduceNeg, nle_T, nlt_T, neq_T, neq_F, b2_0, b2_b, both, reduceCtorEq]
  | succ k ih =>
    intro p hp l4 l5
    have ih' := ih (p + 1) (by omega) (some (vi (nrA D v p P))) (some (vi P))
    have ec : ((p + 1 : Nat) : Int) = (p : Int) + 1 := by omega
    have e : swA D P v (p + 1) = swA D P v p + (if nrA D v p P < 100000 then nrA D v p P else 1000) := rfl
    have hn := nrA_b hD (v := v) (p := p) (by omega) P hP8
    have hb := swA_b hD hP8 (v := v) p (by omega)
    have hne := lp_nM hW hD h72 hP hP8 (v := v) (zs := swA D P v p) (p := p) (by omega) d Q P 0 (by omega)
    have e0 : nrA D v p 0 = 100000 := rfl
    have ez : ((0 : Nat) : Int) = 0 := rfl
    rw [e0, ez] at hne
    rw [e, ec] at ih'
    have st : WP (d + 1) m_X12_sumTo 4 [some (vr (some 57)), some (vi v), some (vi (swA D P v p)), some (vi p), l4, l5] [] g I Q = WP (d + 1) m_X12_sumTo 19 [some (vr (some 57)), some (vi v), some (vi (swA D P v p)), some (vi p), some (vi 100000), some (vi 0)] [] g I Q := by
      rw [H_X12_sumTo_4]
      simp (config := { contextual := true }) (disch := omega) only [R_X12_sumTo, hW, hP, true_and, and_true, true_implies, not_true_eq_false, false_implies, not_false_eq_true, false_and, and_false, or_true, true_or, false_or, or_false, implies_true, forall_const, kl_i, kl_n, kl_r, kl_l, tl_s, tl_n, List.cons_append, List.nil_append, Int.cast_ofNat_Int, w32_id, w64_id, le_T, le_F, lt_T, lt_F, eq_T, eq_F, reduceIte, ne_eq, Int.toNat_natCast, bi_0, bi_1, bi_b, Nat.reduceAdd, Nat.reduceEqDiff, Int.reduceToNat, Int.reduceNeg, nle_T, nlt_T, neq_T, neq_F, b2_0, b2_b, both, reduceCtorEq]
    rw [st, hne]
    by_cases c : nrA D v p P < 100000
    · rw [if_pos c] at ih'
      simp (config := { contextual := true }) (disch := omega) only [R_X12_sumTo, hW, ih', true_and, and_true, true_implies, not_true_eq_false, false_implies, not_false_eq_true, false_and, and_false, or_true, true_or, false_or, or_false, implies_true, forall_const, kl_i, kl_n, kl_r, kl_l, tl_s, tl_n, List.cons_append, List.nil_append, Int.cast_ofNat_Int, w32_id, w64_id, le_T, le_F, lt_T, lt_F, eq_T, eq_F, reduceIte, ne_eq, Int.toNat_natCast, bi_0, bi_1, bi_b, Nat.reduceAdd, Nat.reduceEqDiff, Int.reduceToNat, Int.reduceNeg, nle_T, nlt_T, neq_T, neq_F, b2_0, b2_b, both, reduceCtorEq]
    · rw [if_neg c] at ih'
      simp (config := { contextual := true }) (disch := omega) only [R_X12_sumTo, hW, ih', true_and, and_true, true_implies, not_true_eq_false, false_implies, not_false_eq_true, false_and, and_false, or_true, true_or, false_or, or_false, implies_true, forall_const, kl_i, kl_n, kl_r, kl_l, tl_s, tl_n, List.cons_append, List.nil_append, Int.cast_ofNat_Int, w32_id, w64_id, le_T, le_F, lt_T, lt_F, eq_T, eq_F, reduceIte, ne_eq, Int.toNat_natCast, bi_0, bi_1, bi_b, Nat.reduceAdd, Nat.reduceEqDiff, Int.reduceToNat, Int.reduceNeg, nle_T, nlt_T, neq_T, neq_F, b2_0, b2_b, both, reduceCtorEq]
theorem ct_sM (hW : WM g) (hD : bD D) (h72 : I 72 = D) (hP : I 57 14 = (P : Int)) (hP8 : P ≤ 8) (v : Int) (d : Nat) (Q : QQ) : WP (d + 1) m_X12_sumTo 0 [some (vr (some 57)), some (vi v), none, none, none, none] [] g I Q = Q (some (vi (swA D P v P))) g I := by
  have h := lp_sM hW hD h72 hP hP8 (v := v) d Q P 0 (by omega) none none
  simp (config := { contextual := true }) (disch := omega) only [R_X12_sumTo, true_and, and_true, true_implies, not_true_eq_false, false_implies, not_false_eq_true, false_and, and_false, or_true, true_or, false_or, or_false, implies_true, forall_const, kl_i, kl_n, kl_r, kl_l, tl_s, tl_n, List.cons_append, List.nil_append, Int.cast_ofNat_Int, w32_id, w64_id, le_T, le_F, lt_T, lt_F, eq_T, eq_F, reduceIte, ne_eq, Int.toNat_natCast, bi_0, bi_1, bi_b, Nat.reduceAdd, Nat.reduceEqDiff, Int.reduceToNat, Int.reduceNeg, nle_T, nlt_T, neq_T, neq_F, b2_0, b2_b, both, reduceCtorEq]
  exact h
theorem ct_bc (d : Nat) (Q : QQ) (v : Int) : WP d m_J6_bitCount_0f7a4 0 [some (vi v)] [] g I Q = Q (some (vi (bcE v))) g I := by
  simp only [R_J6_bitCount_0f7a4]
  rfl
theorem lp_bits {v : Nat} (hv : v < 256) (d : Nat) (Q : QQ) : ∀ k i : Nat, i + k = 31 → WP d m_X12_bits 4 [some (vi (v : Nat)), some (vi (sgm (bit v) i)), some (vi i)] [] g I Q = Q (some (vi (bts v))) g I := by
  intro k
  induction k with
  | zero =>
    intro i hi
    obtain rfl : i = 31 := by omega
    have e : bts v = sgm (bit v) 31 := rfl
    rw [H_X12_bits_4, e]
    simp (config := { contextual := true }) (disch := omega) only [R_X12_bits, true_and, and_true, true_implies, not_true_eq_false, false_implies, not_false_eq_true, false_and, and_false, or_true, true_or, false_or, or_false, implies_true, forall_const, kl_i, kl_n, kl_r, kl_l, tl_s, tl_n, List.cons_append, List.nil_append, Int.cast_ofNat_Int, w32_id, w64_id, le_T, le_F, lt_T, lt_F, eq_T, eq_F, reduceIte, ne_eq, Int.toNat_natCast, bi_0, bi_1, bi_b, Nat.reduceAdd, Nat.reduceEqDiff, Int.reduceToNat, Int.reduceNeg, nle_T, nlt_T, neq_T, neq_F, b2_0, b2_b, both, reduceCtorEq]
  | succ k ih =>
    intro i hi
    have ih' := ih (i + 1) (by omega)
    have ec : ((i + 1 : Nat) : Int) = (i : Int) + 1 := by omega
    have e : sgm (bit v) (i + 1) = sgm (bit v) i + bit v i := rfl
    have eb : iAnd (iShr (v : Int) (i : Int)) 1 = bit v i := rfl
    have h1 := bit_b v hv i (by omega)
    have h2 := sgm_b (f := bit v) (c := 1) i (fun j hj => bit_b v hv j (by omega))
    rw [e, ec] at ih'
    rw [H_X12_bits_4]
    simp (config := { contextual := true }) (disch := omega) only [R_X12_bits, eb, ih', true_and, and_true, true_implies, not_true_eq_false, false_implies, not_false_eq_true, false_and, and_false, or_true, true_or, false_or, or_false, implies_true, forall_const, kl_i, kl_n, kl_r, kl_l, tl_s, tl_n, List.cons_append, List.nil_append, Int.cast_ofNat_Int, w32_id, w64_id, le_T, le_F, lt_T, lt_F, eq_T, eq_F, reduceIte, ne_eq, Int.toNat_natCast, bi_0, bi_1, bi_b, Nat.reduceAdd, Nat.reduceEqDiff, Int.reduceToNat, Int.reduceNeg, nle_T, nlt_T, neq_T, neq_F, b2_0, b2_b, both, reduceCtorEq]
theorem ct_bits {v : Nat} (hv : v < 256) (d : Nat) (Q : QQ) : WP d m_X12_bits 0 [some (vi (v : Nat)), none, none] [] g I Q = Q (some (vi (bts v))) g I := by
  have h := lp_bits (g := g) (I := I) hv d Q 31 0 (by omega)
  simp (config := { contextual := true }) (disch := omega) only [R_X12_bits, true_and, and_true, true_implies, not_true_eq_false, false_implies, not_false_eq_true, false_and, and_false, or_true, true_or, false_or, or_false, implies_true, forall_const, kl_i, kl_n, kl_r, kl_l, tl_s, tl_n, List.cons_append, List.nil_append, Int.cast_ofNat_Int, w32_id, w64_id, le_T, le_F, lt_T, lt_F, eq_T, eq_F, reduceIte, ne_eq, Int.toNat_natCast, bi_0, bi_1, bi_b, Nat.reduceAdd, Nat.reduceEqDiff, Int.reduceToNat, Int.reduceNeg, nle_T, nlt_T, neq_T, neq_F, b2_0, b2_b, both, reduceCtorEq]
  exact h
-- which wells
def wlC (D : Nat → Int) (P : Nat) (k : Int) : Nat → Int × Int
  | 0 => (0, 0)
  | i + 1 => if bts ((i + 1 : Nat) : Int) = k ∧ ((wlC D P k i).1 = 0 ∨ swA D P ((i + 1 : Nat) : Int) P < (wlC D P k i).2) then (((i + 1 : Nat) : Int), swA D P ((i + 1 : Nat) : Int) P) else wlC D P k i
theorem wl_i (D : Nat → Int) (P : Nat) (k : Int) : ∀ i, (0 ≤ (wlC D P k i).1 ∧ (wlC D P k i).1 ≤ i) ∧ ((wlC D P k i).1 ≠ 0 → (wlC D P k i).2 = swA D P (wlC D P k i).1 P)
  | 0 => ⟨⟨by show (0 : Int) ≤ 0; omega, by show (0 : Int) ≤ ((0 : Nat) : Int); omega⟩, fun h => absurd rfl h⟩
  | i + 1 => by
    have ih := wl_i D P k i
    have e : wlC D P k (i + 1) = if bts ((i + 1 : Nat) : Int) = k ∧ ((wlC D P k i).1 = 0 ∨ swA D P ((i + 1 : Nat) : Int) P < (wlC D P k i).2) then (((i + 1 : Nat) : Int), swA D P ((i + 1 : Nat) : Int) P) else wlC D P k i := rfl
    rw [e]
    split
    · exact ⟨⟨by show (0 : Int) ≤ ((i + 1 : Nat) : Int); omega, Int.le_refl _⟩, fun _ => rfl⟩
    · exact ⟨by omega, ih.2⟩
theorem wl_n {D : Nat → Int} {P : Nat} {k : Int} {i : Nat} (h : (wlC D P k i).1 ≠ 0) : ∀ j, (wlC D P k (i + j)).1 ≠ 0
  | 0 => h
  | j + 1 => by
    have ih := wl_n h j
    have e : wlC D P k (i + (j + 1)) = if bts ((i + j + 1 : Nat) : Int) = k ∧ ((wlC D P k (i + j)).1 = 0 ∨ swA D P ((i + j + 1 : Nat) : Int) P < (wlC D P k (i + j)).2) then (((i + j + 1 : Nat) : Int), swA D P ((i + j + 1 : Nat) : Int) P) else wlC D P k (i + j) := rfl
    rw [e]
    split
    · show ((i + j + 1 : Nat) : Int) ≠ 0; omega
    · exact ih
theorem wl_at {D : Nat → Int} {P : Nat} {k : Int} {i : Nat} (h : bts ((i + 1 : Nat) : Int) = k) : (wlC D P k (i + 1)).1 ≠ 0 := by
  have e : wlC D P k (i + 1) = if bts ((i + 1 : Nat) : Int) = k ∧ ((wlC D P k i).1 = 0 ∨ swA D P ((i + 1 : Nat) : Int) P < (wlC D P k i).2) then (((i + 1 : Nat) : Int), swA D P ((i + 1 : Nat) : Int) P) else wlC D P k i := rfl
  rw [e]
  by_cases c : bts ((i + 1 : Nat) : Int) = k ∧ ((wlC D P k i).1 = 0 ∨ swA D P ((i + 1 : Nat) : Int) P < (wlC D P k i).2)
  · rw [if_pos c]
    show ((i + 1 : Nat) : Int) ≠ 0; omega
  · rw [if_neg c]
    intro q
    exact c ⟨h, Or.inl q⟩
theorem pw_le : ∀ P, P < 9 → ∀ k, k < 4 → k ≤ P → 2 ^ k ≤ 2 ^ P := fun P _ k _ h => Nat.pow_le_pow_right (by omega) h
theorem wl_end {D : Nat → Int} {P k : Nat} (hk : 1 ≤ k ∧ k ≤ 3) (hkP : k ≤ P) (hP : P ≤ 8) : (wlC D P k (2 ^ P - 1)).1 ≠ 0 := by
  have h1 := pw_le P (by omega) k (by omega) hkP
  rcases (by omega : k = 1 ∨ k = 2 ∨ k = 3) with r | r | r <;> subst r
  · have h2 := wl_n (wl_at (D := D) (P := P) (k := ((1 : Nat) : Int)) (i := 0) (by decide +kernel)) (2 ^ P - 2)
    rw [show 0 + 1 + (2 ^ P - 2) = 2 ^ P - 1 by omega] at h2
    exact h2
  · have h2 := wl_n (wl_at (D := D) (P := P) (k := ((2 : Nat) : Int)) (i := 2) (by decide +kernel)) (2 ^ P - 4)
    rw [show 2 + 1 + (2 ^ P - 4) = 2 ^ P - 1 by omega] at h2
    exact h2
  · have h2 := wl_n (wl_at (D := D) (P := P) (k := ((3 : Nat) : Int)) (i := 6) (by decide +kernel)) (2 ^ P - 8)
    rw [show 6 + 1 + (2 ^ P - 8) = 2 ^ P - 1 by omega] at h2
    exact h2
theorem lp_wC (hX : WX g) (hT : WT g t) (h50 : gR g 5 0 = some t) (hD : bD D) (he : e64 (I (t + 2)) D) (hP : I t 0 = (P : Int)) (hP8 : P ≤ 8) {k : Int} (d : Nat) (Q : QQ) : ∀ c i : Nat, i + c + 1 = 2 ^ P → ∀ l5, WP (d + 2) m_X11_wells 42 [some (vr (some 5)), some (vi k), some (vi (wlC D P k i).1), some (vi (wlC D P k i).2), some (vi ((i : Int) + 1)), l5] [] g I Q = Q (some (vi (wlC D P k (2 ^ P - 1)).1)) g I := by
  have hsh := shl_tab P (by omega)
  have hpw := pw_tab P (by omega)
  intro c
  induction c with
  | zero =>
    intro i hi l5
    obtain rfl : i = 2 ^ P - 1 := by omega
    have hb := (wl_i D P k (2 ^ P - 1)).1
    generalize wlC D P k (2 ^ P - 1) = s at hb ⊢
    generalize (2 : Nat) ^ P = N at *
    rw [H_X11_wells_42]
    simp (config := { contextual := true }) (disch := omega) only [R_X11_wells_b0, R_X11_wells_b1, hX, hT, h50, hP, hsh, true_and, and_true, true_implies, not_true_eq_false, false_implies, not_false_eq_true, false_and, and_false, or_true, true_or, false_or, or_false, implies_true, forall_const, kl_i, kl_n, kl_r, kl_l, tl_s, tl_n, List.cons_append, List.nil_append, Int.cast_ofNat_Int, w32_id, w64_id, le_T, le_F, lt_T, lt_F, eq_T, eq_F, reduceIte, ne_eq, Int.toNat_natCast, bi_0, bi_1, bi_b, Nat.reduceAdd, Nat.reduceEqDiff, Int.reduceToNat, Int.reduceNeg, nle_T, nlt_T, neq_T, neq_F, b2_0, b2_b, both, reduceCtorEq]
  | succ c ih =>
    intro i hi l5
    have e : wlC D P k (i + 1) = if bts ((i + 1 : Nat) : Int) = k ∧ ((wlC D P k i).1 = 0 ∨ swA D P ((i + 1 : Nat) : Int) P < (wlC D P k i).2) then (((i + 1 : Nat) : Int), swA D P ((i + 1 : Nat) : Int) P) else wlC D P k i := rfl
    have ec : ((i + 1 : Nat) : Int) = (i : Int) + 1 := by omega
    have kb := fun Q => ct_bc (g := g) (I := I) (d + 1) Q ((i + 1 : Nat) : Int)
    rw [bc_tab (i + 1) (by omega)] at kb
    have ks := fun Q => ct_sC hX hT h50 hD he hP hP8 ((i + 1 : Nat) : Int) d Q
    have ih' := ih (i + 1) (by omega)
    rw [e] at ih'
    rw [ec] at ih' kb ks
    generalize wlC D P k i = s at ih' ⊢
    generalize hF : (wlC D P k (2 ^ P - 1)).1 = F at ih' ⊢
    generalize (2 : Nat) ^ P = N at *
    rw [H_X11_wells_42]
    by_cases c1 : bts ((i : Int) + 1) = k
    · by_cases c2 : s.1 = 0
      · rw [if_pos ⟨c1, Or.inl c2⟩] at ih'
        simp (config := { contextual := true }) (disch := omega) only [R_X11_wells_b0, R_X11_wells_b1, hX, hT, h50, hP, hsh, kb, c1, ks, ih', true_and, and_true, true_implies, not_true_eq_false, false_implies, not_false_eq_true, false_and, and_false, or_true, true_or, false_or, or_false, implies_true, forall_const, kl_i, kl_n, kl_r, kl_l, tl_s, tl_n, List.cons_append, List.nil_append, Int.cast_ofNat_Int, w32_id, w64_id, le_T, le_F, lt_T, lt_F, eq_T, eq_F, reduceIte, ne_eq, Int.toNat_natCast, bi_0, bi_1, bi_b, Nat.reduceAdd, Nat.reduceEqDiff, Int.reduceToNat, Int.reduceNeg, nle_T, nlt_T, neq_T, neq_F, b2_0, b2_b, both, reduceCtorEq]
      · by_cases c3 : swA D P ((i : Int) + 1) P < s.2
        · rw [if_pos ⟨c1, Or.inr c3⟩] at ih'
          simp (config := { contextual := true }) (disch := omega) only [R_X11_wells_b0, R_X11_wells_b1, hX, hT, h50, hP, hsh, kb, c1, ks, ih', true_and, and_true, true_implies, not_true_eq_false, false_implies, not_false_eq_true, false_and, and_false, or_true, true_or, false_or, or_false, implies_true, forall_const, kl_i, kl_n, kl_r, kl_l, tl_s, tl_n, List.cons_append, List.nil_append, Int.cast_ofNat_Int, w32_id, w64_id, le_T, le_F, lt_T, lt_F, eq_T, eq_F, reduceIte, ne_eq, Int.toNat_natCast, bi_0, bi_1, bi_b, Nat.reduceAdd, Nat.reduceEqDiff, Int.reduceToNat, Int.reduceNeg, nle_T, nlt_T, neq_T, neq_F, b2_0, b2_b, both, reduceCtorEq]
        · rw [if_neg (by rintro ⟨-, z | z⟩; exact c2 z; exact c3 z)] at ih'
          simp (config := { contextual := true }) (disch := omega) only [R_X11_wells_b0, R_X11_wells_b1, hX, hT, h50, hP, hsh, kb, c1, ks, ih', true_and, and_true, true_implies, not_true_eq_false, false_implies, not_false_eq_true, false_and, and_false, or_true, true_or, false_or, or_false, implies_true, forall_const, kl_i, kl_n, kl_r, kl_l, tl_s, tl_n, List.cons_append, List.nil_append, Int.cast_ofNat_Int, w32_id, w64_id, le_T, le_F, lt_T, lt_F, eq_T, eq_F, reduceIte, ne_eq, Int.toNat_natCast, bi_0, bi_1, bi_b, Nat.reduceAdd, Nat.reduceEqDiff, Int.reduceToNat, Int.reduceNeg, nle_T, nlt_T, neq_T, neq_F, b2_0, b2_b, both, reduceCtorEq]
    · rw [if_neg (fun z => c1 z.1)] at ih'
      simp (config := { contextual := true }) (disch := omega) only [R_X11_wells_b0, R_X11_wells_b1, hX, hT, h50, hP, hsh, kb, c1, ih', true_and, and_true, true_implies, not_true_eq_false, false_implies, not_false_eq_true, false_and, and_false, or_true, true_or, false_or, or_false, implies_true, forall_const, kl_i, kl_n, kl_r, kl_l, tl_s, tl_n, List.cons_append, List.nil_append, Int.cast_ofNat_Int, w32_id, w64_id, le_T, le_F, lt_T, lt_F, eq_T, eq_F, reduceIte, ne_eq, Int.toNat_natCast, bi_0, bi_1, bi_b, Nat.reduceAdd, Nat.reduceEqDiff, Int.reduceToNat, Int.reduceNeg, nle_T, nlt_T, neq_T, neq_F, b2_0, b2_b, both, reduceCtorEq]
theorem lp_wM (hW : WM g) (hD : bD D) (h72 : I 72 = D) (hP : I 57 14 = (P : Int)) (hP8 : P ≤ 8) {k : Int} (d : Nat) (Q : QQ) (hend : (wlC D P k (2 ^ P - 1)).1 ≠ 0) : ∀ c i : Nat, i + c + 1 = 2 ^ P → WP (d + 2) m_X12_wells 49 [some (vr (some 57)), some (vi k), some (vi 0), some (vi (if (wlC D P k i).1 = 0 then -1 else (wlC D P k i).1)), some (vi ((i : Int) + 1))] [] g I Q = Q (some (vi (wlC D P k (2 ^ P - 1)).1)) g I := by
  have hsh := shl_tab P (by omega)
  have hpw := pw_tab P (by omega)
  intro c
  induction c with
  | zero =>
    intro i hi
    obtain rfl : i = 2 ^ P - 1 := by omega
    rw [if_neg hend]
    generalize wlC D P k (2 ^ P - 1) = s at *
    generalize (2 : Nat) ^ P = N at *
    rw [H_X12_wells_49]
    simp (config := { contextual := true }) (disch := omega) only [R_X12_wells_b0, R_X12_wells_b1, hW, hP, hsh, true_and, and_true, true_implies, not_true_eq_false, false_implies, not_false_eq_true, false_and, and_false, or_true, true_or, false_or, or_false, implies_true, forall_const, kl_i, kl_n, kl_r, kl_l, tl_s, tl_n, List.cons_append, List.nil_append, Int.cast_ofNat_Int, w32_id, w64_id, le_T, le_F, lt_T, lt_F, eq_T, eq_F, reduceIte, ne_eq, Int.toNat_natCast, bi_0, bi_1, bi_b, Nat.reduceAdd, Nat.reduceEqDiff, Int.reduceToNat, Int.reduceNeg, nle_T, nlt_T, neq_T, neq_F, b2_0, b2_b, both, reduceCtorEq]
  | succ c ih =>
    intro i hi
    have e : wlC D P k (i + 1) = if bts ((i + 1 : Nat) : Int) = k ∧ ((wlC D P k i).1 = 0 ∨ swA D P ((i + 1 : Nat) : Int) P < (wlC D P k i).2) then (((i + 1 : Nat) : Int), swA D P ((i + 1 : Nat) : Int) P) else wlC D P k i := rfl
    have ec : ((i + 1 : Nat) : Int) = (i : Int) + 1 := by omega
    have kb := fun Q => ct_bits (g := g) (I := I) (v := i + 1) (by omega) (d + 1) Q
    have ks := fun v Q => ct_sM hW hD h72 hP hP8 v d Q
    have hw := wl_i D P k i
    have ih' := ih (i + 1) (by omega)
    rw [e] at ih'
    rw [ec] at ih' kb
    generalize wlC D P k i = s at ih' hw ⊢
    generalize hF : (wlC D P k (2 ^ P - 1)).1 = F at ih' ⊢
    generalize (2 : Nat) ^ P = N at *
    rw [H_X12_wells_49]
    by_cases c2 : s.1 = 0
    · rw [if_pos c2]
      by_cases c1 : bts ((i : Int) + 1) = k
      · rw [if_pos (show bts ((i : Int) + 1) = k ∧ (s.1 = 0 ∨ swA D P ((i : Int) + 1) P < s.2) from ⟨c1, Or.inl c2⟩), if_neg (by show ¬ (i : Int) + 1 = 0; omega)] at ih'
        simp (config := { contextual := true }) (disch := omega) only [R_X12_wells_b0, R_X12_wells_b1, hW, hP, hsh, kb, c1, ih', true_and, and_true, true_implies, not_true_eq_false, false_implies, not_false_eq_true, false_and, and_false, or_true, true_or, false_or, or_false, implies_true, forall_const, kl_i, kl_n, kl_r, kl_l, tl_s, tl_n, List.cons_append, List.nil_append, Int.cast_ofNat_Int, w32_id, w64_id, le_T, le_F, lt_T, lt_F, eq_T, eq_F, reduceIte, ne_eq, Int.toNat_natCast, bi_0, bi_1, bi_b, Nat.reduceAdd, Nat.reduceEqDiff, Int.reduceToNat, Int.reduceNeg, nle_T, nlt_T, neq_T, neq_F, b2_0, b2_b, both, reduceCtorEq]
      · rw [if_neg (show ¬ (bts ((i : Int) + 1) = k ∧ (s.1 = 0 ∨ swA D P ((i : Int) + 1) P < s.2)) from fun z => c1 z.1), if_pos c2] at ih'
        simp (config := { contextual := true }) (disch := omega) only [R_X12_wells_b0, R_X12_wells_b1, hW, hP, hsh, kb, c1, ih', true_and, and_true, true_implies, not_true_eq_false, false_implies, not_false_eq_true, false_and, and_false, or_true, true_or, false_or, or_false, implies_true, forall_const, kl_i, kl_n, kl_r, kl_l, tl_s, tl_n, List.cons_append, List.nil_append, Int.cast_ofNat_Int, w32_id, w64_id, le_T, le_F, lt_T, lt_F, eq_T, eq_F, reduceIte, ne_eq, Int.toNat_natCast, bi_0, bi_1, bi_b, Nat.reduceAdd, Nat.reduceEqDiff, Int.reduceToNat, Int.reduceNeg, nle_T, nlt_T, neq_T, neq_F, b2_0, b2_b, both, reduceCtorEq]
    · rw [if_neg c2]
      have h2 := hw.2 c2
      by_cases c1 : bts ((i : Int) + 1) = k
      · by_cases c3 : swA D P ((i : Int) + 1) P < s.2
        · rw [if_pos (show bts ((i : Int) + 1) = k ∧ (s.1 = 0 ∨ swA D P ((i : Int) + 1) P < s.2) from ⟨c1, Or.inr c3⟩), if_neg (by show ¬ (i : Int) + 1 = 0; omega)] at ih'
          rw [h2] at c3
          simp (config := { contextual := true }) (disch := omega) only [R_X12_wells_b0, R_X12_wells_b1, hW, hP, hsh, kb, c1, ks, ih', true_and, and_true, true_implies, not_true_eq_false, false_implies, not_false_eq_true, false_and, and_false, or_true, true_or, false_or, or_false, implies_true, forall_const, kl_i, kl_n, kl_r, kl_l, tl_s, tl_n, List.cons_append, List.nil_append, Int.cast_ofNat_Int, w32_id, w64_id, le_T, le_F, lt_T, lt_F, eq_T, eq_F, reduceIte, ne_eq, Int.toNat_natCast, bi_0, bi_1, bi_b, Nat.reduceAdd, Nat.reduceEqDiff, Int.reduceToNat, Int.reduceNeg, nle_T, nlt_T, neq_T, neq_F, b2_0, b2_b, both, reduceCtorEq]
        · rw [if_neg (show ¬ (bts ((i : Int) + 1) = k ∧ (s.1 = 0 ∨ swA D P ((i : Int) + 1) P < s.2)) from fun z => z.2.elim c2 c3), if_neg c2] at ih'
          rw [h2] at c3
          simp (config := { contextual := true }) (disch := omega) only [R_X12_wells_b0, R_X12_wells_b1, hW, hP, hsh, kb, c1, ks, ih', true_and, and_true, true_implies, not_true_eq_false, false_implies, not_false_eq_true, false_and, and_false, or_true, true_or, false_or, or_false, implies_true, forall_const, kl_i, kl_n, kl_r, kl_l, tl_s, tl_n, List.cons_append, List.nil_append, Int.cast_ofNat_Int, w32_id, w64_id, le_T, le_F, lt_T, lt_F, eq_T, eq_F, reduceIte, ne_eq, Int.toNat_natCast, bi_0, bi_1, bi_b, Nat.reduceAdd, Nat.reduceEqDiff, Int.reduceToNat, Int.reduceNeg, nle_T, nlt_T, neq_T, neq_F, b2_0, b2_b, both, reduceCtorEq]
      · rw [if_neg (show ¬ (bts ((i : Int) + 1) = k ∧ (s.1 = 0 ∨ swA D P ((i : Int) + 1) P < s.2)) from fun z => c1 z.1), if_neg c2] at ih'
        simp (config := { contextual := true }) (disch := omega) only [R_X12_wells_b0, R_X12_wells_b1, hW, hP, hsh, kb, c1, ih', true_and, and_true, true_implies, not_true_eq_false, false_implies, not_false_eq_true, false_and, and_false, or_true, true_or, false_or, or_false, implies_true, forall_const, kl_i, kl_n, kl_r, kl_l, tl_s, tl_n, List.cons_append, List.nil_append, Int.cast_ofNat_Int, w32_id, w64_id, le_T, le_F, lt_T, lt_F, eq_T, eq_F, reduceIte, ne_eq, Int.toNat_natCast, bi_0, bi_1, bi_b, Nat.reduceAdd, Nat.reduceEqDiff, Int.reduceToNat, Int.reduceNeg, nle_T, nlt_T, neq_T, neq_F, b2_0, b2_b, both, reduceCtorEq]
end WE
section CSW
variable {L : Nat} {xs : Nat → Int32} {g : GG} {I : II} {t dr : Nat} {A : II} {P w n q m : Nat}
theorem cs_wells (hs : SS L xs g I) (hg : 90 ≤ gN g) (h : RQ g I t dr A P w n q m) (a : Int) : CS L xs g I m_X11_wells m_X12_wells [some (vi a), none, none, none, none] [some (vi a), none, none, none] vi := by
  have hW := h.2.2.1.1
  have hX := h.2.2.1.2.1
  obtain ⟨ht1, ht2, hT⟩ := RQ_t h
  have h50 := h.2.1.1
  obtain ⟨hP, hP'⟩ := RQ_P h
  have hS := RQ_S h
  have hP8 := hS.2.1
  by_cases c1 : a < 1
  · refine CS_r hs hg h (-4) (k := 4) (by omega) (fun Q => ?_) (fun Q => ?_)
    · simp (config := { contextual := true }) (disch := omega) only [R_X11_wells_b0, R_X11_wells_b1, hX, ct_refuse hX, rfC, true_and, and_true, true_implies, not_true_eq_false, false_implies, not_false_eq_true, false_and, and_false, or_true, true_or, false_or, or_false, implies_true, forall_const, kl_i, kl_n, kl_r, kl_l, tl_s, tl_n, List.cons_append, List.nil_append, Int.cast_ofNat_Int, w32_id, w64_id, le_T, le_F, lt_T, lt_F, eq_T, eq_F, reduceIte, ne_eq, Int.toNat_natCast, bi_0, bi_1, bi_b, Nat.reduceAdd, Nat.reduceEqDiff, Int.reduceToNat, Int.reduceNeg, nle_T, nlt_T, neq_T, neq_F, b2_0, b2_b, both, reduceCtorEq]
    · simp (config := { contextual := true }) (disch := omega) only [R_X12_wells_b0, R_X12_wells_b1, hW, ct_no hW, pr_o, rfC, rfM, true_and, and_true, true_implies, not_true_eq_false, false_implies, not_false_eq_true, false_and, and_false, or_true, true_or, false_or, or_false, implies_true, forall_const, kl_i, kl_n, kl_r, kl_l, tl_s, tl_n, List.cons_append, List.nil_append, Int.cast_ofNat_Int, w32_id, w64_id, le_T, le_F, lt_T, lt_F, eq_T, eq_F, reduceIte, ne_eq, Int.toNat_natCast, bi_0, bi_1, bi_b, Nat.reduceAdd, Nat.reduceEqDiff, Int.reduceToNat, Int.reduceNeg, nle_T, nlt_T, neq_T, neq_F, b2_0, b2_b, both, reduceCtorEq]
  by_cases c2 : 3 < a
  · refine CS_r hs hg h (-6) (k := 6) (by omega) (fun Q => ?_) (fun Q => ?_)
    · simp (config := { contextual := true }) (disch := omega) only [R_X11_wells_b0, R_X11_wells_b1, hX, ct_refuse hX, rfC, true_and, and_true, true_implies, not_true_eq_false, false_implies, not_false_eq_true, false_and, and_false, or_true, true_or, false_or, or_false, implies_true, forall_const, kl_i, kl_n, kl_r, kl_l, tl_s, tl_n, List.cons_append, List.nil_append, Int.cast_ofNat_Int, w32_id, w64_id, le_T, le_F, lt_T, lt_F, eq_T, eq_F, reduceIte, ne_eq, Int.toNat_natCast, bi_0, bi_1, bi_b, Nat.reduceAdd, Nat.reduceEqDiff, Int.reduceToNat, Int.reduceNeg, nle_T, nlt_T, neq_T, neq_F, b2_0, b2_b, both, reduceCtorEq]
    · simp (config := { contextual := true }) (disch := omega) only [R_X12_wells_b0, R_X12_wells_b1, hW, ct_no hW, pr_o, rfC, rfM, true_and, and_true, true_implies, not_true_eq_false, false_implies, not_false_eq_true, false_and, and_false, or_true, true_or, false_or, or_false, implies_true, forall_const, kl_i, kl_n, kl_r, kl_l, tl_s, tl_n, List.cons_append, List.nil_append, Int.cast_ofNat_Int, w32_id, w64_id, le_T, le_F, lt_T, lt_F, eq_T, eq_F, reduceIte, ne_eq, Int.toNat_natCast, bi_0, bi_1, bi_b, Nat.reduceAdd, Nat.reduceEqDiff, Int.reduceToNat, Int.reduceNeg, nle_T, nlt_T, neq_T, neq_F, b2_0, b2_b, both, reduceCtorEq]
  by_cases c3 : (P : Int) < a
  · refine CS_r hs hg h (-6) (k := 6) (by omega) (fun Q => ?_) (fun Q => ?_)
    · simp (config := { contextual := true }) (disch := omega) only [R_X11_wells_b0, R_X11_wells_b1, hX, hT, h50, hP, ct_refuse hX, rfC, true_and, and_true, true_implies, not_true_eq_false, false_implies, not_false_eq_true, false_and, and_false, or_true, true_or, false_or, or_false, implies_true, forall_const, kl_i, kl_n, kl_r, kl_l, tl_s, tl_n, List.cons_append, List.nil_append, Int.cast_ofNat_Int, w32_id, w64_id, le_T, le_F, lt_T, lt_F, eq_T, eq_F, reduceIte, ne_eq, Int.toNat_natCast, bi_0, bi_1, bi_b, Nat.reduceAdd, Nat.reduceEqDiff, Int.reduceToNat, Int.reduceNeg, nle_T, nlt_T, neq_T, neq_F, b2_0, b2_b, both, reduceCtorEq]
    · simp (config := { contextual := true }) (disch := omega) only [R_X12_wells_b0, R_X12_wells_b1, hW, hP', ct_no hW, pr_o, rfC, rfM, true_and, and_true, true_implies, not_true_eq_false, false_implies, not_false_eq_true, false_and, and_false, or_true, true_or, false_or, or_false, implies_true, forall_const, kl_i, kl_n, kl_r, kl_l, tl_s, tl_n, List.cons_append, List.nil_append, Int.cast_ofNat_Int, w32_id, w64_id, le_T, le_F, lt_T, lt_F, eq_T, eq_F, reduceIte, ne_eq, Int.toNat_natCast, bi_0, bi_1, bi_b, Nat.reduceAdd, Nat.reduceEqDiff, Int.reduceToNat, Int.reduceNeg, nle_T, nlt_T, neq_T, neq_F, b2_0, b2_b, both, reduceCtorEq]
  obtain ⟨k, rfl⟩ := Int.eq_ofNat_of_zero_le (by omega : 0 ≤ a)
  obtain ⟨dB, dZ, d1, d8⟩ := DM_ok hS (I 72)
  have hf := RQ_far h (I 72)
  have kf := RQ_ff h
  have ks := sm_72 I (DM A P w (I 72))
  have h'' := RQ_sm h ks
  have hP2 := (RQ_P h'').2
  have hend := wl_end (D := DM A P w (I 72)) (P := P) (k := k) (by omega) (by omega) hP8.2
  have hpw := pw_tab P (by omega)
  have k1 := fun Q => lp_wC hX hT h50 dB hf hP hP8.2 (k := (k : Int)) 997 Q (2 ^ P - 1) 0 (by omega) none
  have k2 := fun Q => lp_wM (I := pr I 72 (DM A P w (I 72))) hW dB (pr_s _ _ _) hP2 hP8.2 (k := (k : Int)) 997 Q hend (2 ^ P - 1) 0 (by omega)
  have e0 : wlC (DM A P w (I 72)) P k 0 = (0, 0) := rfl
  have ez : ((0 : Nat) : Int) + 1 = 1 := rfl
  rw [e0, ez] at k1 k2
  refine CS_q hs hg h (wlC (DM A P w (I 72)) P k (2 ^ P - 1)).1 (fun Q => ?_) (sm_rf I) (fun Q => ?_) ks
  · have k1 := k1 Q
    simp (config := { contextual := true }) (disch := omega) only [R_X11_wells_b0, R_X11_wells_b1, hX, hT, h50, hP, true_and, and_true, true_implies, not_true_eq_false, false_implies, not_false_eq_true, false_and, and_false, or_true, true_or, false_or, or_false, implies_true, forall_const, kl_i, kl_n, kl_r, kl_l, tl_s, tl_n, List.cons_append, List.nil_append, Int.cast_ofNat_Int, w32_id, w64_id, le_T, le_F, lt_T, lt_F, eq_T, eq_F, reduceIte, ne_eq, Int.toNat_natCast, bi_0, bi_1, bi_b, Nat.reduceAdd, Nat.reduceEqDiff, Int.reduceToNat, Int.reduceNeg, nle_T, nlt_T, neq_T, neq_F, b2_0, b2_b, both, reduceCtorEq]
    exact k1
  · have k2 := k2 Q
    have hsh := shl_tab P (by omega)
    have kb := fun Q => ct_bits (g := g) (I := pr I 72 (DM A P w (I 72))) (v := 0) (by omega) 998 Q
    have eb : bts ((0 : Nat) : Int) = 0 := by decide +kernel
    have ez0 : ((0 : Nat) : Int) = 0 := rfl
    rw [eb, ez0] at kb
    have st : WP 999 m_X12_wells 0 [some (vr (some 57)), some (vi k), none, none, none] [] g I Q = WP 999 m_X12_wells 49 [some (vr (some 57)), some (vi k), some (vi 0), some (vi (-1)), some (vi 0)] [] g (pr I 72 (DM A P w (I 72))) Q := by
      simp (config := { contextual := true }) (disch := omega) only [R_X12_wells_b0, R_X12_wells_b1, hW, hP', kf, true_and, and_true, true_implies, not_true_eq_false, false_implies, not_false_eq_true, false_and, and_false, or_true, true_or, false_or, or_false, implies_true, forall_const, kl_i, kl_n, kl_r, kl_l, tl_s, tl_n, List.cons_append, List.nil_append, Int.cast_ofNat_Int, w32_id, w64_id, le_T, le_F, lt_T, lt_F, eq_T, eq_F, reduceIte, ne_eq, Int.toNat_natCast, bi_0, bi_1, bi_b, Nat.reduceAdd, Nat.reduceEqDiff, Int.reduceToNat, Int.reduceNeg, nle_T, nlt_T, neq_T, neq_F, b2_0, b2_b, both, reduceCtorEq]
    rw [st]
    generalize (2 : Nat) ^ P = N at *
    rw [H_X12_wells_49]
    simp (config := { contextual := true }) (disch := omega) only [R_X12_wells_b0, R_X12_wells_b1, hW, hP2, hsh, kb, true_and, and_true, true_implies, not_true_eq_false, false_implies, not_false_eq_true, false_and, and_false, or_true, true_or, false_or, or_false, implies_true, forall_const, kl_i, kl_n, kl_r, kl_l, tl_s, tl_n, List.cons_append, List.nil_append, Int.cast_ofNat_Int, w32_id, w64_id, le_T, le_F, lt_T, lt_F, eq_T, eq_F, reduceIte, ne_eq, Int.toNat_natCast, bi_0, bi_1, bi_b, Nat.reduceAdd, Nat.reduceEqDiff, Int.reduceToNat, Int.reduceNeg, nle_T, nlt_T, neq_T, neq_F, b2_0, b2_b, both, reduceCtorEq]
    exact k2
end CSW

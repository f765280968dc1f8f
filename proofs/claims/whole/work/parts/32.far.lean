-- FAR: the model's findFar and the class's reckonFar
def dgz (k : Nat) : Int := if k / 8 = k % 8 then 0 else 100000
def fll (h : Nat → Int) (i : Nat) (D : Nat → Int) : Nat → Int := fun j => if j < i then h j else D j
theorem fll_0 (h D : Nat → Int) : fll h 0 D = D := by funext j; unfold fll; rw [if_neg (by omega)]
theorem fll_s (h : Nat → Int) (i : Nat) (D : Nat → Int) {v : Int} (hv : v = h i) : uf (fll h i D) i v = fll h (i + 1) D := by
  subst hv
  funext j
  unfold fll uf
  by_cases h1 : j = i
  · rw [if_pos h1, if_pos (by omega), h1]
  · rw [if_neg h1]
    dsimp only
    by_cases h2 : j < i
    · rw [if_pos h2, if_pos (by omega)]
    · rw [if_neg h2, if_neg (by omega)]
def dwy (a b m : Nat → Int) : Nat → (Nat → Int) → (Nat → Int)
  | 0, D => D
  | w + 1, D => uf (uf (dwy a b m w D) (8 * (a w).toNat + (b w).toNat) (m w)) (8 * (b w).toNat + (a w).toNat) (m w)
def rlx (y a b : Nat) (D : Nat → Int) : Nat → Int := if D (8 * a + y) + D (8 * y + b) < D (8 * a + b) then uf D (8 * a + b) (D (8 * a + y) + D (8 * y + b)) else D
def fwb (y a : Nat) : Nat → (Nat → Int) → (Nat → Int)
  | 0, D => D
  | b + 1, D => rlx y a b (fwb y a b D)
def fwa (n y : Nat) : Nat → (Nat → Int) → (Nat → Int)
  | 0, D => D
  | a + 1, D => fwb y a n (fwa n y a D)
def fwm (n : Nat) : Nat → (Nat → Int) → (Nat → Int)
  | 0, D => D
  | y + 1, D => fwa n y n (fwm n y D)
def bD (D : Nat → Int) : Prop := ∀ j, j < 64 → 0 ≤ D j ∧ D j ≤ 100000
theorem bD_uf {D : Nat → Int} {k : Nat} {v : Int} (h : bD D) (h1 : 0 ≤ v) (h2 : v ≤ 100000) : bD (uf D k v) := by
  intro j hj
  unfold uf
  by_cases e : j = k
  · rw [if_pos e]; exact ⟨h1, h2⟩
  · rw [if_neg e]; exact h j hj
theorem bD_rlx {D : Nat → Int} {y a b : Nat} (h : bD D) (hy : y < 8) (ha : a < 8) (hb : b < 8) : bD (rlx y a b D) := by
  unfold rlx
  by_cases e : D (8 * a + y) + D (8 * y + b) < D (8 * a + b)
  · rw [if_pos e]
    have h1 := h (8 * a + y) (by omega)
    have h2 := h (8 * y + b) (by omega)
    have h3 := h (8 * a + b) (by omega)
    exact bD_uf h (by omega) (by omega)
  · rw [if_neg e]; exact h
theorem bD_fwb {D : Nat → Int} {y a : Nat} (h : bD D) (hy : y < 8) (ha : a < 8) : ∀ b, b ≤ 8 → bD (fwb y a b D)
  | 0, _ => h
  | b + 1, hb => bD_rlx (bD_fwb h hy ha b (by omega)) hy ha (by omega)
theorem bD_fwa {D : Nat → Int} {n y : Nat} (h : bD D) (hn : n ≤ 8) (hy : y < 8) : ∀ a, a ≤ 8 → bD (fwa n y a D)
  | 0, _ => h
  | a + 1, ha => bD_fwb (bD_fwa h hn hy a (by omega)) hy (by omega) n hn
theorem bD_fwm {D : Nat → Int} {n : Nat} (h : bD D) (hn : n ≤ 8) : ∀ y, y ≤ 8 → bD (fwm n y D)
  | 0, _ => h
  | y + 1, hy => bD_fwa (bD_fwm h hn y (by omega)) hn (by omega) n hn
section FAR
variable {g : GG} {I : II} {d n : Nat} {D : Nat → Int}
theorem lpF5 (hW : WM g) (hp : I 57 14 = (n : Int)) (hn : n ≤ 8) {y a : Nat} (hy : y < 8) (ha : a < 8) (hD : bD D) (Q : QQ) (hQ : ∀ l3 l4, WP d m_X12_findFar 119 [some (vr (some 57)), some (vi y), some (vi (a + 1)), l3, l4] [] g (pr I 72 (fwb y a n D)) Q) : ∀ k b : Nat, b + k = n → ∀ l4, WP d m_X12_findFar 129 [some (vr (some 57)), some (vi y), some (vi a), some (vi b), l4] [] g (pr I 72 (fwb y a b D)) Q := by
  intro k
  induction k with
  | zero =>
    intro b hb l4
    obtain rfl : b = n := by omega
    rw [H_X12_findFar_129]
    simp (config := { contextual := true }) (disch := omega) only [R_X12_findFar_b0, R_X12_findFar_b1, R_X12_findFar_b2, hW, hp, pr_s, pr_o, true_and, and_true, true_implies, not_true_eq_false, false_implies, not_false_eq_true, false_and, and_false, or_true, true_or, false_or, or_false, implies_true, forall_const, kl_i, kl_n, kl_r, kl_l, tl_s, tl_n, List.cons_append, List.nil_append, Int.cast_ofNat_Int, w32_id, w64_id, le_T, le_F, lt_T, lt_F, eq_T, eq_F, reduceIte, ne_eq, Int.toNat_natCast, bi_0, bi_1, bi_b, Nat.reduceAdd, Nat.reduceEqDiff, Int.reduceToNat, Int.reduceNeg, nle_T, nlt_T, neq_T, neq_F]
    exact hQ _ _
  | succ k ih =>
    intro b hb l4
    have e1 : (8 * (a : Int) + (y : Int)).toNat = 8 * a + y := by omega
    have e2 : (8 * (y : Int) + (b : Int)).toNat = 8 * y + b := by omega
    have e3 : (8 * (a : Int) + (b : Int)).toNat = 8 * a + b := by omega
    have hF := bD_fwb hD hy ha b (by omega)
    have h1 := hF (8 * a + y) (by omega)
    have h2 := hF (8 * y + b) (by omega)
    rw [H_X12_findFar_129]
    simp (config := { contextual := true }) (disch := omega) only [R_X12_findFar_b0, R_X12_findFar_b1, R_X12_findFar_b2, hW, hp, pr_s, pr_o, e1, e2, e3, up_pr, pr_pr, true_and, and_true, true_implies, not_true_eq_false, false_implies, not_false_eq_true, false_and, and_false, or_true, true_or, false_or, or_false, implies_true, forall_const, kl_i, kl_n, kl_r, kl_l, tl_s, tl_n, List.cons_append, List.nil_append, Int.cast_ofNat_Int, w32_id, w64_id, le_T, le_F, lt_T, lt_F, eq_T, eq_F, reduceIte, ne_eq, Int.toNat_natCast, bi_0, bi_1, bi_b, Nat.reduceAdd, Nat.reduceEqDiff, Int.reduceToNat, Int.reduceNeg, nle_T, nlt_T, neq_T, neq_F]
    refine ⟨fun hc => ?_, fun hc => ?_⟩
    · have h := ih (b + 1) (by omega) (some (vi (fwb y a b D (8 * a + y) + fwb y a b D (8 * y + b))))
      rw [show fwb y a (b + 1) D = uf (fwb y a b D) (8 * a + b) (fwb y a b D (8 * a + y) + fwb y a b D (8 * y + b)) from if_pos hc] at h
      exact h
    · have h := ih (b + 1) (by omega) (some (vi (fwb y a b D (8 * a + y) + fwb y a b D (8 * y + b))))
      rw [show fwb y a (b + 1) D = fwb y a b D from if_neg hc] at h
      exact h
theorem lpF4 (hW : WM g) (hp : I 57 14 = (n : Int)) (hn : n ≤ 8) {y : Nat} (hy : y < 8) (hD : bD D) (Q : QQ) (hQ : ∀ l2 l3 l4, WP d m_X12_findFar 109 [some (vr (some 57)), some (vi (y + 1)), l2, l3, l4] [] g (pr I 72 (fwa n y n D)) Q) : ∀ k a : Nat, a + k = n → ∀ l3 l4, WP d m_X12_findFar 119 [some (vr (some 57)), some (vi y), some (vi a), l3, l4] [] g (pr I 72 (fwa n y a D)) Q := by
  intro k
  induction k with
  | zero =>
    intro a hb l3 l4
    obtain rfl : a = n := by omega
    rw [H_X12_findFar_119]
    simp (config := { contextual := true }) (disch := omega) only [R_X12_findFar_b0, R_X12_findFar_b1, R_X12_findFar_b2, hW, hp, pr_s, pr_o, true_and, and_true, true_implies, not_true_eq_false, false_implies, not_false_eq_true, false_and, and_false, or_true, true_or, false_or, or_false, implies_true, forall_const, kl_i, kl_n, kl_r, kl_l, tl_s, tl_n, List.cons_append, List.nil_append, Int.cast_ofNat_Int, w32_id, w64_id, le_T, le_F, lt_T, lt_F, eq_T, eq_F, reduceIte, ne_eq, Int.toNat_natCast, bi_0, bi_1, bi_b, Nat.reduceAdd, Nat.reduceEqDiff, Int.reduceToNat, Int.reduceNeg, nle_T, nlt_T, neq_T, neq_F]
    exact hQ _ _ _
  | succ k ih =>
    intro a hb l3 l4
    rw [H_X12_findFar_119]
    simp (config := { contextual := true }) (disch := omega) only [R_X12_findFar_b0, R_X12_findFar_b1, R_X12_findFar_b2, hW, hp, pr_s, pr_o, true_and, and_true, true_implies, not_true_eq_false, false_implies, not_false_eq_true, false_and, and_false, or_true, true_or, false_or, or_false, implies_true, forall_const, kl_i, kl_n, kl_r, kl_l, tl_s, tl_n, List.cons_append, List.nil_append, Int.cast_ofNat_Int, w32_id, w64_id, le_T, le_F, lt_T, lt_F, eq_T, eq_F, reduceIte, ne_eq, Int.toNat_natCast, bi_0, bi_1, bi_b, Nat.reduceAdd, Nat.reduceEqDiff, Int.reduceToNat, Int.reduceNeg, nle_T, nlt_T, neq_T, neq_F]
    exact lpF5 hW hp hn hy (by omega) (bD_fwa hD hn hy a (by omega)) Q (fun l3 l4 => ih (a + 1) (by omega) l3 l4) n 0 (by omega) l4
theorem lpF3 (hW : WM g) (hp : I 57 14 = (n : Int)) (hn : n ≤ 8) (hD : bD D) (Q : QQ) (hQ : Q none g (pr I 72 (fwm n n D))) : ∀ k y : Nat, y + k = n → ∀ l2 l3 l4, WP d m_X12_findFar 109 [some (vr (some 57)), some (vi y), l2, l3, l4] [] g (pr I 72 (fwm n y D)) Q := by
  intro k
  induction k with
  | zero =>
    intro y hb l2 l3 l4
    obtain rfl : y = n := by omega
    rw [H_X12_findFar_109]
    simp (config := { contextual := true }) (disch := omega) only [R_X12_findFar_b0, R_X12_findFar_b1, R_X12_findFar_b2, hW, hp, pr_s, pr_o, true_and, and_true, true_implies, not_true_eq_false, false_implies, not_false_eq_true, false_and, and_false, or_true, true_or, false_or, or_false, implies_true, forall_const, kl_i, kl_n, kl_r, kl_l, tl_s, tl_n, List.cons_append, List.nil_append, Int.cast_ofNat_Int, w32_id, w64_id, le_T, le_F, lt_T, lt_F, eq_T, eq_F, reduceIte, ne_eq, Int.toNat_natCast, bi_0, bi_1, bi_b, Nat.reduceAdd, Nat.reduceEqDiff, Int.reduceToNat, Int.reduceNeg, nle_T, nlt_T, neq_T, neq_F]
    exact hQ
  | succ k ih =>
    intro y hb l2 l3 l4
    rw [H_X12_findFar_109]
    simp (config := { contextual := true }) (disch := omega) only [R_X12_findFar_b0, R_X12_findFar_b1, R_X12_findFar_b2, hW, hp, pr_s, pr_o, true_and, and_true, true_implies, not_true_eq_false, false_implies, not_false_eq_true, false_and, and_false, or_true, true_or, false_or, or_false, implies_true, forall_const, kl_i, kl_n, kl_r, kl_l, tl_s, tl_n, List.cons_append, List.nil_append, Int.cast_ofNat_Int, w32_id, w64_id, le_T, le_F, lt_T, lt_F, eq_T, eq_F, reduceIte, ne_eq, Int.toNat_natCast, bi_0, bi_1, bi_b, Nat.reduceAdd, Nat.reduceEqDiff, Int.reduceToNat, Int.reduceNeg, nle_T, nlt_T, neq_T, neq_F]
    exact lpF4 hW hp hn (by omega) (bD_fwm hD hn y (by omega)) Q (fun l2 l3 l4 => ih (y + 1) (by omega) l2 l3 l4) n 0 (by omega) l3 l4
theorem lpF1 (hW : WM g) (Q : QQ) {l2 l3 l4 : Option PV} (hQ : WP d m_X12_findFar 39 [some (vr (some 57)), some (vi 0), l2, l3, l4] [] g (pr I 72 (fll dgz 64 D)) Q) : ∀ k i : Nat, i + k = 64 → WP d m_X12_findFar 2 [some (vr (some 57)), some (vi i), l2, l3, l4] [] g (pr I 72 (fll dgz i D)) Q := by
  intro k
  induction k with
  | zero =>
    intro i hb
    obtain rfl : i = 64 := by omega
    rw [H_X12_findFar_2]
    simp (config := { contextual := true }) (disch := omega) only [R_X12_findFar_b0, R_X12_findFar_b1, R_X12_findFar_b2, hW, pr_s, pr_o, true_and, and_true, true_implies, not_true_eq_false, false_implies, not_false_eq_true, false_and, and_false, or_true, true_or, false_or, or_false, implies_true, forall_const, kl_i, kl_n, kl_r, kl_l, tl_s, tl_n, List.cons_append, List.nil_append, Int.cast_ofNat_Int, w32_id, w64_id, le_T, le_F, lt_T, lt_F, eq_T, eq_F, reduceIte, ne_eq, Int.toNat_natCast, bi_0, bi_1, bi_b, Nat.reduceAdd, Nat.reduceEqDiff, Int.reduceToNat, Int.reduceNeg, nle_T, nlt_T, neq_T, neq_F]
    exact hQ
  | succ k ih =>
    intro i hb
    rw [H_X12_findFar_2]
    simp (config := { contextual := true }) (disch := omega) only [R_X12_findFar_b0, R_X12_findFar_b1, R_X12_findFar_b2, hW, pr_s, pr_o, iDiv_eq, iRem_eq, up_pr, pr_pr, true_and, and_true, true_implies, not_true_eq_false, false_implies, not_false_eq_true, false_and, and_false, or_true, true_or, false_or, or_false, implies_true, forall_const, kl_i, kl_n, kl_r, kl_l, tl_s, tl_n, List.cons_append, List.nil_append, Int.cast_ofNat_Int, w32_id, w64_id, le_T, le_F, lt_T, lt_F, eq_T, eq_F, reduceIte, ne_eq, Int.toNat_natCast, bi_0, bi_1, bi_b, Nat.reduceAdd, Nat.reduceEqDiff, Int.reduceToNat, Int.reduceNeg, nle_T, nlt_T, neq_T, neq_F]
    refine ⟨fun hc => ?_, fun hc => ?_⟩
    · rw [fll_s dgz i D (if_pos (by omega)).symm]
      exact ih (i + 1) (by omega)
    · rw [fll_s dgz i D (if_neg (by omega)).symm]
      exact ih (i + 1) (by omega)
theorem lpF2 (hW : WM g) {w : Nat} (hw : I 57 15 = (w : Int)) (hw2 : w ≤ 14) (hab : ∀ j, j < w → (0 ≤ I 59 j ∧ I 59 j < 8) ∧ (0 ≤ I 60 j ∧ I 60 j < 8)) (Q : QQ) {l2 l3 l4 : Option PV} (hQ : WP d m_X12_findFar 109 [some (vr (some 57)), some (vi 0), l2, l3, l4] [] g (pr I 72 (dwy (I 59) (I 60) (I 61) w D)) Q) : ∀ k i : Nat, i + k = w → WP d m_X12_findFar 39 [some (vr (some 57)), some (vi i), l2, l3, l4] [] g (pr I 72 (dwy (I 59) (I 60) (I 61) i D)) Q := by
  intro k
  induction k with
  | zero =>
    intro i hb
    obtain rfl : i = w := by omega
    rw [H_X12_findFar_39]
    simp (config := { contextual := true }) (disch := omega) only [R_X12_findFar_b0, R_X12_findFar_b1, R_X12_findFar_b2, hW, hw, pr_s, pr_o, true_and, and_true, true_implies, not_true_eq_false, false_implies, not_false_eq_true, false_and, and_false, or_true, true_or, false_or, or_false, implies_true, forall_const, kl_i, kl_n, kl_r, kl_l, tl_s, tl_n, List.cons_append, List.nil_append, Int.cast_ofNat_Int, w32_id, w64_id, le_T, le_F, lt_T, lt_F, eq_T, eq_F, reduceIte, ne_eq, Int.toNat_natCast, bi_0, bi_1, bi_b, Nat.reduceAdd, Nat.reduceEqDiff, Int.reduceToNat, Int.reduceNeg, nle_T, nlt_T, neq_T, neq_F]
    exact hQ
  | succ k ih =>
    intro i hb
    have h1 := hab i (by omega)
    have e1 : (8 * I 59 i + I 60 i).toNat = 8 * (I 59 i).toNat + (I 60 i).toNat := by omega
    have e2 : (8 * I 60 i + I 59 i).toNat = 8 * (I 60 i).toNat + (I 59 i).toNat := by omega
    rw [H_X12_findFar_39]
    simp (config := { contextual := true }) (disch := omega) only [R_X12_findFar_b0, R_X12_findFar_b1, R_X12_findFar_b2, hW, hw, pr_s, pr_o, e1, e2, up_pr, pr_pr, true_and, and_true, true_implies, not_true_eq_false, false_implies, not_false_eq_true, false_and, and_false, or_true, true_or, false_or, or_false, implies_true, forall_const, kl_i, kl_n, kl_r, kl_l, tl_s, tl_n, List.cons_append, List.nil_append, Int.cast_ofNat_Int, w32_id, w64_id, le_T, le_F, lt_T, lt_F, eq_T, eq_F, reduceIte, ne_eq, Int.toNat_natCast, bi_0, bi_1, bi_b, Nat.reduceAdd, Nat.reduceEqDiff, Int.reduceToNat, Int.reduceNeg, nle_T, nlt_T, neq_T, neq_F]
    exact ih (i + 1) (by omega)
theorem bD_dgz : bD (fll dgz 64 D) := by
  intro j hj
  unfold fll dgz
  rw [if_pos hj]
  by_cases h : j / 8 = j % 8
  · rw [if_pos h]; omega
  · rw [if_neg h]; omega
theorem bD_dwy {a b m : Nat → Int} (hD : bD D) : ∀ w, (∀ j, j < w → 0 ≤ m j ∧ m j ≤ 100000) → bD (dwy a b m w D)
  | 0, _ => hD
  | w + 1, h => bD_uf (bD_uf (bD_dwy hD w (fun j hj => h j (by omega))) (h w (by omega)).1 (h w (by omega)).2) (h w (by omega)).1 (h w (by omega)).2
def mfar (I : II) (n w : Nat) : Nat → Int := fwm n n (dwy (I 59) (I 60) (I 61) w (fll dgz 64 (I 72)))
theorem ct_findFar (hW : WM g) (hp : I 57 14 = (n : Int)) (hn : n ≤ 8) {w : Nat} (hw : I 57 15 = (w : Int)) (hw2 : w ≤ 14) (hab : ∀ j, j < w → (0 ≤ I 59 j ∧ I 59 j < 8) ∧ (0 ≤ I 60 j ∧ I 60 j < 8)) (hm : ∀ j, j < w → 0 ≤ I 61 j ∧ I 61 j ≤ 100000) (Q : QQ) : WP d m_X12_findFar 0 [some (vr (some 57)), none, none, none, none] [] g I Q = Q none g (pr I 72 (mfar I n w)) := by
  refine WP_fun (fun Q hQ => ?_) Q
  simp (config := { contextual := true }) (disch := omega) only [R_X12_findFar_b0, R_X12_findFar_b1, R_X12_findFar_b2, hW, true_and, and_true, true_implies, not_true_eq_false, false_implies, not_false_eq_true, false_and, and_false, or_true, true_or, false_or, or_false, implies_true, forall_const, kl_i, kl_n, kl_r, kl_l, tl_s, tl_n, List.cons_append, List.nil_append, Int.cast_ofNat_Int, w32_id, w64_id, le_T, le_F, lt_T, lt_F, eq_T, eq_F, reduceIte, ne_eq, Int.toNat_natCast, bi_0, bi_1, bi_b, Nat.reduceAdd, Nat.reduceEqDiff, Int.reduceToNat, Int.reduceNeg, nle_T, nlt_T, neq_T, neq_F]
  have h := lpF1 (d := d) (I := I) (D := I 72) hW Q (l2 := none) (l3 := none) (l4 := none) (lpF2 hW hw hw2 hab Q (lpF3 hW hp hn (bD_dwy bD_dgz w hm) Q hQ n 0 (by omega) none none none) w 0 (by omega)) 64 0 (by omega)
  rw [fll_0, pr_id] at h
  exact h
-- the class
variable {t : Nat}
def wz (W : Nat → Int) (k : Nat) : Int := if 0 < W k then W k else 100000
def dgs : Nat → (Nat → Int) → (Nat → Int)
  | 0, D => D
  | p + 1, D => uf (dgs p D) (8 * p + p) 0
theorem lpR5 (hW : WT g t) {y a : Nat} (hy : y < 8) (ha : a < 8) (hD : bD D) (Q : QQ) (hQ : ∀ l3 l4, WP (d + 1) m_X9_reckonFar 76 [some (vr (some t)), some (vi y), some (vi (a + 1)), l3, l4] [] g (pr I (t + 2) (fwb y a 8 D)) Q) : ∀ k b : Nat, b + k = 8 → ∀ l4, WP (d + 1) m_X9_reckonFar 84 [some (vr (some t)), some (vi y), some (vi a), some (vi b), l4] [] g (pr I (t + 2) (fwb y a b D)) Q := by
  intro k
  induction k with
  | zero =>
    intro b hb l4
    obtain rfl : b = 8 := by omega
    rw [H_X9_reckonFar_84]
    simp (config := { contextual := true }) (disch := omega) only [R_X9_reckonFar_b0, R_X9_reckonFar_b1, hW, pr_s, pr_o, true_and, and_true, true_implies, not_true_eq_false, false_implies, not_false_eq_true, false_and, and_false, or_true, true_or, false_or, or_false, implies_true, forall_const, kl_i, kl_n, kl_r, kl_l, tl_s, tl_n, List.cons_append, List.nil_append, Int.cast_ofNat_Int, w32_id, w64_id, le_T, le_F, lt_T, lt_F, eq_T, eq_F, reduceIte, ne_eq, Int.toNat_natCast, bi_0, bi_1, bi_b, Nat.reduceAdd, Nat.reduceEqDiff, Int.reduceToNat, Int.reduceNeg, nle_T, nlt_T, neq_T, neq_F]
    exact hQ _ _
  | succ k ih =>
    intro b hb l4
    have e3 : ((a : Int) * 8 + (b : Int)).toNat = 8 * a + b := by omega
    have hF := bD_fwb hD hy ha b (by omega)
    have h1 := hF (8 * a + y) (by omega)
    have h2 := hF (8 * y + b) (by omega)
    rw [H_X9_reckonFar_84]
    simp (config := { contextual := true }) (disch := omega) only [R_X9_reckonFar_b0, R_X9_reckonFar_b1, hW, ct_miles hW, pr_s, pr_o, e3, up_pr, pr_pr, true_and, and_true, true_implies, not_true_eq_false, false_implies, not_false_eq_true, false_and, and_false, or_true, true_or, false_or, or_false, implies_true, forall_const, kl_i, kl_n, kl_r, kl_l, tl_s, tl_n, List.cons_append, List.nil_append, Int.cast_ofNat_Int, w32_id, w64_id, le_T, le_F, lt_T, lt_F, eq_T, eq_F, reduceIte, ne_eq, Int.toNat_natCast, bi_0, bi_1, bi_b, Nat.reduceAdd, Nat.reduceEqDiff, Int.reduceToNat, Int.reduceNeg, nle_T, nlt_T, neq_T, neq_F]
    refine ⟨fun hc => ?_, fun hc => ?_⟩
    · have h := ih (b + 1) (by omega) (some (vi (fwb y a b D (8 * a + y) + fwb y a b D (8 * y + b))))
      rw [show fwb y a (b + 1) D = uf (fwb y a b D) (8 * a + b) (fwb y a b D (8 * a + y) + fwb y a b D (8 * y + b)) from if_pos hc] at h
      exact h
    · have h := ih (b + 1) (by omega) (some (vi (fwb y a b D (8 * a + y) + fwb y a b D (8 * y + b))))
      rw [show fwb y a (b + 1) D = fwb y a b D from if_neg hc] at h
      exact h
theorem lpR4 (hW : WT g t) {y : Nat} (hy : y < 8) (hD : bD D) (Q : QQ) (hQ : ∀ l2 l3 l4, WP (d + 1) m_X9_reckonFar 68 [some (vr (some t)), some (vi (y + 1)), l2, l3, l4] [] g (pr I (t + 2) (fwa 8 y 8 D)) Q) : ∀ k a : Nat, a + k = 8 → ∀ l3 l4, WP (d + 1) m_X9_reckonFar 76 [some (vr (some t)), some (vi y), some (vi a), l3, l4] [] g (pr I (t + 2) (fwa 8 y a D)) Q := by
  intro k
  induction k with
  | zero =>
    intro a hb l3 l4
    obtain rfl : a = 8 := by omega
    rw [H_X9_reckonFar_76]
    simp (config := { contextual := true }) (disch := omega) only [R_X9_reckonFar_b0, R_X9_reckonFar_b1, hW, pr_s, pr_o, true_and, and_true, true_implies, not_true_eq_false, false_implies, not_false_eq_true, false_and, and_false, or_true, true_or, false_or, or_false, implies_true, forall_const, kl_i, kl_n, kl_r, kl_l, tl_s, tl_n, List.cons_append, List.nil_append, Int.cast_ofNat_Int, w32_id, w64_id, le_T, le_F, lt_T, lt_F, eq_T, eq_F, reduceIte, ne_eq, Int.toNat_natCast, bi_0, bi_1, bi_b, Nat.reduceAdd, Nat.reduceEqDiff, Int.reduceToNat, Int.reduceNeg, nle_T, nlt_T, neq_T, neq_F]
    exact hQ _ _ _
  | succ k ih =>
    intro a hb l3 l4
    rw [H_X9_reckonFar_76]
    simp (config := { contextual := true }) (disch := omega) only [R_X9_reckonFar_b0, R_X9_reckonFar_b1, hW, pr_s, pr_o, true_and, and_true, true_implies, not_true_eq_false, false_implies, not_false_eq_true, false_and, and_false, or_true, true_or, false_or, or_false, implies_true, forall_const, kl_i, kl_n, kl_r, kl_l, tl_s, tl_n, List.cons_append, List.nil_append, Int.cast_ofNat_Int, w32_id, w64_id, le_T, le_F, lt_T, lt_F, eq_T, eq_F, reduceIte, ne_eq, Int.toNat_natCast, bi_0, bi_1, bi_b, Nat.reduceAdd, Nat.reduceEqDiff, Int.reduceToNat, Int.reduceNeg, nle_T, nlt_T, neq_T, neq_F]
    exact lpR5 hW hy (by omega) (bD_fwa hD (by omega) hy a (by omega)) Q (fun l3 l4 => ih (a + 1) (by omega) l3 l4) 8 0 (by omega) l4
theorem lpR3 (hW : WT g t) (hD : bD D) (Q : QQ) (hQ : Q none g (pr I (t + 2) (fwm 8 8 D))) : ∀ k y : Nat, y + k = 8 → ∀ l2 l3 l4, WP (d + 1) m_X9_reckonFar 68 [some (vr (some t)), some (vi y), l2, l3, l4] [] g (pr I (t + 2) (fwm 8 y D)) Q := by
  intro k
  induction k with
  | zero =>
    intro y hb l2 l3 l4
    obtain rfl : y = 8 := by omega
    rw [H_X9_reckonFar_68]
    simp (config := { contextual := true }) (disch := omega) only [R_X9_reckonFar_b0, R_X9_reckonFar_b1, hW, pr_s, pr_o, true_and, and_true, true_implies, not_true_eq_false, false_implies, not_false_eq_true, false_and, and_false, or_true, true_or, false_or, or_false, implies_true, forall_const, kl_i, kl_n, kl_r, kl_l, tl_s, tl_n, List.cons_append, List.nil_append, Int.cast_ofNat_Int, w32_id, w64_id, le_T, le_F, lt_T, lt_F, eq_T, eq_F, reduceIte, ne_eq, Int.toNat_natCast, bi_0, bi_1, bi_b, Nat.reduceAdd, Nat.reduceEqDiff, Int.reduceToNat, Int.reduceNeg, nle_T, nlt_T, neq_T, neq_F]
    exact hQ
  | succ k ih =>
    intro y hb l2 l3 l4
    rw [H_X9_reckonFar_68]
    simp (config := { contextual := true }) (disch := omega) only [R_X9_reckonFar_b0, R_X9_reckonFar_b1, hW, pr_s, pr_o, true_and, and_true, true_implies, not_true_eq_false, false_implies, not_false_eq_true, false_and, and_false, or_true, true_or, false_or, or_false, implies_true, forall_const, kl_i, kl_n, kl_r, kl_l, tl_s, tl_n, List.cons_append, List.nil_append, Int.cast_ofNat_Int, w32_id, w64_id, le_T, le_F, lt_T, lt_F, eq_T, eq_F, reduceIte, ne_eq, Int.toNat_natCast, bi_0, bi_1, bi_b, Nat.reduceAdd, Nat.reduceEqDiff, Int.reduceToNat, Int.reduceNeg, nle_T, nlt_T, neq_T, neq_F]
    exact lpR4 hW (by omega) (bD_fwm hD (by omega) y (by omega)) Q (fun l2 l3 l4 => ih (y + 1) (by omega) l2 l3 l4) 8 0 (by omega) l3 l4
theorem lpR1 (hW : WT g t) (Q : QQ) {l2 l3 l4 : Option PV} (hQ : WP d m_X9_reckonFar 42 [some (vr (some t)), some (vi 0), l2, l3, l4] [] g (pr I (t + 2) (fll (wz (I (t + 1))) 64 D)) Q) : ∀ k i : Nat, i + k = 64 → WP d m_X9_reckonFar 2 [some (vr (some t)), some (vi i), l2, l3, l4] [] g (pr I (t + 2) (fll (wz (I (t + 1))) i D)) Q := by
  intro k
  induction k with
  | zero =>
    intro i hb
    obtain rfl : i = 64 := by omega
    rw [H_X9_reckonFar_2]
    simp (config := { contextual := true }) (disch := omega) only [R_X9_reckonFar_b0, R_X9_reckonFar_b1, hW, pr_s, pr_o, true_and, and_true, true_implies, not_true_eq_false, false_implies, not_false_eq_true, false_and, and_false, or_true, true_or, false_or, or_false, implies_true, forall_const, kl_i, kl_n, kl_r, kl_l, tl_s, tl_n, List.cons_append, List.nil_append, Int.cast_ofNat_Int, w32_id, w64_id, le_T, le_F, lt_T, lt_F, eq_T, eq_F, reduceIte, ne_eq, Int.toNat_natCast, bi_0, bi_1, bi_b, Nat.reduceAdd, Nat.reduceEqDiff, Int.reduceToNat, Int.reduceNeg, nle_T, nlt_T, neq_T, neq_F]
    exact hQ
  | succ k ih =>
    intro i hb
    rw [H_X9_reckonFar_2]
    simp (config := { contextual := true }) (disch := omega) only [R_X9_reckonFar_b0, R_X9_reckonFar_b1, hW, pr_s, pr_o, up_pr, pr_pr, true_and, and_true, true_implies, not_true_eq_false, false_implies, not_false_eq_true, false_and, and_false, or_true, true_or, false_or, or_false, implies_true, forall_const, kl_i, kl_n, kl_r, kl_l, tl_s, tl_n, List.cons_append, List.nil_append, Int.cast_ofNat_Int, w32_id, w64_id, le_T, le_F, lt_T, lt_F, eq_T, eq_F, reduceIte, ne_eq, Int.toNat_natCast, bi_0, bi_1, bi_b, Nat.reduceAdd, Nat.reduceEqDiff, Int.reduceToNat, Int.reduceNeg, nle_T, nlt_T, neq_T, neq_F]
    refine ⟨fun hc => ?_, fun hc => ?_⟩
    · rw [fll_s (wz (I (t + 1))) i D (if_pos (by omega)).symm]
      exact ih (i + 1) (by omega)
    · rw [fll_s (wz (I (t + 1))) i D (if_neg (by omega)).symm]
      exact ih (i + 1) (by omega)
theorem lpR2 (hW : WT g t) (Q : QQ) {l2 l3 l4 : Option PV} (hQ : WP d m_X9_reckonFar 68 [some (vr (some t)), some (vi 0), l2, l3, l4] [] g (pr I (t + 2) (dgs 8 D)) Q) : ∀ k i : Nat, i + k = 8 → WP d m_X9_reckonFar 42 [some (vr (some t)), some (vi i), l2, l3, l4] [] g (pr I (t + 2) (dgs i D)) Q := by
  intro k
  induction k with
  | zero =>
    intro i hb
    obtain rfl : i = 8 := by omega
    rw [H_X9_reckonFar_42]
    simp (config := { contextual := true }) (disch := omega) only [R_X9_reckonFar_b0, R_X9_reckonFar_b1, hW, pr_s, pr_o, true_and, and_true, true_implies, not_true_eq_false, false_implies, not_false_eq_true, false_and, and_false, or_true, true_or, false_or, or_false, implies_true, forall_const, kl_i, kl_n, kl_r, kl_l, tl_s, tl_n, List.cons_append, List.nil_append, Int.cast_ofNat_Int, w32_id, w64_id, le_T, le_F, lt_T, lt_F, eq_T, eq_F, reduceIte, ne_eq, Int.toNat_natCast, bi_0, bi_1, bi_b, Nat.reduceAdd, Nat.reduceEqDiff, Int.reduceToNat, Int.reduceNeg, nle_T, nlt_T, neq_T, neq_F]
    exact hQ
  | succ k ih =>
    intro i hb
    have e1 : ((i : Int) * 8 + (i : Int)).toNat = 8 * i + i := by omega
    rw [H_X9_reckonFar_42]
    simp (config := { contextual := true }) (disch := omega) only [R_X9_reckonFar_b0, R_X9_reckonFar_b1, hW, pr_s, pr_o, e1, up_pr, pr_pr, true_and, and_true, true_implies, not_true_eq_false, false_implies, not_false_eq_true, false_and, and_false, or_true, true_or, false_or, or_false, implies_true, forall_const, kl_i, kl_n, kl_r, kl_l, tl_s, tl_n, List.cons_append, List.nil_append, Int.cast_ofNat_Int, w32_id, w64_id, le_T, le_F, lt_T, lt_F, eq_T, eq_F, reduceIte, ne_eq, Int.toNat_natCast, bi_0, bi_1, bi_b, Nat.reduceAdd, Nat.reduceEqDiff, Int.reduceToNat, Int.reduceNeg, nle_T, nlt_T, neq_T, neq_F]
    exact ih (i + 1) (by omega)
theorem bD_wz {W : Nat → Int} (h : ∀ j, j < 64 → 0 ≤ W j ∧ W j ≤ 100000) : bD (fll (wz W) 64 D) := by
  intro j hj
  have h1 := h j hj
  unfold fll wz
  rw [if_pos hj]
  by_cases h : 0 < W j
  · rw [if_pos h]; omega
  · rw [if_neg h]; omega
theorem bD_dgs (hD : bD D) : ∀ w, bD (dgs w D)
  | 0 => hD
  | w + 1 => bD_uf (bD_dgs hD w) (by omega) (by omega)
def xfar (W D : Nat → Int) : Nat → Int := fwm 8 8 (dgs 8 (fll (wz W) 64 D))
theorem ct_reckonFar (hW : WT g t) (hm : ∀ j, j < 64 → 0 ≤ I (t + 1) j ∧ I (t + 1) j ≤ 100000) (Q : QQ) : WP (d + 1) m_X9_reckonFar 0 [some (vr (some t)), none, none, none, none] [] g I Q = Q none g (pr I (t + 2) (xfar (I (t + 1)) (I (t + 2)))) := by
  refine WP_fun (fun Q hQ => ?_) Q
  simp (config := { contextual := true }) (disch := omega) only [R_X9_reckonFar_b0, R_X9_reckonFar_b1, hW, true_and, and_true, true_implies, not_true_eq_false, false_implies, not_false_eq_true, false_and, and_false, or_true, true_or, false_or, or_false, implies_true, forall_const, kl_i, kl_n, kl_r, kl_l, tl_s, tl_n, List.cons_append, List.nil_append, Int.cast_ofNat_Int, w32_id, w64_id, le_T, le_F, lt_T, lt_F, eq_T, eq_F, reduceIte, ne_eq, Int.toNat_natCast, bi_0, bi_1, bi_b, Nat.reduceAdd, Nat.reduceEqDiff, Int.reduceToNat, Int.reduceNeg, nle_T, nlt_T, neq_T, neq_F]
  have h := lpR1 (d := d + 1) (I := I) (D := I (t + 2)) hW Q (l2 := none) (l3 := none) (l4 := none) (lpR2 hW Q (lpR3 hW (bD_dgs (bD_wz hm) 8) Q hQ 8 0 (by omega) none none none) 8 0 (by omega)) 64 0 (by omega)
  rw [fll_0, pr_id] at h
  exact h
end FAR

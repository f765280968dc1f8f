-- KEEPING AND PUTTING BACK: passes, passOne
def kpy (F src : Nat → Int) (c k : Nat) : Nat → Int := fun j => if c ≤ j ∧ j < c + k then src (j - c) else F j
theorem kpy_0 (F src : Nat → Int) (c : Nat) : kpy F src c 0 = F := by funext j; unfold kpy; rw [if_neg (by omega)]
theorem kpy_s (F src : Nat → Int) (c k : Nat) : uf (kpy F src c k) (c + k) (src k) = kpy F src c (k + 1) := by
  funext j
  unfold uf kpy
  by_cases h : j = c + k
  · rw [if_pos h, if_pos (by omega), h, show c + k - c = k by omega]
  · rw [if_neg h]
    by_cases h2 : c ≤ j ∧ j < c + k
    · rw [if_pos h2, if_pos (by omega)]
    · rw [if_neg h2, if_neg (by omega)]
theorem pr_in {X : II} {a b : Nat} {r h r' : Nat → Int} (n : ¬ a = b) : pr (pr (pr X a r) b h) a r' = pr (pr X b h) a r' := by
  funext c
  unfold pr
  by_cases e : c = a
  · rw [if_pos e, if_pos e]
  · simp [e]
theorem uf_in {f : Nat → Int} {a b : Nat} {v w v' : Int} (n : ¬ a = b) : uf (uf (uf f a v) b w) a v' = uf (uf f b w) a v' := by
  funext c
  unfold uf
  by_cases e : c = a
  · rw [if_pos e, if_pos e]
  · simp [e]
section PASS
variable {g : GG} {I : II} {d a n c : Nat}
theorem lp_psK (hW : WM g) (hk : gK g a = (1, n)) (ha : ¬ a = 57 ∧ ¬ a = 80) (hK : I 57 32 = 1) (hc : c + n ≤ 400) (Q : QQ) : ∀ k i : Nat, i + k = n → WP d m_X12_passes 2 [some (vr (some 57)), some (vr (some a)), some (vi i)] [] g (pr (pr I 80 (kpy (I 80) (I a) c i)) 57 (uf (I 57) 33 (c + i : Nat))) Q = Q none g (pr (pr I 80 (kpy (I 80) (I a) c n)) 57 (uf (I 57) 33 (c + n : Nat))) := by
  intro k
  induction k with
  | zero =>
    intro i hi
    obtain rfl : i = n := by omega
    rw [H_X12_passes_2]
    simp (config := { contextual := true }) (disch := omega) only [R_X12_passes, hW, hk, pr_s, pr_o, true_and, and_true, true_implies, not_true_eq_false, false_implies, not_false_eq_true, false_and, and_false, or_true, true_or, false_or, or_false, implies_true, forall_const, kl_i, kl_n, kl_r, kl_l, tl_s, tl_n, List.cons_append, List.nil_append, Int.cast_ofNat_Int, w32_id, w64_id, le_T, le_F, lt_T, lt_F, eq_T, eq_F, reduceIte, ne_eq, Int.toNat_natCast, bi_0, bi_1, bi_b, Nat.reduceAdd, Nat.reduceEqDiff, Int.reduceToNat, Int.reduceNeg, nle_T, nlt_T, neq_T, neq_F, b2_0, b2_b, both, reduceCtorEq]
  | succ k ih =>
    intro i hi
    have ih' := ih (i + 1) (by omega)
    rw [← kpy_s] at ih'
    have ec : ((i + 1 : Nat) : Int) = (i : Int) + 1 := by omega
    have ec2 : ((c + (i + 1) : Nat) : Int) = ((c + i : Nat) : Int) + 1 := by omega
    rw [ec, ec2] at ih'
    rw [H_X12_passes_2]
    simp (config := { contextual := true }) (disch := omega) only [R_X12_passes, hW, hk, hK, pr_s, pr_o, uf_s, uf_o, up_pr, pr_pr, pr_in, uf_uf, ih', true_and, and_true, true_implies, not_true_eq_false, false_implies, not_false_eq_true, false_and, and_false, or_true, true_or, false_or, or_false, implies_true, forall_const, kl_i, kl_n, kl_r, kl_l, tl_s, tl_n, List.cons_append, List.nil_append, Int.cast_ofNat_Int, w32_id, w64_id, le_T, le_F, lt_T, lt_F, eq_T, eq_F, reduceIte, ne_eq, Int.toNat_natCast, bi_0, bi_1, bi_b, Nat.reduceAdd, Nat.reduceEqDiff, Int.reduceToNat, Int.reduceNeg, nle_T, nlt_T, neq_T, neq_F, b2_0, b2_b, both, reduceCtorEq]
theorem ct_psK (hW : WM g) (hk : gK g a = (1, n)) (ha : ¬ a = 57 ∧ ¬ a = 80) (hK : I 57 32 = 1) (hc0 : I 57 33 = (c : Int)) (hc : c + n ≤ 400) (Q : QQ) : WP d m_X12_passes 0 [some (vr (some 57)), some (vr (some a)), none] [] g I Q = Q none g (pr (pr I 80 (kpy (I 80) (I a) c n)) 57 (uf (I 57) 33 (c + n : Nat))) := by
  have h := lp_psK (d := d) hW hk ha hK hc Q n 0 (by omega)
  have e1 : uf (I 57) 33 ((c + 0 : Nat) : Int) = I 57 := by
    rw [Nat.add_zero, ← hc0, uf_id]
  rw [kpy_0, e1, pr_id, pr_id] at h
  simp (config := { contextual := true }) (disch := omega) only [R_X12_passes, true_and, and_true, true_implies, not_true_eq_false, false_implies, not_false_eq_true, false_and, and_false, or_true, true_or, false_or, or_false, implies_true, forall_const, kl_i, kl_n, kl_r, kl_l, tl_s, tl_n, List.cons_append, List.nil_append, Int.cast_ofNat_Int, w32_id, w64_id, le_T, le_F, lt_T, lt_F, eq_T, eq_F, reduceIte, ne_eq, Int.toNat_natCast, bi_0, bi_1, bi_b, Nat.reduceAdd, Nat.reduceEqDiff, Int.reduceToNat, Int.reduceNeg, nle_T, nlt_T, neq_T, neq_F, b2_0, b2_b, both, reduceCtorEq]
  exact h
theorem lp_psR (hW : WM g) (hk : gK g a = (1, n)) (ha : ¬ a = 57 ∧ ¬ a = 80) (hK : I 57 32 = 0) (hc : c + n ≤ 400) (Q : QQ) : ∀ k i : Nat, i + k = n → WP d m_X12_passes 2 [some (vr (some 57)), some (vr (some a)), some (vi i)] [] g (pr (pr I a (fll (fun j => I 80 (c + j)) i (I a))) 57 (uf (I 57) 33 (c + i : Nat))) Q = Q none g (pr (pr I a (fll (fun j => I 80 (c + j)) n (I a))) 57 (uf (I 57) 33 (c + n : Nat))) := by
  intro k
  induction k with
  | zero =>
    intro i hi
    obtain rfl : i = n := by omega
    rw [H_X12_passes_2]
    simp (config := { contextual := true }) (disch := omega) only [R_X12_passes, hW, hk, pr_s, pr_o, true_and, and_true, true_implies, not_true_eq_false, false_implies, not_false_eq_true, false_and, and_false, or_true, true_or, false_or, or_false, implies_true, forall_const, kl_i, kl_n, kl_r, kl_l, tl_s, tl_n, List.cons_append, List.nil_append, Int.cast_ofNat_Int, w32_id, w64_id, le_T, le_F, lt_T, lt_F, eq_T, eq_F, reduceIte, ne_eq, Int.toNat_natCast, bi_0, bi_1, bi_b, Nat.reduceAdd, Nat.reduceEqDiff, Int.reduceToNat, Int.reduceNeg, nle_T, nlt_T, neq_T, neq_F, b2_0, b2_b, both, reduceCtorEq]
  | succ k ih =>
    intro i hi
    have ih' := ih (i + 1) (by omega)
    have ef := fll_s (fun j => I 80 (c + j)) i (I a) (v := I 80 (c + i)) rfl
    rw [← ef] at ih'
    have ec : ((i + 1 : Nat) : Int) = (i : Int) + 1 := by omega
    have ec2 : ((c + (i + 1) : Nat) : Int) = ((c + i : Nat) : Int) + 1 := by omega
    rw [ec, ec2] at ih'
    rw [H_X12_passes_2]
    simp (config := { contextual := true }) (disch := omega) only [R_X12_passes, hW, hk, hK, pr_s, pr_o, uf_s, uf_o, up_pr, pr_pr, pr_in, uf_uf, ih', true_and, and_true, true_implies, not_true_eq_false, false_implies, not_false_eq_true, false_and, and_false, or_true, true_or, false_or, or_false, implies_true, forall_const, kl_i, kl_n, kl_r, kl_l, tl_s, tl_n, List.cons_append, List.nil_append, Int.cast_ofNat_Int, w32_id, w64_id, le_T, le_F, lt_T, lt_F, eq_T, eq_F, reduceIte, ne_eq, Int.toNat_natCast, bi_0, bi_1, bi_b, Nat.reduceAdd, Nat.reduceEqDiff, Int.reduceToNat, Int.reduceNeg, nle_T, nlt_T, neq_T, neq_F, b2_0, b2_b, both, reduceCtorEq]
theorem ct_psR (hW : WM g) (hk : gK g a = (1, n)) (ha : ¬ a = 57 ∧ ¬ a = 80) (hK : I 57 32 = 0) (hc0 : I 57 33 = (c : Int)) (hc : c + n ≤ 400) (Q : QQ) : WP d m_X12_passes 0 [some (vr (some 57)), some (vr (some a)), none] [] g I Q = Q none g (pr (pr I a (fll (fun j => I 80 (c + j)) n (I a))) 57 (uf (I 57) 33 (c + n : Nat))) := by
  have h := lp_psR (d := d) hW hk ha hK hc Q n 0 (by omega)
  have e1 : uf (I 57) 33 ((c + 0 : Nat) : Int) = I 57 := by
    rw [Nat.add_zero, ← hc0, uf_id]
  rw [fll_0, e1, pr_id, pr_id] at h
  simp (config := { contextual := true }) (disch := omega) only [R_X12_passes, true_and, and_true, true_implies, not_true_eq_false, false_implies, not_false_eq_true, false_and, and_false, or_true, true_or, false_or, or_false, implies_true, forall_const, kl_i, kl_n, kl_r, kl_l, tl_s, tl_n, List.cons_append, List.nil_append, Int.cast_ofNat_Int, w32_id, w64_id, le_T, le_F, lt_T, lt_F, eq_T, eq_F, reduceIte, ne_eq, Int.toNat_natCast, bi_0, bi_1, bi_b, Nat.reduceAdd, Nat.reduceEqDiff, Int.reduceToNat, Int.reduceNeg, nle_T, nlt_T, neq_T, neq_F, b2_0, b2_b, both, reduceCtorEq]
  exact h
theorem ct_p1K (hW : WM g) (hK : I 57 32 = 1) (hc0 : I 57 33 = (c : Int)) (hc : c < 400) (v : Int) (Q : QQ) : WP d m_X12_passOne 0 [some (vr (some 57)), some (vi v), none] [] g I Q = Q (some (vi v)) g (pr (pr I 80 (uf (I 80) c v)) 57 (uf (I 57) 33 (c + 1 : Nat))) := by
  have ec : ((c + 1 : Nat) : Int) = (c : Int) + 1 := by omega
  rw [ec]
  simp (config := { contextual := true }) (disch := omega) only [R_X12_passOne, hW, hK, hc0, pr_s, pr_o, up_pr, true_and, and_true, true_implies, not_true_eq_false, false_implies, not_false_eq_true, false_and, and_false, or_true, true_or, false_or, or_false, implies_true, forall_const, kl_i, kl_n, kl_r, kl_l, tl_s, tl_n, List.cons_append, List.nil_append, Int.cast_ofNat_Int, w32_id, w64_id, le_T, le_F, lt_T, lt_F, eq_T, eq_F, reduceIte, ne_eq, Int.toNat_natCast, bi_0, bi_1, bi_b, Nat.reduceAdd, Nat.reduceEqDiff, Int.reduceToNat, Int.reduceNeg, nle_T, nlt_T, neq_T, neq_F, b2_0, b2_b, both, reduceCtorEq]
theorem ct_p1R (hW : WM g) (hK : I 57 32 = 0) (hc0 : I 57 33 = (c : Int)) (hc : c < 400) (v : Int) (Q : QQ) : WP d m_X12_passOne 0 [some (vr (some 57)), some (vi v), none] [] g I Q = Q (some (vi (I 80 c))) g (pr I 57 (uf (I 57) 33 (c + 1 : Nat))) := by
  have ec : ((c + 1 : Nat) : Int) = (c : Int) + 1 := by omega
  rw [ec]
  simp (config := { contextual := true }) (disch := omega) only [R_X12_passOne, hW, hK, hc0, pr_s, pr_o, up_pr, true_and, and_true, true_implies, not_true_eq_false, false_implies, not_false_eq_true, false_and, and_false, or_true, true_or, false_or, or_false, implies_true, forall_const, kl_i, kl_n, kl_r, kl_l, tl_s, tl_n, List.cons_append, List.nil_append, Int.cast_ofNat_Int, w32_id, w64_id, le_T, le_F, lt_T, lt_F, eq_T, eq_F, reduceIte, ne_eq, Int.toNat_natCast, bi_0, bi_1, bi_b, Nat.reduceAdd, Nat.reduceEqDiff, Int.reduceToNat, Int.reduceNeg, nle_T, nlt_T, neq_T, neq_F, b2_0, b2_b, both, reduceCtorEq]
end PASS

-- LAND: one statement, and the model's reading of it
def nby (T : Nat → Int) (n a : Nat) : Int := if a < n then T a else -1
abbrev dgt (T : Nat → Int) (n a : Nat) : Prop := a < n ∧ 48 ≤ T a ∧ T a ≤ 57
def nbr (T : Nat → Int) (n : Nat) : Nat → Int → Nat → Int × Nat
  | 0, v, a => (v, a)
  | k + 1, v, a => if dgt T n a then nbr T n k (10 * v + T a - 48) (a + 1) else (v, a)
def num (T : Nat → Int) (n k a : Nat) : Int × Nat := if dgt T n a then nbr T n k 0 a else (-1, a)
def kdo (b : Int) : Int := if b = 111 then 0 else if b = 97 then 1 else if b = 98 then 2 else if b = 121 then 3 else if b = 103 then 4 else if b = 108 then 5 else -1
abbrev RG : Type := Int × Int × Int × Int × Int
abbrev PRS : Type := Bool × Nat × RG
def noP (a : Nat) : PRS := (false, a, 0, 0, 0, 0, 0)
def stN (T : Nat → Int) (n a : Nat) : PRS := if (num T n 1 a).1 < 0 then noP a else if nby T n (num T n 1 a).2 = 59 then (true, (num T n 1 a).2 + 1, 110, (num T n 1 a).1, 0, 0, 0) else noP (num T n 1 a).2
/-- , a number of three digits at most ; -/
def stE (T : Nat → Int) (n a : Nat) (r : Int → RG) : PRS := if ¬ nby T n a = 44 then noP a else if (num T n 3 (a + 1)).1 < 0 then noP (a + 1) else if nby T n (num T n 3 (a + 1)).2 = 59 then (true, (num T n 3 (a + 1)).2 + 1, r (num T n 3 (a + 1)).1) else noP (num T n 3 (a + 1)).2
def stW (T : Nat → Int) (n a : Nat) : PRS := if (num T n 1 a).1 < 0 then noP a else if (num T n 1 (num T n 1 a).2).1 < 0 then noP (num T n 1 a).2 else stE T n (num T n 1 (num T n 1 a).2).2 (fun c => (119, (num T n 1 a).1, (num T n 1 (num T n 1 a).2).1, c, 0))
def stT (T : Nat → Int) (n a : Nat) : PRS := if kdo (nby T n a) < 0 then noP a else if (num T n 1 (a + 1)).1 < 0 then noP (a + 1) else if (num T n 2 (num T n 1 (a + 1)).2).1 < 0 then noP (num T n 1 (a + 1)).2 else stE T n (num T n 2 (num T n 1 (a + 1)).2).2 (fun c => (116, kdo (nby T n a), (num T n 1 (a + 1)).1, (num T n 2 (num T n 1 (a + 1)).2).1, c))
def stp (T : Nat → Int) (n a : Nat) : PRS := if nby T n a = 110 then stN T n (a + 1) else if nby T n a = 119 then stW T n (a + 1) else if nby T n a = 116 then stT T n (a + 1) else noP a
def pw (v : Int) : Nat → Int
  | 0 => v
  | k + 1 => 10 * pw v k + 9
theorem pw_s (v : Int) : ∀ k, pw (10 * v + 9) k = pw v (k + 1)
  | 0 => rfl
  | k + 1 => by
    show 10 * pw (10 * v + 9) k + 9 = 10 * pw v (k + 1) + 9
    rw [pw_s v k]
theorem pw_m {v v' : Int} (h : v ≤ v') : ∀ k, pw v k ≤ pw v' k
  | 0 => h
  | k + 1 => by
    have := pw_m h k
    show 10 * pw v k + 9 ≤ 10 * pw v' k + 9
    omega
theorem pw_g {v : Int} (h : 0 ≤ v) : ∀ k, v ≤ pw v k
  | 0 => Int.le_refl v
  | k + 1 => by
    have := pw_g h k
    show v ≤ 10 * pw v k + 9
    omega
section PARSE
variable {T : Nat → Int} {n : Nat}
theorem nbr_p : ∀ k (v : Int) (a : Nat), a ≤ n → a ≤ (nbr T n k v a).2 ∧ (nbr T n k v a).2 ≤ n ∧ (nbr T n k v a).2 ≤ a + k
  | 0, v, a, ha => ⟨Nat.le_refl a, ha, by show a ≤ a + 0; omega⟩
  | k + 1, v, a, ha => by
    have e : nbr T n (k + 1) v a = if dgt T n a then nbr T n k (10 * v + T a - 48) (a + 1) else (v, a) := rfl
    rw [e]
    by_cases c : dgt T n a
    · rw [if_pos c]
      have ih := nbr_p k (10 * v + T a - 48) (a + 1) (by omega)
      omega
    · rw [if_neg c]
      exact ⟨Nat.le_refl a, ha, by show a ≤ a + (k + 1); omega⟩
theorem nbr_v : ∀ k (v : Int) (a : Nat), 0 ≤ v → 0 ≤ (nbr T n k v a).1 ∧ (nbr T n k v a).1 ≤ pw v k
  | 0, v, a, h0 => ⟨h0, Int.le_refl v⟩
  | k + 1, v, a, h0 => by
    have e : nbr T n (k + 1) v a = if dgt T n a then nbr T n k (10 * v + T a - 48) (a + 1) else (v, a) := rfl
    rw [e]
    by_cases c : dgt T n a
    · rw [if_pos c]
      have ih := nbr_v k (10 * v + T a - 48) (a + 1) (by omega)
      have h1 := pw_m (by omega : 10 * v + T a - 48 ≤ 10 * v + 9) k
      rw [pw_s] at h1
      omega
    · rw [if_neg c]
      exact ⟨h0, pw_g h0 (k + 1)⟩
theorem num_p {k a : Nat} (ha : a ≤ n) : a ≤ (num T n k a).2 ∧ (num T n k a).2 ≤ n := by
  unfold num
  split
  · have := nbr_p (T := T) k 0 a ha; omega
  · exact ⟨Nat.le_refl a, ha⟩
theorem num_v {k a : Nat} : -1 ≤ (num T n k a).1 ∧ (num T n k a).1 ≤ max (-1) (pw 0 k) := by
  unfold num
  split
  · have := nbr_v (T := T) (n := n) k 0 a (by omega); omega
  · exact ⟨by show (-1 : Int) ≤ -1; omega, by show (-1 : Int) ≤ _; omega⟩
/-- where a number begins that is there: the byte is there -/
theorem num_lt {k a : Nat} (h : ¬ (num T n k a).1 < 0) : a < n := by
  unfold num at h
  by_cases c : dgt T n a
  · exact c.1
  · rw [if_neg c] at h
    exact absurd (by show (-1 : Int) < 0; omega) h
theorem kdo_b (b : Int) : -1 ≤ kdo b ∧ kdo b ≤ 5 := by
  unfold kdo
  repeat' split
  all_goals omega
theorem nby_n {a : Nat} (h : n ≤ a) : nby T n a = -1 := if_neg (by omega)
theorem nby_l {a : Nat} (h : a < n) : nby T n a = T a := if_pos h
end PARSE
-- the model
section MPARSE
variable {g : GG} {I : II} {n : Nat}
abbrev TP (I : II) (n : Nat) : Prop := I 57 27 = (n : Int) ∧ n ≤ 64 ∧ ∀ j, j < 64 → 0 ≤ I 73 j ∧ I 73 j ≤ 255
def atA (I : II) (a : Nat) : II := pr I 57 (uf (I 57) 28 a)
theorem atA_o {I : II} {a b : Nat} (h : ¬ b = 57) : atA I a b = I b := pr_o h
theorem atA_f {I : II} {a j : Nat} (h : ¬ j = 28) : atA I a 57 j = I 57 j := by unfold atA; rw [pr_s, uf_o h]
theorem atA_28 {I : II} {a : Nat} : atA I a 57 28 = (a : Int) := by unfold atA; rw [pr_s, uf_s]
theorem atA_w {I : II} {a : Nat} {v : Int} (b : Nat) (h : v = (b : Int)) : pr (atA I a) 57 (uf (atA I a 57) 28 v) = atA I b := by
  subst h
  unfold atA
  rw [pr_s, pr_pr, uf_uf]
theorem atA_id {I : II} {a : Nat} (h : I 57 28 = (a : Int)) : atA I a = I := by unfold atA; rw [← h, uf_id, pr_id]
theorem TP_at (h : TP I n) (a : Nat) : TP (atA I a) n := by
  refine ⟨by rw [atA_f (by omega)]; exact h.1, h.2.1, ?_⟩
  rw [atA_o (by omega)]; exact h.2.2
theorem ct_nby (hW : WM g) (h : TP I n) (a : Nat) (d : Nat) (Q : QQ) : WP d m_X12_nextByte 0 [some (vr (some 57))] [] g (atA I a) Q = Q (some (vi (nby (I 73) n a))) g (atA I a) := by
  have h27 : atA I a 57 27 = (n : Int) := by rw [atA_f (by omega)]; exact h.1
  have hn := h.2.1
  by_cases c : a < n
  · rw [nby_l c]
    simp (config := { contextual := true }) (disch := omega) only [R_X12_nextByte, hW, atA_28, h27, atA_o, true_and, and_true, true_implies, not_true_eq_false, false_implies, not_false_eq_true, false_and, and_false, or_true, true_or, false_or, or_false, implies_true, forall_const, kl_i, kl_n, kl_r, kl_l, tl_s, tl_n, List.cons_append, List.nil_append, Int.cast_ofNat_Int, w32_id, w64_id, le_T, le_F, lt_T, lt_F, eq_T, eq_F, reduceIte, ne_eq, Int.toNat_natCast, bi_0, bi_1, bi_b, Nat.reduceAdd, Nat.reduceEqDiff, Int.reduceToNat, Int.reduceNeg, nle_T, nlt_T, neq_T, neq_F, b2_0, b2_b, both, reduceCtorEq]
  · rw [nby_n (by omega)]
    simp (config := { contextual := true }) (disch := omega) only [R_X12_nextByte, hW, atA_28, h27, true_and, and_true, true_implies, not_true_eq_false, false_implies, not_false_eq_true, false_and, and_false, or_true, true_or, false_or, or_false, implies_true, forall_const, kl_i, kl_n, kl_r, kl_l, tl_s, tl_n, List.cons_append, List.nil_append, Int.cast_ofNat_Int, w32_id, w64_id, le_T, le_F, lt_T, lt_F, eq_T, eq_F, reduceIte, ne_eq, Int.toNat_natCast, bi_0, bi_1, bi_b, Nat.reduceAdd, Nat.reduceEqDiff, Int.reduceToNat, Int.reduceNeg, nle_T, nlt_T, neq_T, neq_F, b2_0, b2_b, both, reduceCtorEq]
theorem ct_isN (hW : WM g) (h : TP I n) (a : Nat) (b : Int) (hb : 0 ≤ b) (d : Nat) (Q : QQ) : WP (d + 1) m_X12_isNext 0 [some (vr (some 57)), some (vi b)] [] g (atA I a) Q = Q (some (vi (bi (nby (I 73) n a = b)))) g (atA I (if nby (I 73) n a = b then a + 1 else a)) := by
  have kn := fun Q => ct_nby hW h a d Q
  by_cases c : nby (I 73) n a = b
  · have hl : a < n := by
      by_cases q : a < n
      · exact q
      · rw [nby_n (by omega)] at c; omega
    have hn := h.2.1
    rw [bi_T c, if_pos c]
    have ew := fun v h => atA_w (I := I) (a := a) (v := v) (a + 1) h
    simp (config := { contextual := true }) (disch := omega) only [R_X12_isNext, hW, kn, c, atA_28, up_pr, true_and, and_true, true_implies, not_true_eq_false, false_implies, not_false_eq_true, false_and, and_false, or_true, true_or, false_or, or_false, implies_true, forall_const, kl_i, kl_n, kl_r, kl_l, tl_s, tl_n, List.cons_append, List.nil_append, Int.cast_ofNat_Int, w32_id, w64_id, le_T, le_F, lt_T, lt_F, eq_T, eq_F, reduceIte, ne_eq, Int.toNat_natCast, bi_0, bi_1, bi_b, Nat.reduceAdd, Nat.reduceEqDiff, Int.reduceToNat, Int.reduceNeg, nle_T, nlt_T, neq_T, neq_F, b2_0, b2_b, both, reduceCtorEq]
    rw [ew _ (by omega)]
  · rw [bi_F c, if_neg c]
    simp (config := { contextual := true }) (disch := omega) only [R_X12_isNext, hW, kn, c, true_and, and_true, true_implies, not_true_eq_false, false_implies, not_false_eq_true, false_and, and_false, or_true, true_or, false_or, or_false, implies_true, forall_const, kl_i, kl_n, kl_r, kl_l, tl_s, tl_n, List.cons_append, List.nil_append, Int.cast_ofNat_Int, w32_id, w64_id, le_T, le_F, lt_T, lt_F, eq_T, eq_F, reduceIte, ne_eq, Int.toNat_natCast, bi_0, bi_1, bi_b, Nat.reduceAdd, Nat.reduceEqDiff, Int.reduceToNat, Int.reduceNeg, nle_T, nlt_T, neq_T, neq_F, b2_0, b2_b, both, reduceCtorEq]
theorem nby_dg {T : Nat → Int} {n a : Nat} : (48 ≤ nby T n a ∧ nby T n a ≤ 57) = dgt T n a := by
  refine propext ⟨fun h => ?_, fun h => ?_⟩
  · by_cases c : a < n
    · rw [nby_l c] at h; exact ⟨c, h⟩
    · rw [nby_n (by omega)] at h; omega
  · rw [nby_l h.1]; exact h.2
theorem lp_num (hW : WM g) (h : TP I n) {m : Nat} (hm : m ≤ 3) (d : Nat) (Q : QQ) : ∀ (k i : Nat), i + k = m → ∀ (v : Int) (a : Nat), 0 ≤ v → pw v k ≤ 999 → WP (d + 1) m_X12_number 20 [some (vr (some 57)), some (vi m), some (vi v), some (vi i)] [] g (atA I a) Q = Q (some (vi (nbr (I 73) n k v a).1)) g (atA I (nbr (I 73) n k v a).2) := by
  have hn := h.2.1
  intro k
  induction k with
  | zero =>
    intro i hi v a h0 hp
    obtain rfl : i = m := by omega
    rw [H_X12_number_20]
    simp (config := { contextual := true }) (disch := omega) only [R_X12_number, hW, true_and, and_true, true_implies, not_true_eq_false, false_implies, not_false_eq_true, false_and, and_false, or_true, true_or, false_or, or_false, implies_true, forall_const, kl_i, kl_n, kl_r, kl_l, tl_s, tl_n, List.cons_append, List.nil_append, Int.cast_ofNat_Int, w32_id, w64_id, le_T, le_F, lt_T, lt_F, eq_T, eq_F, reduceIte, ne_eq, Int.toNat_natCast, bi_0, bi_1, bi_b, Nat.reduceAdd, Nat.reduceEqDiff, Int.reduceToNat, Int.reduceNeg, nle_T, nlt_T, neq_T, neq_F, b2_0, b2_b, both, reduceCtorEq]
    rfl
  | succ k ih =>
    intro i hi v a h0 hp
    have kn := fun Q => ct_nby hW h a d Q
    have e : nbr (I 73) n (k + 1) v a = if dgt (I 73) n a then nbr (I 73) n k (10 * v + I 73 a - 48) (a + 1) else (v, a) := rfl
    have ec : ((i + 1 : Nat) : Int) = (i : Int) + 1 := by omega
    have hpk := pw_g h0 k
    have hps : pw v (k + 1) = 10 * pw v k + 9 := rfl
    rw [H_X12_number_20, e]
    by_cases c : dgt (I 73) n a
    · rw [if_pos c]
      have hb := nby_l (T := I 73) c.1
      have h1 := pw_m (by omega : 10 * v + I 73 a - 48 ≤ 10 * v + 9) k
      rw [pw_s] at h1
      have ih' := ih (i + 1) (by omega) (10 * v + I 73 a - 48) (a + 1) (by omega) (by omega)
      rw [ec] at ih'
      have ew := atA_w (I := I) (a := a) (v := (a : Int) + 1) (a + 1) (by omega)
      have c48 : 48 ≤ I 73 a ∧ I 73 a ≤ 57 := c.2
      rw [hb] at kn
      simp (config := { contextual := true }) (disch := omega) only [R_X12_number, hW, kn, ct_isIn, c48, atA_28, up_pr, ew, ih', true_and, and_true, true_implies, not_true_eq_false, false_implies, not_false_eq_true, false_and, and_false, or_true, true_or, false_or, or_false, implies_true, forall_const, kl_i, kl_n, kl_r, kl_l, tl_s, tl_n, List.cons_append, List.nil_append, Int.cast_ofNat_Int, w32_id, w64_id, le_T, le_F, lt_T, lt_F, eq_T, eq_F, reduceIte, ne_eq, Int.toNat_natCast, bi_0, bi_1, bi_b, Nat.reduceAdd, Nat.reduceEqDiff, Int.reduceToNat, Int.reduceNeg, nle_T, nlt_T, neq_T, neq_F, b2_0, b2_b, both, reduceCtorEq]
    · rw [if_neg c]
      have c2 : ¬ (48 ≤ nby (I 73) n a ∧ nby (I 73) n a ≤ 57) := by rw [nby_dg]; exact c
      simp (config := { contextual := true }) (disch := omega) only [R_X12_number, hW, kn, ct_isIn, c2, true_and, and_true, true_implies, not_true_eq_false, false_implies, not_false_eq_true, false_and, and_false, or_true, true_or, false_or, or_false, implies_true, forall_const, kl_i, kl_n, kl_r, kl_l, tl_s, tl_n, List.cons_append, List.nil_append, Int.cast_ofNat_Int, w32_id, w64_id, le_T, le_F, lt_T, lt_F, eq_T, eq_F, reduceIte, ne_eq, Int.toNat_natCast, bi_0, bi_1, bi_b, Nat.reduceAdd, Nat.reduceEqDiff, Int.reduceToNat, Int.reduceNeg, nle_T, nlt_T, neq_T, neq_F, b2_0, b2_b, both, reduceCtorEq]
theorem ct_num (hW : WM g) (h : TP I n) {m : Nat} (hm : m ≤ 3) (a : Nat) (d : Nat) (Q : QQ) : WP (d + 1) m_X12_number 0 [some (vr (some 57)), some (vi m), none, none] [] g (atA I a) Q = Q (some (vi (num (I 73) n m a).1)) g (atA I (num (I 73) n m a).2) := by
  have kn := fun Q => ct_nby hW h a d Q
  unfold num
  by_cases c : dgt (I 73) n a
  · rw [if_pos c]
    have hb := nby_l (T := I 73) c.1
    have c48 : 48 ≤ I 73 a ∧ I 73 a ≤ 57 := c.2
    have hp : pw 0 m ≤ 999 := by
      rcases (by omega : m = 0 ∨ m = 1 ∨ m = 2 ∨ m = 3) with r | r | r | r <;> subst r <;> decide
    have hl := lp_num hW h hm d Q m 0 (by omega) 0 a (by omega) hp
    rw [hb] at kn
    simp (config := { contextual := true }) (disch := omega) only [R_X12_number, hW, kn, ct_isIn, c48, true_and, and_true, true_implies, not_true_eq_false, false_implies, not_false_eq_true, false_and, and_false, or_true, true_or, false_or, or_false, implies_true, forall_const, kl_i, kl_n, kl_r, kl_l, tl_s, tl_n, List.cons_append, List.nil_append, Int.cast_ofNat_Int, w32_id, w64_id, le_T, le_F, lt_T, lt_F, eq_T, eq_F, reduceIte, ne_eq, Int.toNat_natCast, bi_0, bi_1, bi_b, Nat.reduceAdd, Nat.reduceEqDiff, Int.reduceToNat, Int.reduceNeg, nle_T, nlt_T, neq_T, neq_F, b2_0, b2_b, both, reduceCtorEq]
    exact hl
  · rw [if_neg c]
    have c2 : ¬ (48 ≤ nby (I 73) n a ∧ nby (I 73) n a ≤ 57) := by rw [nby_dg]; exact c
    simp (config := { contextual := true }) (disch := omega) only [R_X12_number, hW, kn, ct_isIn, c2, true_and, and_true, true_implies, not_true_eq_false, false_implies, not_false_eq_true, false_and, and_false, or_true, true_or, false_or, or_false, implies_true, forall_const, kl_i, kl_n, kl_r, kl_l, tl_s, tl_n, List.cons_append, List.nil_append, Int.cast_ofNat_Int, w32_id, w64_id, le_T, le_F, lt_T, lt_F, eq_T, eq_F, reduceIte, ne_eq, Int.toNat_natCast, bi_0, bi_1, bi_b, Nat.reduceAdd, Nat.reduceEqDiff, Int.reduceToNat, Int.reduceNeg, nle_T, nlt_T, neq_T, neq_F, b2_0, b2_b, both, reduceCtorEq]
theorem ct_kdo (b : Int) (d : Nat) (Q : QQ) : WP d m_X12_kindOf 0 [some (vi b)] [] g I Q = Q (some (vi (kdo b))) g I := by
  unfold kdo
  by_cases c1 : b = 111
  · rw [if_pos c1, c1]
    simp (config := { contextual := true }) (disch := omega) only [R_X12_kindOf, true_and, and_true, true_implies, not_true_eq_false, false_implies, not_false_eq_true, false_and, and_false, or_true, true_or, false_or, or_false, implies_true, forall_const, kl_i, kl_n, kl_r, kl_l, tl_s, tl_n, List.cons_append, List.nil_append, Int.cast_ofNat_Int, w32_id, w64_id, le_T, le_F, lt_T, lt_F, eq_T, eq_F, reduceIte, ne_eq, Int.toNat_natCast, bi_0, bi_1, bi_b, Nat.reduceAdd, Nat.reduceEqDiff, Int.reduceToNat, Int.reduceNeg, nle_T, nlt_T, neq_T, neq_F, b2_0, b2_b, both, reduceCtorEq]
  rw [if_neg c1]
  by_cases c2 : b = 97
  · rw [if_pos c2, c2]
    simp (config := { contextual := true }) (disch := omega) only [R_X12_kindOf, true_and, and_true, true_implies, not_true_eq_false, false_implies, not_false_eq_true, false_and, and_false, or_true, true_or, false_or, or_false, implies_true, forall_const, kl_i, kl_n, kl_r, kl_l, tl_s, tl_n, List.cons_append, List.nil_append, Int.cast_ofNat_Int, w32_id, w64_id, le_T, le_F, lt_T, lt_F, eq_T, eq_F, reduceIte, ne_eq, Int.toNat_natCast, bi_0, bi_1, bi_b, Nat.reduceAdd, Nat.reduceEqDiff, Int.reduceToNat, Int.reduceNeg, nle_T, nlt_T, neq_T, neq_F, b2_0, b2_b, both, reduceCtorEq]
  rw [if_neg c2]
  by_cases c3 : b = 98
  · rw [if_pos c3, c3]
    simp (config := { contextual := true }) (disch := omega) only [R_X12_kindOf, true_and, and_true, true_implies, not_true_eq_false, false_implies, not_false_eq_true, false_and, and_false, or_true, true_or, false_or, or_false, implies_true, forall_const, kl_i, kl_n, kl_r, kl_l, tl_s, tl_n, List.cons_append, List.nil_append, Int.cast_ofNat_Int, w32_id, w64_id, le_T, le_F, lt_T, lt_F, eq_T, eq_F, reduceIte, ne_eq, Int.toNat_natCast, bi_0, bi_1, bi_b, Nat.reduceAdd, Nat.reduceEqDiff, Int.reduceToNat, Int.reduceNeg, nle_T, nlt_T, neq_T, neq_F, b2_0, b2_b, both, reduceCtorEq]
  rw [if_neg c3]
  by_cases c4 : b = 121
  · rw [if_pos c4, c4]
    simp (config := { contextual := true }) (disch := omega) only [R_X12_kindOf, true_and, and_true, true_implies, not_true_eq_false, false_implies, not_false_eq_true, false_and, and_false, or_true, true_or, false_or, or_false, implies_true, forall_const, kl_i, kl_n, kl_r, kl_l, tl_s, tl_n, List.cons_append, List.nil_append, Int.cast_ofNat_Int, w32_id, w64_id, le_T, le_F, lt_T, lt_F, eq_T, eq_F, reduceIte, ne_eq, Int.toNat_natCast, bi_0, bi_1, bi_b, Nat.reduceAdd, Nat.reduceEqDiff, Int.reduceToNat, Int.reduceNeg, nle_T, nlt_T, neq_T, neq_F, b2_0, b2_b, both, reduceCtorEq]
  rw [if_neg c4]
  by_cases c5 : b = 103
  · rw [if_pos c5, c5]
    simp (config := { contextual := true }) (disch := omega) only [R_X12_kindOf, true_and, and_true, true_implies, not_true_eq_false, false_implies, not_false_eq_true, false_and, and_false, or_true, true_or, false_or, or_false, implies_true, forall_const, kl_i, kl_n, kl_r, kl_l, tl_s, tl_n, List.cons_append, List.nil_append, Int.cast_ofNat_Int, w32_id, w64_id, le_T, le_F, lt_T, lt_F, eq_T, eq_F, reduceIte, ne_eq, Int.toNat_natCast, bi_0, bi_1, bi_b, Nat.reduceAdd, Nat.reduceEqDiff, Int.reduceToNat, Int.reduceNeg, nle_T, nlt_T, neq_T, neq_F, b2_0, b2_b, both, reduceCtorEq]
  rw [if_neg c5]
  by_cases c6 : b = 108
  · rw [if_pos c6, c6]
    simp (config := { contextual := true }) (disch := omega) only [R_X12_kindOf, true_and, and_true, true_implies, not_true_eq_false, false_implies, not_false_eq_true, false_and, and_false, or_true, true_or, false_or, or_false, implies_true, forall_const, kl_i, kl_n, kl_r, kl_l, tl_s, tl_n, List.cons_append, List.nil_append, Int.cast_ofNat_Int, w32_id, w64_id, le_T, le_F, lt_T, lt_F, eq_T, eq_F, reduceIte, ne_eq, Int.toNat_natCast, bi_0, bi_1, bi_b, Nat.reduceAdd, Nat.reduceEqDiff, Int.reduceToNat, Int.reduceNeg, nle_T, nlt_T, neq_T, neq_F, b2_0, b2_b, both, reduceCtorEq]
  rw [if_neg c6]
  simp (config := { contextual := true }) (disch := omega) only [R_X12_kindOf, c1, c2, c3, c4, c5, c6, true_and, and_true, true_implies, not_true_eq_false, false_implies, not_false_eq_true, false_and, and_false, or_true, true_or, false_or, or_false, implies_true, forall_const, kl_i, kl_n, kl_r, kl_l, tl_s, tl_n, List.cons_append, List.nil_append, Int.cast_ofNat_Int, w32_id, w64_id, le_T, le_F, lt_T, lt_F, eq_T, eq_F, reduceIte, ne_eq, Int.toNat_natCast, bi_0, bi_1, bi_b, Nat.reduceAdd, Nat.reduceEqDiff, Int.reduceToNat, Int.reduceNeg, nle_T, nlt_T, neq_T, neq_F, b2_0, b2_b, both, reduceCtorEq]
end MPARSE

-- LAND: the letters of the kinds (a String), the class's reader
abbrev STR (g : GG) (I : II) : Prop := gK g 1 = (0, 12) ∧ gK g 2 = (4, 6) ∧ gR g 1 0 = some 2 ∧ (∀ j, I 2 j = KL.getD j 0) ∧ I 1 1 = 0
def kx (b : Int) : Nat → Nat → Int
  | 0, _ => -1
  | k + 1, i => if KL.getD i 0 = b then (i : Int) else kx b k (i + 1)
theorem kx_kdo : ∀ c, c < 256 → kx (iI2b ((c : Nat) : Int)) 6 0 = kdo ((c : Nat) : Int) := by decide +kernel
theorem i2c_id : ∀ c, c < 256 → iI2c ((c : Nat) : Int) = ((c : Nat) : Int) := by decide +kernel
theorem chr_tab : ∀ k, k < 6 → iI2c (iAnd (KL.getD k 0) 255) = KL.getD k 0 := by decide +kernel
theorem chr_b : ∀ k, k < 6 → 0 ≤ KL.getD k 0 ∧ KL.getD k 0 < 65536 := by decide
section STRS
variable {g : GG} {I : II}
theorem ct_lat (h : STR g I) (d : Nat) (Q : QQ) : WP d m_J0_isLatin1_aae02 0 [some (vr (some 1))] [] g I Q = Q (some (vi 1)) g I := by
  obtain ⟨h1, h2, h3, h4, h5⟩ := h
  simp (config := { contextual := true }) (disch := omega) only [R_J0_isLatin1_aae02, h1, h5, true_and, and_true, true_implies, not_true_eq_false, false_implies, not_false_eq_true, false_and, and_false, or_true, true_or, false_or, or_false, implies_true, forall_const, kl_i, kl_n, kl_r, kl_l, tl_s, tl_n, List.cons_append, List.nil_append, Int.cast_ofNat_Int, w32_id, w64_id, le_T, le_F, lt_T, lt_F, eq_T, eq_F, reduceIte, ne_eq, Int.toNat_natCast, bi_0, bi_1, bi_b, Nat.reduceAdd, Nat.reduceEqDiff, Int.reduceToNat, Int.reduceNeg, nle_T, nlt_T, neq_T, neq_F, b2_0, b2_b, both, reduceCtorEq]
theorem ct_cod (h : STR g I) (d : Nat) (Q : QQ) : WP d m_J0_coder_7d493 0 [some (vr (some 1))] [] g I Q = Q (some (vi 0)) g I := by
  obtain ⟨h1, h2, h3, h4, h5⟩ := h
  simp (config := { contextual := true }) (disch := omega) only [R_J0_coder_7d493, h1, h5, true_and, and_true, true_implies, not_true_eq_false, false_implies, not_false_eq_true, false_and, and_false, or_true, true_or, false_or, or_false, implies_true, forall_const, kl_i, kl_n, kl_r, kl_l, tl_s, tl_n, List.cons_append, List.nil_append, Int.cast_ofNat_Int, w32_id, w64_id, le_T, le_F, lt_T, lt_F, eq_T, eq_F, reduceIte, ne_eq, Int.toNat_natCast, bi_0, bi_1, bi_b, Nat.reduceAdd, Nat.reduceEqDiff, Int.reduceToNat, Int.reduceNeg, nle_T, nlt_T, neq_T, neq_F, b2_0, b2_b, both, reduceCtorEq]
theorem ct_len (h : STR g I) (d : Nat) (Q : QQ) : WP (d + 1) m_J0_length_8abf5 0 [some (vr (some 1))] [] g I Q = Q (some (vi 6)) g I := by
  have kc := fun Q => ct_cod h d Q
  obtain ⟨h1, h2, h3, h4, h5⟩ := h
  have e : iShr ((6 : Nat) : Int) 0 = 6 := by decide
  have e6 : ((6 : Nat) : Int) = 6 := rfl
  rw [e6] at e
  simp (config := { contextual := true }) (disch := omega) only [R_J0_length_8abf5, h1, h2, h3, kc, e, true_and, and_true, true_implies, not_true_eq_false, false_implies, not_false_eq_true, false_and, and_false, or_true, true_or, false_or, or_false, implies_true, forall_const, kl_i, kl_n, kl_r, kl_l, tl_s, tl_n, List.cons_append, List.nil_append, Int.cast_ofNat_Int, w32_id, w64_id, le_T, le_F, lt_T, lt_F, eq_T, eq_F, reduceIte, ne_eq, Int.toNat_natCast, bi_0, bi_1, bi_b, Nat.reduceAdd, Nat.reduceEqDiff, Int.reduceToNat, Int.reduceNeg, nle_T, nlt_T, neq_T, neq_F, b2_0, b2_b, both, reduceCtorEq]
theorem lp_ix (h : STR g I) {c b z : Int} (d : Nat) (Q : QQ) : ∀ k i : Nat, i + k = 6 → WP d m_J1_indexOfChar_4cfef 7 [some (vr (some 2)), some (vi c), some (vi z), some (vi 6), some (vi b), some (vi i)] [] g I Q = Q (some (vi (kx b k i))) g I := by
  obtain ⟨h1, h2, h3, h4, h5⟩ := h
  intro k
  induction k with
  | zero =>
    intro i hi
    obtain rfl : i = 6 := by omega
    have e : kx b 0 6 = -1 := rfl
    have e6 : ((6 : Nat) : Int) = 6 := rfl
    rw [H_J1_indexOfChar_4cfef_7, e, e6]
    simp (config := { contextual := true }) (disch := omega) only [R_J1_indexOfChar_4cfef, h2, true_and, and_true, true_implies, not_true_eq_false, false_implies, not_false_eq_true, false_and, and_false, or_true, true_or, false_or, or_false, implies_true, forall_const, kl_i, kl_n, kl_r, kl_l, tl_s, tl_n, List.cons_append, List.nil_append, Int.cast_ofNat_Int, w32_id, w64_id, le_T, le_F, lt_T, lt_F, eq_T, eq_F, reduceIte, ne_eq, Int.toNat_natCast, bi_0, bi_1, bi_b, Nat.reduceAdd, Nat.reduceEqDiff, Int.reduceToNat, Int.reduceNeg, nle_T, nlt_T, neq_T, neq_F, b2_0, b2_b, both, reduceCtorEq]
  | succ k ih =>
    intro i hi
    have ih' := ih (i + 1) (by omega)
    have ec : ((i + 1 : Nat) : Int) = (i : Int) + 1 := by omega
    have e : kx b (k + 1) i = if KL.getD i 0 = b then (i : Int) else kx b k (i + 1) := rfl
    have hi2 := h4 i
    rw [ec] at ih'
    rw [H_J1_indexOfChar_4cfef_7, e]
    generalize KL.getD i 0 = y at hi2 ⊢
    by_cases q : y = b
    · rw [if_pos q]
      simp (config := { contextual := true }) (disch := omega) only [R_J1_indexOfChar_4cfef, h2, hi2, q, true_and, and_true, true_implies, not_true_eq_false, false_implies, not_false_eq_true, false_and, and_false, or_true, true_or, false_or, or_false, implies_true, forall_const, kl_i, kl_n, kl_r, kl_l, tl_s, tl_n, List.cons_append, List.nil_append, Int.cast_ofNat_Int, w32_id, w64_id, le_T, le_F, lt_T, lt_F, eq_T, eq_F, reduceIte, ne_eq, Int.toNat_natCast, bi_0, bi_1, bi_b, Nat.reduceAdd, Nat.reduceEqDiff, Int.reduceToNat, Int.reduceNeg, nle_T, nlt_T, neq_T, neq_F, b2_0, b2_b, both, reduceCtorEq]
    · rw [if_neg q]
      simp (config := { contextual := true }) (disch := omega) only [R_J1_indexOfChar_4cfef, h2, hi2, q, ih', true_and, and_true, true_implies, not_true_eq_false, false_implies, not_false_eq_true, false_and, and_false, or_true, true_or, false_or, or_false, implies_true, forall_const, kl_i, kl_n, kl_r, kl_l, tl_s, tl_n, List.cons_append, List.nil_append, Int.cast_ofNat_Int, w32_id, w64_id, le_T, le_F, lt_T, lt_F, eq_T, eq_F, reduceIte, ne_eq, Int.toNat_natCast, bi_0, bi_1, bi_b, Nat.reduceAdd, Nat.reduceEqDiff, Int.reduceToNat, Int.reduceNeg, nle_T, nlt_T, neq_T, neq_F, b2_0, b2_b, both, reduceCtorEq]
theorem ct_ix (h : STR g I) {c : Int} (hc : 0 ≤ c ∧ c ≤ 255) (d : Nat) (Q : QQ) : WP (d + 4) m_J0_indexOf_0f7a4 0 [some (vr (some 1)), some (vi c)] [] g I Q = Q (some (vi (kdo c))) g I := by
  have kl := fun d Q => ct_lat h d Q
  have kn := fun d Q => ct_len h d Q
  have lx := fun d Q => lp_ix h (c := c) (b := iI2b c) (z := 0) d Q 6 0 (by omega)
  obtain ⟨h1, h2, h3, h4, h5⟩ := h
  obtain ⟨m, rfl⟩ := Int.eq_ofNat_of_zero_le hc.1
  have ek := kx_kdo m (by omega)
  rw [ek] at lx
  have ez : ((0 : Nat) : Int) = 0 := rfl
  rw [ez] at lx
  have e6 : ((6 : Nat) : Int) = 6 := rfl
  have kic : ∀ d Q, WP d m_J1_indexOfChar_4cfef 0 [some (vr (some 2)), some (vi m), some (vi 0), some (vi 6), none, none] [] g I Q = Q (some (vi (kdo m))) g I := by
    intro d Q
    rw [← lx d Q]
    simp (config := { contextual := true }) (disch := omega) only [R_J1_indexOfChar_4cfef, h2, true_and, and_true, true_implies, not_true_eq_false, false_implies, not_false_eq_true, false_and, and_false, or_true, true_or, false_or, or_false, implies_true, forall_const, kl_i, kl_n, kl_r, kl_l, tl_s, tl_n, List.cons_append, List.nil_append, Int.cast_ofNat_Int, w32_id, w64_id, le_T, le_F, lt_T, lt_F, eq_T, eq_F, reduceIte, ne_eq, Int.toNat_natCast, bi_0, bi_1, bi_b, Nat.reduceAdd, Nat.reduceEqDiff, Int.reduceToNat, Int.reduceNeg, nle_T, nlt_T, neq_T, neq_F, b2_0, b2_b, both, reduceCtorEq]
  generalize kdo m = K at *
  have m0 : max (0 : Int) 0 = 0 := rfl
  have m6 : min (6 : Int) 6 = 6 := rfl
  simp (config := { contextual := true }) (disch := omega) only [R_J0_indexOf_0f7a4, R_J0_indexOf_7cf53, R_J1_indexOf_4cfef, R_J1_canEncode_9a6ad, h1, h2, h3, kl, kn, e6, m0, m6, kic, true_and, and_true, true_implies, not_true_eq_false, false_implies, not_false_eq_true, false_and, and_false, or_true, true_or, false_or, or_false, implies_true, forall_const, kl_i, kl_n, kl_r, kl_l, tl_s, tl_n, List.cons_append, List.nil_append, Int.cast_ofNat_Int, w32_id, w64_id, le_T, le_F, lt_T, lt_F, eq_T, eq_F, reduceIte, ne_eq, Int.toNat_natCast, bi_0, bi_1, bi_b, Nat.reduceAdd, Nat.reduceEqDiff, Int.reduceToNat, Int.reduceNeg, nle_T, nlt_T, neq_T, neq_F, b2_0, b2_b, both, reduceCtorEq]
theorem ct_chr (h : STR g I) {k : Nat} (hk : k < 6) (d : Nat) (Q : QQ) : WP (d + 4) m_J0_charAt_5068e 0 [some (vr (some 1)), some (vi k)] [] g I Q = Q (some (vi (KL.getD k 0))) g I := by
  have kl := fun d Q => ct_lat h d Q
  obtain ⟨h1, h2, h3, h4, h5⟩ := h
  have e1 := chr_tab k hk
  have e2 := chr_b k hk
  have e4 := h4 k
  have e6 : ((6 : Nat) : Int) = 6 := rfl
  generalize KL.getD k 0 = y at *
  simp (config := { contextual := true }) (disch := omega) only [R_J0_charAt_5068e, R_J1_charAt_3b067, R_J0_checkIndex_df160, R_J3_checkIndex_8e157, h1, h2, h3, kl, e4, e1, e6, true_and, and_true, true_implies, not_true_eq_false, false_implies, not_false_eq_true, false_and, and_false, or_true, true_or, false_or, or_false, implies_true, forall_const, kl_i, kl_n, kl_r, kl_l, tl_s, tl_n, List.cons_append, List.nil_append, Int.cast_ofNat_Int, w32_id, w64_id, le_T, le_F, lt_T, lt_F, eq_T, eq_F, reduceIte, ne_eq, Int.toNat_natCast, bi_0, bi_1, bi_b, Nat.reduceAdd, Nat.reduceEqDiff, Int.reduceToNat, Int.reduceNeg, nle_T, nlt_T, neq_T, neq_F, b2_0, b2_b, both, reduceCtorEq]
end STRS
-- the reader's fields: next, faultAt, kind, first, second, third
def rs (I : II) (a ft k f s t : Int) : II := pr I 45 (fun j => if j = 2 then a else if j = 3 then ft else if j = 4 then k else if j = 5 then f else if j = 6 then s else if j = 7 then t else I 45 j)
section RS
variable {I : II} {a ft k f s t : Int}
theorem rs_o {b : Nat} (h : ¬ b = 45) : rs I a ft k f s t b = I b := pr_o h
theorem rs_2 : rs I a ft k f s t 45 2 = a := by unfold rs; rw [pr_s]; rfl
theorem rs_3 : rs I a ft k f s t 45 3 = ft := by unfold rs; rw [pr_s]; rfl
theorem rs_4 : rs I a ft k f s t 45 4 = k := by unfold rs; rw [pr_s]; rfl
theorem rs_5 : rs I a ft k f s t 45 5 = f := by unfold rs; rw [pr_s]; rfl
theorem rs_6 : rs I a ft k f s t 45 6 = s := by unfold rs; rw [pr_s]; rfl
theorem rs_7 : rs I a ft k f s t 45 7 = t := by unfold rs; rw [pr_s]; rfl
theorem rs_1 : rs I a ft k f s t 45 1 = I 45 1 := by unfold rs; rw [pr_s]; rfl
theorem rs_w (j : Nat) (v : Int) (hj : 2 ≤ j ∧ j ≤ 7) : pr (rs I a ft k f s t) 45 (uf (rs I a ft k f s t 45) j v) = rs I (if j = 2 then v else a) (if j = 3 then v else ft) (if j = 4 then v else k) (if j = 5 then v else f) (if j = 6 then v else s) (if j = 7 then v else t) := by
  unfold rs
  rw [pr_s, pr_pr]
  congr 1
  funext i
  unfold uf
  rcases (by omega : j = 2 ∨ j = 3 ∨ j = 4 ∨ j = 5 ∨ j = 6 ∨ j = 7) with r | r | r | r | r | r <;> subst r
  all_goals
    by_cases e : i = 2
    · subst e; simp
    by_cases e3 : i = 3
    · subst e3; simp
    by_cases e4 : i = 4
    · subst e4; simp
    by_cases e5 : i = 5
    · subst e5; simp
    by_cases e6 : i = 6
    · subst e6; simp
    by_cases e7 : i = 7
    · subst e7; simp
    simp [e, e3, e4, e5, e6, e7]
theorem rs_w2 (v : Int) : pr (rs I a ft k f s t) 45 (uf (rs I a ft k f s t 45) 2 v) = rs I v ft k f s t := rs_w 2 v (by omega)
theorem rs_w3 (v : Int) : pr (rs I a ft k f s t) 45 (uf (rs I a ft k f s t 45) 3 v) = rs I a v k f s t := rs_w 3 v (by omega)
theorem rs_w4 (v : Int) : pr (rs I a ft k f s t) 45 (uf (rs I a ft k f s t 45) 4 v) = rs I a ft v f s t := rs_w 4 v (by omega)
theorem rs_w5 (v : Int) : pr (rs I a ft k f s t) 45 (uf (rs I a ft k f s t 45) 5 v) = rs I a ft k v s t := rs_w 5 v (by omega)
theorem rs_w6 (v : Int) : pr (rs I a ft k f s t) 45 (uf (rs I a ft k f s t 45) 6 v) = rs I a ft k f v t := rs_w 6 v (by omega)
theorem rs_w7 (v : Int) : pr (rs I a ft k f s t) 45 (uf (rs I a ft k f s t 45) 7 v) = rs I a ft k f s v := rs_w 7 v (by omega)
end RS
abbrev XP (g : GG) (I : II) (n : Nat) : Prop := gK g 45 = (0, 7) ∧ gR g 45 0 = some 52 ∧ gK g 52 = (1, 64) ∧ I 45 1 = (n : Int) ∧ n ≤ 64 ∧ ∀ j, j < 64 → 0 ≤ I 52 j ∧ I 52 j ≤ 255
section RDR
variable {g : GG} {I : II} {n : Nat} {k f s t : Int}
theorem ct_fail (h : XP g I n) (a : Nat) (ft : Int) (d : Nat) (Q : QQ) : WP d m_X7_fail 0 [some (vr (some 45))] [] g (rs I a ft k f s t) Q = Q none g (rs I a (if ft < 0 then (a : Int) else ft) k f s t) := by
  obtain ⟨h1, h2, h3, h4, h5, h6⟩ := h
  by_cases c : ft < 0
  · rw [if_pos c]
    simp (config := { contextual := true }) (disch := omega) only [R_X7_fail, h1, rs_2, rs_3, up_pr, rs_w3, true_and, and_true, true_implies, not_true_eq_false, false_implies, not_false_eq_true, false_and, and_false, or_true, true_or, false_or, or_false, implies_true, forall_const, kl_i, kl_n, kl_r, kl_l, tl_s, tl_n, List.cons_append, List.nil_append, Int.cast_ofNat_Int, w32_id, w64_id, le_T, le_F, lt_T, lt_F, eq_T, eq_F, reduceIte, ne_eq, Int.toNat_natCast, bi_0, bi_1, bi_b, Nat.reduceAdd, Nat.reduceEqDiff, Int.reduceToNat, Int.reduceNeg, nle_T, nlt_T, neq_T, neq_F, b2_0, b2_b, both, reduceCtorEq]
  · rw [if_neg c]
    simp (config := { contextual := true }) (disch := omega) only [R_X7_fail, h1, rs_2, rs_3, true_and, and_true, true_implies, not_true_eq_false, false_implies, not_false_eq_true, false_and, and_false, or_true, true_or, false_or, or_false, implies_true, forall_const, kl_i, kl_n, kl_r, kl_l, tl_s, tl_n, List.cons_append, List.nil_append, Int.cast_ofNat_Int, w32_id, w64_id, le_T, le_F, lt_T, lt_F, eq_T, eq_F, reduceIte, ne_eq, Int.toNat_natCast, bi_0, bi_1, bi_b, Nat.reduceAdd, Nat.reduceEqDiff, Int.reduceToNat, Int.reduceNeg, nle_T, nlt_T, neq_T, neq_F, b2_0, b2_b, both, reduceCtorEq]
theorem ct_idn (h : XP g I n) (a : Nat) (ft : Int) (d : Nat) (Q : QQ) : WP d m_X7_isDigitNext 0 [some (vr (some 45))] [] g (rs I a ft k f s t) Q = Q (some (vi (bi (ft < 0 ∧ dgt (I 52) n a)))) g (rs I a ft k f s t) := by
  obtain ⟨h1, h2, h3, h4, h5, h6⟩ := h
  by_cases c : ft < 0
  · by_cases c1 : a < n
    · by_cases c2 : 48 ≤ I 52 a
      · by_cases c3 : I 52 a ≤ 57
        · rw [bi_T ⟨c, c1, c2, c3⟩]
          simp (config := { contextual := true }) (disch := omega) only [R_X7_isDigitNext, h1, h2, h3, h4, rs_1, rs_2, rs_3, rs_o, true_and, and_true, true_implies, not_true_eq_false, false_implies, not_false_eq_true, false_and, and_false, or_true, true_or, false_or, or_false, implies_true, forall_const, kl_i, kl_n, kl_r, kl_l, tl_s, tl_n, List.cons_append, List.nil_append, Int.cast_ofNat_Int, w32_id, w64_id, le_T, le_F, lt_T, lt_F, eq_T, eq_F, reduceIte, ne_eq, Int.toNat_natCast, bi_0, bi_1, bi_b, Nat.reduceAdd, Nat.reduceEqDiff, Int.reduceToNat, Int.reduceNeg, nle_T, nlt_T, neq_T, neq_F, b2_0, b2_b, both, reduceCtorEq]
        · rw [bi_F (fun q => c3 q.2.2.2)]
          simp (config := { contextual := true }) (disch := omega) only [R_X7_isDigitNext, h1, h2, h3, h4, rs_1, rs_2, rs_3, rs_o, true_and, and_true, true_implies, not_true_eq_false, false_implies, not_false_eq_true, false_and, and_false, or_true, true_or, false_or, or_false, implies_true, forall_const, kl_i, kl_n, kl_r, kl_l, tl_s, tl_n, List.cons_append, List.nil_append, Int.cast_ofNat_Int, w32_id, w64_id, le_T, le_F, lt_T, lt_F, eq_T, eq_F, reduceIte, ne_eq, Int.toNat_natCast, bi_0, bi_1, bi_b, Nat.reduceAdd, Nat.reduceEqDiff, Int.reduceToNat, Int.reduceNeg, nle_T, nlt_T, neq_T, neq_F, b2_0, b2_b, both, reduceCtorEq]
      · rw [bi_F (fun q => c2 q.2.2.1)]
        simp (config := { contextual := true }) (disch := omega) only [R_X7_isDigitNext, h1, h2, h3, h4, rs_1, rs_2, rs_3, rs_o, true_and, and_true, true_implies, not_true_eq_false, false_implies, not_false_eq_true, false_and, and_false, or_true, true_or, false_or, or_false, implies_true, forall_const, kl_i, kl_n, kl_r, kl_l, tl_s, tl_n, List.cons_append, List.nil_append, Int.cast_ofNat_Int, w32_id, w64_id, le_T, le_F, lt_T, lt_F, eq_T, eq_F, reduceIte, ne_eq, Int.toNat_natCast, bi_0, bi_1, bi_b, Nat.reduceAdd, Nat.reduceEqDiff, Int.reduceToNat, Int.reduceNeg, nle_T, nlt_T, neq_T, neq_F, b2_0, b2_b, both, reduceCtorEq]
    · rw [bi_F (fun q => c1 q.2.1)]
      simp (config := { contextual := true }) (disch := omega) only [R_X7_isDigitNext, h1, h2, h3, h4, rs_1, rs_2, rs_3, rs_o, true_and, and_true, true_implies, not_true_eq_false, false_implies, not_false_eq_true, false_and, and_false, or_true, true_or, false_or, or_false, implies_true, forall_const, kl_i, kl_n, kl_r, kl_l, tl_s, tl_n, List.cons_append, List.nil_append, Int.cast_ofNat_Int, w32_id, w64_id, le_T, le_F, lt_T, lt_F, eq_T, eq_F, reduceIte, ne_eq, Int.toNat_natCast, bi_0, bi_1, bi_b, Nat.reduceAdd, Nat.reduceEqDiff, Int.reduceToNat, Int.reduceNeg, nle_T, nlt_T, neq_T, neq_F, b2_0, b2_b, both, reduceCtorEq]
  · rw [bi_F (fun q => c q.1)]
    simp (config := { contextual := true }) (disch := omega) only [R_X7_isDigitNext, h1, rs_2, rs_3, true_and, and_true, true_implies, not_true_eq_false, false_implies, not_false_eq_true, false_and, and_false, or_true, true_or, false_or, or_false, implies_true, forall_const, kl_i, kl_n, kl_r, kl_l, tl_s, tl_n, List.cons_append, List.nil_append, Int.cast_ofNat_Int, w32_id, w64_id, le_T, le_F, lt_T, lt_F, eq_T, eq_F, reduceIte, ne_eq, Int.toNat_natCast, bi_0, bi_1, bi_b, Nat.reduceAdd, Nat.reduceEqDiff, Int.reduceToNat, Int.reduceNeg, nle_T, nlt_T, neq_T, neq_F, b2_0, b2_b, both, reduceCtorEq]
theorem ct_rdg (h : XP g I n) (a : Nat) (ft : Int) (d : Nat) (Q : QQ) : WP (d + 1) m_X7_readDigit 0 [some (vr (some 45))] [] g (rs I a ft k f s t) Q = if ft < 0 ∧ dgt (I 52) n a then Q (some (vi (I 52 a - 48))) g (rs I (a + 1 : Nat) ft k f s t) else Q (some (vi 0)) g (rs I a (if ft < 0 then (a : Int) else ft) k f s t) := by
  have ki := fun Q => ct_idn (k := k) (f := f) (s := s) (t := t) h a ft d Q
  have kf := fun Q => ct_fail (k := k) (f := f) (s := s) (t := t) h a ft d Q
  obtain ⟨h1, h2, h3, h4, h5, h6⟩ := h
  by_cases c : ft < 0 ∧ dgt (I 52) n a
  · have hb := h6 a (by omega)
    rw [if_pos c]
    rw [bi_T c] at ki
    have ec : ((a + 1 : Nat) : Int) = (a : Int) + 1 := by omega
    have ei : (a : Int) + 1 - 1 = (a : Int) := by omega
    rw [ec]
    simp (config := { contextual := true }) (disch := omega) only [R_X7_readDigit, h1, h2, h3, h4, ki, rs_2, up_pr, rs_w2, rs_o, ei, true_and, and_true, true_implies, not_true_eq_false, false_implies, not_false_eq_true, false_and, and_false, or_true, true_or, false_or, or_false, implies_true, forall_const, kl_i, kl_n, kl_r, kl_l, tl_s, tl_n, List.cons_append, List.nil_append, Int.cast_ofNat_Int, w32_id, w64_id, le_T, le_F, lt_T, lt_F, eq_T, eq_F, reduceIte, ne_eq, Int.toNat_natCast, bi_0, bi_1, bi_b, Nat.reduceAdd, Nat.reduceEqDiff, Int.reduceToNat, Int.reduceNeg, nle_T, nlt_T, neq_T, neq_F, b2_0, b2_b, both, reduceCtorEq]
  · rw [if_neg c]
    rw [bi_F c] at ki
    simp (config := { contextual := true }) (disch := omega) only [R_X7_readDigit, h1, ki, kf, true_and, and_true, true_implies, not_true_eq_false, false_implies, not_false_eq_true, false_and, and_false, or_true, true_or, false_or, or_false, implies_true, forall_const, kl_i, kl_n, kl_r, kl_l, tl_s, tl_n, List.cons_append, List.nil_append, Int.cast_ofNat_Int, w32_id, w64_id, le_T, le_F, lt_T, lt_F, eq_T, eq_F, reduceIte, ne_eq, Int.toNat_natCast, bi_0, bi_1, bi_b, Nat.reduceAdd, Nat.reduceEqDiff, Int.reduceToNat, Int.reduceNeg, nle_T, nlt_T, neq_T, neq_F, b2_0, b2_b, both, reduceCtorEq]
end RDR

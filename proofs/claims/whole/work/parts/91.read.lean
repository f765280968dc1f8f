-- LAND: the class reads one statement
section RDR2
variable {g : GG} {I : II} {n : Nat} {k f s t : Int}
theorem ct_rd1 (h : XP g I n) (a : Nat) (d : Nat) (Q : QQ) : WP (d + 1) m_X7_readDigit 0 [some (vr (some 45))] [] g (rs I a (-1) k f s t) Q = if (num (I 52) n 1 a).1 < 0 then Q (some (vi 0)) g (rs I a a k f s t) else Q (some (vi (num (I 52) n 1 a).1)) g (rs I (num (I 52) n 1 a).2 (-1) k f s t) := by
  rw [ct_rdg h a (-1) d Q]
  have m1 : (-1 : Int) < 0 := by omega
  by_cases c : dgt (I 52) n a
  · have e : num (I 52) n 1 a = (I 52 a - 48, a + 1) := by
      have e1 : num (I 52) n 1 a = nbr (I 52) n 1 0 a := if_pos c
      have e2 : nbr (I 52) n 1 0 a = nbr (I 52) n 0 (10 * 0 + I 52 a - 48) (a + 1) := if_pos c
      rw [e1, e2]
      show (10 * 0 + I 52 a - 48, a + 1) = _
      congr 1
      omega
    rw [e, if_pos ⟨m1, c⟩, if_neg (by show ¬ I 52 a - 48 < 0; omega)]
  · have e : num (I 52) n 1 a = (-1, a) := if_neg c
    rw [e, if_neg (fun q => c q.2), if_pos m1, if_pos m1]
theorem ct_rdb (h : XP g I n) (a : Nat) {ft : Int} (hf : 0 ≤ ft) (d : Nat) (Q : QQ) : WP (d + 1) m_X7_readDigit 0 [some (vr (some 45))] [] g (rs I a ft k f s t) Q = Q (some (vi 0)) g (rs I a ft k f s t) := by
  rw [ct_rdg h a ft d Q, if_neg (fun q => by omega), if_neg (by omega)]
theorem ct_rsg (h : XP g I n) (a : Nat) (b : Int) (hb : 0 ≤ b) (d : Nat) (Q : QQ) : WP (d + 1) m_X7_readSign 0 [some (vr (some 45)), some (vi b)] [] g (rs I a (-1) k f s t) Q = if nby (I 52) n a = b then Q none g (rs I (a + 1 : Nat) (-1) k f s t) else Q none g (rs I a a k f s t) := by
  have kf := fun Q => ct_fail (k := k) (f := f) (s := s) (t := t) h a (-1) d Q
  have m1 : (-1 : Int) < 0 := by omega
  rw [if_pos m1] at kf
  obtain ⟨h1, h2, h3, h4, h5, h6⟩ := h
  have ec : (a : Int) + 1 = ((a + 1 : Nat) : Int) := by omega
  by_cases c : a < n
  · have hbb := h6 a (by omega)
    rw [nby_l c]
    by_cases c2 : I 52 a = b
    · rw [if_pos c2]
      simp (config := { contextual := true }) (disch := omega) only [R_X7_readSign, h1, h2, h3, h4, rs_1, rs_2, rs_3, rs_o, c2, up_pr, rs_w2, ec, true_and, and_true, true_implies, not_true_eq_false, false_implies, not_false_eq_true, false_and, and_false, or_true, true_or, false_or, or_false, implies_true, forall_const, kl_i, kl_n, kl_r, kl_l, tl_s, tl_n, List.cons_append, List.nil_append, Int.cast_ofNat_Int, w32_id, w64_id, le_T, le_F, lt_T, lt_F, eq_T, eq_F, reduceIte, ne_eq, Int.toNat_natCast, bi_0, bi_1, bi_b, Nat.reduceAdd, Nat.reduceEqDiff, Int.reduceToNat, Int.reduceNeg, nle_T, nlt_T, neq_T, neq_F, b2_0, b2_b, both, reduceCtorEq]
    · rw [if_neg c2]
      simp (config := { contextual := true }) (disch := omega) only [R_X7_readSign, h1, h2, h3, h4, rs_1, rs_2, rs_3, rs_o, c2, kf, true_and, and_true, true_implies, not_true_eq_false, false_implies, not_false_eq_true, false_and, and_false, or_true, true_or, false_or, or_false, implies_true, forall_const, kl_i, kl_n, kl_r, kl_l, tl_s, tl_n, List.cons_append, List.nil_append, Int.cast_ofNat_Int, w32_id, w64_id, le_T, le_F, lt_T, lt_F, eq_T, eq_F, reduceIte, ne_eq, Int.toNat_natCast, bi_0, bi_1, bi_b, Nat.reduceAdd, Nat.reduceEqDiff, Int.reduceToNat, Int.reduceNeg, nle_T, nlt_T, neq_T, neq_F, b2_0, b2_b, both, reduceCtorEq]
  · rw [nby_n (by omega), if_neg (by omega)]
    simp (config := { contextual := true }) (disch := omega) only [R_X7_readSign, h1, h4, rs_1, rs_2, rs_3, kf, true_and, and_true, true_implies, not_true_eq_false, false_implies, not_false_eq_true, false_and, and_false, or_true, true_or, false_or, or_false, implies_true, forall_const, kl_i, kl_n, kl_r, kl_l, tl_s, tl_n, List.cons_append, List.nil_append, Int.cast_ofNat_Int, w32_id, w64_id, le_T, le_F, lt_T, lt_F, eq_T, eq_F, reduceIte, ne_eq, Int.toNat_natCast, bi_0, bi_1, bi_b, Nat.reduceAdd, Nat.reduceEqDiff, Int.reduceToNat, Int.reduceNeg, nle_T, nlt_T, neq_T, neq_F, b2_0, b2_b, both, reduceCtorEq]
theorem ct_rsb (h : XP g I n) (a : Nat) {ft : Int} (hf : 0 ≤ ft) (b : Int) (d : Nat) (Q : QQ) : WP (d + 1) m_X7_readSign 0 [some (vr (some 45)), some (vi b)] [] g (rs I a ft k f s t) Q = Q none g (rs I a ft k f s t) := by
  have kf := fun Q => ct_fail (k := k) (f := f) (s := s) (t := t) h a ft d Q
  have m1 : ¬ ft < 0 := by omega
  rw [if_neg m1] at kf
  obtain ⟨h1, h2, h3, h4, h5, h6⟩ := h
  simp (config := { contextual := true }) (disch := omega) only [R_X7_readSign, h1, rs_3, kf, true_and, and_true, true_implies, not_true_eq_false, false_implies, not_false_eq_true, false_and, and_false, or_true, true_or, false_or, or_false, implies_true, forall_const, kl_i, kl_n, kl_r, kl_l, tl_s, tl_n, List.cons_append, List.nil_append, Int.cast_ofNat_Int, w32_id, w64_id, le_T, le_F, lt_T, lt_F, eq_T, eq_F, reduceIte, ne_eq, Int.toNat_natCast, bi_0, bi_1, bi_b, Nat.reduceAdd, Nat.reduceEqDiff, Int.reduceToNat, Int.reduceNeg, nle_T, nlt_T, neq_T, neq_F, b2_0, b2_b, both, reduceCtorEq]
theorem lp_rn (h : XP g I n) {m : Nat} (hm : m ≤ 3) (d : Nat) (Q : QQ) : ∀ (kk i : Nat), i + kk = m → ∀ (v : Int) (a : Nat), 0 ≤ v → pw v kk ≤ 999 → WP (d + 2) m_X7_readNumber 7 [some (vr (some 45)), some (vi m), some (vi v), some (vi i)] [] g (rs I a (-1) k f s t) Q = Q (some (vi (nbr (I 52) n kk v a).1)) g (rs I (nbr (I 52) n kk v a).2 (-1) k f s t) := by
  intro kk
  induction kk with
  | zero =>
    intro i hi v a h0 hp
    obtain rfl : i = m := by omega
    have h1 := h.1
    rw [H_X7_readNumber_7]
    simp (config := { contextual := true }) (disch := omega) only [R_X7_readNumber, h1, true_and, and_true, true_implies, not_true_eq_false, false_implies, not_false_eq_true, false_and, and_false, or_true, true_or, false_or, or_false, implies_true, forall_const, kl_i, kl_n, kl_r, kl_l, tl_s, tl_n, List.cons_append, List.nil_append, Int.cast_ofNat_Int, w32_id, w64_id, le_T, le_F, lt_T, lt_F, eq_T, eq_F, reduceIte, ne_eq, Int.toNat_natCast, bi_0, bi_1, bi_b, Nat.reduceAdd, Nat.reduceEqDiff, Int.reduceToNat, Int.reduceNeg, nle_T, nlt_T, neq_T, neq_F, b2_0, b2_b, both, reduceCtorEq]
    rfl
  | succ kk ih =>
    intro i hi v a h0 hp
    have ki := fun Q => ct_idn (k := k) (f := f) (s := s) (t := t) h a (-1) (d + 1) Q
    have kd := fun Q => ct_rdg (k := k) (f := f) (s := s) (t := t) h a (-1) d Q
    have m1 : (-1 : Int) < 0 := by omega
    have e : nbr (I 52) n (kk + 1) v a = if dgt (I 52) n a then nbr (I 52) n kk (10 * v + I 52 a - 48) (a + 1) else (v, a) := rfl
    have ec : ((i + 1 : Nat) : Int) = (i : Int) + 1 := by omega
    have hpk := pw_g h0 kk
    have hps : pw v (kk + 1) = 10 * pw v kk + 9 := rfl
    have h1 := h.1
    rw [H_X7_readNumber_7, e]
    by_cases c : dgt (I 52) n a
    · rw [if_pos c]
      rw [bi_T ⟨m1, c⟩] at ki
      have kd2 : ∀ Q : QQ, WP (d + 1) m_X7_readDigit 0 [some (vr (some 45))] [] g (rs I a (-1) k f s t) Q = Q (some (vi (I 52 a - 48))) g (rs I (a + 1 : Nat) (-1) k f s t) := fun Q => (kd Q).trans (if_pos ⟨m1, c⟩)
      have h2 := pw_m (by omega : 10 * v + I 52 a - 48 ≤ 10 * v + 9) kk
      rw [pw_s] at h2
      have ih' := ih (i + 1) (by omega) (10 * v + I 52 a - 48) (a + 1) (by omega) (by omega)
      rw [ec] at ih'
      have ev : v * 10 + (I 52 a - 48) = 10 * v + I 52 a - 48 := by omega
      simp (config := { contextual := true }) (disch := omega) only [R_X7_readNumber, h1, ki, kd2, ev, ih', true_and, and_true, true_implies, not_true_eq_false, false_implies, not_false_eq_true, false_and, and_false, or_true, true_or, false_or, or_false, implies_true, forall_const, kl_i, kl_n, kl_r, kl_l, tl_s, tl_n, List.cons_append, List.nil_append, Int.cast_ofNat_Int, w32_id, w64_id, le_T, le_F, lt_T, lt_F, eq_T, eq_F, reduceIte, ne_eq, Int.toNat_natCast, bi_0, bi_1, bi_b, Nat.reduceAdd, Nat.reduceEqDiff, Int.reduceToNat, Int.reduceNeg, nle_T, nlt_T, neq_T, neq_F, b2_0, b2_b, both, reduceCtorEq]
    · rw [if_neg c]
      rw [bi_F (fun q => c q.2)] at ki
      simp (config := { contextual := true }) (disch := omega) only [R_X7_readNumber, h1, ki, true_and, and_true, true_implies, not_true_eq_false, false_implies, not_false_eq_true, false_and, and_false, or_true, true_or, false_or, or_false, implies_true, forall_const, kl_i, kl_n, kl_r, kl_l, tl_s, tl_n, List.cons_append, List.nil_append, Int.cast_ofNat_Int, w32_id, w64_id, le_T, le_F, lt_T, lt_F, eq_T, eq_F, reduceIte, ne_eq, Int.toNat_natCast, bi_0, bi_1, bi_b, Nat.reduceAdd, Nat.reduceEqDiff, Int.reduceToNat, Int.reduceNeg, nle_T, nlt_T, neq_T, neq_F, b2_0, b2_b, both, reduceCtorEq]
theorem ct_rnm (h : XP g I n) {m : Nat} (hm : 1 ≤ m ∧ m ≤ 3) (a : Nat) (d : Nat) (Q : QQ) : WP (d + 2) m_X7_readNumber 0 [some (vr (some 45)), some (vi m), none, none] [] g (rs I a (-1) k f s t) Q = if (num (I 52) n m a).1 < 0 then Q (some (vi 0)) g (rs I a a k f s t) else Q (some (vi (num (I 52) n m a).1)) g (rs I (num (I 52) n m a).2 (-1) k f s t) := by
  have kd := fun Q => ct_rd1 (k := k) (f := f) (s := s) (t := t) h a d Q
  have h1 := h.1
  obtain ⟨m', rfl⟩ : ∃ m', m = m' + 1 := ⟨m - 1, by omega⟩
  by_cases c : dgt (I 52) n a
  · have e1 : num (I 52) n 1 a = (10 * 0 + I 52 a - 48, a + 1) := by
      have e1 : num (I 52) n 1 a = nbr (I 52) n 1 0 a := if_pos c
      have e2 : nbr (I 52) n 1 0 a = nbr (I 52) n 0 (10 * 0 + I 52 a - 48) (a + 1) := if_pos c
      rw [e1, e2]; rfl
    have e2 : num (I 52) n (m' + 1) a = nbr (I 52) n m' (10 * 0 + I 52 a - 48) (a + 1) := by
      have e1 : num (I 52) n (m' + 1) a = nbr (I 52) n (m' + 1) 0 a := if_pos c
      rw [e1]
      exact if_pos c
    have hv := (nbr_v (T := I 52) (n := n) m' (10 * 0 + I 52 a - 48) (a + 1) (by omega)).1
    rw [e1] at kd
    have kd := fun Q => (kd Q).trans (if_neg (by show ¬ 10 * 0 + I 52 a - 48 < 0; omega))
    rw [e2, if_neg (by omega)]
    have hl := lp_rn (k := k) (f := f) (s := s) (t := t) h (m := m' + 1) (by omega) d Q m' 1 (by omega) (10 * 0 + I 52 a - 48) (a + 1) (by omega) (by
      have h2 := pw_m (by omega : 10 * 0 + I 52 a - 48 ≤ 9) m'
      rcases (by omega : m' = 0 ∨ m' = 1 ∨ m' = 2) with r | r | r <;> subst r
      · have : pw 9 0 = 9 := by decide
        omega
      · have : pw 9 1 = 99 := by decide
        omega
      · have : pw 9 2 = 999 := by decide
        omega)
    have o1 : ((1 : Nat) : Int) = 1 := rfl
    rw [o1] at hl
    generalize 10 * 0 + I 52 a - 48 = z at kd hl ⊢
    have kd : ∀ Q : QQ, WP (d + 1) m_X7_readDigit 0 [some (vr (some 45))] [] g (rs I a (-1) k f s t) Q = Q (some (vi z)) g (rs I (a + 1 : Nat) (-1) k f s t) := kd
    simp (config := { contextual := true }) (disch := omega) only [R_X7_readNumber, h1, kd, true_and, and_true, true_implies, not_true_eq_false, false_implies, not_false_eq_true, false_and, and_false, or_true, true_or, false_or, or_false, implies_true, forall_const, kl_i, kl_n, kl_r, kl_l, tl_s, tl_n, List.cons_append, List.nil_append, Int.cast_ofNat_Int, w32_id, w64_id, le_T, le_F, lt_T, lt_F, eq_T, eq_F, reduceIte, ne_eq, Int.toNat_natCast, bi_0, bi_1, bi_b, Nat.reduceAdd, Nat.reduceEqDiff, Int.reduceToNat, Int.reduceNeg, nle_T, nlt_T, neq_T, neq_F, b2_0, b2_b, both, reduceCtorEq]
    exact hl
  · have e1 : num (I 52) n 1 a = (-1, a) := if_neg c
    have e2 : num (I 52) n (m' + 1) a = (-1, a) := if_neg c
    have m1 : (-1 : Int) < 0 := by omega
    rw [e1] at kd
    have kd : ∀ Q : QQ, WP (d + 1) m_X7_readDigit 0 [some (vr (some 45))] [] g (rs I a (-1) k f s t) Q = Q (some (vi 0)) g (rs I a a k f s t) := fun Q => (kd Q).trans (if_pos m1)
    rw [e2, if_pos (show ((-1 : Int), a).1 < 0 from m1)]
    have ki := fun Q => ct_idn (k := k) (f := f) (s := s) (t := t) h a (a : Int) (d + 1) Q
    rw [bi_F (fun q => by omega)] at ki
    have o1 : ((1 : Nat) : Int) = 1 := rfl
    have st : WP (d + 2) m_X7_readNumber 0 [some (vr (some 45)), some (vi ((m' + 1 : Nat) : Int)), none, none] [] g (rs I a (-1) k f s t) Q = WP (d + 2) m_X7_readNumber 7 [some (vr (some 45)), some (vi ((m' + 1 : Nat) : Int)), some (vi 0), some (vi 1)] [] g (rs I a a k f s t) Q := by
      simp (config := { contextual := true }) (disch := omega) only [R_X7_readNumber, h1, kd, true_and, and_true, true_implies, not_true_eq_false, false_implies, not_false_eq_true, false_and, and_false, or_true, true_or, false_or, or_false, implies_true, forall_const, kl_i, kl_n, kl_r, kl_l, tl_s, tl_n, List.cons_append, List.nil_append, Int.cast_ofNat_Int, w32_id, w64_id, le_T, le_F, lt_T, lt_F, eq_T, eq_F, reduceIte, ne_eq, Int.toNat_natCast, bi_0, bi_1, bi_b, Nat.reduceAdd, Nat.reduceEqDiff, Int.reduceToNat, Int.reduceNeg, nle_T, nlt_T, neq_T, neq_F, b2_0, b2_b, both, reduceCtorEq]
    rw [st, H_X7_readNumber_7]
    by_cases q : m' = 0
    · subst q
      simp (config := { contextual := true }) (disch := omega) only [R_X7_readNumber, h1, ki, true_and, and_true, true_implies, not_true_eq_false, false_implies, not_false_eq_true, false_and, and_false, or_true, true_or, false_or, or_false, implies_true, forall_const, kl_i, kl_n, kl_r, kl_l, tl_s, tl_n, List.cons_append, List.nil_append, Int.cast_ofNat_Int, w32_id, w64_id, le_T, le_F, lt_T, lt_F, eq_T, eq_F, reduceIte, ne_eq, Int.toNat_natCast, bi_0, bi_1, bi_b, Nat.reduceAdd, Nat.reduceEqDiff, Int.reduceToNat, Int.reduceNeg, nle_T, nlt_T, neq_T, neq_F, b2_0, b2_b, both, reduceCtorEq]
    · simp (config := { contextual := true }) (disch := omega) only [R_X7_readNumber, h1, ki, true_and, and_true, true_implies, not_true_eq_false, false_implies, not_false_eq_true, false_and, and_false, or_true, true_or, false_or, or_false, implies_true, forall_const, kl_i, kl_n, kl_r, kl_l, tl_s, tl_n, List.cons_append, List.nil_append, Int.cast_ofNat_Int, w32_id, w64_id, le_T, le_F, lt_T, lt_F, eq_T, eq_F, reduceIte, ne_eq, Int.toNat_natCast, bi_0, bi_1, bi_b, Nat.reduceAdd, Nat.reduceEqDiff, Int.reduceToNat, Int.reduceNeg, nle_T, nlt_T, neq_T, neq_F, b2_0, b2_b, both, reduceCtorEq]
theorem ct_rnb (h : XP g I n) {m : Nat} (hm : 1 ≤ m ∧ m ≤ 3) (a : Nat) {ft : Int} (hf : 0 ≤ ft) (d : Nat) (Q : QQ) : WP (d + 2) m_X7_readNumber 0 [some (vr (some 45)), some (vi m), none, none] [] g (rs I a ft k f s t) Q = Q (some (vi 0)) g (rs I a ft k f s t) := by
  have kd := fun Q => ct_rdb (k := k) (f := f) (s := s) (t := t) h a hf d Q
  have h1 := h.1
  have ki := fun Q => ct_idn (k := k) (f := f) (s := s) (t := t) h a ft (d + 1) Q
  rw [bi_F (fun q => by omega)] at ki
  have st : WP (d + 2) m_X7_readNumber 0 [some (vr (some 45)), some (vi m), none, none] [] g (rs I a ft k f s t) Q = WP (d + 2) m_X7_readNumber 7 [some (vr (some 45)), some (vi m), some (vi 0), some (vi 1)] [] g (rs I a ft k f s t) Q := by
    simp (config := { contextual := true }) (disch := omega) only [R_X7_readNumber, h1, kd, true_and, and_true, true_implies, not_true_eq_false, false_implies, not_false_eq_true, false_and, and_false, or_true, true_or, false_or, or_false, implies_true, forall_const, kl_i, kl_n, kl_r, kl_l, tl_s, tl_n, List.cons_append, List.nil_append, Int.cast_ofNat_Int, w32_id, w64_id, le_T, le_F, lt_T, lt_F, eq_T, eq_F, reduceIte, ne_eq, Int.toNat_natCast, bi_0, bi_1, bi_b, Nat.reduceAdd, Nat.reduceEqDiff, Int.reduceToNat, Int.reduceNeg, nle_T, nlt_T, neq_T, neq_F, b2_0, b2_b, both, reduceCtorEq]
  rw [st, H_X7_readNumber_7]
  by_cases q : (m : Int) = 1
  · simp (config := { contextual := true }) (disch := omega) only [R_X7_readNumber, h1, ki, true_and, and_true, true_implies, not_true_eq_false, false_implies, not_false_eq_true, false_and, and_false, or_true, true_or, false_or, or_false, implies_true, forall_const, kl_i, kl_n, kl_r, kl_l, tl_s, tl_n, List.cons_append, List.nil_append, Int.cast_ofNat_Int, w32_id, w64_id, le_T, le_F, lt_T, lt_F, eq_T, eq_F, reduceIte, ne_eq, Int.toNat_natCast, bi_0, bi_1, bi_b, Nat.reduceAdd, Nat.reduceEqDiff, Int.reduceToNat, Int.reduceNeg, nle_T, nlt_T, neq_T, neq_F, b2_0, b2_b, both, reduceCtorEq]
  · simp (config := { contextual := true }) (disch := omega) only [R_X7_readNumber, h1, ki, true_and, and_true, true_implies, not_true_eq_false, false_implies, not_false_eq_true, false_and, and_false, or_true, true_or, false_or, or_false, implies_true, forall_const, kl_i, kl_n, kl_r, kl_l, tl_s, tl_n, List.cons_append, List.nil_append, Int.cast_ofNat_Int, w32_id, w64_id, le_T, le_F, lt_T, lt_F, eq_T, eq_F, reduceIte, ne_eq, Int.toNat_natCast, bi_0, bi_1, bi_b, Nat.reduceAdd, Nat.reduceEqDiff, Int.reduceToNat, Int.reduceNeg, nle_T, nlt_T, neq_T, neq_F, b2_0, b2_b, both, reduceCtorEq]
theorem ct_rkd (h : XP g I n) (hs : STR g I) (a : Nat) (d : Nat) (Q : QQ) : WP (d + 5) m_X7_readKind 0 [some (vr (some 45)), none] [] g (rs I a (-1) k f s t) Q = if kdo (nby (I 52) n a) < 0 then Q (some (vi 0)) g (rs I a a k f s t) else Q (some (vi (kdo (nby (I 52) n a)))) g (rs I (a + 1 : Nat) (-1) k f s t) := by
  have kf := fun Q => ct_fail (k := k) (f := f) (s := s) (t := t) h a (-1) (d + 4) Q
  have m1 : (-1 : Int) < 0 := by omega
  rw [if_pos m1] at kf
  have hs' : STR g (rs I a (-1) k f s t) := ⟨hs.1, hs.2.1, hs.2.2.1, by rw [rs_o (by omega)]; exact hs.2.2.2.1, by rw [rs_o (by omega)]; exact hs.2.2.2.2⟩
  obtain ⟨h1, h2, h3, h4, h5, h6⟩ := h
  have ec : (a : Int) + 1 = ((a + 1 : Nat) : Int) := by omega
  by_cases c : a < n
  · have hbb := h6 a (by omega)
    rw [nby_l c]
    have kx := fun Q => ct_ix hs' (c := I 52 a) hbb d Q
    have ei : iI2c (I 52 a) = I 52 a := by
      obtain ⟨m, hm⟩ := Int.eq_ofNat_of_zero_le hbb.1
      rw [hm]
      exact i2c_id m (by omega)
    have hk := kdo_b (I 52 a)
    have hs1 := hs.1
    generalize kdo (I 52 a) = K at kx hk ⊢
    by_cases c2 : K < 0
    · rw [if_pos c2]
      simp (config := { contextual := true }) (disch := omega) only [R_X7_readKind, h1, h2, h3, h4, rs_1, rs_2, rs_o, ei, kx, kf, hs1, true_and, and_true, true_implies, not_true_eq_false, false_implies, not_false_eq_true, false_and, and_false, or_true, true_or, false_or, or_false, implies_true, forall_const, kl_i, kl_n, kl_r, kl_l, tl_s, tl_n, List.cons_append, List.nil_append, Int.cast_ofNat_Int, w32_id, w64_id, le_T, le_F, lt_T, lt_F, eq_T, eq_F, reduceIte, ne_eq, Int.toNat_natCast, bi_0, bi_1, bi_b, Nat.reduceAdd, Nat.reduceEqDiff, Int.reduceToNat, Int.reduceNeg, nle_T, nlt_T, neq_T, neq_F, b2_0, b2_b, both, reduceCtorEq]
    · rw [if_neg c2]
      simp (config := { contextual := true }) (disch := omega) only [R_X7_readKind, h1, h2, h3, h4, rs_1, rs_2, rs_o, ei, kx, up_pr, rs_w2, ec, hs1, true_and, and_true, true_implies, not_true_eq_false, false_implies, not_false_eq_true, false_and, and_false, or_true, true_or, false_or, or_false, implies_true, forall_const, kl_i, kl_n, kl_r, kl_l, tl_s, tl_n, List.cons_append, List.nil_append, Int.cast_ofNat_Int, w32_id, w64_id, le_T, le_F, lt_T, lt_F, eq_T, eq_F, reduceIte, ne_eq, Int.toNat_natCast, bi_0, bi_1, bi_b, Nat.reduceAdd, Nat.reduceEqDiff, Int.reduceToNat, Int.reduceNeg, nle_T, nlt_T, neq_T, neq_F, b2_0, b2_b, both, reduceCtorEq]
  · rw [nby_n (by omega), if_pos (by decide)]
    simp (config := { contextual := true }) (disch := omega) only [R_X7_readKind, h1, h4, rs_1, rs_2, kf, true_and, and_true, true_implies, not_true_eq_false, false_implies, not_false_eq_true, false_and, and_false, or_true, true_or, false_or, or_false, implies_true, forall_const, kl_i, kl_n, kl_r, kl_l, tl_s, tl_n, List.cons_append, List.nil_append, Int.cast_ofNat_Int, w32_id, w64_id, le_T, le_F, lt_T, lt_F, eq_T, eq_F, reduceIte, ne_eq, Int.toNat_natCast, bi_0, bi_1, bi_b, Nat.reduceAdd, Nat.reduceEqDiff, Int.reduceToNat, Int.reduceNeg, nle_T, nlt_T, neq_T, neq_F, b2_0, b2_b, both, reduceCtorEq]
end RDR2

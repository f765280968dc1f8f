-- A LIFE of the model
theorem hlf_s (wo : Int) (j : Nat) : hlf wo ((j : Int) + 1) = hlf wo j / 2 := by
  unfold hlf
  rw [show ((j : Int) + 1).toNat = j + 1 by omega, Int.toNat_natCast, Nat.pow_succ, ← Nat.div_div_eq_div_mul]
  omega
theorem hlf_z {wo : Int} {j n : Nat} (h : hlf wo j = 0) (hj : j ≤ n) : hlf wo n = 0 := by
  unfold hlf at h ⊢
  rw [Int.toNat_natCast] at h ⊢
  have h1 : wo.toNat / 2 ^ j = 0 := by omega
  have h2 : wo.toNat / 2 ^ n = 0 := by
    have h3 : 2 ^ j ≤ 2 ^ n := Nat.pow_le_pow_right (by omega) hj
    have h4 : wo.toNat / 2 ^ n ≤ wo.toNat / 2 ^ j := Nat.div_le_div_left h3 (Nat.pow_pos (by omega))
    rw [h1] at h4
    exact Nat.le_zero.mp h4
  rw [h2]
  rfl
section MLIFE
variable {g : GG} {I : II} {d n : Nat} {D : Nat → Int} {A : II}
theorem lp_wO (hW : WM g) {wo : Int} (h1 : 0 ≤ wo ∧ wo ≤ 99) {l1 l2 : Option PV} (hn : n ≤ 1000000) (Q : QQ) (hQ : Q (some (vi (hlf wo n))) g I) : ∀ k j : Nat, j + k = n → WP d m_X12_worthOf 67 [some (vr (some 57)), l1, l2, some (vi n), some (vi (hlf wo j)), some (vi j)] [] g I Q := by
  intro k
  induction k with
  | zero =>
    intro j hb
    obtain rfl : j = n := by omega
    rw [H_X12_worthOf_67]
    simp (config := { contextual := true }) (disch := omega) only [R_X12_worthOf_b0, R_X12_worthOf_b1, hW, true_and, and_true, true_implies, not_true_eq_false, false_implies, not_false_eq_true, false_and, and_false, or_true, true_or, false_or, or_false, implies_true, forall_const, kl_i, kl_n, kl_r, kl_l, tl_s, tl_n, List.cons_append, List.nil_append, Int.cast_ofNat_Int, w32_id, w64_id, le_T, le_F, lt_T, lt_F, eq_T, eq_F, reduceIte, ne_eq, Int.toNat_natCast, bi_0, bi_1, bi_b, Nat.reduceAdd, Nat.reduceEqDiff, Int.reduceToNat, Int.reduceNeg, nle_T, nlt_T, neq_T, neq_F]
    exact hQ
  | succ k ih =>
    intro j hb
    have hl := hlf_le (n := (j : Int)) h1.1
    rw [H_X12_worthOf_67]
    by_cases e : 0 < hlf wo j
    · simp (config := { contextual := true }) (disch := omega) only [R_X12_worthOf_b0, R_X12_worthOf_b1, hW, iDiv_eq, true_and, and_true, true_implies, not_true_eq_false, false_implies, not_false_eq_true, false_and, and_false, or_true, true_or, false_or, or_false, implies_true, forall_const, kl_i, kl_n, kl_r, kl_l, tl_s, tl_n, List.cons_append, List.nil_append, Int.cast_ofNat_Int, w32_id, w64_id, le_T, le_F, lt_T, lt_F, eq_T, eq_F, reduceIte, ne_eq, Int.toNat_natCast, bi_0, bi_1, bi_b, Nat.reduceAdd, Nat.reduceEqDiff, Int.reduceToNat, Int.reduceNeg, nle_T, nlt_T, neq_T, neq_F]
      rw [← hlf_s]
      exact ih (j + 1) (by omega)
    · have e0 : hlf wo j = 0 := by omega
      simp (config := { contextual := true }) (disch := omega) only [R_X12_worthOf_b0, R_X12_worthOf_b1, hW, true_and, and_true, true_implies, not_true_eq_false, false_implies, not_false_eq_true, false_and, and_false, or_true, true_or, false_or, or_false, implies_true, forall_const, kl_i, kl_n, kl_r, kl_l, tl_s, tl_n, List.cons_append, List.nil_append, Int.cast_ofNat_Int, w32_id, w64_id, le_T, le_F, lt_T, lt_F, eq_T, eq_F, reduceIte, ne_eq, Int.toNat_natCast, bi_0, bi_1, bi_b, Nat.reduceAdd, Nat.reduceEqDiff, Int.reduceToNat, Int.reduceNeg, nle_T, nlt_T, neq_T, neq_F]
      rw [e0, ← hlf_z e0 (by omega : j ≤ n)]
      exact hQ
theorem ct_worthOf (hW : WM g) {i : Nat} (hi : i < 7) (hk : 0 ≤ I 62 i ∧ I 62 i ≤ 5) (hwo : 0 ≤ I 64 i ∧ I 64 i ≤ 99) (Q : QQ) (age n : Int) (ha : 0 ≤ age ∧ age ≤ 1000000) (ho : 0 ≤ I 66 1 ∧ I 66 1 ≤ 1000) (hn : 0 ≤ n ∧ n ≤ 1000000) : WP d m_X12_worthOf 0 [some (vr (some 57)), some (vi i), some (vi age), some (vi n), none, none] [] g I Q = Q (some (vi (wth (I 62 i) (I 64 i) (I 65 i) (I 66 0) (I 66 1) age n))) g I := by
  refine WP_fun (fun Q hQ => ?_) Q
  have e0 : (if n = 0 then I 64 i else 0) = wv (I 64 i) n := rfl
  have hv : 0 ≤ wv (I 64 i) n ∧ wv (I 64 i) n ≤ 99 := by unfold wv; split <;> omega
  rcases kd_six hk with e | e | e | e | e | e
  · rw [e] at hQ
    have hQ' : Q (some (vi (wv (I 64 i) n))) g I := hQ
    by_cases h : n = 0
    · have e1 : wv (I 64 i) n = I 64 i := if_pos h
      rw [e1] at hQ'
      simp (config := { contextual := true }) (disch := omega) only [R_X12_worthOf_b0, R_X12_worthOf_b1, hW, e, true_and, and_true, true_implies, not_true_eq_false, false_implies, not_false_eq_true, false_and, and_false, or_true, true_or, false_or, or_false, implies_true, forall_const, kl_i, kl_n, kl_r, kl_l, tl_s, tl_n, List.cons_append, List.nil_append, Int.cast_ofNat_Int, w32_id, w64_id, le_T, le_F, lt_T, lt_F, eq_T, eq_F, reduceIte, ne_eq, Int.toNat_natCast, bi_0, bi_1, bi_b, Nat.reduceAdd, Nat.reduceEqDiff, Int.reduceToNat, Int.reduceNeg, nle_T, nlt_T, neq_T, neq_F]
      exact hQ'
    · have e1 : wv (I 64 i) n = 0 := if_neg h
      rw [e1] at hQ'
      simp (config := { contextual := true }) (disch := omega) only [R_X12_worthOf_b0, R_X12_worthOf_b1, hW, e, true_and, and_true, true_implies, not_true_eq_false, false_implies, not_false_eq_true, false_and, and_false, or_true, true_or, false_or, or_false, implies_true, forall_const, kl_i, kl_n, kl_r, kl_l, tl_s, tl_n, List.cons_append, List.nil_append, Int.cast_ofNat_Int, w32_id, w64_id, le_T, le_F, lt_T, lt_F, eq_T, eq_F, reduceIte, ne_eq, Int.toNat_natCast, bi_0, bi_1, bi_b, Nat.reduceAdd, Nat.reduceEqDiff, Int.reduceToNat, Int.reduceNeg, nle_T, nlt_T, neq_T, neq_F]
      exact hQ'
  · rw [e] at hQ
    have hQ' : Q (some (vi (hlf (I 64 i) n))) g I := hQ
    obtain ⟨m, rfl⟩ := Int.eq_ofNat_of_zero_le hn.1
    have key := lp_wO (d := d) (l1 := some (vi i)) (l2 := some (vi age)) (n := m) hW hwo (by omega) Q hQ' m 0 (by omega)
    have h0 : hlf (I 64 i) ((0 : Nat) : Int) = I 64 i := hlf_0 hwo.1
    rw [h0] at key
    by_cases h : (m : Int) = 0
    · simp (config := { contextual := true }) (disch := omega) only [R_X12_worthOf_b0, R_X12_worthOf_b1, hW, e, true_and, and_true, true_implies, not_true_eq_false, false_implies, not_false_eq_true, false_and, and_false, or_true, true_or, false_or, or_false, implies_true, forall_const, kl_i, kl_n, kl_r, kl_l, tl_s, tl_n, List.cons_append, List.nil_append, Int.cast_ofNat_Int, w32_id, w64_id, le_T, le_F, lt_T, lt_F, eq_T, eq_F, reduceIte, ne_eq, Int.toNat_natCast, bi_0, bi_1, bi_b, Nat.reduceAdd, Nat.reduceEqDiff, Int.reduceToNat, Int.reduceNeg, nle_T, nlt_T, neq_T, neq_F]
      exact key
    · simp (config := { contextual := true }) (disch := omega) only [R_X12_worthOf_b0, R_X12_worthOf_b1, hW, e, true_and, and_true, true_implies, not_true_eq_false, false_implies, not_false_eq_true, false_and, and_false, or_true, true_or, false_or, or_false, implies_true, forall_const, kl_i, kl_n, kl_r, kl_l, tl_s, tl_n, List.cons_append, List.nil_append, Int.cast_ofNat_Int, w32_id, w64_id, le_T, le_F, lt_T, lt_F, eq_T, eq_F, reduceIte, ne_eq, Int.toNat_natCast, bi_0, bi_1, bi_b, Nat.reduceAdd, Nat.reduceEqDiff, Int.reduceToNat, Int.reduceNeg, nle_T, nlt_T, neq_T, neq_F]
      exact key
  · rw [e] at hQ
    have hQ' : Q (some (vi (wv (I 64 i) n))) g I := hQ
    by_cases h : n = 0
    · have e1 : wv (I 64 i) n = I 64 i := if_pos h
      rw [e1] at hQ'
      simp (config := { contextual := true }) (disch := omega) only [R_X12_worthOf_b0, R_X12_worthOf_b1, hW, e, true_and, and_true, true_implies, not_true_eq_false, false_implies, not_false_eq_true, false_and, and_false, or_true, true_or, false_or, or_false, implies_true, forall_const, kl_i, kl_n, kl_r, kl_l, tl_s, tl_n, List.cons_append, List.nil_append, Int.cast_ofNat_Int, w32_id, w64_id, le_T, le_F, lt_T, lt_F, eq_T, eq_F, reduceIte, ne_eq, Int.toNat_natCast, bi_0, bi_1, bi_b, Nat.reduceAdd, Nat.reduceEqDiff, Int.reduceToNat, Int.reduceNeg, nle_T, nlt_T, neq_T, neq_F]
      exact hQ'
    · have e1 : wv (I 64 i) n = 0 := if_neg h
      rw [e1] at hQ'
      simp (config := { contextual := true }) (disch := omega) only [R_X12_worthOf_b0, R_X12_worthOf_b1, hW, e, true_and, and_true, true_implies, not_true_eq_false, false_implies, not_false_eq_true, false_and, and_false, or_true, true_or, false_or, or_false, implies_true, forall_const, kl_i, kl_n, kl_r, kl_l, tl_s, tl_n, List.cons_append, List.nil_append, Int.cast_ofNat_Int, w32_id, w64_id, le_T, le_F, lt_T, lt_F, eq_T, eq_F, reduceIte, ne_eq, Int.toNat_natCast, bi_0, bi_1, bi_b, Nat.reduceAdd, Nat.reduceEqDiff, Int.reduceToNat, Int.reduceNeg, nle_T, nlt_T, neq_T, neq_F]
      exact hQ'
  · rw [e] at hQ
    have hQ' : Q (some (vi (if age ≤ I 65 i then wv (I 64 i) n else wv (I 64 i) n / 2))) g I := hQ
    by_cases h : n = 0
    · have e1 : wv (I 64 i) n = I 64 i := if_pos h
      rw [e1] at hQ'
      by_cases h2 : age ≤ I 65 i
      · rw [if_pos h2] at hQ'
        simp (config := { contextual := true }) (disch := omega) only [R_X12_worthOf_b0, R_X12_worthOf_b1, hW, e, iDiv_eq, true_and, and_true, true_implies, not_true_eq_false, false_implies, not_false_eq_true, false_and, and_false, or_true, true_or, false_or, or_false, implies_true, forall_const, kl_i, kl_n, kl_r, kl_l, tl_s, tl_n, List.cons_append, List.nil_append, Int.cast_ofNat_Int, w32_id, w64_id, le_T, le_F, lt_T, lt_F, eq_T, eq_F, reduceIte, ne_eq, Int.toNat_natCast, bi_0, bi_1, bi_b, Nat.reduceAdd, Nat.reduceEqDiff, Int.reduceToNat, Int.reduceNeg, nle_T, nlt_T, neq_T, neq_F]
        exact hQ'
      · rw [if_neg h2] at hQ'
        simp (config := { contextual := true }) (disch := omega) only [R_X12_worthOf_b0, R_X12_worthOf_b1, hW, e, iDiv_eq, true_and, and_true, true_implies, not_true_eq_false, false_implies, not_false_eq_true, false_and, and_false, or_true, true_or, false_or, or_false, implies_true, forall_const, kl_i, kl_n, kl_r, kl_l, tl_s, tl_n, List.cons_append, List.nil_append, Int.cast_ofNat_Int, w32_id, w64_id, le_T, le_F, lt_T, lt_F, eq_T, eq_F, reduceIte, ne_eq, Int.toNat_natCast, bi_0, bi_1, bi_b, Nat.reduceAdd, Nat.reduceEqDiff, Int.reduceToNat, Int.reduceNeg, nle_T, nlt_T, neq_T, neq_F]
        exact hQ'
    · have e1 : wv (I 64 i) n = 0 := if_neg h
      rw [e1] at hQ'
      by_cases h2 : age ≤ I 65 i
      · rw [if_pos h2] at hQ'
        simp (config := { contextual := true }) (disch := omega) only [R_X12_worthOf_b0, R_X12_worthOf_b1, hW, e, iDiv_eq, true_and, and_true, true_implies, not_true_eq_false, false_implies, not_false_eq_true, false_and, and_false, or_true, true_or, false_or, or_false, implies_true, forall_const, kl_i, kl_n, kl_r, kl_l, tl_s, tl_n, List.cons_append, List.nil_append, Int.cast_ofNat_Int, w32_id, w64_id, le_T, le_F, lt_T, lt_F, eq_T, eq_F, reduceIte, ne_eq, Int.toNat_natCast, bi_0, bi_1, bi_b, Nat.reduceAdd, Nat.reduceEqDiff, Int.reduceToNat, Int.reduceNeg, nle_T, nlt_T, neq_T, neq_F]
        exact hQ'
      · rw [if_neg h2] at hQ'
        simp (config := { contextual := true }) (disch := omega) only [R_X12_worthOf_b0, R_X12_worthOf_b1, hW, e, iDiv_eq, true_and, and_true, true_implies, not_true_eq_false, false_implies, not_false_eq_true, false_and, and_false, or_true, true_or, false_or, or_false, implies_true, forall_const, kl_i, kl_n, kl_r, kl_l, tl_s, tl_n, List.cons_append, List.nil_append, Int.cast_ofNat_Int, w32_id, w64_id, le_T, le_F, lt_T, lt_F, eq_T, eq_F, reduceIte, ne_eq, Int.toNat_natCast, bi_0, bi_1, bi_b, Nat.reduceAdd, Nat.reduceEqDiff, Int.reduceToNat, Int.reduceNeg, nle_T, nlt_T, neq_T, neq_F]
        exact hQ'
  · rw [e] at hQ
    have hQ' : Q (some (vi (if I 66 0 ≤ age then wv (I 64 i) n else 0))) g I := hQ
    by_cases h : n = 0
    · have e1 : wv (I 64 i) n = I 64 i := if_pos h
      rw [e1] at hQ'
      by_cases h2 : I 66 0 ≤ age
      · rw [if_pos h2] at hQ'
        simp (config := { contextual := true }) (disch := omega) only [R_X12_worthOf_b0, R_X12_worthOf_b1, hW, e, true_and, and_true, true_implies, not_true_eq_false, false_implies, not_false_eq_true, false_and, and_false, or_true, true_or, false_or, or_false, implies_true, forall_const, kl_i, kl_n, kl_r, kl_l, tl_s, tl_n, List.cons_append, List.nil_append, Int.cast_ofNat_Int, w32_id, w64_id, le_T, le_F, lt_T, lt_F, eq_T, eq_F, reduceIte, ne_eq, Int.toNat_natCast, bi_0, bi_1, bi_b, Nat.reduceAdd, Nat.reduceEqDiff, Int.reduceToNat, Int.reduceNeg, nle_T, nlt_T, neq_T, neq_F]
        exact hQ'
      · rw [if_neg h2] at hQ'
        simp (config := { contextual := true }) (disch := omega) only [R_X12_worthOf_b0, R_X12_worthOf_b1, hW, e, true_and, and_true, true_implies, not_true_eq_false, false_implies, not_false_eq_true, false_and, and_false, or_true, true_or, false_or, or_false, implies_true, forall_const, kl_i, kl_n, kl_r, kl_l, tl_s, tl_n, List.cons_append, List.nil_append, Int.cast_ofNat_Int, w32_id, w64_id, le_T, le_F, lt_T, lt_F, eq_T, eq_F, reduceIte, ne_eq, Int.toNat_natCast, bi_0, bi_1, bi_b, Nat.reduceAdd, Nat.reduceEqDiff, Int.reduceToNat, Int.reduceNeg, nle_T, nlt_T, neq_T, neq_F]
        exact hQ'
    · have e1 : wv (I 64 i) n = 0 := if_neg h
      rw [e1] at hQ'
      by_cases h2 : I 66 0 ≤ age
      · rw [if_pos h2] at hQ'
        simp (config := { contextual := true }) (disch := omega) only [R_X12_worthOf_b0, R_X12_worthOf_b1, hW, e, true_and, and_true, true_implies, not_true_eq_false, false_implies, not_false_eq_true, false_and, and_false, or_true, true_or, false_or, or_false, implies_true, forall_const, kl_i, kl_n, kl_r, kl_l, tl_s, tl_n, List.cons_append, List.nil_append, Int.cast_ofNat_Int, w32_id, w64_id, le_T, le_F, lt_T, lt_F, eq_T, eq_F, reduceIte, ne_eq, Int.toNat_natCast, bi_0, bi_1, bi_b, Nat.reduceAdd, Nat.reduceEqDiff, Int.reduceToNat, Int.reduceNeg, nle_T, nlt_T, neq_T, neq_F]
        exact hQ'
      · rw [if_neg h2] at hQ'
        simp (config := { contextual := true }) (disch := omega) only [R_X12_worthOf_b0, R_X12_worthOf_b1, hW, e, true_and, and_true, true_implies, not_true_eq_false, false_implies, not_false_eq_true, false_and, and_false, or_true, true_or, false_or, or_false, implies_true, forall_const, kl_i, kl_n, kl_r, kl_l, tl_s, tl_n, List.cons_append, List.nil_append, Int.cast_ofNat_Int, w32_id, w64_id, le_T, le_F, lt_T, lt_F, eq_T, eq_F, reduceIte, ne_eq, Int.toNat_natCast, bi_0, bi_1, bi_b, Nat.reduceAdd, Nat.reduceEqDiff, Int.reduceToNat, Int.reduceNeg, nle_T, nlt_T, neq_T, neq_F]
        exact hQ'
  · rw [e] at hQ
    have hQ' : Q (some (vi (if I 66 0 ≤ age ∧ 0 < wv (I 64 i) n then wv (I 64 i) n + max 0 (age - I 66 1) / 50 else 0))) g I := hQ
    by_cases h : n = 0
    · have e1 : wv (I 64 i) n = I 64 i := if_pos h
      rw [e1] at hQ'
      by_cases h2 : I 66 0 ≤ age
      · by_cases h3 : 0 < I 64 i
        · rw [if_pos ⟨h2, h3⟩] at hQ'
          by_cases h4 : I 66 1 < age
          · rw [Int.max_eq_right (by omega)] at hQ'
            simp (config := { contextual := true }) (disch := omega) only [R_X12_worthOf_b0, R_X12_worthOf_b1, hW, e, iDiv_eq, true_and, and_true, true_implies, not_true_eq_false, false_implies, not_false_eq_true, false_and, and_false, or_true, true_or, false_or, or_false, implies_true, forall_const, kl_i, kl_n, kl_r, kl_l, tl_s, tl_n, List.cons_append, List.nil_append, Int.cast_ofNat_Int, w32_id, w64_id, le_T, le_F, lt_T, lt_F, eq_T, eq_F, reduceIte, ne_eq, Int.toNat_natCast, bi_0, bi_1, bi_b, Nat.reduceAdd, Nat.reduceEqDiff, Int.reduceToNat, Int.reduceNeg, nle_T, nlt_T, neq_T, neq_F]
            exact hQ'
          · rw [Int.max_eq_left (by omega)] at hQ'
            rw [show I 64 i + 0 / 50 = I 64 i by omega] at hQ'
            simp (config := { contextual := true }) (disch := omega) only [R_X12_worthOf_b0, R_X12_worthOf_b1, hW, e, true_and, and_true, true_implies, not_true_eq_false, false_implies, not_false_eq_true, false_and, and_false, or_true, true_or, false_or, or_false, implies_true, forall_const, kl_i, kl_n, kl_r, kl_l, tl_s, tl_n, List.cons_append, List.nil_append, Int.cast_ofNat_Int, w32_id, w64_id, le_T, le_F, lt_T, lt_F, eq_T, eq_F, reduceIte, ne_eq, Int.toNat_natCast, bi_0, bi_1, bi_b, Nat.reduceAdd, Nat.reduceEqDiff, Int.reduceToNat, Int.reduceNeg, nle_T, nlt_T, neq_T, neq_F]
            exact hQ'
        · rw [if_neg (fun q => h3 q.2)] at hQ'
          have h5 : I 64 i = 0 := by omega
          simp (config := { contextual := true }) (disch := omega) only [R_X12_worthOf_b0, R_X12_worthOf_b1, hW, e, h5, true_and, and_true, true_implies, not_true_eq_false, false_implies, not_false_eq_true, false_and, and_false, or_true, true_or, false_or, or_false, implies_true, forall_const, kl_i, kl_n, kl_r, kl_l, tl_s, tl_n, List.cons_append, List.nil_append, Int.cast_ofNat_Int, w32_id, w64_id, le_T, le_F, lt_T, lt_F, eq_T, eq_F, reduceIte, ne_eq, Int.toNat_natCast, bi_0, bi_1, bi_b, Nat.reduceAdd, Nat.reduceEqDiff, Int.reduceToNat, Int.reduceNeg, nle_T, nlt_T, neq_T, neq_F]
          exact hQ'
      · rw [if_neg (fun q => h2 q.1)] at hQ'
        simp (config := { contextual := true }) (disch := omega) only [R_X12_worthOf_b0, R_X12_worthOf_b1, hW, e, true_and, and_true, true_implies, not_true_eq_false, false_implies, not_false_eq_true, false_and, and_false, or_true, true_or, false_or, or_false, implies_true, forall_const, kl_i, kl_n, kl_r, kl_l, tl_s, tl_n, List.cons_append, List.nil_append, Int.cast_ofNat_Int, w32_id, w64_id, le_T, le_F, lt_T, lt_F, eq_T, eq_F, reduceIte, ne_eq, Int.toNat_natCast, bi_0, bi_1, bi_b, Nat.reduceAdd, Nat.reduceEqDiff, Int.reduceToNat, Int.reduceNeg, nle_T, nlt_T, neq_T, neq_F]
        exact hQ'
    · have e1 : wv (I 64 i) n = 0 := if_neg h
      rw [e1, if_neg (fun q => absurd q.2 (by omega))] at hQ'
      by_cases h2 : I 66 0 ≤ age
      · simp (config := { contextual := true }) (disch := omega) only [R_X12_worthOf_b0, R_X12_worthOf_b1, hW, e, true_and, and_true, true_implies, not_true_eq_false, false_implies, not_false_eq_true, false_and, and_false, or_true, true_or, false_or, or_false, implies_true, forall_const, kl_i, kl_n, kl_r, kl_l, tl_s, tl_n, List.cons_append, List.nil_append, Int.cast_ofNat_Int, w32_id, w64_id, le_T, le_F, lt_T, lt_F, eq_T, eq_F, reduceIte, ne_eq, Int.toNat_natCast, bi_0, bi_1, bi_b, Nat.reduceAdd, Nat.reduceEqDiff, Int.reduceToNat, Int.reduceNeg, nle_T, nlt_T, neq_T, neq_F]
        exact hQ'
      · simp (config := { contextual := true }) (disch := omega) only [R_X12_worthOf_b0, R_X12_worthOf_b1, hW, e, true_and, and_true, true_implies, not_true_eq_false, false_implies, not_false_eq_true, false_and, and_false, or_true, true_or, false_or, or_false, implies_true, forall_const, kl_i, kl_n, kl_r, kl_l, tl_s, tl_n, List.cons_append, List.nil_append, Int.cast_ofNat_Int, w32_id, w64_id, le_T, le_F, lt_T, lt_F, eq_T, eq_F, reduceIte, ne_eq, Int.toNat_natCast, bi_0, bi_1, bi_b, Nat.reduceAdd, Nat.reduceEqDiff, Int.reduceToNat, Int.reduceNeg, nle_T, nlt_T, neq_T, neq_F]
        exact hQ'
theorem ct_mayBe (hW : WM g) {i : Nat} (hi : i < 7) (ok : okTh (I 62 i) i (I 64 i) (I 65 i)) (Q : QQ) (age : Int) (ha : 0 ≤ age ∧ age ≤ 1000000) (ho : 0 ≤ I 66 1 ∧ I 66 1 ≤ 1000) (hh : 0 ≤ I 81 i ∧ I 81 i ≤ 1000000) : WP (d + 1) m_X12_mayBe 0 [some (vr (some 57)), some (vi i), some (vi age)] [] g I Q = Q (some (vi (bi (opn (I 62 i) (I 64 i) (I 65 i) i (I 81))))) g I := by
  obtain ⟨hkd, hnum, hwo, hak, hb⟩ := ok
  by_cases e : I 62 i = 1
  · have ew : wth (I 62 i) (I 64 i) (I 65 i) (I 66 0) (I 66 1) age (I 81 i) = hlf (I 64 i) (I 81 i) := by rw [e]; rfl
    by_cases h : 0 < hlf (I 64 i) (I 81 i)
    · rw [bi_T (Or.inl ⟨e, h⟩)]
      simp (config := { contextual := true }) (disch := omega) only [R_X12_mayBe, hW, ct_worthOf hW hi hkd hwo, ew, true_and, and_true, true_implies, not_true_eq_false, false_implies, not_false_eq_true, false_and, and_false, or_true, true_or, false_or, or_false, implies_true, forall_const, kl_i, kl_n, kl_r, kl_l, tl_s, tl_n, List.cons_append, List.nil_append, Int.cast_ofNat_Int, w32_id, w64_id, le_T, le_F, lt_T, lt_F, eq_T, eq_F, reduceIte, ne_eq, Int.toNat_natCast, bi_0, bi_1, bi_b, Nat.reduceAdd, Nat.reduceEqDiff, Int.reduceToNat, Int.reduceNeg, nle_T, nlt_T, neq_T, neq_F]
    · rw [bi_F (by rintro (q | q); exact h q.2; exact q.1 e)]
      simp (config := { contextual := true }) (disch := omega) only [R_X12_mayBe, hW, ct_worthOf hW hi hkd hwo, ew, true_and, and_true, true_implies, not_true_eq_false, false_implies, not_false_eq_true, false_and, and_false, or_true, true_or, false_or, or_false, implies_true, forall_const, kl_i, kl_n, kl_r, kl_l, tl_s, tl_n, List.cons_append, List.nil_append, Int.cast_ofNat_Int, w32_id, w64_id, le_T, le_F, lt_T, lt_F, eq_T, eq_F, reduceIte, ne_eq, Int.toNat_natCast, bi_0, bi_1, bi_b, Nat.reduceAdd, Nat.reduceEqDiff, Int.reduceToNat, Int.reduceNeg, nle_T, nlt_T, neq_T, neq_F]
  · by_cases h1 : I 81 i = 0
    · by_cases h2 : I 62 i = 2
      · have h4 := hb h2
        by_cases h3 : 0 < I 81 (I 65 i).toNat
        · rw [bi_T (Or.inr ⟨e, h1, fun _ => h3⟩)]
          simp (config := { contextual := true }) (disch := omega) only [R_X12_mayBe, hW, true_and, and_true, true_implies, not_true_eq_false, false_implies, not_false_eq_true, false_and, and_false, or_true, true_or, false_or, or_false, implies_true, forall_const, kl_i, kl_n, kl_r, kl_l, tl_s, tl_n, List.cons_append, List.nil_append, Int.cast_ofNat_Int, w32_id, w64_id, le_T, le_F, lt_T, lt_F, eq_T, eq_F, reduceIte, ne_eq, Int.toNat_natCast, bi_0, bi_1, bi_b, Nat.reduceAdd, Nat.reduceEqDiff, Int.reduceToNat, Int.reduceNeg, nle_T, nlt_T, neq_T, neq_F]
        · rw [bi_F (by rintro (q | q); exact e q.1; exact h3 (q.2.2 h2))]
          simp (config := { contextual := true }) (disch := omega) only [R_X12_mayBe, hW, true_and, and_true, true_implies, not_true_eq_false, false_implies, not_false_eq_true, false_and, and_false, or_true, true_or, false_or, or_false, implies_true, forall_const, kl_i, kl_n, kl_r, kl_l, tl_s, tl_n, List.cons_append, List.nil_append, Int.cast_ofNat_Int, w32_id, w64_id, le_T, le_F, lt_T, lt_F, eq_T, eq_F, reduceIte, ne_eq, Int.toNat_natCast, bi_0, bi_1, bi_b, Nat.reduceAdd, Nat.reduceEqDiff, Int.reduceToNat, Int.reduceNeg, nle_T, nlt_T, neq_T, neq_F]
      · rw [bi_T (Or.inr ⟨e, h1, fun q => absurd q h2⟩)]
        simp (config := { contextual := true }) (disch := omega) only [R_X12_mayBe, hW, true_and, and_true, true_implies, not_true_eq_false, false_implies, not_false_eq_true, false_and, and_false, or_true, true_or, false_or, or_false, implies_true, forall_const, kl_i, kl_n, kl_r, kl_l, tl_s, tl_n, List.cons_append, List.nil_append, Int.cast_ofNat_Int, w32_id, w64_id, le_T, le_F, lt_T, lt_F, eq_T, eq_F, reduceIte, ne_eq, Int.toNat_natCast, bi_0, bi_1, bi_b, Nat.reduceAdd, Nat.reduceEqDiff, Int.reduceToNat, Int.reduceNeg, nle_T, nlt_T, neq_T, neq_F]
    · rw [bi_F (by rintro (q | q); exact e q.1; exact h1 q.2.1)]
      simp (config := { contextual := true }) (disch := omega) only [R_X12_mayBe, hW, true_and, and_true, true_implies, not_true_eq_false, false_implies, not_false_eq_true, false_and, and_false, or_true, true_or, false_or, or_false, implies_true, forall_const, kl_i, kl_n, kl_r, kl_l, tl_s, tl_n, List.cons_append, List.nil_append, Int.cast_ofNat_Int, w32_id, w64_id, le_T, le_F, lt_T, lt_F, eq_T, eq_F, reduceIte, ne_eq, Int.toNat_natCast, bi_0, bi_1, bi_b, Nat.reduceAdd, Nat.reduceEqDiff, Int.reduceToNat, Int.reduceNeg, nle_T, nlt_T, neq_T, neq_F]
theorem ct_mayHave (hW : WM g) {i : Nat} (hi : i < 7) (ok : okTh (I 62 i) i (I 64 i) (I 65 i)) (Q : QQ) (ha : 0 ≤ I 57 36 ∧ I 57 36 ≤ 1000000) (ho : 0 ≤ I 66 1 ∧ I 66 1 ≤ 1000) (hh : 0 ≤ I 81 i ∧ I 81 i ≤ 1000000) : WP (d + 2) m_X12_mayHave 0 [some (vr (some 57)), some (vi i)] [] g I Q = Q (some (vi (bi (I 63 i = I 57 35 ∧ opn (I 62 i) (I 64 i) (I 65 i) i (I 81))))) g I := by
  by_cases e1 : I 63 i = I 57 35
  · by_cases e2 : opn (I 62 i) (I 64 i) (I 65 i) i (I 81)
    · rw [bi_T ⟨e1, e2⟩]
      simp (config := { contextual := true }) (disch := omega) only [R_X12_mayHave, hW, ct_mayBe hW hi ok, e1, e2, true_and, and_true, true_implies, not_true_eq_false, false_implies, not_false_eq_true, false_and, and_false, or_true, true_or, false_or, or_false, implies_true, forall_const, kl_i, kl_n, kl_r, kl_l, tl_s, tl_n, List.cons_append, List.nil_append, Int.cast_ofNat_Int, w32_id, w64_id, le_T, le_F, lt_T, lt_F, eq_T, eq_F, reduceIte, ne_eq, Int.toNat_natCast, bi_0, bi_1, bi_b, Nat.reduceAdd, Nat.reduceEqDiff, Int.reduceToNat, Int.reduceNeg, nle_T, nlt_T, neq_T, neq_F]
    · rw [bi_F (fun q => e2 q.2)]
      simp (config := { contextual := true }) (disch := omega) only [R_X12_mayHave, hW, ct_mayBe hW hi ok, e1, e2, true_and, and_true, true_implies, not_true_eq_false, false_implies, not_false_eq_true, false_and, and_false, or_true, true_or, false_or, or_false, implies_true, forall_const, kl_i, kl_n, kl_r, kl_l, tl_s, tl_n, List.cons_append, List.nil_append, Int.cast_ofNat_Int, w32_id, w64_id, le_T, le_F, lt_T, lt_F, eq_T, eq_F, reduceIte, ne_eq, Int.toNat_natCast, bi_0, bi_1, bi_b, Nat.reduceAdd, Nat.reduceEqDiff, Int.reduceToNat, Int.reduceNeg, nle_T, nlt_T, neq_T, neq_F]
  · rw [bi_F (fun q => e1 q.1)]
    simp (config := { contextual := true }) (disch := omega) only [R_X12_mayHave, hW, true_and, and_true, true_implies, not_true_eq_false, false_implies, not_false_eq_true, false_and, and_false, or_true, true_or, false_or, or_false, implies_true, forall_const, kl_i, kl_n, kl_r, kl_l, tl_s, tl_n, List.cons_append, List.nil_append, Int.cast_ofNat_Int, w32_id, w64_id, le_T, le_F, lt_T, lt_F, eq_T, eq_F, reduceIte, ne_eq, Int.toNat_natCast, bi_0, bi_1, bi_b, Nat.reduceAdd, Nat.reduceEqDiff, Int.reduceToNat, Int.reduceNeg, nle_T, nlt_T, neq_T, neq_F]
theorem ct_hasIt (hW : WM g) {i : Nat} (hi : i < 7) (ok : okTh (I 62 i) i (I 64 i) (I 65 i)) (Q : QQ) (ha : 0 ≤ I 57 36 ∧ I 57 36 ≤ 1000000) (ho : 0 ≤ I 66 1 ∧ I 66 1 ≤ 1000) (hh : 0 ≤ I 81 i ∧ I 81 i ≤ 1000000) : WP (d + 1) m_X12_hasIt 0 [some (vr (some 57)), some (vi i), none] [] g I Q = Q (some (vi (wth (I 62 i) (I 64 i) (I 65 i) (I 66 0) (I 66 1) (I 57 36) (I 81 i)))) g (pr (pr I 81 (uf (I 81) i (w32 (I 81 i + 1)))) 57 (uf (I 57) 37 (w32 (I 57 37 + wth (I 62 i) (I 64 i) (I 65 i) (I 66 0) (I 66 1) (I 57 36) (I 81 i))))) := by
  simp (config := { contextual := true }) (disch := omega) only [R_X12_hasIt, hW, ct_worthOf hW hi ok.1 ok.2.2.1, up_pr, pr_s, pr_o, true_and, and_true, true_implies, not_true_eq_false, false_implies, not_false_eq_true, false_and, and_false, or_true, true_or, false_or, or_false, implies_true, forall_const, kl_i, kl_n, kl_r, kl_l, tl_s, tl_n, List.cons_append, List.nil_append, Int.cast_ofNat_Int, w32_id, w64_id, le_T, le_F, lt_T, lt_F, eq_T, eq_F, reduceIte, ne_eq, Int.toNat_natCast, bi_0, bi_1, bi_b, Nat.reduceAdd, Nat.reduceEqDiff, Int.reduceToNat, Int.reduceNeg, nle_T, nlt_T, neq_T, neq_F]
theorem lp_begins (hW : WM g) (Q : QQ) {p : Int} (hQ : Q none g (pr I 81 (fll (fun _ => 0) 7 D))) : ∀ k i : Nat, i + k = 7 → WP d m_X12_begins 17 [some (vr (some 57)), some (vi p), some (vi i)] [] g (pr I 81 (fll (fun _ => 0) i D)) Q := by
  intro k
  induction k with
  | zero =>
    intro i hb
    obtain rfl : i = 7 := by omega
    rw [H_X12_begins_17]
    simp (config := { contextual := true }) (disch := omega) only [R_X12_begins, hW, true_and, and_true, true_implies, not_true_eq_false, false_implies, not_false_eq_true, false_and, and_false, or_true, true_or, false_or, or_false, implies_true, forall_const, kl_i, kl_n, kl_r, kl_l, tl_s, tl_n, List.cons_append, List.nil_append, Int.cast_ofNat_Int, w32_id, w64_id, le_T, le_F, lt_T, lt_F, eq_T, eq_F, reduceIte, ne_eq, Int.toNat_natCast, bi_0, bi_1, bi_b, Nat.reduceAdd, Nat.reduceEqDiff, Int.reduceToNat, Int.reduceNeg, nle_T, nlt_T, neq_T, neq_F]
    exact hQ
  | succ k ih =>
    intro i hb
    rw [H_X12_begins_17]
    simp (config := { contextual := true }) (disch := omega) only [R_X12_begins, hW, pr_s, up_pr, pr_pr, true_and, and_true, true_implies, not_true_eq_false, false_implies, not_false_eq_true, false_and, and_false, or_true, true_or, false_or, or_false, implies_true, forall_const, kl_i, kl_n, kl_r, kl_l, tl_s, tl_n, List.cons_append, List.nil_append, Int.cast_ofNat_Int, w32_id, w64_id, le_T, le_F, lt_T, lt_F, eq_T, eq_F, reduceIte, ne_eq, Int.toNat_natCast, bi_0, bi_1, bi_b, Nat.reduceAdd, Nat.reduceEqDiff, Int.reduceToNat, Int.reduceNeg, nle_T, nlt_T, neq_T, neq_F]
    rw [fll_s (fun _ => 0) i D rfl]
    exact ih (i + 1) (by omega)
theorem ct_begins (hW : WM g) (Q : QQ) (p : Int) : WP d m_X12_begins 0 [some (vr (some 57)), some (vi p), none] [] g I Q = Q none g (pr (pr I 57 (uf (uf (uf (I 57) 35 p) 36 0) 37 0)) 81 (fll (fun _ => 0) 7 (I 81))) := by
  refine WP_fun (fun Q hQ => ?_) Q
  simp (config := { contextual := true }) (disch := omega) only [R_X12_begins, hW, pr_s, up_pr, pr_pr, true_and, and_true, true_implies, not_true_eq_false, false_implies, not_false_eq_true, false_and, and_false, or_true, true_or, false_or, or_false, implies_true, forall_const, kl_i, kl_n, kl_r, kl_l, tl_s, tl_n, List.cons_append, List.nil_append, Int.cast_ofNat_Int, w32_id, w64_id, le_T, le_F, lt_T, lt_F, eq_T, eq_F, reduceIte, ne_eq, Int.toNat_natCast, bi_0, bi_1, bi_b, Nat.reduceAdd, Nat.reduceEqDiff, Int.reduceToNat, Int.reduceNeg, nle_T, nlt_T, neq_T, neq_F]
  have h := lp_begins (d := d) (I := pr I 57 (uf (uf (uf (I 57) 35 p) 36 0) 37 0)) (D := I 81) (p := p) hW Q hQ 7 0 (by omega)
  rw [fll_0] at h
  have e : pr (pr I 57 (uf (uf (uf (I 57) 35 p) 36 0) 37 0)) 81 (I 81) = pr I 57 (uf (uf (uf (I 57) 35 p) 36 0) 37 0) := by
    have := pr_id (pr I 57 (uf (uf (uf (I 57) 35 p) 36 0) 37 0)) 81
    rw [pr_o (by omega)] at this
    exact this
  rw [e] at h
  exact h
theorem ct_mayGo (hW : WM g) (hD : bD (I 72)) (Q : QQ) (p : Int) (hat : 0 ≤ I 57 35 ∧ I 57 35 < 8) (hage : 0 ≤ I 57 36 ∧ I 57 36 ≤ 1000000) (hp : 0 ≤ p ∧ p < 8) : WP (d + 1) m_X12_mayGo 0 [some (vr (some 57)), some (vi p)] [] g I Q = Q (some (vi (bi (I 57 36 + I 72 (8 * (I 57 35).toNat + p.toNat) ≤ I 66 2)))) g I := by
  have h1 := hD (8 * (I 57 35).toNat + p.toNat) (by omega)
  by_cases e : I 57 36 + I 72 (8 * (I 57 35).toNat + p.toNat) ≤ I 66 2
  · rw [bi_T e]
    simp (config := { contextual := true }) (disch := omega) only [R_X12_mayGo, hW, ct_farOf hW, true_and, and_true, true_implies, not_true_eq_false, false_implies, not_false_eq_true, false_and, and_false, or_true, true_or, false_or, or_false, implies_true, forall_const, kl_i, kl_n, kl_r, kl_l, tl_s, tl_n, List.cons_append, List.nil_append, Int.cast_ofNat_Int, w32_id, w64_id, le_T, le_F, lt_T, lt_F, eq_T, eq_F, reduceIte, ne_eq, Int.toNat_natCast, bi_0, bi_1, bi_b, Nat.reduceAdd, Nat.reduceEqDiff, Int.reduceToNat, Int.reduceNeg, nle_T, nlt_T, neq_T, neq_F]
  · rw [bi_F e]
    simp (config := { contextual := true }) (disch := omega) only [R_X12_mayGo, hW, ct_farOf hW, true_and, and_true, true_implies, not_true_eq_false, false_implies, not_false_eq_true, false_and, and_false, or_true, true_or, false_or, or_false, implies_true, forall_const, kl_i, kl_n, kl_r, kl_l, tl_s, tl_n, List.cons_append, List.nil_append, Int.cast_ofNat_Int, w32_id, w64_id, le_T, le_F, lt_T, lt_F, eq_T, eq_F, reduceIte, ne_eq, Int.toNat_natCast, bi_0, bi_1, bi_b, Nat.reduceAdd, Nat.reduceEqDiff, Int.reduceToNat, Int.reduceNeg, nle_T, nlt_T, neq_T, neq_F]
theorem ct_goesTo (hW : WM g) (hD : bD (I 72)) (Q : QQ) (p : Int) (hat : 0 ≤ I 57 35 ∧ I 57 35 < 8) (hage : 0 ≤ I 57 36 ∧ I 57 36 ≤ 1000000) (hp : 0 ≤ p ∧ p < 8) : WP (d + 1) m_X12_goesTo 0 [some (vr (some 57)), some (vi p)] [] g I Q = Q none g (pr I 57 (uf (uf (I 57) 36 (I 57 36 + I 72 (8 * (I 57 35).toNat + p.toNat))) 35 p)) := by
  have h1 := hD (8 * (I 57 35).toNat + p.toNat) (by omega)
  simp (config := { contextual := true }) (disch := omega) only [R_X12_goesTo, hW, ct_farOf hW, up_pr, pr_s, pr_pr, true_and, and_true, true_implies, not_true_eq_false, false_implies, not_false_eq_true, false_and, and_false, or_true, true_or, false_or, or_false, implies_true, forall_const, kl_i, kl_n, kl_r, kl_l, tl_s, tl_n, List.cons_append, List.nil_append, Int.cast_ofNat_Int, w32_id, w64_id, le_T, le_F, lt_T, lt_F, eq_T, eq_F, reduceIte, ne_eq, Int.toNat_natCast, bi_0, bi_1, bi_b, Nat.reduceAdd, Nat.reduceEqDiff, Int.reduceToNat, Int.reduceNeg, nle_T, nlt_T, neq_T, neq_F]
end MLIFE

-- small methods
theorem ct_no {g : GG} (hW : WM g) (d : Nat) (I : II) (Q : QQ) (w : Int) (h1 : -6 ≤ w) (h2 : w ≤ -1) : WP d m_X12_no 0 [some (vr (some 57)), some (vi w)] [] g I Q = Q (some (vi w)) g (up I 58 (-w).toNat (w32 (I 58 (-w).toNat + 1))) := by
  simp (config := { contextual := true }) (disch := omega) only [R_X12_no, hW, true_and, and_true, true_implies, not_true_eq_false, false_implies, not_false_eq_true, false_and, and_false, or_true, true_or, false_or, or_false, implies_true, forall_const, kl_i, kl_n, kl_r, kl_l, tl_s, tl_n, List.cons_append, List.nil_append, Int.cast_ofNat_Int, w32_id, w64_id, le_T, le_F, lt_T, lt_F, eq_T, eq_F, reduceIte, Nat.reduceAdd, Nat.reduceEqDiff]
theorem ct_isIn (g : GG) (d : Nat) (I : II) (Q : QQ) (v a b : Int) : WP d m_X12_isIn 0 [some (vi v), some (vi a), some (vi b)] [] g I Q = Q (some (vi (if a ≤ v ∧ v ≤ b then 1 else 0))) g I := by
  by_cases h1 : a ≤ v
  · by_cases h2 : v ≤ b
    · rw [if_pos ⟨h1, h2⟩]
      simp (config := { contextual := true }) (disch := omega) only [R_X12_isIn, true_and, and_true, true_implies, not_true_eq_false, false_implies, not_false_eq_true, false_and, and_false, or_true, true_or, false_or, or_false, implies_true, forall_const, kl_i, kl_n, kl_r, kl_l, tl_s, tl_n, List.cons_append, List.nil_append, Int.cast_ofNat_Int, w32_id, w64_id, le_T, le_F, lt_T, lt_F, eq_T, eq_F, reduceIte, Nat.reduceAdd, Nat.reduceEqDiff]
    · rw [if_neg (fun q => h2 q.2)]
      simp (config := { contextual := true }) (disch := omega) only [R_X12_isIn, true_and, and_true, true_implies, not_true_eq_false, false_implies, not_false_eq_true, false_and, and_false, or_true, true_or, false_or, or_false, implies_true, forall_const, kl_i, kl_n, kl_r, kl_l, tl_s, tl_n, List.cons_append, List.nil_append, Int.cast_ofNat_Int, w32_id, w64_id, le_T, le_F, lt_T, lt_F, eq_T, eq_F, reduceIte, Nat.reduceAdd, Nat.reduceEqDiff]
  · rw [if_neg (fun q => h1 q.1)]
    simp (config := { contextual := true }) (disch := omega) only [R_X12_isIn, true_and, and_true, true_implies, not_true_eq_false, false_implies, not_false_eq_true, false_and, and_false, or_true, true_or, false_or, or_false, implies_true, forall_const, kl_i, kl_n, kl_r, kl_l, tl_s, tl_n, List.cons_append, List.nil_append, Int.cast_ofNat_Int, w32_id, w64_id, le_T, le_F, lt_T, lt_F, eq_T, eq_F, reduceIte, Nat.reduceAdd, Nat.reduceEqDiff]

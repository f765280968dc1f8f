-- small methods of the model
section SMALL
variable {g : GG} {t : Nat}
theorem ct_no (hW : WM g) (d : Nat) (I : II) (Q : QQ) (w : Int) (h1 : -6 ≤ w) (h2 : w ≤ -1) : WP d m_X12_no 0 [some (vr (some 57)), some (vi w)] [] g I Q = Q (some (vi w)) g (pr I 58 (uf (I 58) (-w).toNat (w32 (I 58 (-w).toNat + 1)))) := by
  simp (config := { contextual := true }) (disch := omega) only [R_X12_no, hW, up_pr, true_and, and_true, true_implies, not_true_eq_false, false_implies, not_false_eq_true, false_and, and_false, or_true, true_or, false_or, or_false, implies_true, forall_const, kl_i, kl_n, kl_r, kl_l, tl_s, tl_n, List.cons_append, List.nil_append, Int.cast_ofNat_Int, w32_id, w64_id, le_T, le_F, lt_T, lt_F, eq_T, eq_F, reduceIte, bi_0, bi_1, bi_b, Nat.reduceAdd, Nat.reduceEqDiff]
theorem ct_noLong (hW : WM g) (d : Nat) (I : II) (Q : QQ) (w : Int) (h1 : -6 ≤ w) (h2 : w ≤ -1) : WP d m_X12_noLong 0 [some (vr (some 57)), some (vi w)] [] g I Q = Q (some (vl (4000000000000000000 - w))) g (pr I 58 (uf (I 58) (-w).toNat (w32 (I 58 (-w).toNat + 1)))) := by
  simp (config := { contextual := true }) (disch := omega) only [R_X12_noLong, hW, up_pr, true_and, and_true, true_implies, not_true_eq_false, false_implies, not_false_eq_true, false_and, and_false, or_true, true_or, false_or, or_false, implies_true, forall_const, kl_i, kl_n, kl_r, kl_l, tl_s, tl_n, List.cons_append, List.nil_append, Int.cast_ofNat_Int, w32_id, w64_id, le_T, le_F, lt_T, lt_F, eq_T, eq_F, reduceIte, bi_0, bi_1, bi_b, Nat.reduceAdd, Nat.reduceEqDiff]
theorem ct_isIn (d : Nat) (I : II) (Q : QQ) (v a b : Int) : WP d m_X12_isIn 0 [some (vi v), some (vi a), some (vi b)] [] g I Q = Q (some (vi (bi (a ≤ v ∧ v ≤ b)))) g I := by
  by_cases h1 : a ≤ v
  · by_cases h2 : v ≤ b
    · rw [bi_T ⟨h1, h2⟩]
      simp (config := { contextual := true }) (disch := omega) only [R_X12_isIn, true_and, and_true, true_implies, not_true_eq_false, false_implies, not_false_eq_true, false_and, and_false, or_true, true_or, false_or, or_false, implies_true, forall_const, kl_i, kl_n, kl_r, kl_l, tl_s, tl_n, List.cons_append, List.nil_append, Int.cast_ofNat_Int, w32_id, w64_id, le_T, le_F, lt_T, lt_F, eq_T, eq_F, reduceIte, bi_0, bi_1, bi_b, Nat.reduceAdd, Nat.reduceEqDiff]
    · rw [bi_F (fun q => h2 q.2)]
      simp (config := { contextual := true }) (disch := omega) only [R_X12_isIn, true_and, and_true, true_implies, not_true_eq_false, false_implies, not_false_eq_true, false_and, and_false, or_true, true_or, false_or, or_false, implies_true, forall_const, kl_i, kl_n, kl_r, kl_l, tl_s, tl_n, List.cons_append, List.nil_append, Int.cast_ofNat_Int, w32_id, w64_id, le_T, le_F, lt_T, lt_F, eq_T, eq_F, reduceIte, bi_0, bi_1, bi_b, Nat.reduceAdd, Nat.reduceEqDiff]
  · rw [bi_F (fun q => h1 q.1)]
    simp (config := { contextual := true }) (disch := omega) only [R_X12_isIn, true_and, and_true, true_implies, not_true_eq_false, false_implies, not_false_eq_true, false_and, and_false, or_true, true_or, false_or, or_false, implies_true, forall_const, kl_i, kl_n, kl_r, kl_l, tl_s, tl_n, List.cons_append, List.nil_append, Int.cast_ofNat_Int, w32_id, w64_id, le_T, le_F, lt_T, lt_F, eq_T, eq_F, reduceIte, bi_0, bi_1, bi_b, Nat.reduceAdd, Nat.reduceEqDiff]
def bnd (v a b : Int) : Int := if v < a then -4 else if b < v then -6 else 0
theorem ct_bound (d : Nat) (I : II) (Q : QQ) (v a b : Int) : WP d m_X12_bound 0 [some (vi v), some (vi a), some (vi b)] [] g I Q = Q (some (vi (bnd v a b))) g I := by
  unfold bnd
  by_cases h1 : v < a
  · rw [if_pos h1]
    simp (config := { contextual := true }) (disch := omega) only [R_X12_bound, true_and, and_true, true_implies, not_true_eq_false, false_implies, not_false_eq_true, false_and, and_false, or_true, true_or, false_or, or_false, implies_true, forall_const, kl_i, kl_n, kl_r, kl_l, tl_s, tl_n, List.cons_append, List.nil_append, Int.cast_ofNat_Int, w32_id, w64_id, le_T, le_F, lt_T, lt_F, eq_T, eq_F, reduceIte, bi_0, bi_1, bi_b, Nat.reduceAdd, Nat.reduceEqDiff]
  · rw [if_neg h1]
    by_cases h2 : b < v
    · rw [if_pos h2]
      simp (config := { contextual := true }) (disch := omega) only [R_X12_bound, true_and, and_true, true_implies, not_true_eq_false, false_implies, not_false_eq_true, false_and, and_false, or_true, true_or, false_or, or_false, implies_true, forall_const, kl_i, kl_n, kl_r, kl_l, tl_s, tl_n, List.cons_append, List.nil_append, Int.cast_ofNat_Int, w32_id, w64_id, le_T, le_F, lt_T, lt_F, eq_T, eq_F, reduceIte, bi_0, bi_1, bi_b, Nat.reduceAdd, Nat.reduceEqDiff]
    · rw [if_neg h2]
      simp (config := { contextual := true }) (disch := omega) only [R_X12_bound, true_and, and_true, true_implies, not_true_eq_false, false_implies, not_false_eq_true, false_and, and_false, or_true, true_or, false_or, or_false, implies_true, forall_const, kl_i, kl_n, kl_r, kl_l, tl_s, tl_n, List.cons_append, List.nil_append, Int.cast_ofNat_Int, w32_id, w64_id, le_T, le_F, lt_T, lt_F, eq_T, eq_F, reduceIte, bi_0, bi_1, bi_b, Nat.reduceAdd, Nat.reduceEqDiff]
theorem ct_misPlace (hW : WM g) (d : Nat) (I : II) (Q : QQ) (p : Int) : WP d m_X12_isPlace 0 [some (vr (some 57)), some (vi p)] [] g I Q = Q (some (vi (bi (0 ≤ p ∧ p < I 57 14)))) g I := by
  by_cases h1 : 0 ≤ p
  · by_cases h2 : p < I 57 14
    · rw [bi_T ⟨h1, h2⟩]
      simp (config := { contextual := true }) (disch := omega) only [R_X12_isPlace, hW, true_and, and_true, true_implies, not_true_eq_false, false_implies, not_false_eq_true, false_and, and_false, or_true, true_or, false_or, or_false, implies_true, forall_const, kl_i, kl_n, kl_r, kl_l, tl_s, tl_n, List.cons_append, List.nil_append, Int.cast_ofNat_Int, w32_id, w64_id, le_T, le_F, lt_T, lt_F, eq_T, eq_F, reduceIte, bi_0, bi_1, bi_b, Nat.reduceAdd, Nat.reduceEqDiff]
    · rw [bi_F (fun q => h2 q.2)]
      simp (config := { contextual := true }) (disch := omega) only [R_X12_isPlace, hW, true_and, and_true, true_implies, not_true_eq_false, false_implies, not_false_eq_true, false_and, and_false, or_true, true_or, false_or, or_false, implies_true, forall_const, kl_i, kl_n, kl_r, kl_l, tl_s, tl_n, List.cons_append, List.nil_append, Int.cast_ofNat_Int, w32_id, w64_id, le_T, le_F, lt_T, lt_F, eq_T, eq_F, reduceIte, bi_0, bi_1, bi_b, Nat.reduceAdd, Nat.reduceEqDiff]
  · rw [bi_F (fun q => h1 q.1)]
    simp (config := { contextual := true }) (disch := omega) only [R_X12_isPlace, hW, true_and, and_true, true_implies, not_true_eq_false, false_implies, not_false_eq_true, false_and, and_false, or_true, true_or, false_or, or_false, implies_true, forall_const, kl_i, kl_n, kl_r, kl_l, tl_s, tl_n, List.cons_append, List.nil_append, Int.cast_ofNat_Int, w32_id, w64_id, le_T, le_F, lt_T, lt_F, eq_T, eq_F, reduceIte, bi_0, bi_1, bi_b, Nat.reduceAdd, Nat.reduceEqDiff]
theorem ct_misThing (hW : WM g) (d : Nat) (I : II) (Q : QQ) (p : Int) : WP d m_X12_isThing 0 [some (vr (some 57)), some (vi p)] [] g I Q = Q (some (vi (bi (0 ≤ p ∧ p < I 57 16)))) g I := by
  by_cases h1 : 0 ≤ p
  · by_cases h2 : p < I 57 16
    · rw [bi_T ⟨h1, h2⟩]
      simp (config := { contextual := true }) (disch := omega) only [R_X12_isThing, hW, true_and, and_true, true_implies, not_true_eq_false, false_implies, not_false_eq_true, false_and, and_false, or_true, true_or, false_or, or_false, implies_true, forall_const, kl_i, kl_n, kl_r, kl_l, tl_s, tl_n, List.cons_append, List.nil_append, Int.cast_ofNat_Int, w32_id, w64_id, le_T, le_F, lt_T, lt_F, eq_T, eq_F, reduceIte, bi_0, bi_1, bi_b, Nat.reduceAdd, Nat.reduceEqDiff]
    · rw [bi_F (fun q => h2 q.2)]
      simp (config := { contextual := true }) (disch := omega) only [R_X12_isThing, hW, true_and, and_true, true_implies, not_true_eq_false, false_implies, not_false_eq_true, false_and, and_false, or_true, true_or, false_or, or_false, implies_true, forall_const, kl_i, kl_n, kl_r, kl_l, tl_s, tl_n, List.cons_append, List.nil_append, Int.cast_ofNat_Int, w32_id, w64_id, le_T, le_F, lt_T, lt_F, eq_T, eq_F, reduceIte, bi_0, bi_1, bi_b, Nat.reduceAdd, Nat.reduceEqDiff]
  · rw [bi_F (fun q => h1 q.1)]
    simp (config := { contextual := true }) (disch := omega) only [R_X12_isThing, hW, true_and, and_true, true_implies, not_true_eq_false, false_implies, not_false_eq_true, false_and, and_false, or_true, true_or, false_or, or_false, implies_true, forall_const, kl_i, kl_n, kl_r, kl_l, tl_s, tl_n, List.cons_append, List.nil_append, Int.cast_ofNat_Int, w32_id, w64_id, le_T, le_F, lt_T, lt_F, eq_T, eq_F, reduceIte, bi_0, bi_1, bi_b, Nat.reduceAdd, Nat.reduceEqDiff]
theorem ct_farOf (hW : WM g) (d : Nat) (I : II) (Q : QQ) (a b : Int) (h1 : 0 ≤ a) (h2 : a < 8) (h3 : 0 ≤ b) (h4 : b < 8) : WP d m_X12_farOf 0 [some (vr (some 57)), some (vi a), some (vi b)] [] g I Q = Q (some (vi (I 72 (8 * a.toNat + b.toNat)))) g I := by
  have e : (8 * a + b).toNat = 8 * a.toNat + b.toNat := by omega
  simp (config := { contextual := true }) (disch := omega) only [R_X12_farOf, hW, e, true_and, and_true, true_implies, not_true_eq_false, false_implies, not_false_eq_true, false_and, and_false, or_true, true_or, false_or, or_false, implies_true, forall_const, kl_i, kl_n, kl_r, kl_l, tl_s, tl_n, List.cons_append, List.nil_append, Int.cast_ofNat_Int, w32_id, w64_id, le_T, le_F, lt_T, lt_F, eq_T, eq_F, reduceIte, bi_0, bi_1, bi_b, Nat.reduceAdd, Nat.reduceEqDiff]
-- small methods of the class
theorem ct_refuse (hW : WX g) (d : Nat) (I : II) (Q : QQ) (w : Int) (h1 : -6 ≤ w) (h2 : w ≤ -1) : WP d m_X11_refuse 0 [some (vr (some 5)), some (vi w)] [] g I Q = Q (some (vi w)) g (pr I 56 (uf (I 56) (-w).toNat (w32 (I 56 (-w).toNat + 1)))) := by
  simp (config := { contextual := true }) (disch := omega) only [R_X11_refuse, hW, up_pr, true_and, and_true, true_implies, not_true_eq_false, false_implies, not_false_eq_true, false_and, and_false, or_true, true_or, false_or, or_false, implies_true, forall_const, kl_i, kl_n, kl_r, kl_l, tl_s, tl_n, List.cons_append, List.nil_append, Int.cast_ofNat_Int, w32_id, w64_id, le_T, le_F, lt_T, lt_F, eq_T, eq_F, reduceIte, bi_0, bi_1, bi_b, Nat.reduceAdd, Nat.reduceEqDiff]
theorem ct_refuseLong (hW : WX g) (d : Nat) (I : II) (Q : QQ) (w : Int) (h1 : -6 ≤ w) (h2 : w ≤ -1) : WP (d + 1) m_X11_refuseLong 0 [some (vr (some 5)), some (vi w)] [] g I Q = Q (some (vl (4000000000000000000 - w))) g (pr I 56 (uf (I 56) (-w).toNat (w32 (I 56 (-w).toNat + 1)))) := by
  simp (config := { contextual := true }) (disch := omega) only [R_X11_refuseLong, hW, ct_refuse hW, true_and, and_true, true_implies, not_true_eq_false, false_implies, not_false_eq_true, false_and, and_false, or_true, true_or, false_or, or_false, implies_true, forall_const, kl_i, kl_n, kl_r, kl_l, tl_s, tl_n, List.cons_append, List.nil_append, Int.cast_ofNat_Int, w32_id, w64_id, le_T, le_F, lt_T, lt_F, eq_T, eq_F, reduceIte, bi_0, bi_1, bi_b, Nat.reduceAdd, Nat.reduceEqDiff]
theorem ct_isPlace (hW : WT g t) (d : Nat) (I : II) (Q : QQ) (p : Int) : WP d m_X9_isPlace 0 [some (vr (some t)), some (vi p)] [] g I Q = Q (some (vi (bi (0 ≤ p ∧ p < I t 0)))) g I := by
  by_cases h1 : 0 ≤ p
  · by_cases h2 : p < I t 0
    · rw [bi_T ⟨h1, h2⟩]
      simp (config := { contextual := true }) (disch := omega) only [R_X9_isPlace, hW, true_and, and_true, true_implies, not_true_eq_false, false_implies, not_false_eq_true, false_and, and_false, or_true, true_or, false_or, or_false, implies_true, forall_const, kl_i, kl_n, kl_r, kl_l, tl_s, tl_n, List.cons_append, List.nil_append, Int.cast_ofNat_Int, w32_id, w64_id, le_T, le_F, lt_T, lt_F, eq_T, eq_F, reduceIte, bi_0, bi_1, bi_b, Nat.reduceAdd, Nat.reduceEqDiff]
    · rw [bi_F (fun q => h2 q.2)]
      simp (config := { contextual := true }) (disch := omega) only [R_X9_isPlace, hW, true_and, and_true, true_implies, not_true_eq_false, false_implies, not_false_eq_true, false_and, and_false, or_true, true_or, false_or, or_false, implies_true, forall_const, kl_i, kl_n, kl_r, kl_l, tl_s, tl_n, List.cons_append, List.nil_append, Int.cast_ofNat_Int, w32_id, w64_id, le_T, le_F, lt_T, lt_F, eq_T, eq_F, reduceIte, bi_0, bi_1, bi_b, Nat.reduceAdd, Nat.reduceEqDiff]
  · rw [bi_F (fun q => h1 q.1)]
    simp (config := { contextual := true }) (disch := omega) only [R_X9_isPlace, hW, true_and, and_true, true_implies, not_true_eq_false, false_implies, not_false_eq_true, false_and, and_false, or_true, true_or, false_or, or_false, implies_true, forall_const, kl_i, kl_n, kl_r, kl_l, tl_s, tl_n, List.cons_append, List.nil_append, Int.cast_ofNat_Int, w32_id, w64_id, le_T, le_F, lt_T, lt_F, eq_T, eq_F, reduceIte, bi_0, bi_1, bi_b, Nat.reduceAdd, Nat.reduceEqDiff]
theorem ct_isThing (hW : WT g t) (d : Nat) (I : II) (Q : QQ) (p : Int) : WP d m_X9_isThing 0 [some (vr (some t)), some (vi p)] [] g I Q = Q (some (vi (bi (0 ≤ p ∧ p < I t 4)))) g I := by
  by_cases h1 : 0 ≤ p
  · by_cases h2 : p < I t 4
    · rw [bi_T ⟨h1, h2⟩]
      simp (config := { contextual := true }) (disch := omega) only [R_X9_isThing, hW, true_and, and_true, true_implies, not_true_eq_false, false_implies, not_false_eq_true, false_and, and_false, or_true, true_or, false_or, or_false, implies_true, forall_const, kl_i, kl_n, kl_r, kl_l, tl_s, tl_n, List.cons_append, List.nil_append, Int.cast_ofNat_Int, w32_id, w64_id, le_T, le_F, lt_T, lt_F, eq_T, eq_F, reduceIte, bi_0, bi_1, bi_b, Nat.reduceAdd, Nat.reduceEqDiff]
    · rw [bi_F (fun q => h2 q.2)]
      simp (config := { contextual := true }) (disch := omega) only [R_X9_isThing, hW, true_and, and_true, true_implies, not_true_eq_false, false_implies, not_false_eq_true, false_and, and_false, or_true, true_or, false_or, or_false, implies_true, forall_const, kl_i, kl_n, kl_r, kl_l, tl_s, tl_n, List.cons_append, List.nil_append, Int.cast_ofNat_Int, w32_id, w64_id, le_T, le_F, lt_T, lt_F, eq_T, eq_F, reduceIte, bi_0, bi_1, bi_b, Nat.reduceAdd, Nat.reduceEqDiff]
  · rw [bi_F (fun q => h1 q.1)]
    simp (config := { contextual := true }) (disch := omega) only [R_X9_isThing, hW, true_and, and_true, true_implies, not_true_eq_false, false_implies, not_false_eq_true, false_and, and_false, or_true, true_or, false_or, or_false, implies_true, forall_const, kl_i, kl_n, kl_r, kl_l, tl_s, tl_n, List.cons_append, List.nil_append, Int.cast_ofNat_Int, w32_id, w64_id, le_T, le_F, lt_T, lt_F, eq_T, eq_F, reduceIte, bi_0, bi_1, bi_b, Nat.reduceAdd, Nat.reduceEqDiff]
theorem ct_miles (hW : WT g t) (d : Nat) (I : II) (Q : QQ) (a b : Int) (h1 : 0 ≤ a) (h2 : a < 8) (h3 : 0 ≤ b) (h4 : b < 8) : WP d m_X9_miles 0 [some (vr (some t)), some (vi a), some (vi b)] [] g I Q = Q (some (vi (I (t + 2) (8 * a.toNat + b.toNat)))) g I := by
  have e : (a * 8 + b).toNat = 8 * a.toNat + b.toNat := by omega
  simp (config := { contextual := true }) (disch := omega) only [R_X9_miles, hW, e, true_and, and_true, true_implies, not_true_eq_false, false_implies, not_false_eq_true, false_and, and_false, or_true, true_or, false_or, or_false, implies_true, forall_const, kl_i, kl_n, kl_r, kl_l, tl_s, tl_n, List.cons_append, List.nil_append, Int.cast_ofNat_Int, w32_id, w64_id, le_T, le_F, lt_T, lt_F, eq_T, eq_F, reduceIte, bi_0, bi_1, bi_b, Nat.reduceAdd, Nat.reduceEqDiff]
end SMALL

-- THE START: a Told is made, before its loop (wip/whole/mk9i.py)
def cg (K : Nat → Nat × Nat) (R : Nat → Nat → Option Nat) (N S : Nat) : GG := (K, (R, (N, S)))
def uK (K : Nat → Nat × Nat) (a : Nat) (kd : Nat × Nat) : Nat → Nat × Nat := fun b => if b = a then kd else K b
def uR (R : Nat → Nat → Option Nat) (a k : Nat) (r : Option Nat) : Nat → Nat → Option Nat := fun b => if b = a then (fun j => if j = k then r else R a j) else R b
def nR (R : Nat → Nat → Option Nat) (a : Nat) : Nat → Nat → Option Nat := fun b => if b = a then (fun _ => none) else R b
section CG
variable {K : Nat → Nat × Nat} {R : Nat → Nat → Option Nat} {N S a b k j sl : Nat} {kd : Nat × Nat} {r : Option Nat}
theorem cg_new : gnew (cg K R N S) kd sl = cg (uK K N kd) (nR R N) (N + 1) (S + sl) := rfl
theorem cg_put : gput (cg K R N S) a k r = cg K (uR R a k r) N S := rfl
theorem cg_N : gN (cg K R N S) = N := rfl
theorem cg_S : gS (cg K R N S) = S := rfl
theorem cg_K : gK (cg K R N S) b = K b := rfl
theorem cg_R : gR (cg K R N S) b j = R b j := rfl
theorem uK_s : uK K a kd a = kd := if_pos rfl
theorem uK_o (h : ¬ b = a) : uK K a kd b = K b := if_neg h
theorem uR_o (h : ¬ b = a) : uR R a k r b = R b := if_neg h
theorem nR_o (h : ¬ b = a) : nR R a b = R b := if_neg h
end CG
section TOLD2
variable {I : II} {K : Nat → Nat × Nat} {R : Nat → Nat → Option Nat} {S : Nat}
theorem ct_told6 (hk : K 6 = (0, 8)) (hI : I 6 = fun _ => 0) (d : Nat) (Q : QQ) (hQ : ∀ g' I', TI (cg K R 7 S) I 6 g' I' → Q none g' I') : WP (d + 4) m_X9_init 0 [some (vr (some 6)), none, none] [] (cg K R 7 S) I Q := by
  simp (config := { maxSteps := 2000000 }) (disch := omega) only [R_X9_init_b0, R_X9_init_b1, R_X4_init, R_X6_init, R_X8_init, hk, hI, cg_new, cg_put, cg_N, cg_K, uK_s, uK_o, inew_pr, up_pr, pr_s, pr_o, pr_pr, isTh, List.mem_cons, List.not_mem_nil, true_and, and_true, true_implies, not_true_eq_false, false_implies, not_false_eq_true, false_and, and_false, or_true, true_or, false_or, or_false, implies_true, forall_const, kl_i, kl_n, kl_r, kl_l, tl_s, tl_n, List.cons_append, List.nil_append, Int.cast_ofNat_Int, w32_id, w64_id, le_T, le_F, lt_T, lt_F, eq_T, eq_F, reduceIte, ne_eq, Int.toNat_natCast, bi_0, bi_1, bi_b, Nat.reduceAdd, Nat.reduceEqDiff, Int.reduceToNat, Int.reduceNeg, nle_T, nlt_T, neq_T, neq_F, b2_0, b2_b, both, reduceCtorEq]
  refine ct_toldL (t := 6) (by omega) ?_ ?_ ?_ ?_ ?_ ?_ ?_ ?_ ?_ (d + 2) _ (fun g' I' a1 a2 a3 a4 a5 a6 a7 a8 => hQ g' I' ⟨a1, a2, a3, ⟨a4, ?_⟩, fun a ha => ?_, fun a k ha => ?_, fun a ha => ?_⟩)
  · exact ⟨hk, rfl, rfl, rfl, rfl, rfl, rfl, rfl, rfl, rfl, rfl, rfl, rfl, rfl, rfl, rfl, rfl, rfl, rfl, rfl, rfl, rfl, rfl⟩
  · exact ⟨rfl, (by show (6 : Nat) ∈ [0, 1, 2, 3, 6, 9]; decide)⟩
  · rfl
  · exact ⟨rfl, rfl, rfl, rfl, rfl⟩
  · rfl
  · intro j hj
    rcases (by omega : j = 0 ∨ j = 1 ∨ j = 2 ∨ j = 3) with r | r | r | r <;> subst r <;> rfl
  · exact ⟨rfl, rfl, rfl, rfl, rfl⟩
  · exact ⟨rfl, rfl, rfl⟩
  · rfl
  · rw [a5, cg_S, cg_S]
    clear a1 a2 a3 a4 a5 a6 a7 a8
    omega
  · rw [a6, cg_K, cg_K]
    clear a1 a2 a3 a4 a5 a6 a7 a8
    simp (disch := omega) only [uK_o]
  · rw [a7 a k (by clear a1 a2 a3 a4 a5 a6 a7 a8; omega), cg_R, cg_R]
    clear a1 a2 a3 a4 a5 a6 a7 a8
    simp (disch := omega) only [uR_o, nR_o]
  · rw [a8 a (by clear a1 a2 a3 a4 a5 a6 a7 a8; omega)]
    clear a1 a2 a3 a4 a5 a6 a7 a8
    simp (disch := omega) only [pr_o]
theorem ct_told19 (hk : K 19 = (0, 8)) (hI : I 19 = fun _ => 0) (d : Nat) (Q : QQ) (hQ : ∀ g' I', TI (cg K R 20 S) I 19 g' I' → Q none g' I') : WP (d + 4) m_X9_init 0 [some (vr (some 19)), none, none] [] (cg K R 20 S) I Q := by
  simp (config := { maxSteps := 2000000 }) (disch := omega) only [R_X9_init_b0, R_X9_init_b1, R_X4_init, R_X6_init, R_X8_init, hk, hI, cg_new, cg_put, cg_N, cg_K, uK_s, uK_o, inew_pr, up_pr, pr_s, pr_o, pr_pr, isTh, List.mem_cons, List.not_mem_nil, true_and, and_true, true_implies, not_true_eq_false, false_implies, not_false_eq_true, false_and, and_false, or_true, true_or, false_or, or_false, implies_true, forall_const, kl_i, kl_n, kl_r, kl_l, tl_s, tl_n, List.cons_append, List.nil_append, Int.cast_ofNat_Int, w32_id, w64_id, le_T, le_F, lt_T, lt_F, eq_T, eq_F, reduceIte, ne_eq, Int.toNat_natCast, bi_0, bi_1, bi_b, Nat.reduceAdd, Nat.reduceEqDiff, Int.reduceToNat, Int.reduceNeg, nle_T, nlt_T, neq_T, neq_F, b2_0, b2_b, both, reduceCtorEq]
  refine ct_toldL (t := 19) (by omega) ?_ ?_ ?_ ?_ ?_ ?_ ?_ ?_ ?_ (d + 2) _ (fun g' I' a1 a2 a3 a4 a5 a6 a7 a8 => hQ g' I' ⟨a1, a2, a3, ⟨a4, ?_⟩, fun a ha => ?_, fun a k ha => ?_, fun a ha => ?_⟩)
  · exact ⟨hk, rfl, rfl, rfl, rfl, rfl, rfl, rfl, rfl, rfl, rfl, rfl, rfl, rfl, rfl, rfl, rfl, rfl, rfl, rfl, rfl, rfl, rfl⟩
  · exact ⟨rfl, (by show (6 : Nat) ∈ [0, 1, 2, 3, 6, 9]; decide)⟩
  · rfl
  · exact ⟨rfl, rfl, rfl, rfl, rfl⟩
  · rfl
  · intro j hj
    rcases (by omega : j = 0 ∨ j = 1 ∨ j = 2 ∨ j = 3) with r | r | r | r <;> subst r <;> rfl
  · exact ⟨rfl, rfl, rfl, rfl, rfl⟩
  · exact ⟨rfl, rfl, rfl⟩
  · rfl
  · rw [a5, cg_S, cg_S]
    clear a1 a2 a3 a4 a5 a6 a7 a8
    omega
  · rw [a6, cg_K, cg_K]
    clear a1 a2 a3 a4 a5 a6 a7 a8
    simp (disch := omega) only [uK_o]
  · rw [a7 a k (by clear a1 a2 a3 a4 a5 a6 a7 a8; omega), cg_R, cg_R]
    clear a1 a2 a3 a4 a5 a6 a7 a8
    simp (disch := omega) only [uR_o, nR_o]
  · rw [a8 a (by clear a1 a2 a3 a4 a5 a6 a7 a8; omega)]
    clear a1 a2 a3 a4 a5 a6 a7 a8
    simp (disch := omega) only [pr_o]
theorem ct_told32 (hk : K 32 = (0, 8)) (hI : I 32 = fun _ => 0) (d : Nat) (Q : QQ) (hQ : ∀ g' I', TI (cg K R 33 S) I 32 g' I' → Q none g' I') : WP (d + 4) m_X9_init 0 [some (vr (some 32)), none, none] [] (cg K R 33 S) I Q := by
  simp (config := { maxSteps := 2000000 }) (disch := omega) only [R_X9_init_b0, R_X9_init_b1, R_X4_init, R_X6_init, R_X8_init, hk, hI, cg_new, cg_put, cg_N, cg_K, uK_s, uK_o, inew_pr, up_pr, pr_s, pr_o, pr_pr, isTh, List.mem_cons, List.not_mem_nil, true_and, and_true, true_implies, not_true_eq_false, false_implies, not_false_eq_true, false_and, and_false, or_true, true_or, false_or, or_false, implies_true, forall_const, kl_i, kl_n, kl_r, kl_l, tl_s, tl_n, List.cons_append, List.nil_append, Int.cast_ofNat_Int, w32_id, w64_id, le_T, le_F, lt_T, lt_F, eq_T, eq_F, reduceIte, ne_eq, Int.toNat_natCast, bi_0, bi_1, bi_b, Nat.reduceAdd, Nat.reduceEqDiff, Int.reduceToNat, Int.reduceNeg, nle_T, nlt_T, neq_T, neq_F, b2_0, b2_b, both, reduceCtorEq]
  refine ct_toldL (t := 32) (by omega) ?_ ?_ ?_ ?_ ?_ ?_ ?_ ?_ ?_ (d + 2) _ (fun g' I' a1 a2 a3 a4 a5 a6 a7 a8 => hQ g' I' ⟨a1, a2, a3, ⟨a4, ?_⟩, fun a ha => ?_, fun a k ha => ?_, fun a ha => ?_⟩)
  · exact ⟨hk, rfl, rfl, rfl, rfl, rfl, rfl, rfl, rfl, rfl, rfl, rfl, rfl, rfl, rfl, rfl, rfl, rfl, rfl, rfl, rfl, rfl, rfl⟩
  · exact ⟨rfl, (by show (6 : Nat) ∈ [0, 1, 2, 3, 6, 9]; decide)⟩
  · rfl
  · exact ⟨rfl, rfl, rfl, rfl, rfl⟩
  · rfl
  · intro j hj
    rcases (by omega : j = 0 ∨ j = 1 ∨ j = 2 ∨ j = 3) with r | r | r | r <;> subst r <;> rfl
  · exact ⟨rfl, rfl, rfl, rfl, rfl⟩
  · exact ⟨rfl, rfl, rfl⟩
  · rfl
  · rw [a5, cg_S, cg_S]
    clear a1 a2 a3 a4 a5 a6 a7 a8
    omega
  · rw [a6, cg_K, cg_K]
    clear a1 a2 a3 a4 a5 a6 a7 a8
    simp (disch := omega) only [uK_o]
  · rw [a7 a k (by clear a1 a2 a3 a4 a5 a6 a7 a8; omega), cg_R, cg_R]
    clear a1 a2 a3 a4 a5 a6 a7 a8
    simp (disch := omega) only [uR_o, nR_o]
  · rw [a8 a (by clear a1 a2 a3 a4 a5 a6 a7 a8; omega)]
    clear a1 a2 a3 a4 a5 a6 a7 a8
    simp (disch := omega) only [pr_o]
end TOLD2

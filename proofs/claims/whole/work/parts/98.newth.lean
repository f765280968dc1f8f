-- LAND: the class's telling of a thing
def thr (kd : Int) (num : Int) (pl wo ak : Int) : Nat → Int := uf (uf (uf (uf (uf (fun _ => 0) 0 kd) 1 num) 2 pl) 3 wo) 4 ak
def gth (g : GG) (t : Nat) (kd : Int) (n : Nat) : GG := gput (gnew g (0, clsO kd) 5) (t + 3) n (some (gN g))
section NEWTH
variable {g : GG} {I : II} {t P n : Nat}
theorem ct_thI {b : Nat} (hb : isTh g b) (kd num pl wo ak : Int) (d : Nat) (Q : QQ) : WP d m_X8_init 0 [some (vr (some b)), some (vi kd), some (vi num), some (vi pl), some (vi wo), some (vi ak)] [] g (pr I b (fun _ => 0)) Q = Q none g (pr I b (thr kd num pl wo ak)) := by
  have hb0 := hb
  unfold isTh at hb0
  have h1 := hb0.1
  have h2 : (gK g b).2 < 12 := by
    have := hb0.2
    simp only [List.mem_cons, List.not_mem_nil, or_false] at this
    omega
  clear hb0
  unfold thr
  simp (config := { contextual := true }) (disch := omega) only [R_X8_init, hb, h1, h2, up_pr, pr_s, pr_pr, true_and, and_true, true_implies, not_true_eq_false, false_implies, not_false_eq_true, false_and, and_false, or_true, true_or, false_or, or_false, implies_true, forall_const, kl_i, kl_n, kl_r, kl_l, tl_s, tl_n, List.cons_append, List.nil_append, Int.cast_ofNat_Int, w32_id, w64_id, le_T, le_F, lt_T, lt_F, eq_T, eq_F, reduceIte, ne_eq, Int.toNat_natCast, bi_0, bi_1, bi_b, Nat.reduceAdd, Nat.reduceEqDiff, Int.reduceToNat, Int.reduceNeg, nle_T, nlt_T, neq_T, neq_F, b2_0, b2_b, both, reduceCtorEq]
theorem ct_tellThing (hW : WT g t) (ht : t = 6 ∨ t = 19) (hs : STR g I) (hN : 90 ≤ gN g) (h0 : I t 0 = (P : Int)) (h4 : I t 4 = (n : Int)) (hn : n ≤ 7) (hP8 : P ≤ 8) {kd pl wo ak : Int} (hk : 0 ≤ kd ∧ kd ≤ 5) (hpl : 0 ≤ pl) (hak : 0 ≤ ak) (d : Nat) (Q : QQ) : WP (d + 5) m_X9_tellThing 0 [some (vr (some t)), some (vi kd), some (vi pl), some (vi wo), some (vi ak), none] [] g I Q = if pl < P ∧ n < 7 ∧ (kd = 2 → ak < n) then Q (some (vi 1)) (gth g t kd n) (pr (pr I (gN g) (thr kd n pl wo ak)) t (uf (I t) 4 ((n : Int) + 1))) else Q (some (vi 0)) g I := by
  obtain ⟨k, rfl⟩ := Int.eq_ofNat_of_zero_le hk.1
  have kc := fun Q => ct_chr hs (k := k) (by omega) d Q
  have hs1 := hs.1
  by_cases c1 : pl < P
  case neg =>
    rw [if_neg (fun z => c1 z.1)]
    simp (config := { contextual := true }) (disch := omega) only [R_X9_tellThing_b0, R_X9_tellThing_b1, R_X9_tellThing_b2, hW, ct_isPlace hW, h0, true_and, and_true, true_implies, not_true_eq_false, false_implies, not_false_eq_true, false_and, and_false, or_true, true_or, false_or, or_false, implies_true, forall_const, kl_i, kl_n, kl_r, kl_l, tl_s, tl_n, List.cons_append, List.nil_append, Int.cast_ofNat_Int, w32_id, w64_id, le_T, le_F, lt_T, lt_F, eq_T, eq_F, reduceIte, ne_eq, Int.toNat_natCast, bi_0, bi_1, bi_b, Nat.reduceAdd, Nat.reduceEqDiff, Int.reduceToNat, Int.reduceNeg, nle_T, nlt_T, neq_T, neq_F, b2_0, b2_b, both, reduceCtorEq]
  by_cases c2 : n < 7
  case neg =>
    rw [if_neg (fun z => c2 z.2.1)]
    simp (config := { contextual := true }) (disch := omega) only [R_X9_tellThing_b0, R_X9_tellThing_b1, R_X9_tellThing_b2, hW, ct_isPlace hW, h0, h4, true_and, and_true, true_implies, not_true_eq_false, false_implies, not_false_eq_true, false_and, and_false, or_true, true_or, false_or, or_false, implies_true, forall_const, kl_i, kl_n, kl_r, kl_l, tl_s, tl_n, List.cons_append, List.nil_append, Int.cast_ofNat_Int, w32_id, w64_id, le_T, le_F, lt_T, lt_F, eq_T, eq_F, reduceIte, ne_eq, Int.toNat_natCast, bi_0, bi_1, bi_b, Nat.reduceAdd, Nat.reduceEqDiff, Int.reduceToNat, Int.reduceNeg, nle_T, nlt_T, neq_T, neq_F, b2_0, b2_b, both, reduceCtorEq]
  have kN : ∀ ci, gK (gnew g (0, ci) 5) (gN g) = (0, ci) := fun ci => if_pos rfl
  have kT : ∀ ci, gK (gnew g (0, ci) 5) t = (0, 8) := fun ci => by rw [gK_new, if_neg (by omega)]; exact hW.1
  have kT3 : ∀ ci, gK (gnew g (0, ci) 5) (t + 3) = (3, 7) := fun ci => by rw [gK_new, if_neg (by omega)]; simp only [hW]
  have rT : ∀ ci, gR (gnew g (0, ci) 5) t 5 = some (t + 3) := fun ci => by rw [gR_new, if_neg (by omega)]; simp only [hW]
  have kP : ∀ ci, gK (gput (gnew g (0, ci) 5) (t + 3) n (some (gN g))) t = (0, 8) := kT
  have iT : ∀ ci, ci ∈ [0, 1, 2, 3, 6, 9] → isTh (gnew g (0, ci) 5) (gN g) := fun ci hc => isTh_of (kN ci) hc
  rcases (by omega : k = 0 ∨ k = 1 ∨ k = 2 ∨ k = 3 ∨ k = 4 ∨ k = 5) with e | e | e | e | e | e <;> subst e
  · have hI := iT 6 (by decide)
    have kc : ∀ Q : QQ, WP (d + 4) m_J0_charAt_5068e 0 [some (vr (some 1)), some (vi ((0 : Nat) : Int))] [] g I Q = Q (some (vi 111)) g I := kc
    have e0 : ((0 : Nat) : Int) = 0 := rfl
    rw [e0] at kc ⊢
    rw [if_pos ⟨c1, c2, fun z => by omega⟩]
    have eg : gth g t 0 n = gput (gnew g (0, 6) 5) (t + 3) n (some (gN g)) := rfl
    have ki := fun (num : Int) d Q => ct_thI (I := I) hI 0 num pl wo ak d Q
    rw [eg]
    simp (config := { contextual := true }) (disch := omega) only [R_X9_tellThing_b0, R_X9_tellThing_b1, R_X9_tellThing_b2, R_X6_init, hW, hs1, ct_isPlace hW, h0, h4, kc, kN, kT, kT3, rT, kP, hI, inew_pr, pr_o, pr_s, ki, up_pr, true_and, and_true, true_implies, not_true_eq_false, false_implies, not_false_eq_true, false_and, and_false, or_true, true_or, false_or, or_false, implies_true, forall_const, kl_i, kl_n, kl_r, kl_l, tl_s, tl_n, List.cons_append, List.nil_append, Int.cast_ofNat_Int, w32_id, w64_id, le_T, le_F, lt_T, lt_F, eq_T, eq_F, reduceIte, ne_eq, Int.toNat_natCast, bi_0, bi_1, bi_b, Nat.reduceAdd, Nat.reduceEqDiff, Int.reduceToNat, Int.reduceNeg, nle_T, nlt_T, neq_T, neq_F, b2_0, b2_b, both, reduceCtorEq]
  · have hI := iT 0 (by decide)
    have kc : ∀ Q : QQ, WP (d + 4) m_J0_charAt_5068e 0 [some (vr (some 1)), some (vi ((1 : Nat) : Int))] [] g I Q = Q (some (vi 97)) g I := kc
    have e0 : ((1 : Nat) : Int) = 1 := rfl
    rw [e0] at kc ⊢
    rw [if_pos ⟨c1, c2, fun z => by omega⟩]
    have eg : gth g t 1 n = gput (gnew g (0, 0) 5) (t + 3) n (some (gN g)) := rfl
    have ki := fun (num : Int) d Q => ct_thI (I := I) hI 1 num pl wo ak d Q
    rw [eg]
    simp (config := { contextual := true }) (disch := omega) only [R_X9_tellThing_b0, R_X9_tellThing_b1, R_X9_tellThing_b2, R_X0_init, hW, hs1, ct_isPlace hW, ct_isThing hW, h0, h4, kc, kN, kT, kT3, rT, kP, hI, inew_pr, pr_o, pr_s, ki, up_pr, true_and, and_true, true_implies, not_true_eq_false, false_implies, not_false_eq_true, false_and, and_false, or_true, true_or, false_or, or_false, implies_true, forall_const, kl_i, kl_n, kl_r, kl_l, tl_s, tl_n, List.cons_append, List.nil_append, Int.cast_ofNat_Int, w32_id, w64_id, le_T, le_F, lt_T, lt_F, eq_T, eq_F, reduceIte, ne_eq, Int.toNat_natCast, bi_0, bi_1, bi_b, Nat.reduceAdd, Nat.reduceEqDiff, Int.reduceToNat, Int.reduceNeg, nle_T, nlt_T, neq_T, neq_F, b2_0, b2_b, both, reduceCtorEq]
  · have hI := iT 1 (by decide)
    have kc : ∀ Q : QQ, WP (d + 4) m_J0_charAt_5068e 0 [some (vr (some 1)), some (vi ((2 : Nat) : Int))] [] g I Q = Q (some (vi 98)) g I := kc
    have e0 : ((2 : Nat) : Int) = 2 := rfl
    rw [e0] at kc ⊢
    by_cases c3 : ak < n
    case neg =>
      rw [if_neg (fun z => c3 (z.2.2 rfl))]
      simp (config := { contextual := true }) (disch := omega) only [R_X9_tellThing_b0, R_X9_tellThing_b1, R_X9_tellThing_b2, R_X1_init, hW, hs1, ct_isPlace hW, ct_isThing hW, h0, h4, kc, true_and, and_true, true_implies, not_true_eq_false, false_implies, not_false_eq_true, false_and, and_false, or_true, true_or, false_or, or_false, implies_true, forall_const, kl_i, kl_n, kl_r, kl_l, tl_s, tl_n, List.cons_append, List.nil_append, Int.cast_ofNat_Int, w32_id, w64_id, le_T, le_F, lt_T, lt_F, eq_T, eq_F, reduceIte, ne_eq, Int.toNat_natCast, bi_0, bi_1, bi_b, Nat.reduceAdd, Nat.reduceEqDiff, Int.reduceToNat, Int.reduceNeg, nle_T, nlt_T, neq_T, neq_F, b2_0, b2_b, both, reduceCtorEq]
    rw [if_pos ⟨c1, c2, fun _ => c3⟩]
    have eg : gth g t 2 n = gput (gnew g (0, 1) 5) (t + 3) n (some (gN g)) := rfl
    have ki := fun (num : Int) d Q => ct_thI (I := I) hI 2 num pl wo ak d Q
    rw [eg]
    simp (config := { contextual := true }) (disch := omega) only [R_X9_tellThing_b0, R_X9_tellThing_b1, R_X9_tellThing_b2, R_X1_init, R_X6_init, hW, hs1, ct_isPlace hW, ct_isThing hW, h0, h4, kc, kN, kT, kT3, rT, kP, hI, inew_pr, pr_o, pr_s, ki, up_pr, true_and, and_true, true_implies, not_true_eq_false, false_implies, not_false_eq_true, false_and, and_false, or_true, true_or, false_or, or_false, implies_true, forall_const, kl_i, kl_n, kl_r, kl_l, tl_s, tl_n, List.cons_append, List.nil_append, Int.cast_ofNat_Int, w32_id, w64_id, le_T, le_F, lt_T, lt_F, eq_T, eq_F, reduceIte, ne_eq, Int.toNat_natCast, bi_0, bi_1, bi_b, Nat.reduceAdd, Nat.reduceEqDiff, Int.reduceToNat, Int.reduceNeg, nle_T, nlt_T, neq_T, neq_F, b2_0, b2_b, both, reduceCtorEq]
  · have hI := iT 9 (by decide)
    have kc : ∀ Q : QQ, WP (d + 4) m_J0_charAt_5068e 0 [some (vr (some 1)), some (vi ((3 : Nat) : Int))] [] g I Q = Q (some (vi 121)) g I := kc
    have e0 : ((3 : Nat) : Int) = 3 := rfl
    rw [e0] at kc ⊢
    rw [if_pos ⟨c1, c2, fun z => by omega⟩]
    have eg : gth g t 3 n = gput (gnew g (0, 9) 5) (t + 3) n (some (gN g)) := rfl
    have ki := fun (num : Int) d Q => ct_thI (I := I) hI 3 num pl wo ak d Q
    rw [eg]
    simp (config := { contextual := true }) (disch := omega) only [R_X9_tellThing_b0, R_X9_tellThing_b1, R_X9_tellThing_b2, R_X10_init, R_X6_init, hW, hs1, ct_isPlace hW, ct_isThing hW, h0, h4, kc, kN, kT, kT3, rT, kP, hI, inew_pr, pr_o, pr_s, ki, up_pr, true_and, and_true, true_implies, not_true_eq_false, false_implies, not_false_eq_true, false_and, and_false, or_true, true_or, false_or, or_false, implies_true, forall_const, kl_i, kl_n, kl_r, kl_l, tl_s, tl_n, List.cons_append, List.nil_append, Int.cast_ofNat_Int, w32_id, w64_id, le_T, le_F, lt_T, lt_F, eq_T, eq_F, reduceIte, ne_eq, Int.toNat_natCast, bi_0, bi_1, bi_b, Nat.reduceAdd, Nat.reduceEqDiff, Int.reduceToNat, Int.reduceNeg, nle_T, nlt_T, neq_T, neq_F, b2_0, b2_b, both, reduceCtorEq]
  · have hI := iT 2 (by decide)
    have kc : ∀ Q : QQ, WP (d + 4) m_J0_charAt_5068e 0 [some (vr (some 1)), some (vi ((4 : Nat) : Int))] [] g I Q = Q (some (vi 103)) g I := kc
    have e0 : ((4 : Nat) : Int) = 4 := rfl
    rw [e0] at kc ⊢
    rw [if_pos ⟨c1, c2, fun z => by omega⟩]
    have eg : gth g t 4 n = gput (gnew g (0, 2) 5) (t + 3) n (some (gN g)) := rfl
    have ki := fun (num : Int) d Q => ct_thI (I := I) hI 4 num pl wo ak d Q
    rw [eg]
    simp (config := { contextual := true }) (disch := omega) only [R_X9_tellThing_b0, R_X9_tellThing_b1, R_X9_tellThing_b2, R_X2_init, R_X6_init, hW, hs1, ct_isPlace hW, ct_isThing hW, h0, h4, kc, kN, kT, kT3, rT, kP, hI, inew_pr, pr_o, pr_s, ki, up_pr, true_and, and_true, true_implies, not_true_eq_false, false_implies, not_false_eq_true, false_and, and_false, or_true, true_or, false_or, or_false, implies_true, forall_const, kl_i, kl_n, kl_r, kl_l, tl_s, tl_n, List.cons_append, List.nil_append, Int.cast_ofNat_Int, w32_id, w64_id, le_T, le_F, lt_T, lt_F, eq_T, eq_F, reduceIte, ne_eq, Int.toNat_natCast, bi_0, bi_1, bi_b, Nat.reduceAdd, Nat.reduceEqDiff, Int.reduceToNat, Int.reduceNeg, nle_T, nlt_T, neq_T, neq_F, b2_0, b2_b, both, reduceCtorEq]
  · have hI := iT 3 (by decide)
    have kc : ∀ Q : QQ, WP (d + 4) m_J0_charAt_5068e 0 [some (vr (some 1)), some (vi ((5 : Nat) : Int))] [] g I Q = Q (some (vi 108)) g I := kc
    have e0 : ((5 : Nat) : Int) = 5 := rfl
    rw [e0] at kc ⊢
    rw [if_pos ⟨c1, c2, fun z => by omega⟩]
    have eg : gth g t 5 n = gput (gnew g (0, 3) 5) (t + 3) n (some (gN g)) := rfl
    have ki := fun (num : Int) d Q => ct_thI (I := I) hI 5 num pl wo ak d Q
    rw [eg]
    simp (config := { contextual := true }) (disch := omega) only [R_X9_tellThing_b0, R_X9_tellThing_b1, R_X9_tellThing_b2, R_X3_init, R_X2_init, R_X6_init, hW, hs1, ct_isPlace hW, ct_isThing hW, h0, h4, kc, kN, kT, kT3, rT, kP, hI, inew_pr, pr_o, pr_s, ki, up_pr, true_and, and_true, true_implies, not_true_eq_false, false_implies, not_false_eq_true, false_and, and_false, or_true, true_or, false_or, or_false, implies_true, forall_const, kl_i, kl_n, kl_r, kl_l, tl_s, tl_n, List.cons_append, List.nil_append, Int.cast_ofNat_Int, w32_id, w64_id, le_T, le_F, lt_T, lt_F, eq_T, eq_F, reduceIte, ne_eq, Int.toNat_natCast, bi_0, bi_1, bi_b, Nat.reduceAdd, Nat.reduceEqDiff, Int.reduceToNat, Int.reduceNeg, nle_T, nlt_T, neq_T, neq_F, b2_0, b2_b, both, reduceCtorEq]
end NEWTH

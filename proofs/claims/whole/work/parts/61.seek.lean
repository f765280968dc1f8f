-- BEST of the class: the search
theorem icpy_pr (I : II) (a0 a n : Nat) : icpy I a0 0 a 0 n = pr I a (fll (I a0) n (I a)) := by
  funext b
  unfold icpy pr
  by_cases h : b = a
  · rw [if_pos h, if_pos h]
    funext j
    unfold fll
    by_cases c : j < n
    · rw [if_pos (by omega), if_pos c, Nat.zero_add, Nat.sub_zero]
    · rw [if_neg (by omega), if_neg c]
  · rw [if_neg h, if_neg h]
def bs (I : II) (R B : Nat → Int) (bl bw : Int) : II := pr (pr (pr I 50 R) 51 B) 47 (uf (uf (I 47) 3 bl) 4 bw)
section BSX
variable {I : II} {R B : Nat → Int} {bl bw : Int} {x : LF}
theorem bs_o {a : Nat} (h : ¬ a = 47 ∧ ¬ a = 50 ∧ ¬ a = 51) : bs I R B bl bw a = I a := by
  unfold bs
  rw [pr_o h.1, pr_o h.2.2, pr_o h.2.1]
theorem bs_3 : bs I R B bl bw 47 3 = bl := by unfold bs; rw [pr_s, uf_o (by omega), uf_s]
theorem bs_4 : bs I R B bl bw 47 4 = bw := by unfold bs; rw [pr_s, uf_s]
theorem bs_R : bs I R B bl bw 50 = R := by unfold bs; rw [pr_o (by omega), pr_o (by omega), pr_s]
theorem bs_B : bs I R B bl bw 51 = B := by unfold bs; rw [pr_o (by omega), pr_s]
theorem mcx_pr {a : Nat} {f : Nat → Int} (h : ¬ a = 48 ∧ ¬ a = 49) : pr (mcx I x) a f = mcx (pr I a f) x := by
  funext b
  unfold mcx pr
  by_cases e : b = a
  · subst e; simp [h.1, h.2]
  · by_cases e1 : b = 48
    · subst e1; simp [e, h.1]
    · by_cases e2 : b = 49
      · subst e2; simp [e]
      · simp [e, e1, e2]
theorem bs_w4 (v : Int) : pr (mcx (bs I R B bl bw) x) 47 (uf (bs I R B bl bw 47) 4 v) = mcx (bs I R B bl v) x := by
  rw [mcx_pr (by omega)]
  unfold bs
  rw [pr_s, pr_pr, uf_uf]
theorem bs_w3 (v : Int) : pr (mcx (bs I R B bl bw) x) 47 (uf (bs I R B bl bw 47) 3 v) = mcx (bs I R B v bw) x := by
  rw [mcx_pr (by omega)]
  unfold bs
  rw [pr_s, pr_pr]
  congr 2
  funext j
  unfold uf
  by_cases e : j = 3
  · subst e; simp
  · simp [e]
theorem bs_w50 (f : Nat → Int) : pr (mcx (bs I R B bl bw) x) 50 f = mcx (bs I f B bl bw) x := by
  rw [mcx_pr (by omega)]
  congr 1
  funext b
  unfold bs pr
  by_cases e : b = 50
  · subst e; simp
  · simp [e]
theorem bs_w51 (f : Nat → Int) : pr (mcx (bs I R B bl bw) x) 51 f = mcx (bs I R f bl bw) x := by
  rw [mcx_pr (by omega)]
  congr 1
  funext b
  unfold bs pr
  by_cases e : b = 51
  · subst e; simp
  · simp [e]
theorem mcx_p0 (v : Int) : pr (mcx I x) 48 (uf (mcx I x 48) 0 v) = mcx I (v, lAge x, lWo x, lHad x) := by
  unfold mcx
  rw [pr_s, pr_pr]
  congr 1
  funext j
  unfold uf lrow
  by_cases e : j = 0
  · subst e; simp
  · simp [e]
theorem mcx_p1 (v : Int) : pr (mcx I x) 48 (uf (mcx I x 48) 1 v) = mcx I (lAt x, v, lWo x, lHad x) := by
  unfold mcx
  rw [pr_s, pr_pr]
  congr 1
  funext j
  unfold uf lrow
  by_cases e : j = 1
  · subst e; simp
  · simp [e]
theorem mcx_p2 (v : Int) : pr (mcx I x) 48 (uf (mcx I x 48) 2 v) = mcx I (lAt x, lAge x, v, lHad x) := by
  unfold mcx
  rw [pr_s, pr_pr]
  congr 1
  funext j
  unfold uf lrow
  by_cases e : j = 2
  · subst e; simp
  · simp [e]
theorem mcx_ph (f : Nat → Int) : pr (mcx I x) 49 f = mcx I (lAt x, lAge x, lWo x, f) := by
  unfold mcx
  funext b
  unfold pr
  by_cases e : b = 49
  · rw [if_pos e, if_neg (by omega), if_pos e]
  · rw [if_neg e]
    by_cases e2 : b = 48
    · rw [if_pos e2, if_pos e2]; rfl
    · rw [if_neg e2, if_neg e2, if_neg e, if_neg e]
end BSX
section SEEK
variable {g : GG} {I : II} {t n : Nat} {A : II} {D : Nat → Int}
theorem CV_bs (hV : CV g I t A n) (R B : Nat → Int) (bl bw : Int) : CV g (bs I R B bl bw) t A n := by
  obtain ⟨ht, hX, hT, hn, s0, s1, s2, s3⟩ := hV
  exact ⟨ht, hX, hT, by rw [bs_o (by omega)]; exact hn, by rw [bs_o (by omega)]; exact s0, by rw [bs_o (by omega)]; exact s1, by rw [bs_o (by omega)]; exact s2, by rw [bs_o (by omega)]; exact s3⟩
theorem TH_bs (h : TH g I t A n) (R B : Nat → Int) (bl bw : Int) : TH g (bs I R B bl bw) t A n := TH_pr (TH_pr (TH_pr h (by omega)) (by omega)) (by omega)
theorem lp_most (hV : CV g I t A n) (hTH : TH g I t A n) (hA : okA A n) (hS : okSt A) (hD : bD D) (hI : e64 (I (t + 2)) D) (x : LF) (hx : okL x) (d : Nat) (Q : QQ) : ∀ k i : Nat, i + k = n → ∀ l5 l6 l7, WP (d + 3) m_X5_mostToCome 12 [some (vr (some 47)), some (vr (some t)), some (vi (A 7 2)), some (vi (mst A D x i)), some (vi i), l5, l6, l7] [] g (mcx I x) Q = Q (some (vi (mst A D x n))) g (mcx I x) := by
  have hV0 := hV
  obtain ⟨ht, hX, hT, hn, s0, s1, s2, s3⟩ := hV0
  have hn7 := hA.1
  have hTH' := TH_mcx hTH x
  have hL := WL_m hX
  intro k
  induction k with
  | zero =>
    intro i hi l5 l6 l7
    obtain rfl : i = n := by omega
    rw [H_X5_mostToCome_12]
    simp (config := { contextual := true }) (disch := omega) only [R_X5_mostToCome_b0, R_X5_mostToCome_b1, hX, hT, hn, mcx_o, true_and, and_true, true_implies, not_true_eq_false, false_implies, not_false_eq_true, false_and, and_false, or_true, true_or, false_or, or_false, implies_true, forall_const, kl_i, kl_n, kl_r, kl_l, tl_s, tl_n, List.cons_append, List.nil_append, Int.cast_ofNat_Int, w32_id, w64_id, le_T, le_F, lt_T, lt_F, eq_T, eq_F, reduceIte, ne_eq, Int.toNat_natCast, bi_0, bi_1, bi_b, Nat.reduceAdd, Nat.reduceEqDiff, Int.reduceToNat, Int.reduceNeg, nle_T, nlt_T, neq_T, neq_F, b2_0, b2_b, both, reduceCtorEq]
  | succ k ih =>
    intro i hi l5 l6 l7
    have ih' := ih (i + 1) (by omega)
    have hi' : i < n := by omega
    have e1 : mst A D x (i + 1) = mst A D x i + tmT A D x i := rfl
    have ec : ((i + 1 : Nat) : Int) = (i : Int) + 1 := by omega
    rw [e1, ec] at ih'
    have hmb := mst_b hA hS hD hx i (by omega)
    have htb := tmT_b hA hS hD hx hi'
    obtain ⟨b, hb1, hb2, hb3⟩ := hTH' i hi'
    obtain ⟨ok, hpl⟩ := hA.2 i hi'
    have hs : gK g (t + 4) = (1, 4) := by simp only [hT]
    have hst := hS.2.2.1
    have hol := hS.2.1
    have ho : 0 ≤ mcx I x (t + 4) 1 ∧ mcx I x (t + 4) 1 ≤ 1000 := by rw [mcx_o (by omega), s1]; omega
    have hTb : isTh g b := by
      refine isTh_of hb3.1 ?_
      rcases kd_six ok.1 with e | e | e | e | e | e <;> rw [e] <;> decide
    have hpb : mcx I x b 2 = A 4 i := hb3.2.2.2.1
    obtain ⟨hy1, hy2, hy3⟩ := hx
    have ed : I (t + 2) (8 * (lAt x).toNat + (A 4 i).toNat) = D (8 * (lAt x).toNat + (A 4 i).toNat) := hI _ (by omega)
    have hd := hD (8 * (lAt x).toNat + (A 4 i).toNat) (by omega)
    have ew : ∀ a, wth (A 3 i) (A 5 i) (A 6 i) (A 7 0) (A 7 1) a 0 = wOf A i a 0 := fun _ => rfl
    have td : tmT A D x i = if lHad x i = 0 ∧ lAge x + D (8 * (lAt x).toNat + (A 4 i).toNat) ≤ A 7 2 then max (wOf A i (lAge x + D (8 * (lAt x).toNat + (A 4 i).toNat)) 0) (wOf A i (A 7 2) 0) else 0 := rfl
    rw [H_X5_mostToCome_12]
    generalize hv : lAge x + D (8 * (lAt x).toNat + (A 4 i).toNat) = v at *
    have hv2 : 0 ≤ v ∧ v ≤ 1000000 := by omega
    by_cases c1 : lHad x i = 0
    · by_cases c2 : v ≤ A 7 2
      · rw [if_pos ⟨c1, c2⟩] at td
        rw [td] at ih' htb
        simp (config := { contextual := true }) (disch := omega) only [R_X5_mostToCome_b0, R_X5_mostToCome_b1, hX, hT, hn, mcx_o, mcx_0, mcx_1, mcx_h, hb2, hb3.1, hTb, hpb, ct_miles hT, ed, hv, ct_wT hb3 ok hs, s0, s1, ew, ih', true_and, and_true, true_implies, not_true_eq_false, false_implies, not_false_eq_true, false_and, and_false, or_true, true_or, false_or, or_false, implies_true, forall_const, kl_i, kl_n, kl_r, kl_l, tl_s, tl_n, List.cons_append, List.nil_append, Int.cast_ofNat_Int, w32_id, w64_id, le_T, le_F, lt_T, lt_F, eq_T, eq_F, reduceIte, ne_eq, Int.toNat_natCast, bi_0, bi_1, bi_b, Nat.reduceAdd, Nat.reduceEqDiff, Int.reduceToNat, Int.reduceNeg, nle_T, nlt_T, neq_T, neq_F, b2_0, b2_b, both, reduceCtorEq]
      · rw [if_neg (fun q => c2 q.2)] at td
        rw [td, Int.add_zero] at ih'
        simp (config := { contextual := true }) (disch := omega) only [R_X5_mostToCome_b0, R_X5_mostToCome_b1, hX, hT, hn, mcx_o, mcx_0, mcx_1, mcx_h, hb2, hb3.1, hTb, hpb, ct_miles hT, ed, hv, ih', true_and, and_true, true_implies, not_true_eq_false, false_implies, not_false_eq_true, false_and, and_false, or_true, true_or, false_or, or_false, implies_true, forall_const, kl_i, kl_n, kl_r, kl_l, tl_s, tl_n, List.cons_append, List.nil_append, Int.cast_ofNat_Int, w32_id, w64_id, le_T, le_F, lt_T, lt_F, eq_T, eq_F, reduceIte, ne_eq, Int.toNat_natCast, bi_0, bi_1, bi_b, Nat.reduceAdd, Nat.reduceEqDiff, Int.reduceToNat, Int.reduceNeg, nle_T, nlt_T, neq_T, neq_F, b2_0, b2_b, both, reduceCtorEq]
    · rw [if_neg (fun q => c1 q.1)] at td
      rw [td, Int.add_zero] at ih'
      simp (config := { contextual := true }) (disch := omega) only [R_X5_mostToCome_b0, R_X5_mostToCome_b1, hX, hT, hn, mcx_o, mcx_0, mcx_1, mcx_h, hb2, hb3.1, hTb, hpb, ct_miles hT, ed, hv, ih', true_and, and_true, true_implies, not_true_eq_false, false_implies, not_false_eq_true, false_and, and_false, or_true, true_or, false_or, or_false, implies_true, forall_const, kl_i, kl_n, kl_r, kl_l, tl_s, tl_n, List.cons_append, List.nil_append, Int.cast_ofNat_Int, w32_id, w64_id, le_T, le_F, lt_T, lt_F, eq_T, eq_F, reduceIte, ne_eq, Int.toNat_natCast, bi_0, bi_1, bi_b, Nat.reduceAdd, Nat.reduceEqDiff, Int.reduceToNat, Int.reduceNeg, nle_T, nlt_T, neq_T, neq_F, b2_0, b2_b, both, reduceCtorEq]
theorem ct_most (hV : CV g I t A n) (hTH : TH g I t A n) (hA : okA A n) (hS : okSt A) (hD : bD D) (hI : e64 (I (t + 2)) D) (x : LF) (hx : okL x) (d : Nat) (Q : QQ) : WP (d + 3) m_X5_mostToCome 0 [some (vr (some 47)), some (vr (some t)), none, none, none, none, none, none] [] g (mcx I x) Q = Q (some (vi (mst A D x n))) g (mcx I x) := by
  have h := lp_most hV hTH hA hS hD hI x hx d Q n 0 (by omega) none none none
  obtain ⟨ht, hX, hT, hn, s0, s1, s2, s3⟩ := hV
  simp (config := { contextual := true }) (disch := omega) only [R_X5_mostToCome_b0, R_X5_mostToCome_b1, hT, mcx_o, s2, true_and, and_true, true_implies, not_true_eq_false, false_implies, not_false_eq_true, false_and, and_false, or_true, true_or, false_or, or_false, implies_true, forall_const, kl_i, kl_n, kl_r, kl_l, tl_s, tl_n, List.cons_append, List.nil_append, Int.cast_ofNat_Int, w32_id, w64_id, le_T, le_F, lt_T, lt_F, eq_T, eq_F, reduceIte, ne_eq, Int.toNat_natCast, bi_0, bi_1, bi_b, Nat.reduceAdd, Nat.reduceEqDiff, Int.reduceToNat, Int.reduceNeg, nle_T, nlt_T, neq_T, neq_F, b2_0, b2_b, both, reduceCtorEq]
  exact h
end SEEK

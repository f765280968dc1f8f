-- WHERE TO GO: isWorthGoing, nextPlace
abbrev wg (A : II) (i : Nat) (p age : Int) (had : Nat → Int) : Prop := A 4 i = p ∧ opn (A 3 i) (A 5 i) (A 6 i) i had ∧ 0 < wOf A i age (had i)
def anW (A : II) (p age : Int) (had : Nat → Int) : Nat → Nat → Bool
  | 0, _ => false
  | k + 1, i => if wg A i p age had then true else anW A p age had k (i + 1)
def b2 (b : Bool) : Int := if b then 1 else 0
theorem b2_0 (b : Bool) : (b2 b = 0) = (b = false) := by cases b <;> simp [b2]
theorem b2_b (b : Bool) : (b2 b = 0 ∨ b2 b = 1) = True := by cases b <;> simp [b2]
section NEXT
variable {g : GG} {I : II} {d t n : Nat} {A : II}
theorem lp_iW (hV : CV g I t A n) (hTH : TH g I t A n) (hA : okA A n) (hS : okSt A) (x : LF) (hx : okL x) (p age : Int) (ha : 0 ≤ age ∧ age ≤ 1000000) (Q : QQ) : ∀ k i : Nat, i + k = n → ∀ l5, WP (d + 3) m_X5_isWorthGoing 3 [some (vr (some 47)), some (vr (some t)), some (vi p), some (vi age), some (vi i), l5] [] g (mcx I x) Q = Q (some (vi (b2 (anW A p age (lHad x) k i)))) g (mcx I x) := by
  obtain ⟨ht, hX, hT, hn, s0, s1, s2, s3⟩ := hV
  have hn7 := hA.1
  have hL := WL_m hX
  have hTH' := TH_mcx hTH x
  obtain ⟨hy1, hy2, hy3⟩ := hx
  intro k
  induction k with
  | zero =>
    intro i hb l5
    obtain rfl : i = n := by omega
    rw [H_X5_isWorthGoing_3]
    have e0 : b2 (anW A p age (lHad x) 0 i) = 0 := rfl
    simp (config := { contextual := true }) (disch := omega) only [R_X5_isWorthGoing, hX, hT, hn, mcx_o, e0, true_and, and_true, true_implies, not_true_eq_false, false_implies, not_false_eq_true, false_and, and_false, or_true, true_or, false_or, or_false, implies_true, forall_const, kl_i, kl_n, kl_r, kl_l, tl_s, tl_n, List.cons_append, List.nil_append, Int.cast_ofNat_Int, w32_id, w64_id, le_T, le_F, lt_T, lt_F, eq_T, eq_F, reduceIte, ne_eq, Int.toNat_natCast, bi_0, bi_1, bi_b, Nat.reduceAdd, Nat.reduceEqDiff, Int.reduceToNat, Int.reduceNeg, nle_T, nlt_T, neq_T, neq_F]
  | succ k ih =>
    intro i hb l5
    have hi : i < n := by omega
    have ih' := ih (i + 1) (by omega)
    obtain ⟨b, hb1, hb2, hb3⟩ := hTH' i hi
    obtain ⟨ok, hpl⟩ := hA.2 i hi
    have hs : gK g (t + 4) = (1, 4) := by simp only [hT]
    have hyi := hy3 i (by omega)
    have ho : 0 ≤ mcx I x (t + 4) 1 ∧ mcx I x (t + 4) 1 ≤ 1000 := by rw [mcx_o (by omega), s1]; omega
    have h0 : 0 ≤ mcx I x 49 i := by rw [mcx_h]; omega
    have hTb : isTh g b := by
      refine isTh_of hb3.1 ?_
      rcases kd_six ok.1 with e | e | e | e | e | e <;> rw [e] <;> decide
    have hpb : mcx I x b 2 = A 4 i := hb3.2.2.2.1
    have ew : wth (A 3 i) (A 5 i) (A 6 i) (A 7 0) (A 7 1) age (lHad x i) = wOf A i age (lHad x i) := rfl
    have ec : ((i + 1 : Nat) : Int) = (i : Int) + 1 := by omega
    rw [ec] at ih'
    rw [H_X5_isWorthGoing_3]
    by_cases c1 : A 4 i = p
    · by_cases c2 : opn (A 3 i) (A 5 i) (A 6 i) i (lHad x)
      · by_cases c3 : 0 < wOf A i age (lHad x i)
        · have e0 : b2 (anW A p age (lHad x) (k + 1) i) = 1 := by unfold anW; rw [if_pos ⟨c1, c2, c3⟩]; rfl
          simp (config := { contextual := true }) (disch := omega) only [R_X5_isWorthGoing, hX, hT, hn, mcx_o, hb2, hb3.1, hTb, hpb, ct_wT hb3 ok hs, ct_oT hb3 ok hL.2.2 h0, mcx_h, s0, s1, ew, c1, c2, e0, true_and, and_true, true_implies, not_true_eq_false, false_implies, not_false_eq_true, false_and, and_false, or_true, true_or, false_or, or_false, implies_true, forall_const, kl_i, kl_n, kl_r, kl_l, tl_s, tl_n, List.cons_append, List.nil_append, Int.cast_ofNat_Int, w32_id, w64_id, le_T, le_F, lt_T, lt_F, eq_T, eq_F, reduceIte, ne_eq, Int.toNat_natCast, bi_0, bi_1, bi_b, Nat.reduceAdd, Nat.reduceEqDiff, Int.reduceToNat, Int.reduceNeg, nle_T, nlt_T, neq_T, neq_F]
        · have e0 : anW A p age (lHad x) (k + 1) i = anW A p age (lHad x) k (i + 1) := by rw [anW, if_neg (fun q => c3 q.2.2)]
          simp (config := { contextual := true }) (disch := omega) only [R_X5_isWorthGoing, hX, hT, hn, mcx_o, hb2, hb3.1, hTb, hpb, ct_wT hb3 ok hs, ct_oT hb3 ok hL.2.2 h0, mcx_h, s0, s1, ew, c1, c2, e0, ih', true_and, and_true, true_implies, not_true_eq_false, false_implies, not_false_eq_true, false_and, and_false, or_true, true_or, false_or, or_false, implies_true, forall_const, kl_i, kl_n, kl_r, kl_l, tl_s, tl_n, List.cons_append, List.nil_append, Int.cast_ofNat_Int, w32_id, w64_id, le_T, le_F, lt_T, lt_F, eq_T, eq_F, reduceIte, ne_eq, Int.toNat_natCast, bi_0, bi_1, bi_b, Nat.reduceAdd, Nat.reduceEqDiff, Int.reduceToNat, Int.reduceNeg, nle_T, nlt_T, neq_T, neq_F]
      · have e0 : anW A p age (lHad x) (k + 1) i = anW A p age (lHad x) k (i + 1) := by rw [anW, if_neg (fun q => c2 q.2.1)]
        simp (config := { contextual := true }) (disch := omega) only [R_X5_isWorthGoing, hX, hT, hn, mcx_o, hb2, hb3.1, hTb, hpb, ct_oT hb3 ok hL.2.2 h0, mcx_h, c1, c2, e0, ih', true_and, and_true, true_implies, not_true_eq_false, false_implies, not_false_eq_true, false_and, and_false, or_true, true_or, false_or, or_false, implies_true, forall_const, kl_i, kl_n, kl_r, kl_l, tl_s, tl_n, List.cons_append, List.nil_append, Int.cast_ofNat_Int, w32_id, w64_id, le_T, le_F, lt_T, lt_F, eq_T, eq_F, reduceIte, ne_eq, Int.toNat_natCast, bi_0, bi_1, bi_b, Nat.reduceAdd, Nat.reduceEqDiff, Int.reduceToNat, Int.reduceNeg, nle_T, nlt_T, neq_T, neq_F]
    · have e0 : anW A p age (lHad x) (k + 1) i = anW A p age (lHad x) k (i + 1) := by rw [anW, if_neg (fun q => c1 q.1)]
      simp (config := { contextual := true }) (disch := omega) only [R_X5_isWorthGoing, hX, hT, hn, mcx_o, hb2, hb3.1, hTb, hpb, e0, ih', true_and, and_true, true_implies, not_true_eq_false, false_implies, not_false_eq_true, false_and, and_false, or_true, true_or, false_or, or_false, implies_true, forall_const, kl_i, kl_n, kl_r, kl_l, tl_s, tl_n, List.cons_append, List.nil_append, Int.cast_ofNat_Int, w32_id, w64_id, le_T, le_F, lt_T, lt_F, eq_T, eq_F, reduceIte, ne_eq, Int.toNat_natCast, bi_0, bi_1, bi_b, Nat.reduceAdd, Nat.reduceEqDiff, Int.reduceToNat, Int.reduceNeg, nle_T, nlt_T, neq_T, neq_F]
theorem ct_isWG (hV : CV g I t A n) (hTH : TH g I t A n) (hA : okA A n) (hS : okSt A) (x : LF) (hx : okL x) (p age : Int) (ha : 0 ≤ age ∧ age ≤ 1000000) (Q : QQ) : WP (d + 3) m_X5_isWorthGoing 0 [some (vr (some 47)), some (vr (some t)), some (vi p), some (vi age), none, none] [] g (mcx I x) Q = Q (some (vi (b2 (anW A p age (lHad x) n 0)))) g (mcx I x) := by
  have h := lp_iW (d := d) hV hTH hA hS x hx p age ha Q n 0 (by omega) none
  simp (config := { contextual := true }) (disch := omega) only [R_X5_isWorthGoing, true_and, and_true, true_implies, not_true_eq_false, false_implies, not_false_eq_true, false_and, and_false, or_true, true_or, false_or, or_false, implies_true, forall_const, kl_i, kl_n, kl_r, kl_l, tl_s, tl_n, List.cons_append, List.nil_append, Int.cast_ofNat_Int, w32_id, w64_id, le_T, le_F, lt_T, lt_F, eq_T, eq_F, reduceIte, ne_eq, Int.toNat_natCast, bi_0, bi_1, bi_b, Nat.reduceAdd, Nat.reduceEqDiff, Int.reduceToNat, Int.reduceNeg, nle_T, nlt_T, neq_T, neq_F]
  exact h
end NEXT

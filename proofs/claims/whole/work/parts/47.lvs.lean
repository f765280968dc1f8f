-- A LIFE of a kind, whole
def z0 : Nat → Int := fun _ => 0
theorem fll_z {f : Nat → Int} {n : Nat} (h : ∀ j, n ≤ j → f j = 0) : fll (fun _ => 0) n f = z0 := by
  funext j
  unfold fll z0
  by_cases c : j < n
  · rw [if_pos c]
  · rw [if_neg c]; exact h j (by omega)
def lv0 (A : II) (n : Nat) : LF := tkA A true n (A 7 3, 0, 0, z0)
def lvA (A : II) (D : Nat → Int) (n P m : Nat) (k : Int) : LF := if k = 0 then sk A D n P false 999 (lv0 A n) else if k = 1 then sk A D n P true 999 (lv0 A n) else if k = 2 then rdA A D n m (lv0 A n) else lv0 A n
theorem okL_z {A : II} (hS : okSt A) : okL (A 7 3, 0, 0, z0) := ⟨hS.2.2.2, ⟨by show (0 : Int) ≤ 0; omega, by show (0 : Int) ≤ 1000; omega⟩, fun i _ => ⟨by show (0 : Int) ≤ 0; omega, by show (0 : Int) ≤ 7; omega⟩⟩
theorem okL_lv0 {A : II} {n : Nat} (hA : okA A n) (hS : okSt A) : okL (lv0 A n) := okL_tkA hA (okL_z hS) n (Nat.le_refl n)
section LVS
variable {g : GG} {I : II} {d t n P m : Nat} {A : II} {D : Nat → Int}
theorem ct_live (hV : CV g I t A n) (hTH : TH g I t A n) (hA : okA A n) (hS : okSt A) (hD : bD D) (hp1 : pos1 D) (hI : e64 (I (t + 2)) D) (hP : I t 0 = (P : Int)) (hP8 : P ≤ 8) (hO : okOr A m) (hm : I t 7 = (m : Int)) (hor : ∀ j, j < 8 → I (t + 5) j = A 12 j) (hz : ∀ j, 7 ≤ j → I 49 j = 0) (k : Int) (hk : 0 ≤ k ∧ k ≤ 3) (Q : QQ) : WP (d + 6) m_X5_live 0 [some (vr (some 47)), some (vr (some t)), some (vi k)] [] g I Q = Q (some (vr (some 48))) g (mcx I (lvA A D n P m k)) := by
  have hV0 := hV
  obtain ⟨ht, hX, hT, hn, s0, s1, s2, s3⟩ := hV0
  have hL := WL_m hX
  have kb := fun Q => ct_begin (d := d + 4) (I := I) hL (by decide) Q (A 7 3)
  rw [fll_z hz] at kb
  have kt := fun Q => ct_takeWorthy (d := d + 1) hV hTH hA hS _ (okL_z hS) Q
  have e0 : tkA A true n (A 7 3, 0, 0, z0) = lv0 A n := rfl
  have h0 := okL_lv0 hA hS
  have ksf := fun Q => ct_seek (d := d) hV hTH hA hS hD hp1 hI hP hP8 false _ h0 Q
  have kst := fun Q => ct_seek (d := d) hV hTH hA hS hD hp1 hI hP hP8 true _ h0 Q
  have ef : b2 false = 0 := rfl
  have et : b2 true = 1 := rfl
  rw [ef] at ksf
  rw [et] at kst
  have kw := fun Q => lp_walk (d := d) hV hTH hA hS hD hI hO hm hor _ h0 Q m 0 (by omega)
  have kw2 : ∀ Q, WP (d + 5) m_X5_walkOrder 0 [some (vr (some 47)), some (vr (some t)), none] [] g (mcx I (lv0 A n)) Q = Q none g (mcx I (rdA A D n m (lv0 A n))) := by
    intro Q
    simp (config := { contextual := true }) (disch := omega) only [R_X5_walkOrder, true_and, and_true, true_implies, not_true_eq_false, false_implies, not_false_eq_true, false_and, and_false, or_true, true_or, false_or, or_false, implies_true, forall_const, kl_i, kl_n, kl_r, kl_l, tl_s, tl_n, List.cons_append, List.nil_append, Int.cast_ofNat_Int, w32_id, w64_id, le_T, le_F, lt_T, lt_F, eq_T, eq_F, reduceIte, ne_eq, Int.toNat_natCast, bi_0, bi_1, bi_b, Nat.reduceAdd, Nat.reduceEqDiff, Int.reduceToNat, Int.reduceNeg, nle_T, nlt_T, neq_T, neq_F, b2_0, b2_b, both, reduceCtorEq]
    exact kw Q
  have hk4 : k = 0 ∨ k = 1 ∨ k = 2 ∨ k = 3 := by omega
  rcases hk4 with rfl | rfl | rfl | rfl
  · have el : lvA A D n P m 0 = sk A D n P false 999 (lv0 A n) := rfl
    simp (config := { contextual := true }) (disch := omega) only [R_X5_live, hX, hT, s3, kb, mcx_begin, kt, e0, ksf, el, true_and, and_true, true_implies, not_true_eq_false, false_implies, not_false_eq_true, false_and, and_false, or_true, true_or, false_or, or_false, implies_true, forall_const, kl_i, kl_n, kl_r, kl_l, tl_s, tl_n, List.cons_append, List.nil_append, Int.cast_ofNat_Int, w32_id, w64_id, le_T, le_F, lt_T, lt_F, eq_T, eq_F, reduceIte, ne_eq, Int.toNat_natCast, bi_0, bi_1, bi_b, Nat.reduceAdd, Nat.reduceEqDiff, Int.reduceToNat, Int.reduceNeg, nle_T, nlt_T, neq_T, neq_F, b2_0, b2_b, both, reduceCtorEq]
  · have el : lvA A D n P m 1 = sk A D n P true 999 (lv0 A n) := rfl
    simp (config := { contextual := true }) (disch := omega) only [R_X5_live, hX, hT, s3, kb, mcx_begin, kt, e0, kst, el, true_and, and_true, true_implies, not_true_eq_false, false_implies, not_false_eq_true, false_and, and_false, or_true, true_or, false_or, or_false, implies_true, forall_const, kl_i, kl_n, kl_r, kl_l, tl_s, tl_n, List.cons_append, List.nil_append, Int.cast_ofNat_Int, w32_id, w64_id, le_T, le_F, lt_T, lt_F, eq_T, eq_F, reduceIte, ne_eq, Int.toNat_natCast, bi_0, bi_1, bi_b, Nat.reduceAdd, Nat.reduceEqDiff, Int.reduceToNat, Int.reduceNeg, nle_T, nlt_T, neq_T, neq_F, b2_0, b2_b, both, reduceCtorEq]
  · have el : lvA A D n P m 2 = rdA A D n m (lv0 A n) := rfl
    simp (config := { contextual := true }) (disch := omega) only [R_X5_live, hX, hT, s3, kb, mcx_begin, kt, e0, kw2, el, true_and, and_true, true_implies, not_true_eq_false, false_implies, not_false_eq_true, false_and, and_false, or_true, true_or, false_or, or_false, implies_true, forall_const, kl_i, kl_n, kl_r, kl_l, tl_s, tl_n, List.cons_append, List.nil_append, Int.cast_ofNat_Int, w32_id, w64_id, le_T, le_F, lt_T, lt_F, eq_T, eq_F, reduceIte, ne_eq, Int.toNat_natCast, bi_0, bi_1, bi_b, Nat.reduceAdd, Nat.reduceEqDiff, Int.reduceToNat, Int.reduceNeg, nle_T, nlt_T, neq_T, neq_F, b2_0, b2_b, both, reduceCtorEq]
  · have el : lvA A D n P m 3 = lv0 A n := rfl
    simp (config := { contextual := true }) (disch := omega) only [R_X5_live, hX, hT, s3, kb, mcx_begin, kt, e0, el, true_and, and_true, true_implies, not_true_eq_false, false_implies, not_false_eq_true, false_and, and_false, or_true, true_or, false_or, or_false, implies_true, forall_const, kl_i, kl_n, kl_r, kl_l, tl_s, tl_n, List.cons_append, List.nil_append, Int.cast_ofNat_Int, w32_id, w64_id, le_T, le_F, lt_T, lt_F, eq_T, eq_F, reduceIte, ne_eq, Int.toNat_natCast, bi_0, bi_1, bi_b, Nat.reduceAdd, Nat.reduceEqDiff, Int.reduceToNat, Int.reduceNeg, nle_T, nlt_T, neq_T, neq_F, b2_0, b2_b, both, reduceCtorEq]
theorem ct_lives (hV : MV g I A n) (hA : okA A n) (hS : okSt A) (hD : bD D) (hp1 : pos1 D) (hI : I 72 = D) (hP : I 57 14 = (P : Int)) (hP8 : P ≤ 8) (hO : okOr A m) (hm : I 57 18 = (m : Int)) (hor : I 71 = A 12) (hz : ∀ j, 7 ≤ j → I 81 j = 0) (k : Int) (hk : 0 ≤ k ∧ k ≤ 3) (Q : QQ) : WP (d + 4) m_X12_lives 0 [some (vr (some 57)), some (vi k), none] [] g I Q = Q none g (mmx I (lvA A D n P m k)) := by
  have hW := hV.1
  have r7 : I 66 = A 7 := hV.2.2.2.2.2.2
  have kb := fun Q => ct_begins (d := d + 3) (I := I) hW Q (A 7 3)
  rw [fll_z hz] at kb
  have kt := fun Q => ct_hasAll (d := d) hV hA hS true _ (okL_z hS) Q
  have tt : (if true = true then (1 : Int) else 0) = 1 := rfl
  rw [tt] at kt
  have e0 : tkA A true n (A 7 3, 0, 0, z0) = lv0 A n := rfl
  have h0 := okL_lv0 hA hS
  have a0 : lAge (lv0 A n) = 0 := (tkA_at A true (A 7 3, 0, 0, z0) n).2
  have ksf := fun Q => lp_mlive (d := d) hV hA hS hD hp1 hI hP hP8 false Q 999 _ h0 (by rw [a0]; omega)
  have kst := fun Q => lp_mlive (d := d) hV hA hS hD hp1 hI hP hP8 true Q 999 _ h0 (by rw [a0]; omega)
  have knf := fun Q => ct_mnp (d := d) hV hA hS hD hI hP hP8 _ h0 false Q
  have knt := fun Q => ct_mnp (d := d) hV hA hS hD hI hP hP8 _ h0 true Q
  have ef : b2 false = 0 := rfl
  have et : b2 true = 1 := rfl
  rw [ef] at ksf knf
  rw [et] at kst knt
  have kw := fun Q => lp_mround (d := d) hV hA hS hD hI hO hm hor _ h0 Q m 0 (by omega)
  have kw : ∀ Q, WP (d + 4) m_X12_lives 69 [some (vr (some 57)), some (vi 2), some (vi 0)] [] g (mmx I (lv0 A n)) Q = Q none g (mmx I (rdA A D n m (lv0 A n))) := kw
  have k3 : ∀ Q, WP (d + 4) m_X12_lives 69 [some (vr (some 57)), some (vi 3), some (vi 0)] [] g (mmx I (lv0 A n)) Q = Q none g (mmx I (lv0 A n)) := by
    intro Q
    rw [H_X12_lives_69]
    simp (config := { contextual := true }) (disch := omega) only [R_X12_lives_b0, R_X12_lives_b1, hW, mmx_f, true_and, and_true, true_implies, not_true_eq_false, false_implies, not_false_eq_true, false_and, and_false, or_true, true_or, false_or, or_false, implies_true, forall_const, kl_i, kl_n, kl_r, kl_l, tl_s, tl_n, List.cons_append, List.nil_append, Int.cast_ofNat_Int, w32_id, w64_id, le_T, le_F, lt_T, lt_F, eq_T, eq_F, reduceIte, ne_eq, Int.toNat_natCast, bi_0, bi_1, bi_b, Nat.reduceAdd, Nat.reduceEqDiff, Int.reduceToNat, Int.reduceNeg, nle_T, nlt_T, neq_T, neq_F, b2_0, b2_b, both, reduceCtorEq]
  have hk4 : k = 0 ∨ k = 1 ∨ k = 2 ∨ k = 3 := by omega
  rcases hk4 with rfl | rfl | rfl | rfl
  · have el : lvA A D n P m 0 = sk A D n P false 999 (lv0 A n) := rfl
    simp (config := { contextual := true }) (disch := omega) only [R_X12_lives_b0, R_X12_lives_b1, hW, r7, kb, mmx_begin, kt, e0, knf, ksf, el, true_and, and_true, true_implies, not_true_eq_false, false_implies, not_false_eq_true, false_and, and_false, or_true, true_or, false_or, or_false, implies_true, forall_const, kl_i, kl_n, kl_r, kl_l, tl_s, tl_n, List.cons_append, List.nil_append, Int.cast_ofNat_Int, w32_id, w64_id, le_T, le_F, lt_T, lt_F, eq_T, eq_F, reduceIte, ne_eq, Int.toNat_natCast, bi_0, bi_1, bi_b, Nat.reduceAdd, Nat.reduceEqDiff, Int.reduceToNat, Int.reduceNeg, nle_T, nlt_T, neq_T, neq_F, b2_0, b2_b, both, reduceCtorEq]
  · have el : lvA A D n P m 1 = sk A D n P true 999 (lv0 A n) := rfl
    simp (config := { contextual := true }) (disch := omega) only [R_X12_lives_b0, R_X12_lives_b1, hW, r7, kb, mmx_begin, kt, e0, knt, kst, el, true_and, and_true, true_implies, not_true_eq_false, false_implies, not_false_eq_true, false_and, and_false, or_true, true_or, false_or, or_false, implies_true, forall_const, kl_i, kl_n, kl_r, kl_l, tl_s, tl_n, List.cons_append, List.nil_append, Int.cast_ofNat_Int, w32_id, w64_id, le_T, le_F, lt_T, lt_F, eq_T, eq_F, reduceIte, ne_eq, Int.toNat_natCast, bi_0, bi_1, bi_b, Nat.reduceAdd, Nat.reduceEqDiff, Int.reduceToNat, Int.reduceNeg, nle_T, nlt_T, neq_T, neq_F, b2_0, b2_b, both, reduceCtorEq]
  · have el : lvA A D n P m 2 = rdA A D n m (lv0 A n) := rfl
    simp (config := { contextual := true }) (disch := omega) only [R_X12_lives_b0, R_X12_lives_b1, hW, r7, kb, mmx_begin, kt, e0, kw, el, true_and, and_true, true_implies, not_true_eq_false, false_implies, not_false_eq_true, false_and, and_false, or_true, true_or, false_or, or_false, implies_true, forall_const, kl_i, kl_n, kl_r, kl_l, tl_s, tl_n, List.cons_append, List.nil_append, Int.cast_ofNat_Int, w32_id, w64_id, le_T, le_F, lt_T, lt_F, eq_T, eq_F, reduceIte, ne_eq, Int.toNat_natCast, bi_0, bi_1, bi_b, Nat.reduceAdd, Nat.reduceEqDiff, Int.reduceToNat, Int.reduceNeg, nle_T, nlt_T, neq_T, neq_F, b2_0, b2_b, both, reduceCtorEq]
  · have el : lvA A D n P m 3 = lv0 A n := rfl
    simp (config := { contextual := true }) (disch := omega) only [R_X12_lives_b0, R_X12_lives_b1, hW, r7, kb, mmx_begin, kt, e0, k3, el, true_and, and_true, true_implies, not_true_eq_false, false_implies, not_false_eq_true, false_and, and_false, or_true, true_or, false_or, or_false, implies_true, forall_const, kl_i, kl_n, kl_r, kl_l, tl_s, tl_n, List.cons_append, List.nil_append, Int.cast_ofNat_Int, w32_id, w64_id, le_T, le_F, lt_T, lt_F, eq_T, eq_F, reduceIte, ne_eq, Int.toNat_natCast, bi_0, bi_1, bi_b, Nat.reduceAdd, Nat.reduceEqDiff, Int.reduceToNat, Int.reduceNeg, nle_T, nlt_T, neq_T, neq_F, b2_0, b2_b, both, reduceCtorEq]
end LVS

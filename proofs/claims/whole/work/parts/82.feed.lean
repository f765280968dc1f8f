-- feed on both sides
theorem bv_byte (v : BitVec 64) (s : Nat) (hs : s ≤ 56) : (v >>> s).setWidth 32 &&& 255#32 = ((v.sshiftRight s) &&& 255#64).setWidth 32 := by
  apply BitVec.eq_of_getLsbD_eq
  intro i hi
  have h32 : ∀ i, i < 32 → (255#32).getLsbD i = decide (i < 8) := by decide
  have h64 : ∀ i, i < 64 → (255#64).getLsbD i = decide (i < 8) := by decide
  rw [BitVec.getLsbD_and, BitVec.getLsbD_setWidth, BitVec.getLsbD_setWidth, BitVec.getLsbD_and, h32 i hi, h64 i (by omega), BitVec.getLsbD_ushiftRight, BitVec.getLsbD_sshiftRight]
  by_cases c : i < 8
  · have c1 : s + i < 64 := by omega
    have c2 : ¬ 64 ≤ i := by omega
    simp [c, c1, c2, hi]
  · simp [c]
theorem w32_bv (z : Int) : w32 z = (BitVec.ofInt 32 z).toInt := by
  rw [BitVec.toInt_ofInt]
  rfl
theorem bv_bytes (v : BitVec 64) (s : Nat) (hs : s ≤ 56) : iAnd (w32 (v >>> s).toInt) 255 = w32 (lAnd (v.sshiftRight s).toInt 255) := by
  have e1 : ∀ a, iAnd a 255 = (BitVec.ofInt 32 a &&& 255#32).toInt := fun _ => rfl
  have e2 : ∀ a, lAnd a 255 = (BitVec.ofInt 64 a &&& 255#64).toInt := fun _ => rfl
  rw [e1, e2, w32_bv, w32_bv, BitVec.ofInt_toInt, BitVec.ofInt_toInt]
  have e3 : ∀ y : BitVec 64, BitVec.ofInt 32 y.toInt = y.setWidth 32 := fun y => by
    have := BitVec.signExtend_eq_setWidth_of_le y (v := 32) (by omega)
    rw [← this]
    rfl
  rw [e3, e3, bv_byte v s hs]
theorem iAnd_255 (a : Int) : 0 ≤ iAnd a 255 ∧ iAnd a 255 ≤ 255 := by
  have e1 : iAnd a 255 = (BitVec.ofInt 32 a &&& 255#32).toInt := rfl
  have h1 : (BitVec.ofInt 32 a &&& 255#32).toNat ≤ 255 := by
    rw [BitVec.toNat_and]
    exact Nat.le_trans Nat.and_le_right (by decide)
  rw [e1, BitVec.toInt_eq_toNat_of_lt (by omega)]
  omega
def byt (p : Int) (i : Nat) : Int := iAnd (w32 (lUshr p (8 * (i : Int)))) 255
theorem byt_m (p : Int) : ∀ i : Nat, i < 8 → w32 (lAnd (lShr p (8 * (i : Int))) 255) = byt p i := by
  intro i hi
  unfold byt
  rcases (by omega : i = 0 ∨ i = 1 ∨ i = 2 ∨ i = 3 ∨ i = 4 ∨ i = 5 ∨ i = 6 ∨ i = 7) with r | r | r | r | r | r | r | r <;> subst r
  · exact (bv_bytes (Int64.ofInt p).toBitVec 0 (by omega)).symm
  · exact (bv_bytes (Int64.ofInt p).toBitVec 8 (by omega)).symm
  · exact (bv_bytes (Int64.ofInt p).toBitVec 16 (by omega)).symm
  · exact (bv_bytes (Int64.ofInt p).toBitVec 24 (by omega)).symm
  · exact (bv_bytes (Int64.ofInt p).toBitVec 32 (by omega)).symm
  · exact (bv_bytes (Int64.ofInt p).toBitVec 40 (by omega)).symm
  · exact (bv_bytes (Int64.ofInt p).toBitVec 48 (by omega)).symm
  · exact (bv_bytes (Int64.ofInt p).toBitVec 56 (by omega)).symm
-- the tape with k bytes more
def tpe (f : Nat → Int) (tp : Nat) (p : Int) : Nat → (Nat → Int)
  | 0 => f
  | k + 1 => uf (tpe f tp p k) (tp + k) (byt p k)
section FEED
variable {L : Nat} {xs : Nat → Int32} {g : GG} {I : II} {t dr : Nat} {A : II} {P w n q m : Nat}
theorem lp_fC (hX : WX g) {N tp : Nat} (hN : N ≤ 8) (ht : tp + N ≤ 64) (h7 : I 5 7 = (tp : Int)) (p : Int) (d : Nat) (Q : QQ) : ∀ k i : Nat, i + k = N → WP d m_X11_feed 39 [some (vr (some 5)), some (vi N), some (vl p), none, some (vi i)] [] g (pr I 52 (tpe (I 52) tp p i)) Q = Q (some (vi ((tp : Int) + N))) g (pr (pr I 52 (tpe (I 52) tp p N)) 5 (uf (I 5) 7 ((tp : Int) + N))) := by
  intro k
  induction k with
  | zero =>
    intro i hi
    obtain rfl : i = N := by omega
    rw [H_X11_feed_39]
    simp (config := { contextual := true }) (disch := omega) only [R_X11_feed, hX, h7, pr_o, pr_s, up_pr, uf_s, true_and, and_true, true_implies, not_true_eq_false, false_implies, not_false_eq_true, false_and, and_false, or_true, true_or, false_or, or_false, implies_true, forall_const, kl_i, kl_n, kl_r, kl_l, tl_s, tl_n, List.cons_append, List.nil_append, Int.cast_ofNat_Int, w32_id, w64_id, le_T, le_F, lt_T, lt_F, eq_T, eq_F, reduceIte, ne_eq, Int.toNat_natCast, bi_0, bi_1, bi_b, Nat.reduceAdd, Nat.reduceEqDiff, Int.reduceToNat, Int.reduceNeg, nle_T, nlt_T, neq_T, neq_F, b2_0, b2_b, both, reduceCtorEq]
  | succ k ih =>
    intro i hi
    have ih' := ih (i + 1) (by omega)
    have ec : ((i + 1 : Nat) : Int) = (i : Int) + 1 := by omega
    have e : tpe (I 52) tp p (i + 1) = uf (tpe (I 52) tp p i) (tp + i) (byt p i) := rfl
    have eb : iAnd (w32 (lUshr p (8 * (i : Int)))) 255 = byt p i := rfl
    have ei : ((tp : Int) + (i : Int)).toNat = tp + i := by omega
    rw [e, ec] at ih'
    rw [H_X11_feed_39]
    simp (config := { contextual := true }) (disch := omega) only [R_X11_feed, hX, h7, pr_o, pr_s, up_pr, pr_pr, eb, ei, ih', true_and, and_true, true_implies, not_true_eq_false, false_implies, not_false_eq_true, false_and, and_false, or_true, true_or, false_or, or_false, implies_true, forall_const, kl_i, kl_n, kl_r, kl_l, tl_s, tl_n, List.cons_append, List.nil_append, Int.cast_ofNat_Int, w32_id, w64_id, le_T, le_F, lt_T, lt_F, eq_T, eq_F, reduceIte, ne_eq, Int.toNat_natCast, bi_0, bi_1, bi_b, Nat.reduceAdd, Nat.reduceEqDiff, Int.reduceToNat, Int.reduceNeg, nle_T, nlt_T, neq_T, neq_F, b2_0, b2_b, both, reduceCtorEq]
theorem lp_fM (hW : WM g) {N tp : Nat} (hN : N ≤ 8) (ht : tp + N ≤ 64) (p : Int) (d : Nat) (Q : QQ) : ∀ k i : Nat, i + k = N → WP d m_X12_feed 44 [some (vr (some 57)), some (vi N), some (vl p), none, some (vi 0), some (vi i)] [] g (pr (pr I 73 (tpe (I 73) tp p i)) 57 (uf (I 57) 27 ((tp : Int) + i))) Q = Q (some (vi ((tp : Int) + N))) g (pr (pr I 73 (tpe (I 73) tp p N)) 57 (uf (I 57) 27 ((tp : Int) + N))) := by
  intro k
  induction k with
  | zero =>
    intro i hi
    obtain rfl : i = N := by omega
    rw [H_X12_feed_44]
    simp (config := { contextual := true }) (disch := omega) only [R_X12_feed, hW, pr_o, pr_s, uf_s, true_and, and_true, true_implies, not_true_eq_false, false_implies, not_false_eq_true, false_and, and_false, or_true, true_or, false_or, or_false, implies_true, forall_const, kl_i, kl_n, kl_r, kl_l, tl_s, tl_n, List.cons_append, List.nil_append, Int.cast_ofNat_Int, w32_id, w64_id, le_T, le_F, lt_T, lt_F, eq_T, eq_F, reduceIte, ne_eq, Int.toNat_natCast, bi_0, bi_1, bi_b, Nat.reduceAdd, Nat.reduceEqDiff, Int.reduceToNat, Int.reduceNeg, nle_T, nlt_T, neq_T, neq_F, b2_0, b2_b, both, reduceCtorEq]
  | succ k ih =>
    intro i hi
    have ih' := ih (i + 1) (by omega)
    have ec : ((i + 1 : Nat) : Int) = (i : Int) + 1 := by omega
    have e : tpe (I 73) tp p (i + 1) = uf (tpe (I 73) tp p i) (tp + i) (byt p i) := rfl
    have eb := byt_m p i (by omega)
    have ei : ((tp : Int) + (i : Int)).toNat = tp + i := by omega
    have ea : (tp : Int) + ((i : Int) + 1) = (tp : Int) + (i : Int) + 1 := by omega
    rw [e, ec, ea] at ih'
    rw [H_X12_feed_44]
    simp (config := { contextual := true }) (disch := omega) only [R_X12_feed, hW, pr_o, pr_s, up_pr, pr_pr, pr_in, uf_s, uf_uf, eb, ei, ih', true_and, and_true, true_implies, not_true_eq_false, false_implies, not_false_eq_true, false_and, and_false, or_true, true_or, false_or, or_false, implies_true, forall_const, kl_i, kl_n, kl_r, kl_l, tl_s, tl_n, List.cons_append, List.nil_append, Int.cast_ofNat_Int, w32_id, w64_id, le_T, le_F, lt_T, lt_F, eq_T, eq_F, reduceIte, ne_eq, Int.toNat_natCast, bi_0, bi_1, bi_b, Nat.reduceAdd, Nat.reduceEqDiff, Int.reduceToNat, Int.reduceNeg, nle_T, nlt_T, neq_T, neq_F, b2_0, b2_b, both, reduceCtorEq]
theorem tpe_e {f h : Nat → Int} {tp : Nat} {p : Int} (e : ∀ j, j < 64 → f j = h j) : ∀ k j, j < 64 → tpe f tp p k j = tpe h tp p k j
  | 0, j, hj => e j hj
  | k + 1, j, hj => by
    show uf (tpe f tp p k) (tp + k) (byt p k) j = uf (tpe h tp p k) (tp + k) (byt p k) j
    unfold uf
    by_cases z : j = tp + k
    · rw [if_pos z, if_pos z]
    · rw [if_neg z, if_neg z]; exact tpe_e e k j hj
theorem tpe_b {f : Nat → Int} {tp : Nat} {p : Int} (e : ∀ j, j < 64 → 0 ≤ f j ∧ f j ≤ 255) : ∀ k j, j < 64 → 0 ≤ tpe f tp p k j ∧ tpe f tp p k j ≤ 255
  | 0, j, hj => e j hj
  | k + 1, j, hj => by
    show 0 ≤ uf (tpe f tp p k) (tp + k) (byt p k) j ∧ uf (tpe f tp p k) (tp + k) (byt p k) j ≤ 255
    unfold uf
    by_cases z : j = tp + k
    · rw [if_pos z]; exact iAnd_255 _
    · rw [if_neg z]; exact tpe_b e k j hj
theorem cs_feed (hs : SS L xs g I) (hg : 90 ≤ gN g) (h : RQ g I t dr A P w n q m) (a p : Int) (ha : a < 2147483648) : CS L xs g I m_X11_feed m_X12_feed [some (vi a), some (vl p), none, none] [some (vi a), some (vl p), none, none, none] vi := by
  have hW := h.2.2.1.1
  have hX := h.2.2.1.2.1
  obtain ⟨ht1, ht2, hT⟩ := RQ_t h
  have h50 := h.2.1.1
  obtain ⟨hP, hP'⟩ := RQ_P h
  have hS := RQ_S h
  have hP8 := hS.2.1
  obtain ⟨⟨o1, o1b⟩, o2, o3, o4, o5, o6, o7⟩ := h.2.2.2.2.2.2.2
  by_cases c1 : a < 1
  · have eb : bnd a 1 8 = -4 := if_pos c1
    refine CS_r hs hg h (-4) (k := 4) (by omega) (fun Q => ?_) (fun Q => ?_)
    · simp (config := { contextual := true }) (disch := omega) only [R_X11_feed, hX, ct_refuse hX, rfC, true_and, and_true, true_implies, not_true_eq_false, false_implies, not_false_eq_true, false_and, and_false, or_true, true_or, false_or, or_false, implies_true, forall_const, kl_i, kl_n, kl_r, kl_l, tl_s, tl_n, List.cons_append, List.nil_append, Int.cast_ofNat_Int, w32_id, w64_id, le_T, le_F, lt_T, lt_F, eq_T, eq_F, reduceIte, ne_eq, Int.toNat_natCast, bi_0, bi_1, bi_b, Nat.reduceAdd, Nat.reduceEqDiff, Int.reduceToNat, Int.reduceNeg, nle_T, nlt_T, neq_T, neq_F, b2_0, b2_b, both, reduceCtorEq]
    · simp (config := { contextual := true }) (disch := omega) only [R_X12_feed, hW, ct_bound, eb, ct_no hW, pr_o, rfC, rfM, true_and, and_true, true_implies, not_true_eq_false, false_implies, not_false_eq_true, false_and, and_false, or_true, true_or, false_or, or_false, implies_true, forall_const, kl_i, kl_n, kl_r, kl_l, tl_s, tl_n, List.cons_append, List.nil_append, Int.cast_ofNat_Int, w32_id, w64_id, le_T, le_F, lt_T, lt_F, eq_T, eq_F, reduceIte, ne_eq, Int.toNat_natCast, bi_0, bi_1, bi_b, Nat.reduceAdd, Nat.reduceEqDiff, Int.reduceToNat, Int.reduceNeg, nle_T, nlt_T, neq_T, neq_F, b2_0, b2_b, both, reduceCtorEq]
  by_cases c2 : 8 < a
  · have eb : bnd a 1 8 = -6 := by unfold bnd; rw [if_neg c1, if_pos c2]
    refine CS_r hs hg h (-6) (k := 6) (by omega) (fun Q => ?_) (fun Q => ?_)
    · simp (config := { contextual := true }) (disch := omega) only [R_X11_feed, hX, ct_refuse hX, rfC, true_and, and_true, true_implies, not_true_eq_false, false_implies, not_false_eq_true, false_and, and_false, or_true, true_or, false_or, or_false, implies_true, forall_const, kl_i, kl_n, kl_r, kl_l, tl_s, tl_n, List.cons_append, List.nil_append, Int.cast_ofNat_Int, w32_id, w64_id, le_T, le_F, lt_T, lt_F, eq_T, eq_F, reduceIte, ne_eq, Int.toNat_natCast, bi_0, bi_1, bi_b, Nat.reduceAdd, Nat.reduceEqDiff, Int.reduceToNat, Int.reduceNeg, nle_T, nlt_T, neq_T, neq_F, b2_0, b2_b, both, reduceCtorEq]
    · simp (config := { contextual := true }) (disch := omega) only [R_X12_feed, hW, ct_bound, eb, ct_no hW, pr_o, rfC, rfM, true_and, and_true, true_implies, not_true_eq_false, false_implies, not_false_eq_true, false_and, and_false, or_true, true_or, false_or, or_false, implies_true, forall_const, kl_i, kl_n, kl_r, kl_l, tl_s, tl_n, List.cons_append, List.nil_append, Int.cast_ofNat_Int, w32_id, w64_id, le_T, le_F, lt_T, lt_F, eq_T, eq_F, reduceIte, ne_eq, Int.toNat_natCast, bi_0, bi_1, bi_b, Nat.reduceAdd, Nat.reduceEqDiff, Int.reduceToNat, Int.reduceNeg, nle_T, nlt_T, neq_T, neq_F, b2_0, b2_b, both, reduceCtorEq]
  have eb : bnd a 1 8 = 0 := by unfold bnd; rw [if_neg c1, if_neg c2]
  obtain ⟨tp, htp⟩ := Int.eq_ofNat_of_zero_le o1b.1
  rw [htp] at o1 o1b
  obtain ⟨N, rfl⟩ := Int.eq_ofNat_of_zero_le (by omega : 0 ≤ a)
  by_cases c3 : 64 < (tp : Int) + N
  · refine CS_r hs hg h (-6) (k := 6) (by omega) (fun Q => ?_) (fun Q => ?_)
    · simp (config := { contextual := true }) (disch := omega) only [R_X11_feed, hX, o1, ct_refuse hX, rfC, true_and, and_true, true_implies, not_true_eq_false, false_implies, not_false_eq_true, false_and, and_false, or_true, true_or, false_or, or_false, implies_true, forall_const, kl_i, kl_n, kl_r, kl_l, tl_s, tl_n, List.cons_append, List.nil_append, Int.cast_ofNat_Int, w32_id, w64_id, le_T, le_F, lt_T, lt_F, eq_T, eq_F, reduceIte, ne_eq, Int.toNat_natCast, bi_0, bi_1, bi_b, Nat.reduceAdd, Nat.reduceEqDiff, Int.reduceToNat, Int.reduceNeg, nle_T, nlt_T, neq_T, neq_F, b2_0, b2_b, both, reduceCtorEq]
    · simp (config := { contextual := true }) (disch := omega) only [R_X12_feed, hW, ct_bound, eb, htp, ct_no hW, pr_o, rfC, rfM, true_and, and_true, true_implies, not_true_eq_false, false_implies, not_false_eq_true, false_and, and_false, or_true, true_or, false_or, or_false, implies_true, forall_const, kl_i, kl_n, kl_r, kl_l, tl_s, tl_n, List.cons_append, List.nil_append, Int.cast_ofNat_Int, w32_id, w64_id, le_T, le_F, lt_T, lt_F, eq_T, eq_F, reduceIte, ne_eq, Int.toNat_natCast, bi_0, bi_1, bi_b, Nat.reduceAdd, Nat.reduceEqDiff, Int.reduceToNat, Int.reduceNeg, nle_T, nlt_T, neq_T, neq_F, b2_0, b2_b, both, reduceCtorEq]
  have k1 := fun Q => lp_fC (I := I) hX (N := N) (tp := tp) (by omega) (by omega) o1 p 999 Q N 0 (by omega)
  have e0 : tpe (I 52) tp p 0 = I 52 := rfl
  have ez : ((0 : Nat) : Int) = 0 := rfl
  rw [e0, pr_id, ez] at k1
  obtain ⟨I1, hI1⟩ : ∃ I1, I1 = pr (pr I 52 (tpe (I 52) tp p N)) 5 (uf (I 5) 7 ((tp : Int) + N)) := ⟨_, rfl⟩
  rw [← hI1] at k1
  have hJ1 : ∀ c, ¬ c = 5 → ¬ c = 52 → I1 c = I c := fun c c1 c2 => by rw [hI1, pr_o c1, pr_o c2]
  have e57 : I1 57 = I 57 := hJ1 57 (by omega) (by omega)
  have e73 : I1 73 = I 73 := hJ1 73 (by omega) (by omega)
  have k2 := fun Q => lp_fM (I := I1) hW (N := N) (tp := tp) (by omega) (by omega) p 999 Q N 0 (by omega)
  have e1 : tpe (I1 73) tp p 0 = I1 73 := rfl
  have e2 : uf (I 57) 27 ((tp : Int) + 0) = I 57 := by rw [Int.add_zero, ← htp, uf_id]
  have e3 : pr I1 57 (I 57) = I1 := by rw [← e57, pr_id]
  rw [e1, pr_id, ez, e57, e2, e3, e73] at k2
  have hJ : ∀ c, ¬ c = 5 → ¬ c = 52 → ¬ c = 57 → ¬ c = 73 → pr (pr I1 73 (tpe (I 73) tp p N)) 57 (uf (I 57) 27 ((tp : Int) + N)) c = I c := fun c c1 c2 c3 c4 => by rw [pr_o c3, pr_o c4, hJ1 c c1 c2]
  refine CS_s hs hg h ((tp : Int) + N) (I1 := I1) (J := pr (pr I1 73 (tpe (I 73) tp p N)) 57 (uf (I 57) 27 ((tp : Int) + N))) (fun Q => ?_) ⟨hJ1 0 (by omega) (by omega), hJ1 1 (by omega) (by omega), hJ1 2 (by omega) (by omega)⟩ (fun Q => ?_) ⟨hJ 0 (by omega) (by omega) (by omega) (by omega), hJ 1 (by omega) (by omega) (by omega) (by omega), hJ 2 (by omega) (by omega) (by omega) (by omega)⟩ (RQ_ot h (fun c c1 c2 c3 c4 c5 c6 => hJ c c1 c5 c3 c6) ?_ (fun j j1 j2 => by rw [pr_s, uf_o j1]) ?_)
  · have k1 := k1 Q
    simp (config := { contextual := true }) (disch := omega) only [R_X11_feed, hX, o1, true_and, and_true, true_implies, not_true_eq_false, false_implies, not_false_eq_true, false_and, and_false, or_true, true_or, false_or, or_false, implies_true, forall_const, kl_i, kl_n, kl_r, kl_l, tl_s, tl_n, List.cons_append, List.nil_append, Int.cast_ofNat_Int, w32_id, w64_id, le_T, le_F, lt_T, lt_F, eq_T, eq_F, reduceIte, ne_eq, Int.toNat_natCast, bi_0, bi_1, bi_b, Nat.reduceAdd, Nat.reduceEqDiff, Int.reduceToNat, Int.reduceNeg, nle_T, nlt_T, neq_T, neq_F, b2_0, b2_b, both, reduceCtorEq]
    exact k1
  · have k2 := k2 Q
    simp (config := { contextual := true }) (disch := omega) only [R_X12_feed, hW, ct_bound, eb, e57, htp, true_and, and_true, true_implies, not_true_eq_false, false_implies, not_false_eq_true, false_and, and_false, or_true, true_or, false_or, or_false, implies_true, forall_const, kl_i, kl_n, kl_r, kl_l, tl_s, tl_n, List.cons_append, List.nil_append, Int.cast_ofNat_Int, w32_id, w64_id, le_T, le_F, lt_T, lt_F, eq_T, eq_F, reduceIte, ne_eq, Int.toNat_natCast, bi_0, bi_1, bi_b, Nat.reduceAdd, Nat.reduceEqDiff, Int.reduceToNat, Int.reduceNeg, nle_T, nlt_T, neq_T, neq_F, b2_0, b2_b, both, reduceCtorEq]
    exact k2
  · rw [pr_o (by omega), pr_o (by omega), hI1, pr_s, uf_o (by omega)]
  · unfold OT
    have p5 : pr (pr I1 73 (tpe (I 73) tp p N)) 57 (uf (I 57) 27 ((tp : Int) + N)) 5 = uf (I 5) 7 ((tp : Int) + N) := by rw [pr_o (by omega), pr_o (by omega), hI1, pr_s]
    have p52 : pr (pr I1 73 (tpe (I 73) tp p N)) 57 (uf (I 57) 27 ((tp : Int) + N)) 52 = tpe (I 52) tp p N := by rw [pr_o (by omega), pr_o (by omega), hI1, pr_o (by omega), pr_s]
    have p73 : pr (pr I1 73 (tpe (I 73) tp p N)) 57 (uf (I 57) 27 ((tp : Int) + N)) 73 = tpe (I 73) tp p N := by rw [pr_o (by omega), pr_s]
    have p57 : pr (pr I1 73 (tpe (I 73) tp p N)) 57 (uf (I 57) 27 ((tp : Int) + N)) 57 = uf (I 57) 27 ((tp : Int) + N) := pr_s _ _ _
    rw [p5, p52, p73, p57, hJ 53 (by omega) (by omega) (by omega) (by omega), hJ 89 (by omega) (by omega) (by omega) (by omega), hJ 56 (by omega) (by omega) (by omega) (by omega), hJ 58 (by omega) (by omega) (by omega) (by omega), hJ 49 (by omega) (by omega) (by omega) (by omega), hJ 81 (by omega) (by omega) (by omega) (by omega)]
    refine ⟨⟨by rw [uf_s, uf_s], by rw [uf_s]; omega⟩, fun j hj => ⟨tpe_e (fun j hj => (o2 j hj).1) N j hj, tpe_b (fun j hj => (o2 j hj).2) N j hj⟩, by rw [uf_o (by omega), uf_o (by omega)]; exact o3, o4, o5, o6, o7⟩
end FEED

-- LIVED and STRAY on both sides
def zB (x : LF) : Prop := ∀ j, 7 ≤ j → lHad x j = 0
theorem zB_tk {A : II} {w : Bool} {n : Nat} (hn : n ≤ 7) {x : LF} (h : zB x) : ∀ i, i ≤ n → zB (tkA A w i x)
  | 0, _ => h
  | i + 1, hi => by
    have ih := zB_tk (A := A) (w := w) hn h i (by omega)
    show zB (tk1 A w i (tkA A w i x))
    unfold tk1
    split
    · intro j hj
      show uf (lHad (tkA A w i x)) i (lHad (tkA A w i x) i + 1) j = 0
      rw [uf_o (by omega)]
      exact ih j hj
    · exact ih
theorem zB_sk {A : II} {D : Nat → Int} {n P : Nat} {far : Bool} (hn : n ≤ 7) : ∀ (k : Nat) (x : LF), zB x → zB (sk A D n P far k x)
  | 0, x, h => h
  | k + 1, x, h => by
    show zB (if npA A D n far x P < 0 then x else sk A D n P far k (tkA A true n (goL D x (npA A D n far x P))))
    split
    · exact h
    · exact zB_sk hn k _ (zB_tk hn (x := goL D x (npA A D n far x P)) h n (Nat.le_refl n))
theorem zB_rd {A : II} {D : Nat → Int} {n : Nat} (hn : n ≤ 7) {x : LF} (h : zB x) : ∀ i, zB (rdA A D n i x)
  | 0 => h
  | i + 1 => by
    have ih := zB_rd (A := A) (D := D) hn h i
    unfold rdA
    split
    · exact zB_tk hn (x := goL D (rdA A D n i x) (A 12 i)) ih n (Nat.le_refl n)
    · exact ih
theorem zB_lv {A : II} {D : Nat → Int} {n P m : Nat} (hn : n ≤ 7) (k : Int) : zB (lvA A D n P m k) := by
  have h0 : zB (lv0 A n) := zB_tk hn (x := (A 7 3, 0, 0, z0)) (fun _ _ => rfl) n (Nat.le_refl n)
  unfold lvA
  split
  · exact zB_sk hn _ _ h0
  · split
    · exact zB_sk hn _ _ h0
    · split
      · exact zB_rd hn h0 m
      · exact h0
theorem zB_st {A : II} {D : Nat → Int} {n P : Nat} {z : Int} (hn : n ≤ 7) : ∀ k, zB (stX A D n P z k)
  | 0 => zB_tk hn (x := (A 7 3, 0, 0, z0)) (fun _ _ => rfl) n (Nat.le_refl n)
  | k + 1 => by
    have ih := zB_st (A := A) (D := D) (P := P) (z := z) hn k
    refine zB_tk hn (x := st1 A D (stX A D n P z k) (plc (zz z (k + 1)) P)) ?_ n (Nat.le_refl n)
    unfold st1
    split
    · exact ih
    · exact ih
theorem sm_mc {I : II} {x : LF} (hz : ∀ j, 7 ≤ j → I 49 j = 0) (hx : zB x) : sm I (mcx I x) := sm_mcx (sm_rf I) (fun j hj => by rw [hx j hj, hz j hj])
def kpt (I : II) : II := sP 1 (pr I 80 (kAll200 I)) 321
theorem kq_o {I : II} {a : Nat} (h : ¬ a = 57 ∧ ¬ a = 80) : kpt I a = I a := kp_o h
theorem kq_f {I : II} {j : Nat} (h : ¬ j = 32 ∧ ¬ j = 33) : kpt I 57 j = I 57 j := kp_f h
theorem kq_80 {I : II} : kpt I 80 = kAll200 I := kp_80
theorem ct_kp {g : GG} {I : II} {d : Nat} (hW : WM g) (Q : QQ) : WP (d + 1) m_X12_passesAll 0 [some (vr (some 57)), some (vi 1), some (vi 1)] [] g I Q = Q none g (kpt I) := ct_keep200 hW Q
theorem sm_mm {I : II} {x : LF} (hz : ∀ j, 7 ≤ j → I 81 j = 0) (hx : zB x) : sm I (sP 0 (rAll200 (mmx (kpt I) x)) 321) := by
  refine sm_back (fun a q q2 => ?_) (fun j q q2 => ?_) ?_ (fun j q => ?_) (fun j q => ?_)
  · rw [mmx_o (by unfold okc at q; omega), kq_o (by unfold okc at q; omega)]
  · rw [mmx_f (by omega), kq_f (by unfold okf at q; omega)]
  · rw [mmx_o (by omega), kq_80]
  · rw [mmx_o (by omega), kq_o (by omega)]
  · rw [mmx_h, hx j q, hz j q]
section MK
variable {g : GG} {I : II} {t n P m : Nat} {A : II} {D : Nat → Int}
theorem MV_kp (hV : MV g I A n) : MV g (kpt I) A n := by
  obtain ⟨hW, hn, r3, r4, r5, r6, r7⟩ := hV
  exact ⟨hW, by rw [kq_f (by omega)]; exact hn, by rw [kq_o (by omega)]; exact r3, by rw [kq_o (by omega)]; exact r4, by rw [kq_o (by omega)]; exact r5, by rw [kq_o (by omega)]; exact r6, by rw [kq_o (by omega)]; exact r7⟩
theorem lp_mst (hV : MV g I A n) (hA : okA A n) (hS : okSt A) (hD : bD D) (hI : I 72 = D) (hP : I 57 14 = (P : Int)) (hP0 : 0 < P) (hP8 : P ≤ 8) (N : Nat) (hN : N ≤ 40) (z : Int) (d : Nat) (Q : QQ) : ∀ k i : Nat, i + k = N → ∀ l6, ∃ l4' l5' l6', WP (d + 4) m_X12_stray 49 [some (vr (some 57)), some (vi N), some (vi z), some (vi 0), some (vi (zz z i)), some (vi i), l6] [] g (mmx I (stX A D n P z i)) Q = WP (d + 4) m_X12_stray 110 [some (vr (some 57)), some (vi N), some (vi z), some (vi 0), some (vi l4'), some (vi l5'), l6'] [] g (mmx I (stX A D n P z N)) Q := by
  have hV0 := hV
  obtain ⟨hW, hn, r3, r4, r5, r6, r7⟩ := hV0
  intro k
  induction k with
  | zero =>
    intro i hi l6
    obtain rfl : i = N := by omega
    refine ⟨zz z i, i, l6, ?_⟩
    rw [H_X12_stray_49]
    simp (config := { contextual := true }) (disch := omega) only [R_X12_stray_b0, R_X12_stray_b1, hW, true_and, and_true, true_implies, not_true_eq_false, false_implies, not_false_eq_true, false_and, and_false, or_true, true_or, false_or, or_false, implies_true, forall_const, kl_i, kl_n, kl_r, kl_l, tl_s, tl_n, List.cons_append, List.nil_append, Int.cast_ofNat_Int, w32_id, w64_id, le_T, le_F, lt_T, lt_F, eq_T, eq_F, reduceIte, ne_eq, Int.toNat_natCast, bi_0, bi_1, bi_b, Nat.reduceAdd, Nat.reduceEqDiff, Int.reduceToNat, Int.reduceNeg, nle_T, nlt_T, neq_T, neq_F, b2_0, b2_b, both, reduceCtorEq]
  | succ k ih =>
    intro i hi l6
    have hy := okL_stX (z := z) hA hS hD hP0 hP8 i
    have e1 : stX A D n P z (i + 1) = tkA A false n (st1 A D (stX A D n P z i) (plc (zz z (i + 1)) P)) := rfl
    have ec : ((i + 1 : Nat) : Int) = (i : Int) + 1 := by omega
    have ep : iRem (iDiv (iAnd (zz z (i + 1)) 2147483647) 256) (P : Int) = plc (zz z (i + 1)) P := rfl
    have hp := plc_b (zz z (i + 1)) hP0 hP8
    obtain ⟨l4', l5', l6', ih'⟩ := ih (i + 1) (by omega) (some (vi (plc (zz z (i + 1)) P)))
    refine ⟨l4', l5', l6', ?_⟩
    rw [e1, ec] at ih'
    generalize stX A D n P z i = y at ih' hy ⊢
    have el : w32 (w32 (zz z i * 1664525) + 1013904223) = zz z (i + 1) := rfl
    have hp8 : 0 ≤ plc (zz z (i + 1)) P ∧ plc (zz z (i + 1)) P < 8 := by omega
    have q72 : mmx I y 72 = D := by rw [mmx_o (by omega), hI]
    have q7 : mmx I y 66 = A 7 := by rw [mmx_o (by omega), r7]
    have hD' : bD (mmx I y 72) := by rw [q72]; exact hD
    have ff : (if false = true then (1 : Int) else 0) = 0 := rfl
    have hT1 := fun Q => ct_hasAll (d := d) hV hA hS false _ (okL_st1 hS hD hy hp8) Q
    rw [ff] at hT1
    obtain ⟨hy1, hy2, hy3⟩ := hy
    have h0 : 0 ≤ mmx I y 57 35 ∧ mmx I y 57 35 < 8 := by rw [mmx_0]; omega
    have h1 : 0 ≤ mmx I y 57 36 ∧ mmx I y 57 36 ≤ 1000000 := by rw [mmx_1]; omega
    have kc := fun Q => ct_mayGo (d := d + 2) hW hD' Q (plc (zz z (i + 1)) P) h0 h1 hp8
    have kg := fun Q => ct_goesTo (d := d + 2) hW hD' Q (plc (zz z (i + 1)) P) h0 h1 hp8
    generalize plc (zz z (i + 1)) P = p at *
    have eg : (p, lAge y + D (8 * (lAt y).toNat + p.toNat), lWo y, lHad y) = goL D y p := rfl
    rw [H_X12_stray_49]
    by_cases c : lAge y + D (8 * (lAt y).toNat + p.toNat) ≤ A 7 2
    · have e2 : st1 A D y p = goL D y p := if_pos c
      rw [e2] at ih' hT1
      simp (config := { contextual := true }) (disch := omega) only [R_X12_stray_b0, R_X12_stray_b1, hW, hP, el, ep, kc, kg, mmx_0, mmx_1, mmx_f, q72, q7, mmx_come, eg, hT1, ih', true_and, and_true, true_implies, not_true_eq_false, false_implies, not_false_eq_true, false_and, and_false, or_true, true_or, false_or, or_false, implies_true, forall_const, kl_i, kl_n, kl_r, kl_l, tl_s, tl_n, List.cons_append, List.nil_append, Int.cast_ofNat_Int, w32_id, w64_id, le_T, le_F, lt_T, lt_F, eq_T, eq_F, reduceIte, ne_eq, Int.toNat_natCast, bi_0, bi_1, bi_b, Nat.reduceAdd, Nat.reduceEqDiff, Int.reduceToNat, Int.reduceNeg, nle_T, nlt_T, neq_T, neq_F, b2_0, b2_b, both, reduceCtorEq]
    · have e2 : st1 A D y p = y := if_neg c
      rw [e2] at ih' hT1
      simp (config := { contextual := true }) (disch := omega) only [R_X12_stray_b0, R_X12_stray_b1, hW, hP, el, ep, kc, mmx_0, mmx_1, mmx_f, q72, q7, hT1, ih', true_and, and_true, true_implies, not_true_eq_false, false_implies, not_false_eq_true, false_and, and_false, or_true, true_or, false_or, or_false, implies_true, forall_const, kl_i, kl_n, kl_r, kl_l, tl_s, tl_n, List.cons_append, List.nil_append, Int.cast_ofNat_Int, w32_id, w64_id, le_T, le_F, lt_T, lt_F, eq_T, eq_F, reduceIte, ne_eq, Int.toNat_natCast, bi_0, bi_1, bi_b, Nat.reduceAdd, Nat.reduceEqDiff, Int.reduceToNat, Int.reduceNeg, nle_T, nlt_T, neq_T, neq_F, b2_0, b2_b, both, reduceCtorEq]
end MK
section CSL
variable {L : Nat} {xs : Nat → Int32} {g : GG} {I : II} {t dr : Nat} {A : II} {P w n q m : Nat}
theorem cs_lived (hs : SS L xs g I) (hg : 90 ≤ gN g) (h : RQ g I t dr A P w n q m) (a b : Int) : CS L xs g I m_X11_lived m_X12_lived [some (vi a), some (vi b), none] [some (vi a), some (vi b), none] vi := by
  have hW := h.2.2.1.1
  have hX := h.2.2.1.2.1
  obtain ⟨ht1, ht2, hT⟩ := RQ_t h
  have h50 := h.2.1.1
  obtain ⟨hP, hP'⟩ := RQ_P h
  have hS := RQ_S h
  have hP8 := hS.2.1
  have hz := h.2.2.2.2.2.2.2.2.2.2.2.2.1
  have hz2 := h.2.2.2.2.2.2.2.2.2.2.2.2.2
  by_cases pa : 0 ≤ a ∧ a ≤ 3
  · by_cases pb : 0 ≤ b ∧ b ≤ 1
    · obtain ⟨dB, dZ, d1, d8⟩ := DM_ok hS (I 72)
      have hf := RQ_far h (I 72)
      have hm := RQ_m h
      have kl := ct_live (d := 992) (RQ_CV h) (RQ_TH h) (okS_A hS) (okS_S hS) dB d1 hf hP hP8.2 (okS_O hS) hm.1 h.2.2.2.2.1.2.2.2.2.2.1 hz a pa
      have hx : zB (lvA A (DM A P w (I 72)) n P m a) := zB_lv (okS_A hS).1 a
      have k1 := sm_mc hz hx
      have h' := RQ_sm h k1
      have kf := RQ_ff h'
      rw [mcx_o (by omega)] at kf
      obtain ⟨x, hxx⟩ : ∃ x, x = lvA A (DM A P w (I 72)) n P m a := ⟨_, rfl⟩
      rw [← hxx] at kl hx k1 h' kf
      have ks : sm (mcx I x) (pr (mcx I x) 72 (DM A P w (I 72))) := sm_72 _ _
      have h'' := RQ_sm h' ks
      have hW'' := MV_kp (RQ_MV h'')
      have km := ct_lives (d := 994) hW'' (okS_A hS) (okS_S hS) dB d1 (by rw [kq_o (by omega), pr_s]) (by rw [kq_f (by omega)]; exact (RQ_P h'').2) hP8.2 (okS_O hS) (by rw [kq_f (by omega)]; exact (RQ_m h'').2) (by rw [kq_o (by omega)]; exact (RQ_r h'').2.2.2.2.2.2.2.2.2.1) (fun j hj => by rw [kq_o (by omega)]; exact h''.2.2.2.2.2.2.2.2.2.2.2.2.2 j hj) a pa
      rw [← hxx] at km
      have k2 := sm_mm (I := pr (mcx I x) 72 (DM A P w (I 72))) h''.2.2.2.2.2.2.2.2.2.2.2.2.2 hx
      have kk := fun Q => ct_kp (d := 997) (I := pr (mcx I x) 72 (DM A P w (I 72))) hW Q
      have kb := fun Q => ct_back200 (d := 997) (I := mmx (kpt (pr (mcx I x) 72 (DM A P w (I 72)))) x) hW Q
      have hb : b = 0 ∨ b = 1 := by omega
      rcases hb with rfl | rfl
      · refine CS_q hs hg h (lWo x) (fun Q => ?_) k1 (fun Q => ?_) (sm_tr k1 (sm_tr ks k2))
        · simp (config := { contextual := true }) (disch := omega) only [R_X11_lived, hX, hT, h50, kl, mcx_2, true_and, and_true, true_implies, not_true_eq_false, false_implies, not_false_eq_true, false_and, and_false, or_true, true_or, false_or, or_false, implies_true, forall_const, kl_i, kl_n, kl_r, kl_l, tl_s, tl_n, List.cons_append, List.nil_append, Int.cast_ofNat_Int, w32_id, w64_id, le_T, le_F, lt_T, lt_F, eq_T, eq_F, reduceIte, ne_eq, Int.toNat_natCast, bi_0, bi_1, bi_b, Nat.reduceAdd, Nat.reduceEqDiff, Int.reduceToNat, Int.reduceNeg, nle_T, nlt_T, neq_T, neq_F, b2_0, b2_b, both, reduceCtorEq]
        · simp (config := { contextual := true }) (disch := omega) only [R_X12_lived, hW, ct_isIn, kf, kk, km, mmx_2, kb, true_and, and_true, true_implies, not_true_eq_false, false_implies, not_false_eq_true, false_and, and_false, or_true, true_or, false_or, or_false, implies_true, forall_const, kl_i, kl_n, kl_r, kl_l, tl_s, tl_n, List.cons_append, List.nil_append, Int.cast_ofNat_Int, w32_id, w64_id, le_T, le_F, lt_T, lt_F, eq_T, eq_F, reduceIte, ne_eq, Int.toNat_natCast, bi_0, bi_1, bi_b, Nat.reduceAdd, Nat.reduceEqDiff, Int.reduceToNat, Int.reduceNeg, nle_T, nlt_T, neq_T, neq_F, b2_0, b2_b, both, reduceCtorEq]
      · refine CS_q hs hg h (lAge x) (fun Q => ?_) k1 (fun Q => ?_) (sm_tr k1 (sm_tr ks k2))
        · simp (config := { contextual := true }) (disch := omega) only [R_X11_lived, hX, hT, h50, kl, mcx_1, true_and, and_true, true_implies, not_true_eq_false, false_implies, not_false_eq_true, false_and, and_false, or_true, true_or, false_or, or_false, implies_true, forall_const, kl_i, kl_n, kl_r, kl_l, tl_s, tl_n, List.cons_append, List.nil_append, Int.cast_ofNat_Int, w32_id, w64_id, le_T, le_F, lt_T, lt_F, eq_T, eq_F, reduceIte, ne_eq, Int.toNat_natCast, bi_0, bi_1, bi_b, Nat.reduceAdd, Nat.reduceEqDiff, Int.reduceToNat, Int.reduceNeg, nle_T, nlt_T, neq_T, neq_F, b2_0, b2_b, both, reduceCtorEq]
        · simp (config := { contextual := true }) (disch := omega) only [R_X12_lived, hW, ct_isIn, kf, kk, km, mmx_1, kb, true_and, and_true, true_implies, not_true_eq_false, false_implies, not_false_eq_true, false_and, and_false, or_true, true_or, false_or, or_false, implies_true, forall_const, kl_i, kl_n, kl_r, kl_l, tl_s, tl_n, List.cons_append, List.nil_append, Int.cast_ofNat_Int, w32_id, w64_id, le_T, le_F, lt_T, lt_F, eq_T, eq_F, reduceIte, ne_eq, Int.toNat_natCast, bi_0, bi_1, bi_b, Nat.reduceAdd, Nat.reduceEqDiff, Int.reduceToNat, Int.reduceNeg, nle_T, nlt_T, neq_T, neq_F, b2_0, b2_b, both, reduceCtorEq]
    · refine CS_r hs hg h (-2) (k := 2) (by omega) (fun Q => ?_) (fun Q => ?_)
      · by_cases c : b < 0
        · simp (config := { contextual := true }) (disch := omega) only [R_X11_lived, hX, ct_refuse hX, rfC, true_and, and_true, true_implies, not_true_eq_false, false_implies, not_false_eq_true, false_and, and_false, or_true, true_or, false_or, or_false, implies_true, forall_const, kl_i, kl_n, kl_r, kl_l, tl_s, tl_n, List.cons_append, List.nil_append, Int.cast_ofNat_Int, w32_id, w64_id, le_T, le_F, lt_T, lt_F, eq_T, eq_F, reduceIte, ne_eq, Int.toNat_natCast, bi_0, bi_1, bi_b, Nat.reduceAdd, Nat.reduceEqDiff, Int.reduceToNat, Int.reduceNeg, nle_T, nlt_T, neq_T, neq_F, b2_0, b2_b, both, reduceCtorEq]
        · simp (config := { contextual := true }) (disch := omega) only [R_X11_lived, hX, ct_refuse hX, rfC, true_and, and_true, true_implies, not_true_eq_false, false_implies, not_false_eq_true, false_and, and_false, or_true, true_or, false_or, or_false, implies_true, forall_const, kl_i, kl_n, kl_r, kl_l, tl_s, tl_n, List.cons_append, List.nil_append, Int.cast_ofNat_Int, w32_id, w64_id, le_T, le_F, lt_T, lt_F, eq_T, eq_F, reduceIte, ne_eq, Int.toNat_natCast, bi_0, bi_1, bi_b, Nat.reduceAdd, Nat.reduceEqDiff, Int.reduceToNat, Int.reduceNeg, nle_T, nlt_T, neq_T, neq_F, b2_0, b2_b, both, reduceCtorEq]
      · simp (config := { contextual := true }) (disch := omega) only [R_X12_lived, hW, ct_isIn, pa, pb, ct_no hW, pr_o, rfC, rfM, true_and, and_true, true_implies, not_true_eq_false, false_implies, not_false_eq_true, false_and, and_false, or_true, true_or, false_or, or_false, implies_true, forall_const, kl_i, kl_n, kl_r, kl_l, tl_s, tl_n, List.cons_append, List.nil_append, Int.cast_ofNat_Int, w32_id, w64_id, le_T, le_F, lt_T, lt_F, eq_T, eq_F, reduceIte, ne_eq, Int.toNat_natCast, bi_0, bi_1, bi_b, Nat.reduceAdd, Nat.reduceEqDiff, Int.reduceToNat, Int.reduceNeg, nle_T, nlt_T, neq_T, neq_F, b2_0, b2_b, both, reduceCtorEq]
  · refine CS_r hs hg h (-2) (k := 2) (by omega) (fun Q => ?_) (fun Q => ?_)
    · by_cases c : a < 0
      · simp (config := { contextual := true }) (disch := omega) only [R_X11_lived, hX, ct_refuse hX, rfC, true_and, and_true, true_implies, not_true_eq_false, false_implies, not_false_eq_true, false_and, and_false, or_true, true_or, false_or, or_false, implies_true, forall_const, kl_i, kl_n, kl_r, kl_l, tl_s, tl_n, List.cons_append, List.nil_append, Int.cast_ofNat_Int, w32_id, w64_id, le_T, le_F, lt_T, lt_F, eq_T, eq_F, reduceIte, ne_eq, Int.toNat_natCast, bi_0, bi_1, bi_b, Nat.reduceAdd, Nat.reduceEqDiff, Int.reduceToNat, Int.reduceNeg, nle_T, nlt_T, neq_T, neq_F, b2_0, b2_b, both, reduceCtorEq]
      · simp (config := { contextual := true }) (disch := omega) only [R_X11_lived, hX, ct_refuse hX, rfC, true_and, and_true, true_implies, not_true_eq_false, false_implies, not_false_eq_true, false_and, and_false, or_true, true_or, false_or, or_false, implies_true, forall_const, kl_i, kl_n, kl_r, kl_l, tl_s, tl_n, List.cons_append, List.nil_append, Int.cast_ofNat_Int, w32_id, w64_id, le_T, le_F, lt_T, lt_F, eq_T, eq_F, reduceIte, ne_eq, Int.toNat_natCast, bi_0, bi_1, bi_b, Nat.reduceAdd, Nat.reduceEqDiff, Int.reduceToNat, Int.reduceNeg, nle_T, nlt_T, neq_T, neq_F, b2_0, b2_b, both, reduceCtorEq]
    · simp (config := { contextual := true }) (disch := omega) only [R_X12_lived, hW, ct_isIn, pa, ct_no hW, pr_o, rfC, rfM, true_and, and_true, true_implies, not_true_eq_false, false_implies, not_false_eq_true, false_and, and_false, or_true, true_or, false_or, or_false, implies_true, forall_const, kl_i, kl_n, kl_r, kl_l, tl_s, tl_n, List.cons_append, List.nil_append, Int.cast_ofNat_Int, w32_id, w64_id, le_T, le_F, lt_T, lt_F, eq_T, eq_F, reduceIte, ne_eq, Int.toNat_natCast, bi_0, bi_1, bi_b, Nat.reduceAdd, Nat.reduceEqDiff, Int.reduceToNat, Int.reduceNeg, nle_T, nlt_T, neq_T, neq_F, b2_0, b2_b, both, reduceCtorEq]
theorem cs_stray (hs : SS L xs g I) (hg : 90 ≤ gN g) (h : RQ g I t dr A P w n q m) (a b : Int) : CS L xs g I m_X11_stray m_X12_stray [some (vi a), some (vi b)] [some (vi a), some (vi b), none, none, none, none] vi := by
  have hW := h.2.2.1.1
  have hX := h.2.2.1.2.1
  obtain ⟨ht1, ht2, hT⟩ := RQ_t h
  have h50 := h.2.1.1
  obtain ⟨hP, hP'⟩ := RQ_P h
  have hS := RQ_S h
  have hP8 := hS.2.1
  have hz := h.2.2.2.2.2.2.2.2.2.2.2.2.1
  by_cases c1 : a < 1
  · have eb : bnd a 1 40 = -4 := if_pos c1
    refine CS_r hs hg h (-4) (k := 4) (by omega) (fun Q => ?_) (fun Q => ?_)
    · simp (config := { contextual := true }) (disch := omega) only [R_X11_stray, hX, ct_refuse hX, rfC, true_and, and_true, true_implies, not_true_eq_false, false_implies, not_false_eq_true, false_and, and_false, or_true, true_or, false_or, or_false, implies_true, forall_const, kl_i, kl_n, kl_r, kl_l, tl_s, tl_n, List.cons_append, List.nil_append, Int.cast_ofNat_Int, w32_id, w64_id, le_T, le_F, lt_T, lt_F, eq_T, eq_F, reduceIte, ne_eq, Int.toNat_natCast, bi_0, bi_1, bi_b, Nat.reduceAdd, Nat.reduceEqDiff, Int.reduceToNat, Int.reduceNeg, nle_T, nlt_T, neq_T, neq_F, b2_0, b2_b, both, reduceCtorEq]
    · simp (config := { contextual := true }) (disch := omega) only [R_X12_stray_b0, R_X12_stray_b1, hW, ct_bound, eb, ct_no hW, pr_o, rfC, rfM, true_and, and_true, true_implies, not_true_eq_false, false_implies, not_false_eq_true, false_and, and_false, or_true, true_or, false_or, or_false, implies_true, forall_const, kl_i, kl_n, kl_r, kl_l, tl_s, tl_n, List.cons_append, List.nil_append, Int.cast_ofNat_Int, w32_id, w64_id, le_T, le_F, lt_T, lt_F, eq_T, eq_F, reduceIte, ne_eq, Int.toNat_natCast, bi_0, bi_1, bi_b, Nat.reduceAdd, Nat.reduceEqDiff, Int.reduceToNat, Int.reduceNeg, nle_T, nlt_T, neq_T, neq_F, b2_0, b2_b, both, reduceCtorEq]
  by_cases c2 : 40 < a
  · have eb : bnd a 1 40 = -6 := by unfold bnd; rw [if_neg c1, if_pos c2]
    refine CS_r hs hg h (-6) (k := 6) (by omega) (fun Q => ?_) (fun Q => ?_)
    · simp (config := { contextual := true }) (disch := omega) only [R_X11_stray, hX, ct_refuse hX, rfC, true_and, and_true, true_implies, not_true_eq_false, false_implies, not_false_eq_true, false_and, and_false, or_true, true_or, false_or, or_false, implies_true, forall_const, kl_i, kl_n, kl_r, kl_l, tl_s, tl_n, List.cons_append, List.nil_append, Int.cast_ofNat_Int, w32_id, w64_id, le_T, le_F, lt_T, lt_F, eq_T, eq_F, reduceIte, ne_eq, Int.toNat_natCast, bi_0, bi_1, bi_b, Nat.reduceAdd, Nat.reduceEqDiff, Int.reduceToNat, Int.reduceNeg, nle_T, nlt_T, neq_T, neq_F, b2_0, b2_b, both, reduceCtorEq]
    · simp (config := { contextual := true }) (disch := omega) only [R_X12_stray_b0, R_X12_stray_b1, hW, ct_bound, eb, ct_no hW, pr_o, rfC, rfM, true_and, and_true, true_implies, not_true_eq_false, false_implies, not_false_eq_true, false_and, and_false, or_true, true_or, false_or, or_false, implies_true, forall_const, kl_i, kl_n, kl_r, kl_l, tl_s, tl_n, List.cons_append, List.nil_append, Int.cast_ofNat_Int, w32_id, w64_id, le_T, le_F, lt_T, lt_F, eq_T, eq_F, reduceIte, ne_eq, Int.toNat_natCast, bi_0, bi_1, bi_b, Nat.reduceAdd, Nat.reduceEqDiff, Int.reduceToNat, Int.reduceNeg, nle_T, nlt_T, neq_T, neq_F, b2_0, b2_b, both, reduceCtorEq]
  have eb : bnd a 1 40 = 0 := by unfold bnd; rw [if_neg c1, if_neg c2]
  obtain ⟨N, rfl⟩ := Int.eq_ofNat_of_zero_le (by omega : 0 ≤ a)
  obtain ⟨dB, dZ, d1, d8⟩ := DM_ok hS (I 72)
  have hf := RQ_far h (I 72)
  have kl := fun Q => ct_strayWorth (d := 993) (RQ_CV h) (RQ_TH h) (okS_A hS) (okS_S hS) dB hf hP (by omega) hP8.2 hz N (by omega) b Q
  have hx : zB (stX A (DM A P w (I 72)) n P b N) := zB_st (okS_A hS).1 N
  have k1 := sm_mc hz hx
  have h' := RQ_sm h k1
  have kf := RQ_ff h'
  rw [mcx_o (by omega)] at kf
  have ks : sm (mcx I (stX A (DM A P w (I 72)) n P b N)) (pr (mcx I (stX A (DM A P w (I 72)) n P b N)) 72 (DM A P w (I 72))) := sm_72 _ _
  have h'' := RQ_sm h' ks
  have r7 := (RQ_r h'').2.2.2.2.1
  have hz2 := h''.2.2.2.2.2.2.2.2.2.2.2.2.2
  have kk := fun Q => ct_kp (d := 997) (I := pr (mcx I (stX A (DM A P w (I 72)) n P b N)) 72 (DM A P w (I 72))) hW Q
  have hP2 := (RQ_P h'').2
  have hMV := RQ_MV h''
  obtain ⟨I2, hI2⟩ : ∃ I2, I2 = pr (mcx I (stX A (DM A P w (I 72)) n P b N)) 72 (DM A P w (I 72)) := ⟨_, rfl⟩
  have h72 : I2 72 = DM A P w (I 72) := by rw [hI2, pr_s]
  rw [← hI2] at r7 hz2 kk hP2 hMV
  generalize DM A P w (I 72) = D at *
  have hMK := MV_kp hMV
  have kb1 := fun Q => ct_begins (d := 998) (I := kpt I2) hW Q (A 7 3)
  rw [fll_z (fun j hj => by rw [kq_o (by omega)]; exact hz2 j hj)] at kb1
  have ff : (if false = true then (1 : Int) else 0) = 0 := rfl
  have kh := fun Q => ct_hasAll (d := 995) hMK (okS_A hS) (okS_S hS) false _ (okL_z (okS_S hS)) Q
  rw [ff] at kh
  have e0 : tkA A false n (A 7 3, 0, 0, z0) = stX A D n P b 0 := rfl
  have k2 := sm_mm (I := I2) hz2 hx
  have kb := fun Q => ct_back200 (d := 997) (I := mmx (kpt I2) (stX A D n P b N)) hW Q
  have r7k : kpt I2 66 = A 7 := by rw [kq_o (by omega)]; exact r7
  refine CS_q hs hg h (lWo (stX A D n P b N)) (fun Q => ?_) k1 (J := sP 0 (rAll200 (mmx (kpt I2) (stX A D n P b N))) 321) (fun Q => ?_) (sm_tr k1 (sm_tr ks (by rw [← hI2]; exact k2)))
  · simp (config := { contextual := true }) (disch := omega) only [R_X11_stray, hX, hT, h50, kl, true_and, and_true, true_implies, not_true_eq_false, false_implies, not_false_eq_true, false_and, and_false, or_true, true_or, false_or, or_false, implies_true, forall_const, kl_i, kl_n, kl_r, kl_l, tl_s, tl_n, List.cons_append, List.nil_append, Int.cast_ofNat_Int, w32_id, w64_id, le_T, le_F, lt_T, lt_F, eq_T, eq_F, reduceIte, ne_eq, Int.toNat_natCast, bi_0, bi_1, bi_b, Nat.reduceAdd, Nat.reduceEqDiff, Int.reduceToNat, Int.reduceNeg, nle_T, nlt_T, neq_T, neq_F, b2_0, b2_b, both, reduceCtorEq]
  · obtain ⟨l4, l5, l6, kloop⟩ := lp_mst hMK (okS_A hS) (okS_S hS) dB (by rw [kq_o (by omega)]; exact h72) (by rw [kq_f (by omega)]; exact hP2) (by omega) hP8.2 N (by omega) b 995 Q N 0 (by omega) none
    have ez : zz b 0 = b := rfl
    rw [ez] at kloop
    have kloop2 : WP 999 m_X12_stray 49 [some (vr (some 57)), some (vi N), some (vi b), some (vi 0), some (vi b), some (vi 0), none] [] g (mmx (kpt I2) (stX A D n P b 0)) Q = Q (some (vi (lWo (stX A D n P b N)))) g (sP 0 (rAll200 (mmx (kpt I2) (stX A D n P b N))) 321) := by
      refine kloop.trans ?_
      simp (config := { contextual := true }) (disch := omega) only [R_X12_stray_b0, R_X12_stray_b1, hW, mmx_2, kb, true_and, and_true, true_implies, not_true_eq_false, false_implies, not_false_eq_true, false_and, and_false, or_true, true_or, false_or, or_false, implies_true, forall_const, kl_i, kl_n, kl_r, kl_l, tl_s, tl_n, List.cons_append, List.nil_append, Int.cast_ofNat_Int, w32_id, w64_id, le_T, le_F, lt_T, lt_F, eq_T, eq_F, reduceIte, ne_eq, Int.toNat_natCast, bi_0, bi_1, bi_b, Nat.reduceAdd, Nat.reduceEqDiff, Int.reduceToNat, Int.reduceNeg, nle_T, nlt_T, neq_T, neq_F, b2_0, b2_b, both, reduceCtorEq]
    simp (config := { contextual := true }) (disch := omega) only [R_X12_stray_b0, R_X12_stray_b1, hW, ct_bound, eb, kf, ← hI2, kk, r7k, kb1, mmx_begin, kh, e0, true_and, and_true, true_implies, not_true_eq_false, false_implies, not_false_eq_true, false_and, and_false, or_true, true_or, false_or, or_false, implies_true, forall_const, kl_i, kl_n, kl_r, kl_l, tl_s, tl_n, List.cons_append, List.nil_append, Int.cast_ofNat_Int, w32_id, w64_id, le_T, le_F, lt_T, lt_F, eq_T, eq_F, reduceIte, ne_eq, Int.toNat_natCast, bi_0, bi_1, bi_b, Nat.reduceAdd, Nat.reduceEqDiff, Int.reduceToNat, Int.reduceNeg, nle_T, nlt_T, neq_T, neq_F, b2_0, b2_b, both, reduceCtorEq]
    exact kloop2
end CSL

-- BEST of the class: seekOn, seekWith
def rl (R : Nat → Int) (r : List Nat) : Prop := ∀ j, j < r.length → R j = ((r.getD j 0 : Nat) : Int)
theorem rl_fll {R B : Nat → Int} {r : List Nat} (h : rl R r) : rl (fll R r.length B) r := by
  intro j hj
  unfold fll
  rw [if_pos hj]
  exact h j hj
theorem rl_app {R : Nat → Int} {r : List Nat} {i : Nat} (h : rl R r) : rl (uf R r.length i) (r ++ [i]) := by
  intro j hj
  rw [List.length_append, List.length_singleton] at hj
  by_cases e : j = r.length
  · subst e
    rw [uf_s, List.getD_eq_getElem?_getD, List.getElem?_append_right (Nat.le_refl _), Nat.sub_self]
    rfl
  · rw [uf_o e, h j (by omega), List.getD_eq_getElem?_getD, List.getD_eq_getElem?_getD, List.getElem?_append_left (by omega)]
theorem rl_pre {R : Nat → Int} {r : List Nat} {i : Nat} (h : rl R (r ++ [i])) : rl R r := by
  intro j hj
  rw [h j (by rw [List.length_append]; omega), List.getD_eq_getElem?_getD, List.getD_eq_getElem?_getD, List.getElem?_append_left hj]
section SEEKON
variable {g : GG} {I : II} {t n : Nat} {A : II} {D : Nat → Int}
/-- what the search's memory is: b0 the length that stood there before -/
abbrev sB (I : II) (R B : Nat → Int) (bl : Int) (s : BS) (x : LF) : II := mcx (bs I R B bl s.1) x
def RLb (b0 : Int) (s : BS) (bl : Int) (B : Nat → Int) : Prop := (s.2 = [] ∧ bl = b0) ∨ (bl = (s.2.length : Int) ∧ rl B s.2)
def SOk (g : GG) (I : II) (t n : Nat) (A : II) (D : Nat → Int) (b0 : Int) (k : Nat) : Prop := ∀ (e : Nat) (x : LF) (r : List Nat) (s : BS) (R B : Nat → Int) (bl : Int), r.length + k = 7 → okX A n x r.length → rl R r → RLb b0 s bl B → ∀ Q : QQ, (∀ (R' B' : Nat → Int) (bl' : Int), rl R' r → RLb b0 ((nd A D n k x r).foldl up1 (up1 s (lWo x, r))) bl' B' → Q none g (sB I R' B' bl' ((nd A D n k x r).foldl up1 (up1 s (lWo x, r))) x)) → WP (2 * k + e + 6) m_X5_seekOn 0 [some (vr (some 47)), some (vr (some t)), some (vi (r.length : Nat)), none] [] g (sB I R B bl s x) Q
theorem SW (hV : CV g I t A n) (hTH : TH g I t A n) (hA : okA A n) (hS : okSt A) (hD : bD D) (hI : e64 (I (t + 2)) D) {b0 : Int} {k : Nat} (ih : SOk g I t n A D b0 k) (e : Nat) (x : LF) (r : List Nat) (s : BS) (R B : Nat → Int) (bl : Int) (hk : r.length + (k + 1) = 7) (hx : okX A n x r.length) (hr : rl R r) (hB : RLb b0 s bl B) {i : Nat} (hi : i < n) (h0 : lHad x i = 0) (hc : lAge x + D (8 * (lAt x).toNat + (A 4 i).toNat) ≤ A 7 2) (Q : QQ) (hQ : ∀ (R' B' : Nat → Int) (bl' : Int), rl R' r → RLb b0 ((if cnT A D x i then (lWo (gT A D x i), r ++ [i]) :: nd A D n k (gT A D x i) (r ++ [i]) else []).foldl up1 s) bl' B' → Q none g (sB I R' B' bl' ((if cnT A D x i then (lWo (gT A D x i), r ++ [i]) :: nd A D n k (gT A D x i) (r ++ [i]) else []).foldl up1 s) x)) : WP (2 * k + e + 7) m_X5_seekWith 0 [some (vr (some 47)), some (vr (some t)), some (vi i), some (vi (r.length : Nat)), none, none, none] [] g (sB I R B bl s x) Q := by
  have hV1 := CV_bs hV R B bl s.1
  have hTH1 := TH_bs hTH R B bl s.1
  obtain ⟨ht, hX, hT, hn, s0, s1, s2, s3⟩ := hV1
  have hn7 := hA.1
  have hL := WL_m hX
  have hTH' := TH_mcx hTH1 x
  have hD' : bD (mcx (bs I R B bl s.1) x (t + 2)) := by
    rw [mcx_o (by omega), bs_o (by omega)]
    intro j hj
    rw [hI j hj]
    exact hD j hj
  obtain ⟨b, hb1, hb2, hb3⟩ := hTH' i hi
  obtain ⟨ok, hpl⟩ := hA.2 i hi
  have hTb : isTh g b := by
    refine isTh_of hb3.1 ?_
    rcases kd_six ok.1 with e | e | e | e | e | e <;> rw [e] <;> decide
  have hpb : mcx (bs I R B bl s.1) x b 2 = A 4 i := hb3.2.2.2.1
  have hx0 := hx
  obtain ⟨⟨hy1, hy2, hy3⟩, hwo, hh⟩ := hx
  have ed : bs I R B bl s.1 (t + 2) (8 * (lAt x).toNat + (A 4 i).toNat) = D (8 * (lAt x).toNat + (A 4 i).toNat) := by rw [bs_o (by omega)]; exact hI _ (by omega)
  have hd := hD (8 * (lAt x).toNat + (A 4 i).toNat) (by omega)
  have h48 : 0 ≤ mcx (bs I R B bl s.1) x 48 0 ∧ mcx (bs I R B bl s.1) x 48 0 < 8 := by rw [mcx_0]; omega
  have h49 : 0 ≤ mcx (bs I R B bl s.1) x 48 1 ∧ mcx (bs I R B bl s.1) x 48 1 ≤ 1000000 := by rw [mcx_1]; omega
  have kg := fun Q => ct_come (d := 2 * k + e + 5) hT hL hD' Q (A 4 i) h48 h49 hpl
  have eg : (A 4 i, lAge x + D (8 * (lAt x).toNat + (A 4 i).toNat), lWo x, lHad x) = goL D x (A 4 i) := rfl
  have hg : okL (goL D x (A 4 i)) := okL_go hS hD hx0.1 hpl hc
  have hTHg := TH_mcx hTH1 (goL D x (A 4 i))
  have hg0 : 0 ≤ mcx (bs I R B bl s.1) (goL D x (A 4 i)) 49 i := by rw [mcx_h]; have := hg.2.2 i (by omega); omega
  have km := fun Q => ct_mayTake (d := 2 * k + e + 4) hT hL hTHg hA hi hg0 Q
  have ep : lAt (goL D x (A 4 i)) = A 4 i := rfl
  have eh : lHad (goL D x (A 4 i)) = lHad x := rfl
  have ew : lWo (goL D x (A 4 i)) = lWo x := rfl
  have eag : lAge (goL D x (A 4 i)) = lAge x + D (8 * (lAt x).toNat + (A 4 i).toNat) := rfl
  by_cases co : opn (A 3 i) (A 5 i) (A 6 i) i (lHad x)
  · have hcn : cnT A D x i := ⟨h0, hc, co⟩
    rw [if_pos hcn] at hQ
    have hst := hS.2.1
    have ha : 0 ≤ mcx (bs I R B bl s.1) (goL D x (A 4 i)) 48 1 ∧ mcx (bs I R B bl s.1) (goL D x (A 4 i)) 48 1 ≤ 1000000 := by rw [mcx_1]; have := hg.2.1; omega
    have ho : 0 ≤ mcx (bs I R B bl s.1) (goL D x (A 4 i)) (t + 4) 1 ∧ mcx (bs I R B bl s.1) (goL D x (A 4 i)) (t + 4) 1 ≤ 1000 := by rw [mcx_o (by omega), s1]; omega
    have kt := fun Q => ct_take (d := 2 * k + e + 3) hT hL (by decide) hTHg hA hi hg0 ha ho Q
    have hyi := hy3 i (by omega)
    have e32 : w32 (lHad x i + 1) = lHad x i + 1 := w32_id (by omega) (by omega)
    have egt : (A 4 i, lAge x + D (8 * (lAt x).toNat + (A 4 i).toNat), w32 (lWo x + wth (A 3 i) (A 5 i) (A 6 i) (A 7 0) (A 7 1) (lAge x + D (8 * (lAt x).toNat + (A 4 i).toNat)) (lHad x i)), uf (lHad x) i (lHad x i + 1)) = gT A D x i := rfl
    have hgX := okX_g hA hS hD hx0 (by omega) hi hcn
    have hso := ih e (gT A D x i) (r ++ [i]) s (uf R r.length i) B bl (by rw [List.length_append, List.length_singleton]; omega) (by rw [List.length_append, List.length_singleton]; exact hgX) (rl_app hr) hB
    have elen : (((r ++ [i]).length : Nat) : Int) = (r.length : Int) + 1 := by rw [List.length_append, List.length_singleton]; omega
    rw [elen] at hso
    have hl7 : r.length ≤ 6 := by omega
    have er : (r.length : Int) ≤ 6 := by omega
    simp (config := { contextual := true }) (disch := omega) only [R_X5_seekWith_b0, R_X5_seekWith_b1, hX, hT, hb2, hb3.1, hTb, hpb, kg, mcx_0, mcx_1, mcx_2, mcx_h, mcx_o, ed, mcx_come, eg, km, ep, eh, ew, eag, co, kt, s0, s1, mcx_take, e32, egt, up_pr, bs_R, bs_w50, true_and, and_true, true_implies, not_true_eq_false, false_implies, not_false_eq_true, false_and, and_false, or_true, true_or, false_or, or_false, implies_true, forall_const, kl_i, kl_n, kl_r, kl_l, tl_s, tl_n, List.cons_append, List.nil_append, Int.cast_ofNat_Int, w32_id, w64_id, le_T, le_F, lt_T, lt_F, eq_T, eq_F, reduceIte, ne_eq, Int.toNat_natCast, bi_0, bi_1, bi_b, Nat.reduceAdd, Nat.reduceEqDiff, Int.reduceToNat, Int.reduceNeg, nle_T, nlt_T, neq_T, neq_F, b2_0, b2_b, both, reduceCtorEq]
    refine hso _ (fun R' B' bl' hR' hB' => ?_)
    have hq := hQ R' B' bl' (rl_pre hR') hB'
    rw [List.foldl_cons] at hq
    generalize (nd A D n k (gT A D x i) (r ++ [i])).foldl up1 (up1 s (lWo (gT A D x i), r ++ [i])) = s' at hq ⊢
    have f1 : lHad (gT A D x i) = uf (lHad x) i (lHad x i + 1) := rfl
    have f2 : uf (uf (lHad x) i (lHad x i + 1)) i 0 = lHad x := by
      rw [uf_uf]
      have := uf_id (lHad x) i
      rw [h0] at this
      exact this
    have f3 : (lAt x, lAge x, lWo x, lHad x) = x := rfl
    simp (config := { contextual := true }) (disch := omega) only [R_X5_seekWith_b0, R_X5_seekWith_b1, hX, up_pr, mcx_h, mcx_ph, mcx_p0, mcx_p1, mcx_p2, f1, f2, f3, true_and, and_true, true_implies, not_true_eq_false, false_implies, not_false_eq_true, false_and, and_false, or_true, true_or, false_or, or_false, implies_true, forall_const, kl_i, kl_n, kl_r, kl_l, tl_s, tl_n, List.cons_append, List.nil_append, Int.cast_ofNat_Int, w32_id, w64_id, le_T, le_F, lt_T, lt_F, eq_T, eq_F, reduceIte, ne_eq, Int.toNat_natCast, bi_0, bi_1, bi_b, Nat.reduceAdd, Nat.reduceEqDiff, Int.reduceToNat, Int.reduceNeg, nle_T, nlt_T, neq_T, neq_F, b2_0, b2_b, both, reduceCtorEq]
    exact hq
  · have hcn : ¬ cnT A D x i := fun q => co q.2.2
    rw [if_neg hcn] at hQ
    have hq := hQ R B bl hr hB
    have f3 : (lAt x, lAge x, lWo x, lHad x) = x := rfl
    simp (config := { contextual := true }) (disch := omega) only [R_X5_seekWith_b0, R_X5_seekWith_b1, hX, hT, hb2, hb3.1, hTb, hpb, kg, mcx_0, mcx_1, mcx_2, mcx_o, mcx_h, ed, mcx_come, eg, km, ep, eh, ew, eag, co, up_pr, mcx_p0, mcx_p1, mcx_p2, f3, true_and, and_true, true_implies, not_true_eq_false, false_implies, not_false_eq_true, false_and, and_false, or_true, true_or, false_or, or_false, implies_true, forall_const, kl_i, kl_n, kl_r, kl_l, tl_s, tl_n, List.cons_append, List.nil_append, Int.cast_ofNat_Int, w32_id, w64_id, le_T, le_F, lt_T, lt_F, eq_T, eq_F, reduceIte, ne_eq, Int.toNat_natCast, bi_0, bi_1, bi_b, Nat.reduceAdd, Nat.reduceEqDiff, Int.reduceToNat, Int.reduceNeg, nle_T, nlt_T, neq_T, neq_F, b2_0, b2_b, both, reduceCtorEq]
    exact hq
theorem SL (hV : CV g I t A n) (hTH : TH g I t A n) (hA : okA A n) (hS : okSt A) (hD : bD D) (hI : e64 (I (t + 2)) D) {b0 : Int} {k : Nat} (ih : SOk g I t n A D b0 k) (e : Nat) (x : LF) (r : List Nat) (hk : r.length + (k + 1) = 7) (hx : okX A n x r.length) (Q : QQ) : ∀ c i : Nat, i + c = n → ∀ (s : BS) (R B : Nat → Int) (bl : Int), rl R r → RLb b0 s bl B → (∀ (R' B' : Nat → Int) (bl' : Int), rl R' r → RLb b0 ((ndL A D (nd A D n k) x r c i).foldl up1 s) bl' B' → Q none g (sB I R' B' bl' ((ndL A D (nd A D n k) x r c i).foldl up1 s) x)) → WP (2 * k + e + 8) m_X5_seekOn 73 [some (vr (some 47)), some (vr (some t)), some (vi (r.length : Nat)), some (vi i)] [] g (sB I R B bl s x) Q := by
  have hn7 := hA.1
  intro c
  induction c with
  | zero =>
    intro i hi s R B bl hr hB hQ
    obtain rfl : i = n := by omega
    have hq := hQ R B bl hr hB
    have hV1 := CV_bs hV R B bl s.1
    obtain ⟨ht, hX, hT, hn, s0, s1, s2, s3⟩ := hV1
    rw [H_X5_seekOn_73]
    simp (config := { contextual := true }) (disch := omega) only [R_X5_seekOn_b0, R_X5_seekOn_b1, hX, hT, hn, mcx_o, true_and, and_true, true_implies, not_true_eq_false, false_implies, not_false_eq_true, false_and, and_false, or_true, true_or, false_or, or_false, implies_true, forall_const, kl_i, kl_n, kl_r, kl_l, tl_s, tl_n, List.cons_append, List.nil_append, Int.cast_ofNat_Int, w32_id, w64_id, le_T, le_F, lt_T, lt_F, eq_T, eq_F, reduceIte, ne_eq, Int.toNat_natCast, bi_0, bi_1, bi_b, Nat.reduceAdd, Nat.reduceEqDiff, Int.reduceToNat, Int.reduceNeg, nle_T, nlt_T, neq_T, neq_F, b2_0, b2_b, both, reduceCtorEq]
    exact hq
  | succ c ihc =>
    intro i hi s R B bl hr hB hQ
    have hi' : i < n := by omega
    have eL : ndL A D (nd A D n k) x r (c + 1) i = (if cnT A D x i then (lWo (gT A D x i), r ++ [i]) :: nd A D n k (gT A D x i) (r ++ [i]) else []) ++ ndL A D (nd A D n k) x r c (i + 1) := rfl
    rw [eL, List.foldl_append] at hQ
    have ec : ((i + 1 : Nat) : Int) = (i : Int) + 1 := by omega
    have hV1 := CV_bs hV R B bl s.1
    have hTH' := TH_mcx (TH_bs hTH R B bl s.1) x
    obtain ⟨ht, hX, hT, hn, s0, s1, s2, s3⟩ := hV1
    have hL := WL_m hX
    obtain ⟨b, hb1, hb2, hb3⟩ := hTH' i hi'
    obtain ⟨ok, hpl⟩ := hA.2 i hi'
    have hTb : isTh g b := by
      refine isTh_of hb3.1 ?_
      rcases kd_six ok.1 with e | e | e | e | e | e <;> rw [e] <;> decide
    have hpb : mcx (bs I R B bl s.1) x b 2 = A 4 i := hb3.2.2.2.1
    have hD' : bD (mcx (bs I R B bl s.1) x (t + 2)) := by
      rw [mcx_o (by omega), bs_o (by omega)]
      intro j hj
      rw [hI j hj]
      exact hD j hj
    have hx0 := hx
    obtain ⟨⟨hy1, hy2, hy3⟩, hwo, hh⟩ := hx0
    have h48 : 0 ≤ mcx (bs I R B bl s.1) x 48 0 ∧ mcx (bs I R B bl s.1) x 48 0 < 8 := by rw [mcx_0]; omega
    have h49 : 0 ≤ mcx (bs I R B bl s.1) x 48 1 ∧ mcx (bs I R B bl s.1) x 48 1 ≤ 1000000 := by rw [mcx_1]; omega
    have kc := fun Q => ct_canCome (d := 2 * k + e + 6) hT hL hD' Q (A 4 i) h48 h49 hpl
    have ed : bs I R B bl s.1 (t + 2) (8 * (lAt x).toNat + (A 4 i).toNat) = D (8 * (lAt x).toNat + (A 4 i).toNat) := by rw [bs_o (by omega)]; exact hI _ (by omega)
    by_cases c1 : lHad x i = 0
    · by_cases c2 : lAge x + D (8 * (lAt x).toNat + (A 4 i).toNat) ≤ A 7 2
      · have hsw := SW hV hTH hA hS hD hI ih e x r s R B bl hk hx hr hB hi' c1 c2
        rw [H_X5_seekOn_73]
        simp (config := { contextual := true }) (disch := omega) only [R_X5_seekOn_b0, R_X5_seekOn_b1, hX, hT, hn, mcx_o, mcx_0, mcx_1, mcx_h, hb2, hb3.1, hTb, hpb, kc, ed, s2, true_and, and_true, true_implies, not_true_eq_false, false_implies, not_false_eq_true, false_and, and_false, or_true, true_or, false_or, or_false, implies_true, forall_const, kl_i, kl_n, kl_r, kl_l, tl_s, tl_n, List.cons_append, List.nil_append, Int.cast_ofNat_Int, w32_id, w64_id, le_T, le_F, lt_T, lt_F, eq_T, eq_F, reduceIte, ne_eq, Int.toNat_natCast, bi_0, bi_1, bi_b, Nat.reduceAdd, Nat.reduceEqDiff, Int.reduceToNat, Int.reduceNeg, nle_T, nlt_T, neq_T, neq_F, b2_0, b2_b, both, reduceCtorEq]
        refine hsw _ (fun R' B' bl' hR' hB' => ?_)
        have hh := ihc (i + 1) (by omega) _ R' B' bl' hR' hB' hQ
        rw [ec] at hh
        exact hh
      · have hcn : ¬ cnT A D x i := fun q => c2 q.2.1
        rw [if_neg hcn, List.foldl_nil] at hQ
        have hh := ihc (i + 1) (by omega) s R B bl hr hB hQ
        rw [ec] at hh
        rw [H_X5_seekOn_73]
        simp (config := { contextual := true }) (disch := omega) only [R_X5_seekOn_b0, R_X5_seekOn_b1, hX, hT, hn, mcx_o, mcx_0, mcx_1, mcx_h, hb2, hb3.1, hTb, hpb, kc, ed, s2, true_and, and_true, true_implies, not_true_eq_false, false_implies, not_false_eq_true, false_and, and_false, or_true, true_or, false_or, or_false, implies_true, forall_const, kl_i, kl_n, kl_r, kl_l, tl_s, tl_n, List.cons_append, List.nil_append, Int.cast_ofNat_Int, w32_id, w64_id, le_T, le_F, lt_T, lt_F, eq_T, eq_F, reduceIte, ne_eq, Int.toNat_natCast, bi_0, bi_1, bi_b, Nat.reduceAdd, Nat.reduceEqDiff, Int.reduceToNat, Int.reduceNeg, nle_T, nlt_T, neq_T, neq_F, b2_0, b2_b, both, reduceCtorEq]
        exact hh
    · have hcn : ¬ cnT A D x i := fun q => c1 q.1
      rw [if_neg hcn, List.foldl_nil] at hQ
      have hh := ihc (i + 1) (by omega) s R B bl hr hB hQ
      rw [ec] at hh
      rw [H_X5_seekOn_73]
      simp (config := { contextual := true }) (disch := omega) only [R_X5_seekOn_b0, R_X5_seekOn_b1, hX, hT, hn, mcx_o, mcx_h, true_and, and_true, true_implies, not_true_eq_false, false_implies, not_false_eq_true, false_and, and_false, or_true, true_or, false_or, or_false, implies_true, forall_const, kl_i, kl_n, kl_r, kl_l, tl_s, tl_n, List.cons_append, List.nil_append, Int.cast_ofNat_Int, w32_id, w64_id, le_T, le_F, lt_T, lt_F, eq_T, eq_F, reduceIte, ne_eq, Int.toNat_natCast, bi_0, bi_1, bi_b, Nat.reduceAdd, Nat.reduceEqDiff, Int.reduceToNat, Int.reduceNeg, nle_T, nlt_T, neq_T, neq_F, b2_0, b2_b, both, reduceCtorEq]
      exact hh
theorem SE0 (hV : CV g I t A n) (d : Nat) (x : LF) (r : List Nat) (s : BS) (R B : Nat → Int) (bl : Int) (hk : r.length ≤ 7) (Q : QQ) : WP d m_X5_seekOn 0 [some (vr (some 47)), some (vr (some t)), some (vi (r.length : Nat)), none] [] g (sB I R B bl s x) Q = WP d m_X5_seekOn 44 [some (vr (some 47)), some (vr (some t)), some (vi (r.length : Nat)), none] [] g (sB I R (if s.1 < lWo x then fll R r.length B else B) (if s.1 < lWo x then (r.length : Int) else bl) (up1 s (lWo x, r)) x) Q := by
  have hX := hV.2.1
  have hr : (r.length : Int) ≤ 7 := by omega
  by_cases c : s.1 < lWo x
  · rw [if_pos c, if_pos c, show up1 s (lWo x, r) = (lWo x, r) from if_pos c]
    simp (config := { contextual := true }) (disch := omega) only [R_X5_seekOn_b0, R_X5_seekOn_b1, hX, mcx_2, mcx_o, bs_4, bs_R, bs_B, up_pr, bs_w4, bs_w3, icpy_pr, bs_w51, true_and, and_true, true_implies, not_true_eq_false, false_implies, not_false_eq_true, false_and, and_false, or_true, true_or, false_or, or_false, implies_true, forall_const, kl_i, kl_n, kl_r, kl_l, tl_s, tl_n, List.cons_append, List.nil_append, Int.cast_ofNat_Int, w32_id, w64_id, le_T, le_F, lt_T, lt_F, eq_T, eq_F, reduceIte, ne_eq, Int.toNat_natCast, bi_0, bi_1, bi_b, Nat.reduceAdd, Nat.reduceEqDiff, Int.reduceToNat, Int.reduceNeg, nle_T, nlt_T, neq_T, neq_F, b2_0, b2_b, both, reduceCtorEq]
  · rw [if_neg c, if_neg c, show up1 s (lWo x, r) = s from if_neg c]
    simp (config := { contextual := true }) (disch := omega) only [R_X5_seekOn_b0, R_X5_seekOn_b1, hX, mcx_2, mcx_o, bs_4, true_and, and_true, true_implies, not_true_eq_false, false_implies, not_false_eq_true, false_and, and_false, or_true, true_or, false_or, or_false, implies_true, forall_const, kl_i, kl_n, kl_r, kl_l, tl_s, tl_n, List.cons_append, List.nil_append, Int.cast_ofNat_Int, w32_id, w64_id, le_T, le_F, lt_T, lt_F, eq_T, eq_F, reduceIte, ne_eq, Int.toNat_natCast, bi_0, bi_1, bi_b, Nat.reduceAdd, Nat.reduceEqDiff, Int.reduceToNat, Int.reduceNeg, nle_T, nlt_T, neq_T, neq_F, b2_0, b2_b, both, reduceCtorEq]
theorem SO {b0 : Int} (hV : CV g I t A n) (hTH : TH g I t A n) (hA : okA A n) (hS : okSt A) (hD : bD D) (hT8 : tri 8 D) (hI : e64 (I (t + 2)) D) : ∀ k, SOk g I t n A D b0 k
  | 0 => by
    intro e x r s R B bl hk hx hr hB Q hQ
    have hX := hV.2.1
    have hr7 : (r.length : Int) = 7 := by omega
    have hB1 : RLb b0 (up1 s (lWo x, r)) (if s.1 < lWo x then (r.length : Int) else bl) (if s.1 < lWo x then fll R r.length B else B) := by
      by_cases c : s.1 < lWo x
      · rw [if_pos c, if_pos c, show up1 s (lWo x, r) = (lWo x, r) from if_pos c]; exact Or.inr ⟨rfl, rl_fll hr⟩
      · rw [if_neg c, if_neg c, show up1 s (lWo x, r) = s from if_neg c]; exact hB
    have hq := hQ R _ _ hr hB1
    rw [SE0 hV _ x r s R B bl (by omega) Q]
    simp (config := { contextual := true }) (disch := omega) only [R_X5_seekOn_b0, R_X5_seekOn_b1, hX, true_and, and_true, true_implies, not_true_eq_false, false_implies, not_false_eq_true, false_and, and_false, or_true, true_or, false_or, or_false, implies_true, forall_const, kl_i, kl_n, kl_r, kl_l, tl_s, tl_n, List.cons_append, List.nil_append, Int.cast_ofNat_Int, w32_id, w64_id, le_T, le_F, lt_T, lt_F, eq_T, eq_F, reduceIte, ne_eq, Int.toNat_natCast, bi_0, bi_1, bi_b, Nat.reduceAdd, Nat.reduceEqDiff, Int.reduceToNat, Int.reduceNeg, nle_T, nlt_T, neq_T, neq_F, b2_0, b2_b, both, reduceCtorEq]
    exact hq
  | k + 1 => by
    intro e x r s R B bl hk hx hr hB Q hQ
    have ih := SO (b0 := b0) hV hTH hA hS hD hT8 hI k
    have hr7 : (r.length : Int) ≤ 6 := by omega
    have hB1 : RLb b0 (up1 s (lWo x, r)) (if s.1 < lWo x then (r.length : Int) else bl) (if s.1 < lWo x then fll R r.length B else B) := by
      by_cases c : s.1 < lWo x
      · rw [if_pos c, if_pos c, show up1 s (lWo x, r) = (lWo x, r) from if_pos c]; exact Or.inr ⟨rfl, rl_fll hr⟩
      · rw [if_neg c, if_neg c, show up1 s (lWo x, r) = s from if_neg c]; exact hB
    rw [SE0 hV _ x r s R B bl (by omega) Q]
    generalize (if s.1 < lWo x then fll R r.length B else B) = B1 at hB1 ⊢
    generalize (if s.1 < lWo x then (r.length : Int) else bl) = bl1 at hB1 ⊢
    generalize up1 s (lWo x, r) = s1 at hB1 hQ ⊢
    have hX := hV.2.1
    have hT := hV.2.2.1
    have ed : 2 * (k + 1) + e + 6 = 2 * k + e + 8 := by omega
    rw [ed]
    have km := fun Q => ct_most (CV_bs hV R B1 bl1 s1.1) (TH_bs hTH R B1 bl1 s1.1) hA hS hD (D := D) (by rw [bs_o (by have := hV.1; omega)]; exact hI) x hx.1 (2 * k + e + 4) Q
    have hmb := mst_b hA hS hD hx.1 n (Nat.le_refl n)
    have hwo := hx.2.1
    have hn7 := hA.1
    by_cases c : lWo x + mst A D x n ≤ s1.1
    · have hfo : (nd A D n (k + 1) x r).foldl up1 s1 = s1 := fo_le _ _ (fun e' he => Int.le_trans (nd_le hA hS hD hT8 (k + 1) r.length x r (by omega) hx e' he) c)
      rw [hfo] at hQ
      have hq := hQ R B1 bl1 hr hB1
      simp (config := { contextual := true }) (disch := omega) only [R_X5_seekOn_b0, R_X5_seekOn_b1, hX, mcx_2, mcx_o, bs_4, km, true_and, and_true, true_implies, not_true_eq_false, false_implies, not_false_eq_true, false_and, and_false, or_true, true_or, false_or, or_false, implies_true, forall_const, kl_i, kl_n, kl_r, kl_l, tl_s, tl_n, List.cons_append, List.nil_append, Int.cast_ofNat_Int, w32_id, w64_id, le_T, le_F, lt_T, lt_F, eq_T, eq_F, reduceIte, ne_eq, Int.toNat_natCast, bi_0, bi_1, bi_b, Nat.reduceAdd, Nat.reduceEqDiff, Int.reduceToNat, Int.reduceNeg, nle_T, nlt_T, neq_T, neq_F, b2_0, b2_b, both, reduceCtorEq]
      exact hq
    · have hsl := SL hV hTH hA hS hD hI ih e x r hk hx Q n 0 (by omega) s1 R B1 bl1 hr hB1 hQ
      simp (config := { contextual := true }) (disch := omega) only [R_X5_seekOn_b0, R_X5_seekOn_b1, hX, mcx_2, mcx_o, bs_4, km, true_and, and_true, true_implies, not_true_eq_false, false_implies, not_false_eq_true, false_and, and_false, or_true, true_or, false_or, or_false, implies_true, forall_const, kl_i, kl_n, kl_r, kl_l, tl_s, tl_n, List.cons_append, List.nil_append, Int.cast_ofNat_Int, w32_id, w64_id, le_T, le_F, lt_T, lt_F, eq_T, eq_F, reduceIte, ne_eq, Int.toNat_natCast, bi_0, bi_1, bi_b, Nat.reduceAdd, Nat.reduceEqDiff, Int.reduceToNat, Int.reduceNeg, nle_T, nlt_T, neq_T, neq_F, b2_0, b2_b, both, reduceCtorEq]
      exact hsl
end SEEKON

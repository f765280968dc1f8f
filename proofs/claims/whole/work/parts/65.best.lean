-- BEST and HOUSE on both sides
def bS (A : II) (D : Nat → Int) (n : Nat) (h : Int) : BS := (nd A D n 7 (h, 0, 0, z0) []).foldl up1 (0, [])
theorem fo_mx (L : List BS) : ∀ s : BS, (L.foldl up1 s).1 = L.foldl (fun m e => max m e.1) s.1 := by
  induction L with
  | nil => intro s; rfl
  | cons e L ih =>
    intro s
    rw [List.foldl_cons, List.foldl_cons, ih]
    congr 1
    unfold up1
    by_cases c : s.1 < e.1
    · rw [if_pos c]; omega
    · rw [if_neg c]; omega
theorem fo_mx2 (L : List BS) : ∀ b c : Int, L.foldl (fun m e => max m e.1) (max b c) = max b (L.foldl (fun m e => max m e.1) c) := by
  induction L with
  | nil => intro b c; rfl
  | cons e L ih =>
    intro b c
    rw [List.foldl_cons, List.foldl_cons, ← ih, Int.max_assoc]
theorem fo_b (L : List BS) {s : BS} (h : 0 ≤ s.1) : (L.foldl up1 s).1 = max s.1 (L.foldl up1 (0, [])).1 := by
  rw [fo_mx, fo_mx, ← fo_mx2]
  congr 1
  show s.1 = max s.1 0
  omega
theorem okX_0 {A : II} {n : Nat} {p : Int} (hp : 0 ≤ p ∧ p < 8) : okX A n (p, 0, 0, z0) 0 := ⟨⟨hp, ⟨by show (0 : Int) ≤ 0; omega, by show (0 : Int) ≤ 1000; omega⟩, fun i _ => ⟨by show (0 : Int) ≤ 0; omega, by show (0 : Int) ≤ 7; omega⟩⟩, ⟨by show (0 : Int) ≤ 0; omega, by show (0 : Int) ≤ _; omega⟩, fun i _ => Or.inl rfl⟩
theorem rl_0 (R : Nat → Int) : rl R [] := fun j hj => by cases hj
theorem mcx_mcx (I : II) (x y : LF) : mcx (mcx I x) y = mcx I y := by
  funext b
  unfold mcx pr
  by_cases e : b = 48
  · subst e
    simp
    funext j
    unfold lrow
    by_cases e0 : j = 0
    · simp [e0]
    · by_cases e1 : j = 1
      · simp [e1]
      · by_cases e2 : j = 2
        · simp [e2]
        · simp [e0, e1, e2]
  · by_cases e2 : b = 49
    · subst e2; simp
    · simp [e, e2]
theorem mcx_self (I : II) : mcx I (I 48 0, I 48 1, I 48 2, I 49) = I := by
  funext b
  unfold mcx pr
  by_cases e : b = 48
  · subst e
    simp
    funext j
    unfold lrow
    by_cases e0 : j = 0
    · simp [e0]
    · by_cases e1 : j = 1
      · simp [e1]
      · by_cases e2 : j = 2
        · simp [e2]
        · simp [e0, e1, e2]
  · by_cases e2 : b = 49
    · subst e2; simp
    · simp [e, e2]
theorem bs_ini (I : II) : pr I 47 (uf (uf (I 47) 3 0) 4 0) = bs I (I 50) (I 51) 0 0 := by
  unfold bs
  rw [pr_id]
  have := pr_id I 51
  rw [this]
theorem bs_ini4 (I : II) : pr I 47 (uf (I 47) 4 0) = bs I (I 50) (I 51) (I 47 3) 0 := by
  unfold bs
  rw [pr_id, pr_id I 51, uf_id]
theorem sm_sB {I : II} {R B : Nat → Int} {bl : Int} {s : BS} {x : LF} (hz : ∀ j, 7 ≤ j → I 49 j = 0) (hx : ∀ j, 7 ≤ j → lHad x j = 0) : sm I (sB I R B bl s x) := by
  refine sm_mcx (sm_pr (sm_pr (sm_pr (sm_rf I) (by unfold okc; omega)) (by unfold okc; omega)) (by unfold okc; omega)) (fun j hj => ?_)
  rw [hx j hj]
  show 0 = bs I R B bl s.1 49 j
  rw [bs_o (by omega), hz j hj]
theorem nd_len (A : II) (D : Nat → Int) (n : Nat) : ∀ (k : Nat) (x : LF) (r : List Nat), r.length + k ≤ 7 → ∀ e ∈ nd A D n k x r, e.2.length ≤ 7
  | 0, _, _, _, e, he => by cases he
  | k + 1, x, r, hk, e, he => by
    obtain ⟨j, h1, h2, h3, h4⟩ := ndL_mem n 0 he
    rcases h4 with q | q
    · rw [q]
      show (r ++ [j]).length ≤ 7
      rw [List.length_append, List.length_singleton]
      omega
    · exact nd_len A D n k _ _ (by rw [List.length_append, List.length_singleton]; omega) e q
theorem fo_mem (L : List BS) : ∀ s : BS, L.foldl up1 s = s ∨ L.foldl up1 s ∈ L := by
  induction L with
  | nil => intro s; exact Or.inl rfl
  | cons e L ih =>
    intro s
    rw [List.foldl_cons]
    rcases ih (up1 s e) with q | q
    · rw [q]
      unfold up1
      by_cases c : s.1 < e.1
      · rw [if_pos c]; exact Or.inr List.mem_cons_self
      · rw [if_neg c]; exact Or.inl rfl
    · exact Or.inr (List.mem_cons_of_mem _ q)
theorem bS_len {A : II} {D : Nat → Int} {n : Nat} {p : Int} (_ : n ≤ 7) : (bS A D n p).2.length ≤ 7 := by
  unfold bS
  rcases fo_mem (nd A D n 7 (p, 0, 0, z0) []) (0, []) with q | q
  · rw [q]; exact Nat.zero_le _
  · exact nd_len A D n 7 _ _ (by show 0 + 7 ≤ 7; omega) _ q
section BEST
variable {g : GG} {I : II} {t n P : Nat} {A : II} {D : Nat → Int}
theorem ct_seekBest (hV : CV g I t A n) (hTH : TH g I t A n) (hA : okA A n) (hS : okSt A) (hD : bD D) (hT8 : tri 8 D) (hI : e64 (I (t + 2)) D) (hz : ∀ j, 7 ≤ j → I 49 j = 0) (e : Nat) (Q : QQ) (hQ : ∀ (R' B' : Nat → Int) (bl' : Int), RLb 0 (bS A D n (A 7 3)) bl' B' → Q none g (sB I R' B' bl' (bS A D n (A 7 3)) (A 7 3, 0, 0, z0))) : WP (e + 21) m_X5_seekBest 0 [some (vr (some 47)), some (vr (some t))] [] g I Q := by
  have hV1 := CV_bs hV (I 50) (I 51) 0 0
  have hV0 := hV
  obtain ⟨ht, hX, hT, hn, s0, s1, s2, s3⟩ := hV0
  have hL := WL_m hX
  have kb := fun Q => ct_begin (d := e + 19) (I := bs I (I 50) (I 51) 0 0) hL (by decide) Q (A 7 3)
  rw [fll_z (fun j hj => by rw [bs_o (by omega)]; exact hz j hj)] at kb
  have hso := SO (b0 := 0) hV hTH hA hS hD hT8 hI 7 e (A 7 3, 0, 0, z0) [] (0, []) (I 50) (I 51) 0 rfl (okX_0 hS.2.2.2) (rl_0 _) (Or.inl ⟨rfl, rfl⟩)
  have hu : up1 ((0, []) : BS) (lWo (A 7 3, 0, 0, z0), []) = (0, []) := if_neg (by show ¬ (0 : Int) < 0; omega)
  rw [hu] at hso
  rw [show 2 * 7 + e + 6 = e + 20 by omega] at hso
  have hb : bs I (I 50) (I 51) 0 0 (t + 4) = I (t + 4) := bs_o (by omega)
  simp (config := { contextual := true }) (disch := omega) only [R_X5_seekBest, hX, hT, up_pr, pr_s, pr_pr, bs_ini, hb, s3, kb, mcx_begin, true_and, and_true, true_implies, not_true_eq_false, false_implies, not_false_eq_true, false_and, and_false, or_true, true_or, false_or, or_false, implies_true, forall_const, kl_i, kl_n, kl_r, kl_l, tl_s, tl_n, List.cons_append, List.nil_append, Int.cast_ofNat_Int, w32_id, w64_id, le_T, le_F, lt_T, lt_F, eq_T, eq_F, reduceIte, ne_eq, Int.toNat_natCast, bi_0, bi_1, bi_b, Nat.reduceAdd, Nat.reduceEqDiff, Int.reduceToNat, Int.reduceNeg, nle_T, nlt_T, neq_T, neq_F, b2_0, b2_b, both, reduceCtorEq]
  refine hso _ (fun R' B' bl' h1 h2 => ?_)
  have hq := hQ R' B' bl' h2
  simp (config := { contextual := true }) (disch := omega) only [R_X5_seekBest, true_and, and_true, true_implies, not_true_eq_false, false_implies, not_false_eq_true, false_and, and_false, or_true, true_or, false_or, or_false, implies_true, forall_const, kl_i, kl_n, kl_r, kl_l, tl_s, tl_n, List.cons_append, List.nil_append, Int.cast_ofNat_Int, w32_id, w64_id, le_T, le_F, lt_T, lt_F, eq_T, eq_F, reduceIte, ne_eq, Int.toNat_natCast, bi_0, bi_1, bi_b, Nat.reduceAdd, Nat.reduceEqDiff, Int.reduceToNat, Int.reduceNeg, nle_T, nlt_T, neq_T, neq_F, b2_0, b2_b, both, reduceCtorEq]
  exact hq
def ansB (s : BS) (i : Int) : Int := if i = -1 then s.1 else if i < (s.2.length : Int) then ((s.2.getD i.toNat 0 : Nat) : Int) else -9
/-- findBest of the model, whole -/
theorem ct_findBest (hV : MV g I A n) (hA : okA A n) (hS : okSt A) (hD : bD D) (hI : I 72 = D) (hz : ∀ j, 7 ≤ j → I 81 j = 0) (p : Int) (hp : 0 ≤ p ∧ p < 8) (d : Nat) (Q : QQ) (hQ : ∀ J : II, sm I J → J 57 43 = ((bS A D n p).2.length : Int) → J 57 44 = (bS A D n p).1 → rl (J 83) (bS A D n p).2 → J 72 = I 72 → Q none g J) : WP (d + 3) m_X12_findBest 0 [some (vr (some 57)), some (vi p), none, none, none, none, none] [] g I Q := by
  have hV0 := hV
  obtain ⟨hW, hn, r3, r4, r5, r6, r7⟩ := hV0
  have hn7 := hA.1
  have kk := fun Q => ct_keep200 (d := d + 1) (I := I) hW Q
  obtain ⟨K, hK⟩ : ∃ K, K = sP 1 (pr I 80 (kAll200 I)) 321 := ⟨_, rfl⟩
  rw [← hK] at kk
  have kb := fun Q => ct_begins (d := d + 2) (I := K) hW Q p
  rw [fll_z (fun j hj => by rw [hK, kp_o (by omega)]; exact hz j hj)] at kb
  obtain ⟨J0, hJ0⟩ : ∃ J0, J0 = mmx K (p, 0, 0, z0) := ⟨_, rfl⟩
  have eJ : mmx K (p, 0, 0, z0) = fS J0 (J0 81) (J0 82) (J0 83) (J0 84) (J0 85) (J0 86) (J0 57 43) (J0 57 44) := by rw [fS_id, hJ0]
  have e81 : J0 81 = z0 := by rw [hJ0, mmx_h]
  rw [e81] at eJ
  have hJo : ∀ a, ¬ a = 57 ∧ ¬ a = 81 ∧ ¬ a = 80 → J0 a = I a := fun a h => by rw [hJ0, mmx_o ⟨h.1, h.2.1⟩, hK, kp_o ⟨h.1, h.2.2⟩]
  have hJf : ∀ j, ¬ (35 ≤ j ∧ j ≤ 37) ∧ ¬ (32 ≤ j ∧ j ≤ 33) → J0 57 j = I 57 j := fun j h => by rw [hJ0, mmx_f (by omega), hK, kp_f (by omega)]
  have hJ80 : J0 80 = kAll200 I := by rw [hJ0, mmx_o (by omega), hK, kp_80]
  have hVJ : MV g J0 A n := ⟨hW, by rw [hJf 16 (by omega)]; exact hn, by rw [hJo 62 (by omega)]; exact r3, by rw [hJo 63 (by omega)]; exact r4, by rw [hJo 64 (by omega)]; exact r5, by rw [hJo 65 (by omega)]; exact r6, by rw [hJo 66 (by omega)]; exact r7⟩
  have hfb := FB (d := d) hVJ hA hS hD (by rw [hJo 72 (by omega)]; exact hI) 7 (p, 0, 0, z0) [] (by show 0 + 7 ≤ 7; omega) (okX_0 hp) (by have := cz_le z0 n; show cz z0 n ≤ 7; omega) p Q n 0 (by omega) none none none (0, []) (J0 82) (J0 83) (uf (J0 84) 0 0) (uf (J0 85) 0 0) (uf (J0 86) 0 p) (rl_0 _) (rl_0 _) ⟨uf_s _ _ _, uf_s _ _ _, uf_s _ _ _⟩ (by
    intro l4 l5 l6 R' B' a' u' p' hR' hB' _
    have es : (ndL A D (nd A D n (7 - 1)) (p, 0, 0, z0) [] n 0).foldl up1 (0, []) = bS A D n p := rfl
    rw [es] at hB' ⊢
    generalize bS A D n p = s at hB' hQ ⊢
    have kb2 := fun Q => ct_back200 (d := d + 1) (I := fS J0 z0 R' B' a' u' p' (s.2.length : Nat) s.1) hW Q
    have hq := hQ (sP 0 (rAll200 (fS J0 z0 R' B' a' u' p' (s.2.length : Nat) s.1)) 321) (sm_back (fun a q q2 => by
        rw [fS_o (by unfold okc at q; omega), hJo a (by unfold okc at q; omega)]) (fun j q q2 => by
        rw [fS_f (by unfold okf at q; omega), hJf j (by unfold okf at q; omega)]) (by rw [fS_o (by omega), hJ80]) (fun j q => by rw [fS_o (by omega), hJo 49 (by omega)]) (fun j q => by rw [fS_81, hz j q]; rfl)) (by
        rw [sP_f (by omega)]
        unfold rAll200
        rw [pr_s]
        simp (disch := omega) only [uf_o]
        rfl) (by
        rw [sP_f (by omega)]
        unfold rAll200
        rw [pr_s]
        simp (disch := omega) only [uf_o]
        rfl) (by rw [sP_o (by omega), rA2_o (by omega), fS_83]; exact hB') (by rw [sP_o (by omega), rA2_o (by omega), fS_o (by omega), hJo 72 (by omega)])
    have hmn : ((0 : Nat) : Int) + -1 = -1 := rfl
    have el : (([] : List Nat).length : Int) = 0 := rfl
    have ehd : lHad (p, 0, 0, z0) = z0 := rfl
    rw [el, ehd]
    rw [H_X12_findBest_46]
    have hn2 := hJf 16 (by omega)
    simp (config := { contextual := true }) (disch := omega) only [R_X12_findBest_b0, R_X12_findBest_b1, R_X12_findBest_b2, R_X12_findBest_b3, hW, hn, fS_f, hn2, true_and, and_true, true_implies, not_true_eq_false, false_implies, not_false_eq_true, false_and, and_false, or_true, true_or, false_or, or_false, implies_true, forall_const, kl_i, kl_n, kl_r, kl_l, tl_s, tl_n, List.cons_append, List.nil_append, Int.cast_ofNat_Int, w32_id, w64_id, le_T, le_F, lt_T, lt_F, eq_T, eq_F, reduceIte, ne_eq, Int.toNat_natCast, bi_0, bi_1, bi_b, Nat.reduceAdd, Nat.reduceEqDiff, Int.reduceToNat, Int.reduceNeg, nle_T, nlt_T, neq_T, neq_F, b2_0, b2_b, both, reduceCtorEq]
    rw [H_X12_findBest_46]
    simp (config := { contextual := true }) (disch := omega) only [R_X12_findBest_b0, R_X12_findBest_b1, R_X12_findBest_b2, R_X12_findBest_b3, hW, kb2, true_and, and_true, true_implies, not_true_eq_false, false_implies, not_false_eq_true, false_and, and_false, or_true, true_or, false_or, or_false, implies_true, forall_const, kl_i, kl_n, kl_r, kl_l, tl_s, tl_n, List.cons_append, List.nil_append, Int.cast_ofNat_Int, w32_id, w64_id, le_T, le_F, lt_T, lt_F, eq_T, eq_F, reduceIte, ne_eq, Int.toNat_natCast, bi_0, bi_1, bi_b, Nat.reduceAdd, Nat.reduceEqDiff, Int.reduceToNat, Int.reduceNeg, nle_T, nlt_T, neq_T, neq_F, b2_0, b2_b, both, reduceCtorEq]
    exact hq)
  have ef : ((([] : List Nat).length : Nat) : Int) = 0 := rfl
  simp (config := { contextual := true }) (disch := omega) only [R_X12_findBest_b0, R_X12_findBest_b1, R_X12_findBest_b2, R_X12_findBest_b3, hW, kk, kb, mmx_begin, eJ, up_pr, fS_w43, fS_w44, fS_84, fS_85, fS_86, fS_w84, fS_w85, fS_w86, true_and, and_true, true_implies, not_true_eq_false, false_implies, not_false_eq_true, false_and, and_false, or_true, true_or, false_or, or_false, implies_true, forall_const, kl_i, kl_n, kl_r, kl_l, tl_s, tl_n, List.cons_append, List.nil_append, Int.cast_ofNat_Int, w32_id, w64_id, le_T, le_F, lt_T, lt_F, eq_T, eq_F, reduceIte, ne_eq, Int.toNat_natCast, bi_0, bi_1, bi_b, Nat.reduceAdd, Nat.reduceEqDiff, Int.reduceToNat, Int.reduceNeg, nle_T, nlt_T, neq_T, neq_F, b2_0, b2_b, both, reduceCtorEq]
  exact hfb
end BEST
section CSB
variable {L : Nat} {xs : Nat → Int32} {g : GG} {I : II} {t dr : Nat} {A : II} {P w n q m : Nat}
theorem cs_best (hs : SS L xs g I) (hg : 90 ≤ gN g) (h : RQ g I t dr A P w n q m) (i : Int) (hi : -2147483648 ≤ i ∧ i < 2147483648) : CS L xs g I m_X11_best m_X12_best [some (vi i)] [some (vi i)] vi := by
  have hW := h.2.2.1.1
  have hX := h.2.2.1.2.1
  obtain ⟨ht1, ht2, hT⟩ := RQ_t h
  have h50 := h.2.1.1
  obtain ⟨hP, hP'⟩ := RQ_P h
  have hS := RQ_S h
  have hP8 := hS.2.1
  have hz := h.2.2.2.2.2.2.2.2.2.2.2.2.1
  by_cases c : i < -1
  · refine CS_r hs hg h (-4) (k := 4) (by omega) (fun Q => ?_) (fun Q => ?_)
    · simp (config := { contextual := true }) (disch := omega) only [R_X11_best, hX, ct_refuse hX, rfC, true_and, and_true, true_implies, not_true_eq_false, false_implies, not_false_eq_true, false_and, and_false, or_true, true_or, false_or, or_false, implies_true, forall_const, kl_i, kl_n, kl_r, kl_l, tl_s, tl_n, List.cons_append, List.nil_append, Int.cast_ofNat_Int, w32_id, w64_id, le_T, le_F, lt_T, lt_F, eq_T, eq_F, reduceIte, ne_eq, Int.toNat_natCast, bi_0, bi_1, bi_b, Nat.reduceAdd, Nat.reduceEqDiff, Int.reduceToNat, Int.reduceNeg, nle_T, nlt_T, neq_T, neq_F, b2_0, b2_b, both, reduceCtorEq]
    · simp (config := { contextual := true }) (disch := omega) only [R_X12_best, hW, ct_no hW, pr_o, rfC, rfM, true_and, and_true, true_implies, not_true_eq_false, false_implies, not_false_eq_true, false_and, and_false, or_true, true_or, false_or, or_false, implies_true, forall_const, kl_i, kl_n, kl_r, kl_l, tl_s, tl_n, List.cons_append, List.nil_append, Int.cast_ofNat_Int, w32_id, w64_id, le_T, le_F, lt_T, lt_F, eq_T, eq_F, reduceIte, ne_eq, Int.toNat_natCast, bi_0, bi_1, bi_b, Nat.reduceAdd, Nat.reduceEqDiff, Int.reduceToNat, Int.reduceNeg, nle_T, nlt_T, neq_T, neq_F, b2_0, b2_b, both, reduceCtorEq]
  obtain ⟨dB, dZ, d1, d8⟩ := DM_ok hS (I 72)
  have hf := RQ_far h (I 72)
  obtain ⟨I1, ⟨k1, k72⟩, h1⟩ : ∃ I1, (sm I I1 ∧ I1 72 = I 72) ∧ ∀ Q : QQ, WP 999 m_X11_best 0 [some (vr (some 5)), some (vi i)] [] g I Q = Q (some (vi (ansB (bS A (DM A P w (I 72)) n (A 7 3)) i))) g I1 := by
    refine WP_ext (fun Q hQ => ?_)
    have hb := ct_seekBest (RQ_CV h) (RQ_TH h) (okS_A hS) (okS_S hS) dB d8 hf hz 977
    simp (config := { contextual := true }) (disch := omega) only [R_X11_best, hX, hT, h50, true_and, and_true, true_implies, not_true_eq_false, false_implies, not_false_eq_true, false_and, and_false, or_true, true_or, false_or, or_false, implies_true, forall_const, kl_i, kl_n, kl_r, kl_l, tl_s, tl_n, List.cons_append, List.nil_append, Int.cast_ofNat_Int, w32_id, w64_id, le_T, le_F, lt_T, lt_F, eq_T, eq_F, reduceIte, ne_eq, Int.toNat_natCast, bi_0, bi_1, bi_b, Nat.reduceAdd, Nat.reduceEqDiff, Int.reduceToNat, Int.reduceNeg, nle_T, nlt_T, neq_T, neq_F, b2_0, b2_b, both, reduceCtorEq]
    refine hb _ (fun R' B' bl' hl => ?_)
    generalize hs' : bS A (DM A P w (I 72)) n (A 7 3) = s at hl hQ ⊢
    have hq := hQ (sB I R' B' bl' s (A 7 3, 0, 0, z0)) ⟨sm_sB hz (fun j _ => rfl), (mcx_o (by omega)).trans (bs_o (by omega))⟩
    have hbl : bl' = (s.2.length : Int) ∧ rl B' s.2 := by
      rcases hl with ⟨q1, q2⟩ | q
      · rw [q1, q2]; exact ⟨rfl, rl_0 _⟩
      · exact q
    obtain ⟨hbl, hB⟩ := hbl
    subst hbl
    have hlen : s.2.length ≤ 7 := by
      rw [← hs']
      exact bS_len (okS_A hS).1
    by_cases c1 : i = -1
    · rw [show ansB s i = s.1 from if_pos c1] at hq
      simp (config := { contextual := true }) (disch := omega) only [R_X11_best, hX, hT, h50, mcx_o, bs_3, bs_4, true_and, and_true, true_implies, not_true_eq_false, false_implies, not_false_eq_true, false_and, and_false, or_true, true_or, false_or, or_false, implies_true, forall_const, kl_i, kl_n, kl_r, kl_l, tl_s, tl_n, List.cons_append, List.nil_append, Int.cast_ofNat_Int, w32_id, w64_id, le_T, le_F, lt_T, lt_F, eq_T, eq_F, reduceIte, ne_eq, Int.toNat_natCast, bi_0, bi_1, bi_b, Nat.reduceAdd, Nat.reduceEqDiff, Int.reduceToNat, Int.reduceNeg, nle_T, nlt_T, neq_T, neq_F, b2_0, b2_b, both, reduceCtorEq]
      exact hq
    · by_cases c2 : i < (s.2.length : Int)
      · have e := hB i.toNat (by omega)
        rw [show ansB s i = ((s.2.getD i.toNat 0 : Nat) : Int) by unfold ansB; rw [if_neg c1, if_pos c2], ← e] at hq
        simp (config := { contextual := true }) (disch := omega) only [R_X11_best, hX, hT, h50, mcx_o, bs_3, bs_4, bs_B, true_and, and_true, true_implies, not_true_eq_false, false_implies, not_false_eq_true, false_and, and_false, or_true, true_or, false_or, or_false, implies_true, forall_const, kl_i, kl_n, kl_r, kl_l, tl_s, tl_n, List.cons_append, List.nil_append, Int.cast_ofNat_Int, w32_id, w64_id, le_T, le_F, lt_T, lt_F, eq_T, eq_F, reduceIte, ne_eq, Int.toNat_natCast, bi_0, bi_1, bi_b, Nat.reduceAdd, Nat.reduceEqDiff, Int.reduceToNat, Int.reduceNeg, nle_T, nlt_T, neq_T, neq_F, b2_0, b2_b, both, reduceCtorEq]
        exact hq
      · rw [show ansB s i = -9 by unfold ansB; rw [if_neg c1, if_neg c2]] at hq
        simp (config := { contextual := true }) (disch := omega) only [R_X11_best, hX, hT, h50, mcx_o, bs_3, bs_4, bs_B, true_and, and_true, true_implies, not_true_eq_false, false_implies, not_false_eq_true, false_and, and_false, or_true, true_or, false_or, or_false, implies_true, forall_const, kl_i, kl_n, kl_r, kl_l, tl_s, tl_n, List.cons_append, List.nil_append, Int.cast_ofNat_Int, w32_id, w64_id, le_T, le_F, lt_T, lt_F, eq_T, eq_F, reduceIte, ne_eq, Int.toNat_natCast, bi_0, bi_1, bi_b, Nat.reduceAdd, Nat.reduceEqDiff, Int.reduceToNat, Int.reduceNeg, nle_T, nlt_T, neq_T, neq_F, b2_0, b2_b, both, reduceCtorEq]
        exact hq
  have h' := RQ_sm h k1
  obtain ⟨J, k2, h2⟩ : ∃ J, sm I1 J ∧ ∀ Q : QQ, WP 999 m_X12_best 0 [some (vr (some 57)), some (vi i)] [] g I1 Q = Q (some (vi (ansB (bS A (DM A P w (I 72)) n (A 7 3)) i))) g J := by
    refine WP_ext (fun Q hQ => ?_)
    have kf := RQ_ff h'
    rw [k72] at kf
    have ks : sm I1 (pr I1 72 (DM A P w (I 72))) := sm_72 _ _
    have h'' := RQ_sm h' ks
    obtain ⟨r3, r4, r5, r6, r7, r8, r9, r10, r11, r12, r13⟩ := RQ_r h'
    have hb := ct_findBest (d := 995) (RQ_MV h'') (okS_A hS) (okS_S hS) dB (pr_s _ _ _) (h''.2.2.2.2.2.2.2.2.2.2.2.2.2) (A 7 3) (okS_S hS).2.2.2
    simp (config := { contextual := true }) (disch := omega) only [R_X12_best, hW, kf, pr_o, r7, true_and, and_true, true_implies, not_true_eq_false, false_implies, not_false_eq_true, false_and, and_false, or_true, true_or, false_or, or_false, implies_true, forall_const, kl_i, kl_n, kl_r, kl_l, tl_s, tl_n, List.cons_append, List.nil_append, Int.cast_ofNat_Int, w32_id, w64_id, le_T, le_F, lt_T, lt_F, eq_T, eq_F, reduceIte, ne_eq, Int.toNat_natCast, bi_0, bi_1, bi_b, Nat.reduceAdd, Nat.reduceEqDiff, Int.reduceToNat, Int.reduceNeg, nle_T, nlt_T, neq_T, neq_F, b2_0, b2_b, both, reduceCtorEq]
    refine hb _ (fun J kJ j43 j44 j83 _ => ?_)
    have hq := hQ J (sm_tr ks kJ)
    generalize hs' : bS A (DM A P w (I 72)) n (A 7 3) = s at j43 j44 j83 hq ⊢
    have hlen : s.2.length ≤ 7 := by
      rw [← hs']
      exact bS_len (okS_A hS).1
    by_cases c1 : i = -1
    · rw [show ansB s i = s.1 from if_pos c1] at hq
      simp (config := { contextual := true }) (disch := omega) only [R_X12_best, hW, j43, j44, true_and, and_true, true_implies, not_true_eq_false, false_implies, not_false_eq_true, false_and, and_false, or_true, true_or, false_or, or_false, implies_true, forall_const, kl_i, kl_n, kl_r, kl_l, tl_s, tl_n, List.cons_append, List.nil_append, Int.cast_ofNat_Int, w32_id, w64_id, le_T, le_F, lt_T, lt_F, eq_T, eq_F, reduceIte, ne_eq, Int.toNat_natCast, bi_0, bi_1, bi_b, Nat.reduceAdd, Nat.reduceEqDiff, Int.reduceToNat, Int.reduceNeg, nle_T, nlt_T, neq_T, neq_F, b2_0, b2_b, both, reduceCtorEq]
      exact hq
    · by_cases c2 : i < (s.2.length : Int)
      · have e := j83 i.toNat (by omega)
        rw [show ansB s i = ((s.2.getD i.toNat 0 : Nat) : Int) by unfold ansB; rw [if_neg c1, if_pos c2], ← e] at hq
        simp (config := { contextual := true }) (disch := omega) only [R_X12_best, hW, j43, j44, true_and, and_true, true_implies, not_true_eq_false, false_implies, not_false_eq_true, false_and, and_false, or_true, true_or, false_or, or_false, implies_true, forall_const, kl_i, kl_n, kl_r, kl_l, tl_s, tl_n, List.cons_append, List.nil_append, Int.cast_ofNat_Int, w32_id, w64_id, le_T, le_F, lt_T, lt_F, eq_T, eq_F, reduceIte, ne_eq, Int.toNat_natCast, bi_0, bi_1, bi_b, Nat.reduceAdd, Nat.reduceEqDiff, Int.reduceToNat, Int.reduceNeg, nle_T, nlt_T, neq_T, neq_F, b2_0, b2_b, both, reduceCtorEq]
        exact hq
      · rw [show ansB s i = -9 by unfold ansB; rw [if_neg c1, if_neg c2]] at hq
        simp (config := { contextual := true }) (disch := omega) only [R_X12_best, hW, j43, j44, true_and, and_true, true_implies, not_true_eq_false, false_implies, not_false_eq_true, false_and, and_false, or_true, true_or, false_or, or_false, implies_true, forall_const, kl_i, kl_n, kl_r, kl_l, tl_s, tl_n, List.cons_append, List.nil_append, Int.cast_ofNat_Int, w32_id, w64_id, le_T, le_F, lt_T, lt_F, eq_T, eq_F, reduceIte, ne_eq, Int.toNat_natCast, bi_0, bi_1, bi_b, Nat.reduceAdd, Nat.reduceEqDiff, Int.reduceToNat, Int.reduceNeg, nle_T, nlt_T, neq_T, neq_F, b2_0, b2_b, both, reduceCtorEq]
        exact hq
  exact CS_q hs hg h _ h1 k1 h2 (sm_tr k1 k2)
end CSB

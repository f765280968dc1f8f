-- LAND on both sides
theorem SS_fr {L : Nat} {xs : Nat → Int32} {g g' : GG} {I I' : II} (h : SS L xs g I) (h90 : 90 ≤ gN g) (hK : ∀ a, a < gN g → gK g' a = gK g a) (hR : gR g' 1 0 = gR g 1 0) (hI : ∀ a, a < 3 → I' a = I a) : SS L xs g' I' := by
  unfold SS
  rw [hK 0 (by omega), hK 1 (by omega), hK 2 (by omega), hR, hI 0 (by omega), hI 1 (by omega), hI 2 (by omega)]
  exact h
theorem pl_ne (T : Nat → Int) (n f a : Nat) (h : (pl T n (f + 1) a).1 = true) : 1 ≤ (pl T n (f + 1) a).2.2.length := by
  rw [pl_s] at h ⊢
  by_cases c : (stp T n a).1 = true
  · rw [if_pos c]
    by_cases c2 : (stp T n a).2.1 < n
    · rw [if_pos c2]
      show 1 ≤ (pl T n f (stp T n a).2.1).2.2.length + 1
      omega
    · rw [if_neg c2]
      exact Nat.le_refl 1
  · rw [if_neg c] at h
    cases h
section CLAND
theorem ct_read {g1 : GG} {I1 : II} {nn dr q m : Nat} {s : LST} (hZ : WZ g1) (hd : dr = 6 ∨ dr = 19) (h90 : 90 ≤ gN g1) (hs : STR g1 I1) (hT : TW g1 I1 dr s.1 s.2.2.1 s.2.2.2) (ho : okLS s q m) (hn : nn ≤ 64) (hb : ∀ j, j < 64 → 0 ≤ I1 52 j ∧ I1 52 j ≤ 255) (d : Nat) (Q : QQ) (hQ : ∀ g' I' s' v, CI (gput g1 45 0 (some 52)) (pr I1 45 (uf (uf (uf (I1 45) 1 nn) 2 0) 3 (-1))) nn dr q m 22 g' I' s' → ((pl (I1 52) nn 22 0).1 = true → s' = apS q m s (pl (I1 52) nn 22 0).2.2 ∧ v = rnV q m s (pl (I1 52) nn 22 0).2.2 (-1) 0) → (¬ (pl (I1 52) nn 22 0).1 = true → v = -1000 - ((pl (I1 52) nn 22 0).2.1 : Int)) → Q (some (vi v)) g' I') : WP (d + 7) m_X7_read 0 [some (vr (some 45)), some (vr (some 52)), some (vi nn), some (vr (some dr)), none, none, none, none, none, none] [] g1 I1 Q := by
  have hX := hZ.2.1
  have k45 : gK g1 45 = (0, 7) := by simp only [hX]
  have k52 : gK g1 52 = (1, 64) := by simp only [hX]
  have p45 : gK (gput g1 45 0 (some 52)) 45 = (0, 7) := k45
  have p52 : gK (gput g1 45 0 (some 52)) 52 = (1, 64) := k52
  have em : min (nn : Int) 64 = (nn : Int) := by omega
  obtain ⟨I2, hI2⟩ : ∃ I2, I2 = pr I1 45 (uf (uf (uf (I1 45) 1 nn) 2 0) 3 (-1)) := ⟨_, rfl⟩
  have io : ∀ a, ¬ a = 45 → I2 a = I1 a := fun a ha => by rw [hI2, pr_o ha]
  have e2 : I2 45 2 = ((0 : Nat) : Int) := by rw [hI2, pr_s, uf_o (by omega), uf_s]; rfl
  have e3 : I2 45 3 = -1 := by rw [hI2, pr_s, uf_s]
  have e1 : I2 45 1 = (nn : Int) := by rw [hI2, pr_s, uf_o (by omega), uf_o (by omega), uf_s]
  have hC : CI (gput g1 45 0 (some 52)) I2 nn dr q m 0 (gput g1 45 0 (some 52)) I2 s := by
    refine ⟨WZ_put (Or.inr rfl) hZ, h90, STR_fr hs ⟨rfl, rfl, by rw [gput_ne (by omega)]⟩ (io 1 (by omega)) (io 2 (by omega)), ⟨p45, by rw [gput_at, if_pos rfl], p52, e1, hn, by rw [io 52 (by omega)]; exact hb⟩, ?_, ho, ⟨fun _ _ => rfl, fun _ _ _ _ => rfl, fun _ _ _ _ => rfl, Nat.le_refl _⟩, ⟨Nat.le_refl _, Nat.le_refl _⟩, h90⟩
    refine TW_fr hd (I := I1) ?_ (fun a ha => io a (by omega))
    obtain ⟨f, a1, hTH, r⟩ := hT
    refine ⟨f, a1, fun i hi => ?_, r⟩
    obtain ⟨b, b1, b2, b3⟩ := hTH i hi
    exact ⟨b, b1, by rw [gput_ne (by omega)]; exact b2, b3⟩
  have e52 : I2 52 = I1 52 := io 52 (by omega)
  have hl := lp_rd hd nn d Q 22 0 0 s (gput g1 45 0 (some 52)) I2 (-1) none none none (by omega) (by omega) (by omega) (Or.inl rfl) e2 e3 (Or.inl rfl) hC (by rw [e52, hI2]; exact hQ)
  have ez : ((0 : Nat) : Int) = 0 := rfl
  rw [ez, hI2] at hl
  simp (config := { contextual := true }) (disch := omega) only [R_X7_read_b0, R_X7_read_b1, k45, k52, p45, p52, em, up_pr, pr_s, pr_pr, true_and, and_true, true_implies, not_true_eq_false, false_implies, not_false_eq_true, false_and, and_false, or_true, true_or, false_or, or_false, implies_true, forall_const, kl_i, kl_n, kl_r, kl_l, tl_s, tl_n, List.cons_append, List.nil_append, Int.cast_ofNat_Int, w32_id, w64_id, le_T, le_F, lt_T, lt_F, eq_T, eq_F, reduceIte, ne_eq, Int.toNat_natCast, bi_0, bi_1, bi_b, Nat.reduceAdd, Nat.reduceEqDiff, Int.reduceToNat, Int.reduceNeg, nle_T, nlt_T, neq_T, neq_F, b2_0, b2_b, both, reduceCtorEq]
  exact hl
/-- what the class's land leaves, before what is told is turned over -/
def LDP (g : GG) (I : II) (dr q m nn : Nat) (s : LST) (ga : GG) (Ia : II) (s' : LST) (z : Int) : Prop := WZ ga ∧ TW ga Ia dr s'.1 s'.2.2.1 s'.2.2.2 ∧ okLS s' q m ∧ (∀ a, a < gN g → gK ga a = gK g a) ∧ (∀ a k, a < gN g → ¬ a = dr + 3 → ¬ a = 45 → gR ga a k = gR g a k) ∧ (∀ a, a < gN g → ¬ (dr ≤ a ∧ a ≤ dr + 11) → ¬ a = 45 → Ia a = I a) ∧ (gN g ≤ gN ga ∧ gN ga ≤ gN g + 22 ∧ gS ga ≤ gS g + 110) ∧ ((pl (I 52) nn 22 0).1 = true → s' = apS q m s (pl (I 52) nn 22 0).2.2 ∧ z = rnV q m s (pl (I 52) nn 22 0).2.2 (-1) 0) ∧ (¬ (pl (I 52) nn 22 0).1 = true → z = -1000 - ((pl (I 52) nn 22 0).2.1 : Int))
variable {L : Nat} {xs : Nat → Int32} {g : GG} {I : II} {t dr : Nat} {A : II} {P w n q m : Nat}
theorem land_C (hs : SS L xs g I) (hg : 90 ≤ gN g) (h : RQ g I t dr A P w n q m) {nn : Nat} (hnn : I 5 7 = (nn : Int)) (hn64 : nn ≤ 64) (Q : QQ) (hQ : ∀ ga Ia s' z, LDP g I dr q m nn (A, P, w, n) ga Ia s' z → (z ≤ 0 → Q (some (vi z)) ga (pr Ia 5 (uf (Ia 5) 7 0))) ∧ (0 < z → Q (some (vi z)) (gput (gput ga 5 0 (some dr)) 5 1 (some t)) (pr (pr Ia 5 (uf (Ia 5) 7 0)) (dr + 2) (xfar (Ia (dr + 1)) (Ia (dr + 2)))))) : WP 999 m_X11_land 0 [some (vr (some 5)), none, none] [] g I Q := by
  have hW := h.2.2.1.1
  have hX := h.2.2.1.2.1
  obtain ⟨ht1, ht2, hT⟩ := RQ_t h
  have h50 := h.2.1.1
  obtain ⟨hP, hP'⟩ := RQ_P h
  have hS := RQ_S h
  have hP8 := hS.2.1
  have h501 : gR g 5 1 = some dr := h.2.1.2
  have hdt : (t = 6 ∧ dr = 19) ∨ (t = 19 ∧ dr = 6) := h.1
  have hdr : dr = 6 ∨ dr = 19 := by omega
  have hnt : TN g t := by
    obtain ⟨-, -, -, n6, n19, -⟩ := h.2.2.1
    rcases hdt with ⟨r, -⟩ | ⟨r, -⟩ <;> rw [r]
    · exact n6
    · exact n19
  have hTd : WT g dr := by
    obtain ⟨-, -, ⟨h6, h19, -⟩, -⟩ := h.2.2.1
    rcases hdt with ⟨-, r⟩ | ⟨-, r⟩ <;> rw [r]
    · exact h19
    · exact h6
  have hgs := (gcp_sm g t dr 7).1
  have hwd : WT (gcp g t dr 7) dr = WT g dr := WT_gcp g t dr (by omega) dr (by omega)
  have hwt : WT (gcp g t dr 7) t = WT g t := WT_gcp g t dr (by omega) t (by omega)
  have hZ1 := WZ_gcp (t := dr) h.2.2.1 hnt (by omega)
  have kc := fun d Q hQ => ct_copyFrom (I := I) hTd hT hnt (by omega) ⟨hwd, hwt⟩ d Q hQ
  have hX1 := hZ1.2.1
  have r50 : gR (gcp g t dr 7) 5 0 = some t := by rw [hgs.2.2.2 5 0 (by omega)]; exact h50
  have r51 : gR (gcp g t dr 7) 5 1 = some dr := by rw [hgs.2.2.2 5 1 (by omega)]; exact h501
  have kdr : gK (gcp g t dr 7) dr = (0, 8) := by rw [hgs.1]; exact hTd.1
  have kc := kc 997
  simp (config := { contextual := true }) (disch := omega) only [R_X11_land, hX, hT, hTd, h50, h501, true_and, and_true, true_implies, not_true_eq_false, false_implies, not_false_eq_true, false_and, and_false, or_true, true_or, false_or, or_false, implies_true, forall_const, kl_i, kl_n, kl_r, kl_l, tl_s, tl_n, List.cons_append, List.nil_append, Int.cast_ofNat_Int, w32_id, w64_id, le_T, le_F, lt_T, lt_F, eq_T, eq_F, reduceIte, ne_eq, Int.toNat_natCast, bi_0, bi_1, bi_b, Nat.reduceAdd, Nat.reduceEqDiff, Int.reduceToNat, Int.reduceNeg, nle_T, nlt_T, neq_T, neq_F, b2_0, b2_b, both, reduceCtorEq]
  refine kc _ (fun J hJ => ?_)
  have hJo : ∀ a, ¬ (dr ≤ a ∧ a ≤ dr + 11) → J a = I a := fun a a1 => hJ.1 a a1
  have j57 : J 5 7 = (nn : Int) := by rw [hJo 5 (by omega)]; exact hnn
  have j52 : J 52 = I 52 := hJo 52 (by omega)
  have hO := h.2.2.2.2.2.2.2
  have hTW : TW (gcp g t dr 7) J dr A w n := TR_TW (TR_cp h.2.2.2.2.1 (okS_A hS).1 (by omega) (by omega) hJ)
  obtain ⟨s0, s1, s2, s3, s4, s5, s6⟩ := hs
  have hSt : STR (gcp g t dr 7) J := ⟨by rw [hgs.1]; exact s1, by rw [hgs.1]; exact s2, by rw [hgs.2.2.2 1 0 (by omega)]; exact s3, by rw [hJo 2 (by omega)]; exact s5, by rw [hJo 1 (by omega)]; exact s6⟩
  have kr := fun Q => ct_read (s := (A, P, w, n)) (q := q) (m := m) hZ1 hdr (by rw [hgs.2.1]; exact hg) hSt hTW hS hn64 (by rw [j52]; intro j hj; rw [(hO.2.1 j hj).1]; exact (hO.2.1 j hj).2) 991 Q
  rw [j52] at kr
  simp (config := { contextual := true }) (disch := omega) only [R_X11_land, hX1, r50, r51, kdr, j57, true_and, and_true, true_implies, not_true_eq_false, false_implies, not_false_eq_true, false_and, and_false, or_true, true_or, false_or, or_false, implies_true, forall_const, kl_i, kl_n, kl_r, kl_l, tl_s, tl_n, List.cons_append, List.nil_append, Int.cast_ofNat_Int, w32_id, w64_id, le_T, le_F, lt_T, lt_F, eq_T, eq_F, reduceIte, ne_eq, Int.toNat_natCast, bi_0, bi_1, bi_b, Nat.reduceAdd, Nat.reduceEqDiff, Int.reduceToNat, Int.reduceNeg, nle_T, nlt_T, neq_T, neq_F, b2_0, b2_b, both, reduceCtorEq]
  refine kr _ (fun ga Ia s' z hc hok hno => ?_)
  clear kr kc
  obtain ⟨c1, c2, c3, c4, c5, c6, ⟨f1, f2, f3, f4⟩, c8, c9⟩ := hc
  have eN : gN (gput (gcp g t dr 7) 45 0 (some 52)) = gN g := hgs.2.1
  have eS : gS (gput (gcp g t dr 7) 45 0 (some 52)) = gS g := hgs.2.2.1
  rw [eN] at f1 f2 f3 f4 c8
  rw [eS] at c8
  have hK : ∀ a, a < gN g → gK ga a = gK g a := fun a ha => by rw [f1 a ha]; exact hgs.1 a
  have hR : ∀ a k, a < gN g → ¬ a = dr + 3 → ¬ a = 45 → gR ga a k = gR g a k := fun a k ha a1 a2 => by rw [f2 a k ha a1, gput_ne a2]; exact hgs.2.2.2 a k a1
  have hI : ∀ a, a < gN g → ¬ (dr ≤ a ∧ a ≤ dr + 11) → ¬ a = 45 → Ia a = I a := fun a ha a1 a2 => by rw [f3 a ha a1 a2, pr_o a2]; exact hJo a a1
  obtain ⟨q1, q2⟩ := hQ ga Ia s' z ⟨c1, c5, c6, hK, hR, hI, ⟨f4, by omega, by omega⟩, hok, hno⟩
  clear hQ
  have hXa := c1.2.1
  have ga0 : gR ga 5 0 = some t := by rw [hR 5 0 (by omega) (by omega) (by omega)]; exact h50
  have ga1 : gR ga 5 1 = some dr := by rw [hR 5 1 (by omega) (by omega) (by omega)]; exact h501
  have kda : gK ga dr = (0, 8) := by rw [hK dr (by omega)]; exact hTd.1
  have kta : gK ga t = (0, 8) := by rw [hK t (by omega)]; exact hT.1
  by_cases hz : z ≤ 0
  · have hq := q1 hz
    simp (config := { contextual := true }) (disch := omega) only [R_X11_land, hXa, up_pr, true_and, and_true, true_implies, not_true_eq_false, false_implies, not_false_eq_true, false_and, and_false, or_true, true_or, false_or, or_false, implies_true, forall_const, kl_i, kl_n, kl_r, kl_l, tl_s, tl_n, List.cons_append, List.nil_append, Int.cast_ofNat_Int, w32_id, w64_id, le_T, le_F, lt_T, lt_F, eq_T, eq_F, reduceIte, ne_eq, Int.toNat_natCast, bi_0, bi_1, bi_b, Nat.reduceAdd, Nat.reduceEqDiff, Int.reduceToNat, Int.reduceNeg, nle_T, nlt_T, neq_T, neq_F, b2_0, b2_b, both, reduceCtorEq]
    exact hq
  · have hq := q2 (by omega)
    have hWd : WT ga dr := by
      obtain ⟨-, -, ⟨h6, h19, -⟩, -⟩ := c1
      rcases hdr with r | r <;> rw [r]
      · exact h6
      · exact h19
    have hb := bD_dwy0 (a := s'.1 0) (b := s'.1 1) (m := s'.1 2) s'.2.2.1 (fun j hj => (c6.2.2.1.2 j hj).2.2.2)
    have kf := fun Q => ct_reckonFar (d := 997) (I := pr Ia 5 (uf (Ia 5) 7 0)) hWd (fun j hj => by rw [pr_o (by omega), c5.2.1 j hj]; exact hb j hj) Q
    rw [pr_o (by omega : ¬ dr + 1 = 5), pr_o (by omega : ¬ dr + 2 = 5)] at kf
    have pkt : gK (gput ga 5 0 (some dr)) t = (0, 8) := kta
    have hXa5 : gK ga 5 = (0, 10) := by simp only [hXa]
    have pk5 : gK (gput ga 5 0 (some dr)) 5 = (0, 10) := hXa5
    simp (config := { contextual := true }) (disch := omega) only [R_X11_land, hXa, up_pr, ga0, ga1, kda, kta, kf, pk5, pkt, true_and, and_true, true_implies, not_true_eq_false, false_implies, not_false_eq_true, false_and, and_false, or_true, true_or, false_or, or_false, implies_true, forall_const, kl_i, kl_n, kl_r, kl_l, tl_s, tl_n, List.cons_append, List.nil_append, Int.cast_ofNat_Int, w32_id, w64_id, le_T, le_F, lt_T, lt_F, eq_T, eq_F, reduceIte, ne_eq, Int.toNat_natCast, bi_0, bi_1, bi_b, Nat.reduceAdd, Nat.reduceEqDiff, Int.reduceToNat, Int.reduceNeg, nle_T, nlt_T, neq_T, neq_F, b2_0, b2_b, both, reduceCtorEq]
    exact hq
theorem cs_land (hs : SS L xs g I) (hg : 90 ≤ gN g) (h : RQ g I t dr A P w n q m) : CS L xs g I m_X11_land m_X12_land [none, none] [none, none] vi := by
  have hW := h.2.2.1.1
  have hX := h.2.2.1.2.1
  obtain ⟨ht1, ht2, hT⟩ := RQ_t h
  have h50 := h.2.1.1
  obtain ⟨hP, hP'⟩ := RQ_P h
  have hS := RQ_S h
  have hP8 := hS.2.1
  have hdt : (t = 6 ∧ dr = 19) ∨ (t = 19 ∧ dr = 6) := h.1
  have hO := h.2.2.2.2.2.2.2
  obtain ⟨nn, hnn⟩ := Int.eq_ofNat_of_zero_le hO.1.2.1
  have h57 : I 5 7 = (nn : Int) := by rw [hO.1.1]; exact hnn
  have hn64 : nn ≤ 64 := by have := hO.1.2.2; omega
  obtain ⟨v, g', J, ⟨ga, Ia, s', z, hLP, hv, hGJ⟩, h1⟩ := WP_extG (post := fun v g' J => ∃ ga Ia s' z, LDP g I dr q m nn (A, P, w, n) ga Ia s' z ∧ v = some (vi z) ∧ ((z ≤ 0 ∧ g' = ga ∧ J = pr Ia 5 (uf (Ia 5) 7 0)) ∨ (0 < z ∧ g' = gput (gput ga 5 0 (some dr)) 5 1 (some t) ∧ J = pr (pr Ia 5 (uf (Ia 5) 7 0)) (dr + 2) (xfar (Ia (dr + 1)) (Ia (dr + 2)))))) (fun Q hQ => land_C hs hg h h57 hn64 Q (fun ga Ia s' z hl => ⟨fun hz => hQ _ _ _ ⟨ga, Ia, s', z, hl, rfl, Or.inl ⟨hz, rfl, rfl⟩⟩, fun hz => hQ _ _ _ ⟨ga, Ia, s', z, hl, rfl, Or.inr ⟨hz, rfl, rfl⟩⟩⟩))
  subst hv
  obtain ⟨l1, l2, l3, hK, hR, hI, l7, l8, l9⟩ := hLP
  have hld := RQ_ld h hg l1 hK hR hI
  have hpl : pl (I 73) nn 22 0 = pl (I 52) nn 22 0 := pl_c (fun j hj => ((hO.2.1 j (by omega)).1).symm) 22 0
  have hpe := pl_e (I 52) nn 22 0 (by omega)
  have hne := pl_ne (I 52) nn 21 0
  -- the cells before the model's land
  have hjo : ∀ a, a < gN g → ¬ (dr ≤ a ∧ a ≤ dr + 11) → ¬ a = 45 → ¬ a = 5 → J a = I a := by
    intro a a1 a2 a3 a4
    rcases hGJ with ⟨-, -, e⟩ | ⟨-, -, e⟩
    · rw [e, pr_o a4]; exact hI a a1 a2 a3
    · rw [e, pr_o (by omega), pr_o a4]; exact hI a a1 a2 a3
  have hM : MR J A := by
    have hq : ∀ a, (57 ≤ a ∧ a ≤ 81) → J a = I a := fun a ha => hjo a (by omega) (by omega) (by omega) (by omega)
    rw [MR, hq 59 (by omega), hq 60 (by omega), hq 61 (by omega), hq 62 (by omega), hq 63 (by omega), hq 64 (by omega), hq 65 (by omega), hq 66 (by omega), hq 67 (by omega), hq 68 (by omega), hq 69 (by omega), hq 70 (by omega), hq 71 (by omega), hq 81 (by omega), hq 57 (by omega)]
    exact h.2.2.2.1
  have hj57 : J 57 = I 57 := hjo 57 (by omega) (by omega) (by omega) (by omega)
  have hj73 : J 73 = I 73 := hjo 73 (by omega) (by omega) (by omega) (by omega)
  have hTP : TP J nn := ⟨by rw [hj57]; exact hnn, hn64, by rw [hj73]; intro j hj; exact (hO.2.1 j hj).2⟩
  have hZ' : WZ g' := by
    rcases hGJ with ⟨-, e, -⟩ | ⟨-, e, -⟩ <;> rw [e]
    · exact l1
    · exact WZ_put (Or.inl ⟨rfl, by omega⟩) (WZ_put (Or.inl ⟨rfl, by omega⟩) l1)
  have hK' : ∀ a, a < gN g → gK g' a = gK g a := by
    rcases hGJ with ⟨-, e, -⟩ | ⟨-, e, -⟩ <;> rw [e]
    · exact hK
    · exact hK
  have hR' : gR g' 1 0 = gR g 1 0 := by
    rcases hGJ with ⟨-, e, -⟩ | ⟨-, e, -⟩ <;> rw [e]
    · exact hR 1 0 (by omega) (by omega) (by omega)
    · rw [gput_ne (by omega), gput_ne (by omega)]
      exact hR 1 0 (by omega) (by omega) (by omega)
  have hNS : 90 ≤ gN g' ∧ gN g' ≤ gN g + 30 ∧ gS g' ≤ gS g + 300 := by
    rcases hGJ with ⟨-, e, -⟩ | ⟨-, e, -⟩ <;> rw [e]
    · omega
    · show 90 ≤ gN ga ∧ gN ga ≤ gN g + 30 ∧ gS ga ≤ gS g + 300
      omega
  have hSJ : SS L xs g' J := SS_fr hs hg hK' hR' (fun a ha => hjo a (by omega) (by omega) (by omega) (by omega))
  have kl := fun Q => ct_landM hZ'.1 hM hS hTP 995 Q
  rw [hj73, hpl] at kl
  generalize pl (I 52) nn 22 0 = R at kl l8 l9 hpe hne
  obtain ⟨ok, e, lst⟩ := R
  have hpe : e ≤ nn := hpe
  by_cases cok : ok = true
  · obtain ⟨es, ez⟩ := l8 cok
    have es : s' = apS q m (A, P, w, n) lst := es
    have ez : z = rnV q m (A, P, w, n) lst (-1) 0 := ez
    have hne : 1 ≤ lst.length := hne cok
    cases hw : wrS q m (A, P, w, n) lst with
    | some b =>
      rw [rnV_1 lst _ 0 b hw] at ez
      rcases hGJ with ⟨hz, eg, eJ⟩ | ⟨hz, -, -⟩
      case inr => omega
      subst eg
      have hx := WP_ext (r := some (vi z)) (post := fun J2 => sm (z27 J) J2) (fun Q hQ => kl Q (fun c => absurd cok c) (fun _ a ha J2 hJ2 => by
        have ha : wrS q m (A, P, w, n) lst = some a := ha
        rw [hw] at ha
        have ha := Option.some.inj ha
        rw [← ha, ← ez]
        exact hQ J2 hJ2) (fun _ hn _ _ _ => by
        have hn : wrS q m (A, P, w, n) lst = none := hn
        rw [hw] at hn
        cases hn))
      obtain ⟨J2, hJ2, h2⟩ := hx
      rw [← eJ] at hld
      have h3 := RQ_sm hld hJ2
      exact ⟨z, _, _, _, J2, h1, ⟨hSJ, hZ'.1.1⟩, h2, SS_fr hSJ hNS.1 (fun _ _ => rfl) rfl (fun a ha => (hJ2.1 a (by unfold okc; omega)).trans (pr_o (by omega))), hNS, t, dr, A, P, w, n, q, m, h3⟩
    | none =>
      rw [rnV_0 lst _ 0 hw] at ez
      rcases hGJ with ⟨hz, -, -⟩ | ⟨hz, eg, eJ⟩
      case inl => omega
      have hx := WP_ext (r := some (vi z)) (post := fun J2 => MR J2 s'.1 ∧ fin J J2) (fun Q hQ => kl Q (fun c => absurd cok c) (fun _ a ha J2 hJ2 => by
        have ha : wrS q m (A, P, w, n) lst = some a := ha
        rw [hw] at ha
        cases ha) (fun _ _ J2 hJ2 hf => by
        have e0 : z = (lst.length : Int) := by rw [ez]; omega
        have hq := hQ J2 ⟨by rw [es]; exact hJ2, hf⟩
        rw [e0] at hq
        exact hq))
      obtain ⟨J2, ⟨hM2, hf⟩, h2⟩ := hx
      obtain ⟨n1, n2, n3, n4, n5, n6⟩ := hf
      have jj : ∀ a, okc a → ¬ (59 ≤ a ∧ a ≤ 65) → ¬ a = 81 → ¬ a = dr + 2 → J2 a = pr Ia 5 (uf (Ia 5) 7 0) a := fun a a1 a2 a3 a4 => by rw [n1 a a1 a2 a3, eJ, pr_o a4]
      have jz : ∀ a, ¬ a = 57 → z27 (pr Ia 5 (uf (Ia 5) 7 0)) a = pr Ia 5 (uf (Ia 5) 7 0) a := fun a ha => pr_o ha
      have jf : ∀ j, okf j → ¬ (14 ≤ j ∧ j ≤ 16) → ¬ j = 27 → J2 57 j = z27 (pr Ia 5 (uf (Ia 5) 7 0)) 57 j := fun j j1 j2 j3 => by
        rw [n2 j j1 j2 j3, eJ, pr_o (by omega)]
        unfold z27
        rw [pr_s, uf_o j3]
      have hT2 : TW ga J2 dr s'.1 s'.2.2.1 s'.2.2.2 := TW_fr (by omega) l2 (fun a ha => by rw [jj a (by unfold okc; omega) (by omega) (by omega) (by omega), pr_o (by omega)])
      have hF : e64 (J2 (dr + 2)) (DA s'.1 s'.2.1 s'.2.2.1) := by
        rw [n1 (dr + 2) (by unfold okc; omega) (by omega) (by omega), eJ, pr_s]
        exact xfar_DA l3 l2.2.1
      have h3 := RQ_gd hld (by omega) hT2 hF hM2 l3 (fun a ha => by rw [jj a (by unfold okc; omega) (by omega) (by omega) (by omega), jz a (by omega)]) (by rw [jj 5 (by unfold okc; omega) (by omega) (by omega) (by omega), jz 5 (by omega)]) ⟨by rw [n3]; unfold z27; rw [pr_s, uf_s], jf 31 (by unfold okf; omega) (by omega) (by omega), jf 48 (by unfold okf; omega) (by omega) (by omega)⟩ (fun j hj => by rw [n4 j hj, eJ, pr_o (by omega), jz 80 (by omega)]) (fun j hj => by rw [n5 j hj, eJ, pr_o (by omega), jz 49 (by omega)]) (fun j hj => by rw [n6 j hj, eJ, pr_o (by omega), jz 81 (by omega)])
      rw [← eg] at h3
      exact ⟨z, _, _, _, J2, h1, ⟨hSJ, hZ'.1.1⟩, h2, SS_fr hSJ hNS.1 (fun _ _ => rfl) rfl (fun a ha => n1 a (by unfold okc; omega) (by omega) (by omega)), hNS, dr, t, _, _, _, _, q, m, h3⟩
  · have ez : z = -1000 - (e : Int) := l9 cok
    rcases hGJ with ⟨hz, eg, eJ⟩ | ⟨hz, -, -⟩
    case inr => omega
    subst eg
    have hx := WP_ext (r := some (vi z)) (post := fun J2 => sm (z27 J) J2) (fun Q hQ => kl Q (fun _ J2 hJ2 => by
      have hq := hQ J2 hJ2
      rw [ez] at hq
      exact hq) (fun c => absurd c cok) (fun c => absurd c cok))
    obtain ⟨J2, hJ2, h2⟩ := hx
    rw [← eJ] at hld
    have h3 := RQ_sm hld hJ2
    exact ⟨z, _, _, _, J2, h1, ⟨hSJ, hZ'.1.1⟩, h2, SS_fr hSJ hNS.1 (fun _ _ => rfl) rfl (fun a ha => (hJ2.1 a (by unfold okc; omega)).trans (pr_o (by omega))), hNS, t, dr, A, P, w, n, q, m, h3⟩
end CLAND

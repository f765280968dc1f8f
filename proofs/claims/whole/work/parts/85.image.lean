-- image and on on both sides
theorem WP_extg {d m pc : Nat} {ls : LL} {st : List PV} {g g' : GG} {I : II} {r : Option PV} {post : II → Prop} (H : ∀ Q : QQ, (∀ J, post J → Q r g' J) → WP d m pc ls st g I Q) : ∃ J, post J ∧ ∀ Q : QQ, WP d m pc ls st g I Q = Q r g' J := by
  obtain ⟨n, hn⟩ := H (fun v g1 J => v = r ∧ g1 = g' ∧ post J) (fun J hJ => ⟨rfl, rfl, hJ⟩)
  obtain ⟨v, g1, J, ⟨h1, h2, h3⟩, hw⟩ := wp_det _ _ _ _ _ _ _ _ _ hn
  subst h1 h2
  exact ⟨J, h3, fun Q => WP_fun (fun Q hQ => ⟨n, wp_mono _ _ _ _ _ _ _ _ _ _ (fun v' g' I' e => by obtain ⟨e1, e2, e3⟩ := e; subst e1 e2 e3; exact hQ) hw⟩) Q⟩
section K0
variable {I : II}
theorem kpy_i0 {F src : Nat → Int} {k j : Nat} (h : j < k) : kpy F src 0 k j = src j := by
  unfold kpy
  rw [if_pos (by omega), Nat.sub_zero]
theorem k0_59 {j : Nat} (h : j < 14) : kAll0 I j = I 59 j := by unfold kAll0; simp (disch := omega) only [uf_o, kpy_x, kpy_i0]
theorem k0_60 {j : Nat} (h : j < 14) : kAll0 I (14 + j) = I 60 j := by unfold kAll0; simp (disch := omega) only [uf_o, kpy_x, kpy_i]
theorem k0_61 {j : Nat} (h : j < 14) : kAll0 I (28 + j) = I 61 j := by unfold kAll0; simp (disch := omega) only [uf_o, kpy_x, kpy_i]
theorem k0_62 {j : Nat} (h : j < 7) : kAll0 I (42 + j) = I 62 j := by unfold kAll0; simp (disch := omega) only [uf_o, kpy_x, kpy_i]
theorem k0_63 {j : Nat} (h : j < 7) : kAll0 I (49 + j) = I 63 j := by unfold kAll0; simp (disch := omega) only [uf_o, kpy_x, kpy_i]
theorem k0_64 {j : Nat} (h : j < 7) : kAll0 I (56 + j) = I 64 j := by unfold kAll0; simp (disch := omega) only [uf_o, kpy_x, kpy_i]
theorem k0_65 {j : Nat} (h : j < 7) : kAll0 I (63 + j) = I 65 j := by unfold kAll0; simp (disch := omega) only [uf_o, kpy_x, kpy_i]
theorem k0_66 {j : Nat} (h : j < 4) : kAll0 I (70 + j) = I 66 j := by unfold kAll0; simp (disch := omega) only [uf_o, kpy_x, kpy_i]
theorem k0_67 {j : Nat} (h : j < 8) : kAll0 I (74 + j) = I 67 j := by unfold kAll0; simp (disch := omega) only [uf_o, kpy_x, kpy_i]
theorem k0_68 {j : Nat} (h : j < 8) : kAll0 I (82 + j) = I 68 j := by unfold kAll0; simp (disch := omega) only [uf_o, kpy_x, kpy_i]
theorem k0_69 {j : Nat} (h : j < 4) : kAll0 I (90 + j) = I 69 j := by unfold kAll0; simp (disch := omega) only [uf_o, kpy_x, kpy_i]
theorem k0_70 {j : Nat} (h : j < 4) : kAll0 I (94 + j) = I 70 j := by unfold kAll0; simp (disch := omega) only [uf_o, kpy_x, kpy_i]
theorem k0_71 {j : Nat} (h : j < 8) : kAll0 I (98 + j) = I 71 j := by unfold kAll0; simp (disch := omega) only [uf_o, kpy_x, kpy_i]
theorem k0_81 {j : Nat} (h : j < 7) : kAll0 I (106 + j) = I 81 j := by unfold kAll0; simp (disch := omega) only [uf_o, kpy_x, kpy_i]
theorem k0_f : kAll0 I 113 = I 57 14 ∧ kAll0 I 114 = I 57 15 ∧ kAll0 I 115 = I 57 16 ∧ kAll0 I 116 = I 57 17 ∧ kAll0 I 117 = I 57 18 ∧ kAll0 I 118 = I 57 35 ∧ kAll0 I 119 = I 57 36 ∧ kAll0 I 120 = I 57 37 := by
  unfold kAll0
  simp (disch := omega) only [uf_o, uf_s, and_self]
theorem rA0_o {J : II} {a : Nat} (h : ¬ a = 57 ∧ ¬ a = 81 ∧ ¬ (59 ≤ a ∧ a ≤ 71)) : rAll0 J a = J a := by
  unfold rAll0
  simp (disch := omega) only [pr_o]
theorem r0_59 {J : II} {j : Nat} (h : j < 14) : rAll0 J 59 j = J 80 (0 + j) := by
  unfold rAll0
  simp (disch := omega) only [pr_o, pr_s, fll_t]
theorem r0_60 {J : II} {j : Nat} (h : j < 14) : rAll0 J 60 j = J 80 (14 + j) := by
  unfold rAll0
  simp (disch := omega) only [pr_o, pr_s, fll_t]
theorem r0_61 {J : II} {j : Nat} (h : j < 14) : rAll0 J 61 j = J 80 (28 + j) := by
  unfold rAll0
  simp (disch := omega) only [pr_o, pr_s, fll_t]
theorem r0_62 {J : II} {j : Nat} (h : j < 7) : rAll0 J 62 j = J 80 (42 + j) := by
  unfold rAll0
  simp (disch := omega) only [pr_o, pr_s, fll_t]
theorem r0_63 {J : II} {j : Nat} (h : j < 7) : rAll0 J 63 j = J 80 (49 + j) := by
  unfold rAll0
  simp (disch := omega) only [pr_o, pr_s, fll_t]
theorem r0_64 {J : II} {j : Nat} (h : j < 7) : rAll0 J 64 j = J 80 (56 + j) := by
  unfold rAll0
  simp (disch := omega) only [pr_o, pr_s, fll_t]
theorem r0_65 {J : II} {j : Nat} (h : j < 7) : rAll0 J 65 j = J 80 (63 + j) := by
  unfold rAll0
  simp (disch := omega) only [pr_o, pr_s, fll_t]
theorem r0_66 {J : II} {j : Nat} (h : j < 4) : rAll0 J 66 j = J 80 (70 + j) := by
  unfold rAll0
  simp (disch := omega) only [pr_o, pr_s, fll_t]
theorem r0_67 {J : II} {j : Nat} (h : j < 8) : rAll0 J 67 j = J 80 (74 + j) := by
  unfold rAll0
  simp (disch := omega) only [pr_o, pr_s, fll_t]
theorem r0_68 {J : II} {j : Nat} (h : j < 8) : rAll0 J 68 j = J 80 (82 + j) := by
  unfold rAll0
  simp (disch := omega) only [pr_o, pr_s, fll_t]
theorem r0_69 {J : II} {j : Nat} (h : j < 4) : rAll0 J 69 j = J 80 (90 + j) := by
  unfold rAll0
  simp (disch := omega) only [pr_o, pr_s, fll_t]
theorem r0_70 {J : II} {j : Nat} (h : j < 4) : rAll0 J 70 j = J 80 (94 + j) := by
  unfold rAll0
  simp (disch := omega) only [pr_o, pr_s, fll_t]
theorem r0_71 {J : II} {j : Nat} (h : j < 8) : rAll0 J 71 j = J 80 (98 + j) := by
  unfold rAll0
  simp (disch := omega) only [pr_o, pr_s, fll_t]
theorem r0_81 {J : II} {j : Nat} (h : j < 7) : rAll0 J 81 j = J 80 (106 + j) := by
  unfold rAll0
  simp (disch := omega) only [pr_o, pr_s, fll_t]
theorem r0_z {J : II} {j : Nat} (h : 7 ≤ j) : rAll0 J 81 j = J 81 j := by
  unfold rAll0
  simp (disch := omega) only [pr_o, pr_s]
  unfold fll
  rw [if_neg (by omega)]
theorem r0_f {J : II} : rAll0 J 57 14 = J 80 113 ∧ rAll0 J 57 15 = J 80 114 ∧ rAll0 J 57 16 = J 80 115 ∧ rAll0 J 57 17 = J 80 116 ∧ rAll0 J 57 18 = J 80 117 ∧ rAll0 J 57 35 = J 80 118 ∧ rAll0 J 57 36 = J 80 119 ∧ rAll0 J 57 37 = J 80 120 := by
  unfold rAll0
  simp (disch := omega) only [pr_s, uf_o, uf_s, and_self]
theorem r0_g {J : II} {j : Nat} (h : ¬ (14 ≤ j ∧ j ≤ 18) ∧ ¬ (35 ≤ j ∧ j ≤ 37)) : rAll0 J 57 j = J 57 j := by
  unfold rAll0
  simp (disch := omega) only [pr_s, uf_o]
end K0
-- what is told rests on so many of the rows' places
def AE (A B : II) : Prop := (∀ j, j < 14 → A 0 j = B 0 j) ∧ (∀ j, j < 14 → A 1 j = B 1 j) ∧ (∀ j, j < 14 → A 2 j = B 2 j) ∧ (∀ j, j < 7 → A 3 j = B 3 j) ∧ (∀ j, j < 7 → A 4 j = B 4 j) ∧ (∀ j, j < 7 → A 5 j = B 5 j) ∧ (∀ j, j < 7 → A 6 j = B 6 j) ∧ (∀ j, j < 4 → A 7 j = B 7 j) ∧ (∀ j, j < 8 → A 8 j = B 8 j) ∧ (∀ j, j < 8 → A 9 j = B 9 j) ∧ (∀ j, j < 4 → A 10 j = B 10 j) ∧ (∀ j, j < 4 → A 11 j = B 11 j) ∧ (∀ j, j < 8 → A 12 j = B 12 j) ∧ (∀ j, j < 7 → A 13 j = B 13 j) ∧ (∀ j, j < 8 → A 14 j = B 14 j)
theorem dwy_c {a b m a' b' m' : Nat → Int} (D : Nat → Int) : ∀ w, (∀ j, j < w → a j = a' j ∧ b j = b' j ∧ m j = m' j) → dwy a b m w D = dwy a' b' m' w D
  | 0, _ => rfl
  | w + 1, h => by
    have e := h w (by omega)
    show uf (uf (dwy a b m w D) (8 * (a w).toNat + (b w).toNat) (m w)) (8 * (b w).toNat + (a w).toNat) (m w) = uf (uf (dwy a' b' m' w D) (8 * (a' w).toNat + (b' w).toNat) (m' w)) (8 * (b' w).toNat + (a' w).toNat) (m' w)
    rw [dwy_c D w (fun j hj => h j (by omega)), e.1, e.2.1, e.2.2]
theorem okS_AE {A B : II} {P w n q m : Nat} (e : AE A B) (h : okS B P w n q m) : okS A P w n q m := by
  obtain ⟨e0, e1, e2, e3, e4, e5, e6, e7, e8, e9, e10, e11, e12, e13, e14⟩ := e
  obtain ⟨s1, s2, s3, s4, s5, s6, s7, s8, s9, s10, s11, s12, s13⟩ := h
  have hn7 := s4.1
  refine ⟨?_, s2, ⟨s3.1, fun j hj => ?_⟩, ⟨s4.1, fun i hi => ?_⟩, fun i hi => ?_, ?_, ?_, fun j hj => ?_, ⟨s9.1, fun j hj => ?_⟩, ⟨s10.1, fun j hj => ?_⟩, ⟨fun j hj => ?_, fun j h1 h2 => ?_⟩, ?_, ?_⟩
  · rw [e14 0 (by omega), e14 1 (by omega), e14 2 (by omega), e14 3 (by omega), e14 4 (by omega)]; exact s1
  · have := s3.1
    rw [e0 j (by omega), e1 j (by omega), e2 j (by omega)]; exact s3.2 j hj
  · rw [e3 i (by omega), e4 i (by omega), e5 i (by omega), e6 i (by omega)]; exact s4.2 i hi
  · rw [e4 i (by omega)]; exact s5 i hi
  · unfold okSt
    rw [e7 0 (by omega), e7 1 (by omega), e7 2 (by omega), e7 3 (by omega)]; exact s6
  · rw [e7 3 (by omega)]; exact s7
  · rw [e8 j hj, e9 j hj]; exact s8 j hj
  · have := s9.1
    rw [e10 j (by omega), e11 j (by omega)]; exact s9.2 j hj
  · have := s10.1
    rw [e12 j (by omega)]; exact s10.2 j hj
  · rw [e13 j hj]; exact s11.1 j hj
  · rw [e13 j h2]; exact s11.2 j h1 h2
  · rw [e14 5 (by omega)]; exact s12
  · rw [e14 6 (by omega)]; exact s13
theorem TR_AE {g : GG} {I A B : II} {t P w n : Nat} (e : AE A B) (hw : w ≤ 14) (hn : n ≤ 7) (h : TR g I t B P w n) : TR g I t A P w n := by
  obtain ⟨e0, e1, e2, e3, e4, e5, e6, e7, e8, e9, e10, e11, e12, e13, e14⟩ := e
  obtain ⟨a1, a6, a7, a8, a9, a10, a11, a12, a13, a14, a15, a18⟩ := h
  have hd := fun D => dwy_c (a := A 0) (b := A 1) (m := A 2) (a' := B 0) (b' := B 1) (m' := B 2) D w (fun j hj => ⟨e0 j (by omega), e1 j (by omega), e2 j (by omega)⟩)
  refine ⟨?_, ?_, ?_, fun i hi => ?_, fun j hj => ?_, fun j hj => ?_, fun j hj => ?_, fun j hj => ?_, fun j hj => ?_, fun j hj => ?_, ?_, fun j hj => ?_⟩
  · rw [e14 0 (by omega), e14 1 (by omega), e14 2 (by omega), e14 3 (by omega), e14 4 (by omega)]; exact a1
  · rw [hd]; exact a6
  · unfold DA; rw [hd]; exact a7
  · obtain ⟨b, b1, b2, b3⟩ := a8 i hi
    refine ⟨b, b1, b2, ?_⟩
    rw [e3 i (by omega), e4 i (by omega), e5 i (by omega), e6 i (by omega)]; exact b3
  · rw [e7 j hj]; exact a9 j hj
  · rw [e12 j hj]; exact a10 j hj
  · rw [e8 j hj]; exact a11 j hj
  · rw [e9 j hj]; exact a12 j hj
  · rw [e10 j hj]; exact a13 j hj
  · rw [e11 j hj]; exact a14 j hj
  · rw [e14 5 (by omega), e14 6 (by omega), e14 7 (by omega)]; exact a15
  · rw [e13 j hj]; exact a18 j hj
theorem TR_g {g g' : GG} {I A : II} {t T P w n : Nat} (hs : gsm g g' t) (hT : ¬ T = t) (h : TR g I T A P w n) : TR g' I T A P w n := by
  obtain ⟨hK, hN, hS, hR⟩ := hs
  obtain ⟨a1, a6, a7, a8, a9⟩ := h
  refine ⟨a1, a6, a7, fun i hi => ?_, a9⟩
  obtain ⟨b, b1, b2, b3⟩ := a8 i hi
  refine ⟨b, b1, by rw [hR (T + 3) i (by omega)]; exact b2, ?_⟩
  rw [ThA, hK]
  exact b3
theorem SS_g {L : Nat} {xs : Nat → Int32} {g g' : GG} {I J : II} {t : Nat} (hs : gsm g g' t) (ht : 6 ≤ t) (h : SS L xs g I) (h0 : J 0 = I 0) (h1 : J 1 = I 1) (h2 : J 2 = I 2) : SS L xs g' J := by
  obtain ⟨hK, hN, hS, hR⟩ := hs
  unfold SS
  rw [hK 0, hK 1, hK 2, hR 1 0 (by omega), h0, h1, h2]
  exact h
section CSI
variable {L : Nat} {xs : Nat → Int32} {g : GG} {I : II} {t dr : Nat} {A : II} {P w n q m : Nat}
theorem cs_image (hs : SS L xs g I) (hg : 90 ≤ gN g) (h : RQ g I t dr A P w n q m) : CS L xs g I m_X11_image m_X12_image [] [] vi := by
  have hW := h.2.2.1.1
  have hX := h.2.2.1.2.1
  obtain ⟨ht1, ht2, hT⟩ := RQ_t h
  have h50 := h.2.1.1
  obtain ⟨hP, hP'⟩ := RQ_P h
  have hS := RQ_S h
  have hP8 := hS.2.1
  have n6 := h.2.2.1.2.2.2.1
  have n19 := h.2.2.1.2.2.2.2.1
  have n32 := h.2.2.1.2.2.2.2.2
  have hT32 := h.2.2.1.2.2.1.2.2
  have ht3 : t = 6 ∨ t = 19 := by rcases h.1 with q | q <;> omega
  have hnt : TN g t := by rcases ht3 with r | r <;> subst r; exact n6; exact n19
  have hO := h.2.2.2.2.2.2.2
  have hz := hO.2.2.2.2.2.2
  have hz49 := hO.2.2.2.2.2.1
  have hgs := (gcp_sm g t 32 7).1
  have hw32 : WT (gcp g t 32 7) 32 = WT g 32 := WT_gcp g t 32 (by omega) 32 (by omega)
  have hwt : WT (gcp g t 32 7) t = WT g t := WT_gcp g t 32 (by omega) t (by omega)
  have hZ := WZ_gcp (t := 32) h.2.2.1 hnt (by omega)
  have kc := fun d Q hQ => ct_copyFrom (I := I) hT32 hT hnt (by omega) ⟨hw32, hwt⟩ d Q hQ
  have hX1 := hZ.2.1
  have hW1 := hZ.1
  have h501 : gR (gcp g t 32 7) 5 0 = some t := by rw [hgs.2.2.2 5 0 (by omega)]; exact h50
  have hT1 : WT (gcp g t 32 7) t := by rw [hwt]; exact hT
  obtain ⟨I1, ⟨J1, hJ1, hI1⟩, h1⟩ : ∃ I1, (∃ J1, CP I J1 t 32 ∧ I1 = pr J1 5 (uf (I 5) 3 1)) ∧ ∀ Q : QQ, WP 999 m_X11_image 0 [some (vr (some 5))] [] g I Q = Q (some (vi P)) (gcp g t 32 7) I1 := by
    refine WP_extg (fun Q hQ => ?_)
    have kc := kc 997
    simp (config := { contextual := true }) (disch := omega) only [R_X11_image, hX, hT, hT32, h50, true_and, and_true, true_implies, not_true_eq_false, false_implies, not_false_eq_true, false_and, and_false, or_true, true_or, false_or, or_false, implies_true, forall_const, kl_i, kl_n, kl_r, kl_l, tl_s, tl_n, List.cons_append, List.nil_append, Int.cast_ofNat_Int, w32_id, w64_id, le_T, le_F, lt_T, lt_F, eq_T, eq_F, reduceIte, ne_eq, Int.toNat_natCast, bi_0, bi_1, bi_b, Nat.reduceAdd, Nat.reduceEqDiff, Int.reduceToNat, Int.reduceNeg, nle_T, nlt_T, neq_T, neq_F, b2_0, b2_b, both, reduceCtorEq]
    refine kc _ (fun J hJ => ?_)
    have hq := hQ _ ⟨J, hJ, rfl⟩
    have e5 : J 5 = I 5 := hJ.1 5 (by omega)
    have et : J t 0 = (P : Int) := by rw [hJ.1 t (by omega)]; exact hP
    simp (config := { contextual := true }) (disch := omega) only [R_X11_image, hX1, hT1, h501, up_pr, pr_o, e5, et, true_and, and_true, true_implies, not_true_eq_false, false_implies, not_false_eq_true, false_and, and_false, or_true, true_or, false_or, or_false, implies_true, forall_const, kl_i, kl_n, kl_r, kl_l, tl_s, tl_n, List.cons_append, List.nil_append, Int.cast_ofNat_Int, w32_id, w64_id, le_T, le_F, lt_T, lt_F, eq_T, eq_F, reduceIte, ne_eq, Int.toNat_natCast, bi_0, bi_1, bi_b, Nat.reduceAdd, Nat.reduceEqDiff, Int.reduceToNat, Int.reduceNeg, nle_T, nlt_T, neq_T, neq_F, b2_0, b2_b, both, reduceCtorEq]
    exact hq
  have hJo : ∀ a, ¬ (32 ≤ a ∧ a ≤ 43) → ¬ a = 5 → I1 a = I a := fun a a1 a2 => by rw [hI1, pr_o a2, hJ1.1 a (by omega)]
  have e57 : I1 57 = I 57 := hJo 57 (by omega) (by omega)
  have kk := fun d Q => ct_keep0 (d := d) (I := pr I1 57 (uf (I 57) 31 1)) hW1 Q
  obtain ⟨I2, hI2⟩ : ∃ I2, I2 = pr I1 57 (uf (I 57) 31 1) := ⟨_, rfl⟩
  rw [← hI2] at kk
  have hI2o : ∀ a, ¬ a = 57 → I2 a = I1 a := fun a ha => by rw [hI2, pr_o ha]
  have hI2f : ∀ j, ¬ j = 31 → I2 57 j = I 57 j := fun j hj => by rw [hI2, pr_s, uf_o hj]
  have hFo : ∀ a, ¬ a = 57 → ¬ a = 80 → sP 1 (pr I2 80 (kAll0 I2)) 121 a = I1 a := fun a a1 a2 => by rw [sP_o a1, pr_o a2, hI2o a a1]
  have hFf : ∀ j, ¬ j = 31 → ¬ j = 32 → ¬ j = 33 → sP 1 (pr I2 80 (kAll0 I2)) 121 57 j = I 57 j := fun j j1 j2 j3 => by rw [sP_f ⟨j2, j3⟩, pr_o (by omega), hI2f j j1]
  have hF31 : sP 1 (pr I2 80 (kAll0 I2)) 121 57 31 = 1 := by rw [sP_f (by omega), pr_o (by omega), hI2, pr_s, uf_s]
  have hF80 : sP 1 (pr I2 80 (kAll0 I2)) 121 80 = kAll0 I2 := by rw [sP_o (by omega), pr_s]
  obtain ⟨r3, r4, r5, r6, r7, r8, r9, r10, r11, r12, r13⟩ := RQ_r h
  obtain ⟨m0, m1, m2, -⟩ := h.2.2.2.1
  have f := RQ_f h
  have hr : ∀ a, (59 ≤ a ∧ a ≤ 71) ∨ a = 81 → I2 a = I a := fun a ha => by rw [hI2o a (by omega), hJo a (by omega) (by omega)]
  refine ⟨P, _, _, gcp g t 32 7, sP 1 (pr I2 80 (kAll0 I2)) 121, h1, ⟨SS_g hgs (by omega) hs (hJo 0 (by omega) (by omega)) (hJo 1 (by omega) (by omega)) (hJo 2 (by omega) (by omega)), hW1.1⟩, fun Q => ?_, SS_g hgs (by omega) hs (by rw [hFo 0 (by omega) (by omega)]; exact hJo 0 (by omega) (by omega)) (by rw [hFo 1 (by omega) (by omega)]; exact hJo 1 (by omega) (by omega)) (by rw [hFo 2 (by omega) (by omega)]; exact hJo 2 (by omega) (by omega)), ⟨by rw [hgs.2.1]; exact hg, by rw [hgs.2.1]; omega, by rw [hgs.2.2.1]; omega⟩, t, dr, A, P, w, n, q, m, h.1, ⟨h501, by rw [hgs.2.2.2 5 1 (by omega)]; exact h.2.1.2⟩, hZ, ?_, ?_, hS, ⟨?_, Or.inr ⟨hF31, A, P, w, n, q, m, ?_, ?_, hS⟩⟩, ?_⟩
  · have f14 : I2 57 14 = (P : Int) := by rw [hI2f 14 (by omega)]; exact hP'
    have kk := fun Q => kk 997 Q
    simp (config := { contextual := true }) (disch := omega) only [R_X12_image, hW1, up_pr, e57, ← hI2, kk, sP_f, pr_o, f14, true_and, and_true, true_implies, not_true_eq_false, false_implies, not_false_eq_true, false_and, and_false, or_true, true_or, false_or, or_false, implies_true, forall_const, kl_i, kl_n, kl_r, kl_l, tl_s, tl_n, List.cons_append, List.nil_append, Int.cast_ofNat_Int, w32_id, w64_id, le_T, le_F, lt_T, lt_F, eq_T, eq_F, reduceIte, ne_eq, Int.toNat_natCast, bi_0, bi_1, bi_b, Nat.reduceAdd, Nat.reduceEqDiff, Int.reduceToNat, Int.reduceNeg, nle_T, nlt_T, neq_T, neq_F, b2_0, b2_b, both, reduceCtorEq]
  · have M := h.2.2.2.1
    have hq : ∀ a, (59 ≤ a ∧ a ≤ 71) ∨ a = 81 → sP 1 (pr I2 80 (kAll0 I2)) 121 a = I a := fun a ha => by rw [hFo a (by omega) (by omega), hJo a (by omega) (by omega)]
    rw [MR, hq 59 (by omega), hq 60 (by omega), hq 61 (by omega), hq 62 (by omega), hq 63 (by omega), hq 64 (by omega), hq 65 (by omega), hq 66 (by omega), hq 67 (by omega), hq 68 (by omega), hq 69 (by omega), hq 70 (by omega), hq 71 (by omega), hq 81 (by omega), hFf 14 (by omega) (by omega) (by omega), hFf 15 (by omega) (by omega) (by omega), hFf 16 (by omega) (by omega) (by omega), hFf 17 (by omega) (by omega) (by omega), hFf 18 (by omega) (by omega) (by omega), hFf 35 (by omega) (by omega) (by omega), hFf 36 (by omega) (by omega) (by omega), hFf 37 (by omega) (by omega) (by omega)]
    exact M
  · exact TR_g hgs (by omega) (TR_fr h.2.2.2.2.1 (fun a ha => by rw [hFo a (by omega) (by omega), hJo a (by omega) (by omega)]))
  · rw [hF31, hFo 5 (by omega) (by omega), hI1, pr_s, uf_s]
  · rw [KR, hF80]
    have g0 := k0_f (I := I2)
    refine ⟨fun j hj => ?_, fun j hj => ?_, fun j hj => ?_, fun j hj => ?_, fun j hj => ?_, fun j hj => ?_, fun j hj => ?_, fun j hj => ?_, fun j hj => ?_, fun j hj => ?_, fun j hj => ?_, fun j hj => ?_, fun j hj => ?_, fun j hj => ?_, fun j hj => ?_⟩
    · rw [k0_59 hj, hr 59 (by omega), m0]
    · rw [k0_60 hj, hr 60 (by omega), m1]
    · rw [k0_61 hj, hr 61 (by omega), m2]
    · rw [k0_62 hj, hr 62 (by omega), r3]
    · rw [k0_63 hj, hr 63 (by omega), r4]
    · rw [k0_64 hj, hr 64 (by omega), r5]
    · rw [k0_65 hj, hr 65 (by omega), r6]
    · rw [k0_66 hj, hr 66 (by omega), r7]
    · rw [k0_67 hj, hr 67 (by omega), r8]
    · rw [k0_68 hj, hr 68 (by omega), r9]
    · rw [k0_69 hj, hr 69 (by omega), r10]
    · rw [k0_70 hj, hr 70 (by omega), r11]
    · rw [k0_71 hj, hr 71 (by omega), r12]
    · rw [k0_81 hj, hr 81 (by omega), r13]
    · obtain ⟨g1, g2, g3, g4, g5, g6, g7, g8⟩ := g0
      obtain ⟨f1, f2, f3, f4, f5, f6, f7, f8⟩ := f
      rcases (by omega : j = 0 ∨ j = 1 ∨ j = 2 ∨ j = 3 ∨ j = 4 ∨ j = 5 ∨ j = 6 ∨ j = 7) with r | r | r | r | r | r | r | r <;> subst r
      · exact (g1.trans (hI2f 14 (by omega))).trans f1
      · exact (g2.trans (hI2f 15 (by omega))).trans f2
      · exact (g3.trans (hI2f 16 (by omega))).trans f3
      · exact (g4.trans (hI2f 17 (by omega))).trans f4
      · exact (g5.trans (hI2f 18 (by omega))).trans f5
      · exact (g6.trans (hI2f 35 (by omega))).trans f6
      · exact (g7.trans (hI2f 36 (by omega))).trans f7
      · exact (g8.trans (hI2f 37 (by omega))).trans f8
  · exact TR_fr (TR_cp h.2.2.2.2.1 (okS_A hS).1 (by omega) (by omega) hJ1) (fun a ha => by rw [hFo a (by omega) (by omega), hI1, pr_o (by omega)])
  · refine OT_fr hO ⟨?_, hFf 27 (by omega) (by omega) (by omega), ?_, ?_⟩ ⟨?_, hFf 48 (by omega) (by omega) (by omega), ?_, ?_⟩ ⟨?_, ?_⟩ (fun j hj => ?_) (fun j hj => ?_)
    · rw [hFo 5 (by omega) (by omega), hI1, pr_s, uf_o (by omega)]
    · rw [hFo 52 (by omega) (by omega)]; exact hJo 52 (by omega) (by omega)
    · rw [hFo 73 (by omega) (by omega)]; exact hJo 73 (by omega) (by omega)
    · rw [hFo 5 (by omega) (by omega), hI1, pr_s, uf_o (by omega)]
    · rw [hFo 53 (by omega) (by omega)]; exact hJo 53 (by omega) (by omega)
    · rw [hFo 89 (by omega) (by omega)]; exact hJo 89 (by omega) (by omega)
    · rw [hFo 56 (by omega) (by omega)]; exact hJo 56 (by omega) (by omega)
    · rw [hFo 58 (by omega) (by omega)]; exact hJo 58 (by omega) (by omega)
    · rw [hFo 49 (by omega) (by omega), hJo 49 (by omega) (by omega)]; exact hz49 j hj
    · rw [hFo 81 (by omega) (by omega), hJo 81 (by omega) (by omega)]; exact hz j hj
theorem cs_on (hs : SS L xs g I) (hg : 90 ≤ gN g) (h : RQ g I t dr A P w n q m) : CS L xs g I m_X11_on m_X12_on [] [] vi := by
  have hW := h.2.2.1.1
  have hX := h.2.2.1.2.1
  obtain ⟨ht1, ht2, hT⟩ := RQ_t h
  have h50 := h.2.1.1
  obtain ⟨hP, hP'⟩ := RQ_P h
  have hS := RQ_S h
  have hP8 := hS.2.1
  obtain ⟨i1, i2⟩ := h.2.2.2.2.2.2.1
  rcases i2 with i2 | ⟨i2, B, P', w', n', q', m', hKR, hTB, hSB⟩
  · refine CS_r hs hg h (-3) (k := 3) (by omega) (fun Q => ?_) (fun Q => ?_)
    · rw [i2] at i1
      simp (config := { contextual := true }) (disch := omega) only [R_X11_on, hX, i1, ct_refuse hX, rfC, true_and, and_true, true_implies, not_true_eq_false, false_implies, not_false_eq_true, false_and, and_false, or_true, true_or, false_or, or_false, implies_true, forall_const, kl_i, kl_n, kl_r, kl_l, tl_s, tl_n, List.cons_append, List.nil_append, Int.cast_ofNat_Int, w32_id, w64_id, le_T, le_F, lt_T, lt_F, eq_T, eq_F, reduceIte, ne_eq, Int.toNat_natCast, bi_0, bi_1, bi_b, Nat.reduceAdd, Nat.reduceEqDiff, Int.reduceToNat, Int.reduceNeg, nle_T, nlt_T, neq_T, neq_F, b2_0, b2_b, both, reduceCtorEq]
    · simp (config := { contextual := true }) (disch := omega) only [R_X12_on, hW, i2, ct_no hW, pr_o, rfC, rfM, true_and, and_true, true_implies, not_true_eq_false, false_implies, not_false_eq_true, false_and, and_false, or_true, true_or, false_or, or_false, implies_true, forall_const, kl_i, kl_n, kl_r, kl_l, tl_s, tl_n, List.cons_append, List.nil_append, Int.cast_ofNat_Int, w32_id, w64_id, le_T, le_F, lt_T, lt_F, eq_T, eq_F, reduceIte, ne_eq, Int.toNat_natCast, bi_0, bi_1, bi_b, Nat.reduceAdd, Nat.reduceEqDiff, Int.reduceToNat, Int.reduceNeg, nle_T, nlt_T, neq_T, neq_F, b2_0, b2_b, both, reduceCtorEq]
  rw [i2] at i1
  have n6 := h.2.2.1.2.2.2.1
  have n19 := h.2.2.1.2.2.2.2.1
  have n32 := h.2.2.1.2.2.2.2.2
  have hT32 := h.2.2.1.2.2.1.2.2
  have ht3 : t = 6 ∨ t = 19 := by rcases h.1 with q | q <;> omega
  have hO := h.2.2.2.2.2.2.2
  have hz := hO.2.2.2.2.2.2
  have hz49 := hO.2.2.2.2.2.1
  have hgs := (gcp_sm g 32 t 7).1
  have hw32 : WT (gcp g 32 t 7) 32 = WT g 32 := WT_gcp g 32 t (by omega) 32 (by omega)
  have hwt : WT (gcp g 32 t 7) t = WT g t := WT_gcp g 32 t (by omega) t (by omega)
  have hZ := WZ_gcp (t := t) h.2.2.1 n32 (by omega)
  have kc := fun d Q hQ => ct_copyFrom (I := I) hT hT32 n32 (by omega) ⟨hwt, hw32⟩ d Q hQ
  have hX1 := hZ.2.1
  have hW1 := hZ.1
  have h501 : gR (gcp g 32 t 7) 5 0 = some t := by rw [hgs.2.2.2 5 0 (by omega)]; exact h50
  have hT1 : WT (gcp g 32 t 7) t := by rw [hwt]; exact hT
  have hB0 := hTB.1.1.trans hSB.1.1
  obtain ⟨I1, hI1, h1⟩ : ∃ I1, CP I I1 32 t ∧ ∀ Q : QQ, WP 999 m_X11_on 0 [some (vr (some 5))] [] g I Q = Q (some (vi P')) (gcp g 32 t 7) I1 := by
    refine WP_extg (fun Q hQ => ?_)
    have kc := kc 997
    simp (config := { contextual := true }) (disch := omega) only [R_X11_on, hX, hT, h50, i1, true_and, and_true, true_implies, not_true_eq_false, false_implies, not_false_eq_true, false_and, and_false, or_true, true_or, false_or, or_false, implies_true, forall_const, kl_i, kl_n, kl_r, kl_l, tl_s, tl_n, List.cons_append, List.nil_append, Int.cast_ofNat_Int, w32_id, w64_id, le_T, le_F, lt_T, lt_F, eq_T, eq_F, reduceIte, ne_eq, Int.toNat_natCast, bi_0, bi_1, bi_b, Nat.reduceAdd, Nat.reduceEqDiff, Int.reduceToNat, Int.reduceNeg, nle_T, nlt_T, neq_T, neq_F, b2_0, b2_b, both, reduceCtorEq]
    refine kc _ (fun J hJ => ?_)
    have hq := hQ _ hJ
    have et : J t 0 = (P' : Int) := by rw [hJ.2.1.1]; exact hB0
    simp (config := { contextual := true }) (disch := omega) only [R_X11_on, hX1, hT1, h501, et, true_and, and_true, true_implies, not_true_eq_false, false_implies, not_false_eq_true, false_and, and_false, or_true, true_or, false_or, or_false, implies_true, forall_const, kl_i, kl_n, kl_r, kl_l, tl_s, tl_n, List.cons_append, List.nil_append, Int.cast_ofNat_Int, w32_id, w64_id, le_T, le_F, lt_T, lt_F, eq_T, eq_F, reduceIte, ne_eq, Int.toNat_natCast, bi_0, bi_1, bi_b, Nat.reduceAdd, Nat.reduceEqDiff, Int.reduceToNat, Int.reduceNeg, nle_T, nlt_T, neq_T, neq_F, b2_0, b2_b, both, reduceCtorEq]
    exact hq
  have hJo : ∀ a, ¬ (t ≤ a ∧ a ≤ t + 11) → I1 a = I a := fun a a1 => hI1.1 a a1
  have kb := fun d Q => ct_back0 (d := d) (I := I1) hW1 Q
  have e80 : I1 80 = I 80 := hJo 80 (by omega)
  obtain ⟨J, hJ⟩ : ∃ J, J = sP 0 (rAll0 I1) 121 := ⟨_, rfl⟩
  rw [← hJ] at kb
  have hFo : ∀ a, ¬ a = 57 → ¬ a = 81 → ¬ (59 ≤ a ∧ a ≤ 71) → J a = I1 a := fun a a1 a2 a3 => by rw [hJ, sP_o a1, rA0_o ⟨a1, a2, a3⟩]
  have hFr : ∀ a, ¬ a = 57 → J a = rAll0 I1 a := fun a a1 => by rw [hJ, sP_o a1]
  have hFf : ∀ j, ¬ j = 32 → ¬ j = 33 → J 57 j = rAll0 I1 57 j := fun j j1 j2 => by rw [hJ, sP_f ⟨j1, j2⟩]
  have hFg : ∀ j, ¬ j = 32 → ¬ j = 33 → ¬ (14 ≤ j ∧ j ≤ 18) → ¬ (35 ≤ j ∧ j ≤ 37) → J 57 j = I 57 j := fun j j1 j2 j3 j4 => by rw [hFf j j1 j2, r0_g ⟨j3, j4⟩, hJo 57 (by omega)]
  obtain ⟨k0, k1, k2, k3, k4, k5, k6, k7, k8, k9, k10, k11, k12, k13, k14⟩ := hKR
  obtain ⟨f1, f2, f3, f4, f5, f6, f7, f8⟩ := r0_f (J := I1)
  rw [e80] at f1 f2 f3 f4 f5 f6 f7 f8
  obtain ⟨A', hA'⟩ : ∃ A' : II, A' = fun k => if k ≤ 12 then J (59 + k) else if k = 13 then J 81 else fun j => J 57 (if j ≤ 4 then 14 + j else 30 + j) := ⟨_, rfl⟩
  have hAE : AE A' B := by
    subst hA'
    refine ⟨fun j hj => ?_, fun j hj => ?_, fun j hj => ?_, fun j hj => ?_, fun j hj => ?_, fun j hj => ?_, fun j hj => ?_, fun j hj => ?_, fun j hj => ?_, fun j hj => ?_, fun j hj => ?_, fun j hj => ?_, fun j hj => ?_, fun j hj => ?_, fun j hj => ?_⟩
    · show J 59 j = _
      rw [hFr 59 (by omega), r0_59 hj, e80, Nat.zero_add]; exact k0 j hj
    · show J 60 j = _
      rw [hFr 60 (by omega), r0_60 hj, e80]; exact k1 j hj
    · show J 61 j = _
      rw [hFr 61 (by omega), r0_61 hj, e80]; exact k2 j hj
    · show J 62 j = _
      rw [hFr 62 (by omega), r0_62 hj, e80]; exact k3 j hj
    · show J 63 j = _
      rw [hFr 63 (by omega), r0_63 hj, e80]; exact k4 j hj
    · show J 64 j = _
      rw [hFr 64 (by omega), r0_64 hj, e80]; exact k5 j hj
    · show J 65 j = _
      rw [hFr 65 (by omega), r0_65 hj, e80]; exact k6 j hj
    · show J 66 j = _
      rw [hFr 66 (by omega), r0_66 hj, e80]; exact k7 j hj
    · show J 67 j = _
      rw [hFr 67 (by omega), r0_67 hj, e80]; exact k8 j hj
    · show J 68 j = _
      rw [hFr 68 (by omega), r0_68 hj, e80]; exact k9 j hj
    · show J 69 j = _
      rw [hFr 69 (by omega), r0_69 hj, e80]; exact k10 j hj
    · show J 70 j = _
      rw [hFr 70 (by omega), r0_70 hj, e80]; exact k11 j hj
    · show J 71 j = _
      rw [hFr 71 (by omega), r0_71 hj, e80]; exact k12 j hj
    · show J 81 j = _
      rw [hFr 81 (by omega), r0_81 hj, e80]; exact k13 j hj
    · rcases (by omega : j = 0 ∨ j = 1 ∨ j = 2 ∨ j = 3 ∨ j = 4 ∨ j = 5 ∨ j = 6 ∨ j = 7) with r | r | r | r | r | r | r | r <;> subst r
      · exact ((hFf 14 (by omega) (by omega)).trans f1).trans (k14 0 (by omega))
      · exact ((hFf 15 (by omega) (by omega)).trans f2).trans (k14 1 (by omega))
      · exact ((hFf 16 (by omega) (by omega)).trans f3).trans (k14 2 (by omega))
      · exact ((hFf 17 (by omega) (by omega)).trans f4).trans (k14 3 (by omega))
      · exact ((hFf 18 (by omega) (by omega)).trans f5).trans (k14 4 (by omega))
      · exact ((hFf 35 (by omega) (by omega)).trans f6).trans (k14 5 (by omega))
      · exact ((hFf 36 (by omega) (by omega)).trans f7).trans (k14 6 (by omega))
      · exact ((hFf 37 (by omega) (by omega)).trans f8).trans (k14 7 (by omega))
  have hMR : MR J A' := by subst hA'; exact ⟨rfl, rfl, rfl, rfl, rfl, rfl, rfl, rfl, rfl, rfl, rfl, rfl, rfl, rfl, rfl, rfl, rfl, rfl, rfl, rfl, rfl, rfl⟩
  have hSA := okS_AE hAE hSB
  refine ⟨P', _, _, gcp g 32 t 7, J, h1, ⟨SS_g hgs (by omega) hs (hJo 0 (by omega)) (hJo 1 (by omega)) (hJo 2 (by omega)), hW1.1⟩, fun Q => ?_, SS_g hgs (by omega) hs (by rw [hFo 0 (by omega) (by omega) (by omega)]; exact hJo 0 (by omega)) (by rw [hFo 1 (by omega) (by omega) (by omega)]; exact hJo 1 (by omega)) (by rw [hFo 2 (by omega) (by omega) (by omega)]; exact hJo 2 (by omega)), ⟨by rw [hgs.2.1]; exact hg, by rw [hgs.2.1]; omega, by rw [hgs.2.2.1]; omega⟩, t, dr, A', P', w', n', q', m', h.1, ⟨h501, by rw [hgs.2.2.2 5 1 (by omega)]; exact h.2.1.2⟩, hZ, hMR, ?_, hSA, ⟨?_, Or.inr ⟨?_, B, P', w', n', q', m', ?_, ?_, hSB⟩⟩, ?_⟩
  · have e31 : I1 57 31 = 1 := by rw [hJo 57 (by omega)]; exact i2
    have f14 : J 57 14 = (P' : Int) := by
      rw [hFf 14 (by omega) (by omega), f1]
      exact (k14 0 (by omega)).trans hSB.1.1
    have kb := fun Q => kb 997 Q
    simp (config := { contextual := true }) (disch := omega) only [R_X12_on, hW1, e31, kb, f14, true_and, and_true, true_implies, not_true_eq_false, false_implies, not_false_eq_true, false_and, and_false, or_true, true_or, false_or, or_false, implies_true, forall_const, kl_i, kl_n, kl_r, kl_l, tl_s, tl_n, List.cons_append, List.nil_append, Int.cast_ofNat_Int, w32_id, w64_id, le_T, le_F, lt_T, lt_F, eq_T, eq_F, reduceIte, ne_eq, Int.toNat_natCast, bi_0, bi_1, bi_b, Nat.reduceAdd, Nat.reduceEqDiff, Int.reduceToNat, Int.reduceNeg, nle_T, nlt_T, neq_T, neq_F, b2_0, b2_b, both, reduceCtorEq]
  · refine TR_AE hAE hSB.2.2.1.1 (okS_A hSB).1 (TR_fr (TR_cp hTB (okS_A hSB).1 (by omega) (by omega) hI1) (fun a ha => hFo a (by omega) (by omega) (by omega)))
  · rw [hFo 5 (by omega) (by omega) (by omega), hJo 5 (by omega), hFg 31 (by omega) (by omega) (by omega) (by omega), i1, i2]
  · rw [hFg 31 (by omega) (by omega) (by omega) (by omega)]; exact i2
  · exact KR_fr ⟨k0, k1, k2, k3, k4, k5, k6, k7, k8, k9, k10, k11, k12, k13, k14⟩ (fun j _ => by rw [hFo 80 (by omega) (by omega) (by omega), e80])
  · exact TR_g hgs (by omega) (TR_fr hTB (fun a ha => by rw [hFo a (by omega) (by omega) (by omega), hJo a (by omega)]))
  · refine OT_fr hO ⟨?_, hFg 27 (by omega) (by omega) (by omega) (by omega), ?_, ?_⟩ ⟨?_, hFg 48 (by omega) (by omega) (by omega) (by omega), ?_, ?_⟩ ⟨?_, ?_⟩ (fun j hj => ?_) (fun j hj => ?_)
    · rw [hFo 5 (by omega) (by omega) (by omega), hJo 5 (by omega)]
    · rw [hFo 52 (by omega) (by omega) (by omega)]; exact hJo 52 (by omega)
    · rw [hFo 73 (by omega) (by omega) (by omega)]; exact hJo 73 (by omega)
    · rw [hFo 5 (by omega) (by omega) (by omega), hJo 5 (by omega)]
    · rw [hFo 53 (by omega) (by omega) (by omega)]; exact hJo 53 (by omega)
    · rw [hFo 89 (by omega) (by omega) (by omega)]; exact hJo 89 (by omega)
    · rw [hFo 56 (by omega) (by omega) (by omega)]; exact hJo 56 (by omega)
    · rw [hFo 58 (by omega) (by omega) (by omega)]; exact hJo 58 (by omega)
    · rw [hFo 49 (by omega) (by omega) (by omega), hJo 49 (by omega)]; exact hz49 j hj
    · rw [hFr 81 (by omega), r0_z hj, hJo 81 (by omega)]; exact hz j hj
end CSI

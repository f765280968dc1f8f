-- LAND: the class's tellings (the draft, but for its fars)
def TW (g : GG) (I : II) (t : Nat) (A : II) (w n : Nat) : Prop :=
  (I t 0 = A 14 0 ∧ I t 1 = A 14 1 ∧ I t 4 = A 14 2 ∧ I t 7 = A 14 4 ∧ I t 11 = A 14 3) ∧
  e64 (I (t + 1)) (dwy (A 0) (A 1) (A 2) w z0) ∧ TH g I t A n ∧
  (∀ j, j < 4 → I (t + 4) j = A 7 j) ∧ (∀ j, j < 8 → I (t + 5) j = A 12 j) ∧ (∀ j, j < 8 → I (t + 6) j = A 8 j) ∧ (∀ j, j < 8 → I (t + 7) j = A 9 j) ∧
  (∀ j, j < 4 → I (t + 8) j = A 10 j) ∧ (∀ j, j < 4 → I (t + 9) j = A 11 j) ∧
  (I (t + 10) 0 = A 14 5 ∧ I (t + 10) 1 = A 14 6 ∧ I (t + 10) 2 = A 14 7) ∧ (∀ j, j < 7 → I (t + 11) j = A 13 j)
theorem TR_TW {g : GG} {I : II} {t : Nat} {A : II} {P w n : Nat} (h : TR g I t A P w n) : TW g I t A w n := ⟨h.1, h.2.1, h.2.2.2⟩
theorem TW_TR {g : GG} {I : II} {t : Nat} {A : II} {P w n : Nat} (h : TW g I t A w n) (k : e64 (I (t + 2)) (DA A P w)) : TR g I t A P w n := ⟨h.1, h.2.1, k, h.2.2⟩
theorem dwy_pos {a b m : Nat → Int} : ∀ w, (∀ j, j < w → (0 ≤ a j ∧ a j < 8) ∧ (0 ≤ b j ∧ b j < 8) ∧ 1 ≤ m j) → ∀ k, 0 < dwy a b m w z0 k ↔ ∃ e, e < w ∧ (k = 8 * (a e).toNat + (b e).toNat ∨ k = 8 * (b e).toNat + (a e).toNat)
  | 0, _, k => by
    constructor
    · intro h
      have e : dwy a b m 0 z0 k = 0 := rfl
      omega
    · rintro ⟨e, h, _⟩
      omega
  | w + 1, h, k => by
    have ih := dwy_pos w (fun j hj => h j (by omega)) k
    have hw := h w (by omega)
    have e : dwy a b m (w + 1) z0 k = if k = 8 * (b w).toNat + (a w).toNat then m w else if k = 8 * (a w).toNat + (b w).toNat then m w else dwy a b m w z0 k := rfl
    rw [e]
    by_cases c1 : k = 8 * (b w).toNat + (a w).toNat
    · rw [if_pos c1]
      exact ⟨fun _ => ⟨w, by omega, Or.inr c1⟩, fun _ => by omega⟩
    rw [if_neg c1]
    by_cases c2 : k = 8 * (a w).toNat + (b w).toNat
    · rw [if_pos c2]
      exact ⟨fun _ => ⟨w, by omega, Or.inl c2⟩, fun _ => by omega⟩
    rw [if_neg c2, ih]
    constructor
    · rintro ⟨e, h1, h2⟩
      exact ⟨e, by omega, h2⟩
    · rintro ⟨e, h1, h2⟩
      by_cases z : e = w
      · rw [z] at h2
        rcases h2 with h2 | h2
        · exact absurd h2 c2
        · exact absurd h2 c1
      · exact ⟨e, by omega, h2⟩
section TELL
variable {g : GG} {I A : II} {t P w n q m : Nat}
theorem okS_w8 (hS : okS A P w n q m) : ∀ j, j < w → (0 ≤ A 0 j ∧ A 0 j < 8) ∧ (0 ≤ A 1 j ∧ A 1 j < 8) ∧ 1 ≤ A 2 j := fun j hj => by
  have h1 := hS.2.2.1.2 j hj
  have h2 := hS.2.1
  omega
theorem hwC_t (hT : TW g I t A w n) (hS : okS A P w n q m) {p : Nat} (hp : p < 8) : hwC I t p = true ↔ 0 < A 8 p ∨ ∃ e, e < w ∧ (A 0 e = (p : Int) ∨ A 1 e = (p : Int)) := by
  have h6 := hT.2.2.2.2.2.1 p hp
  have e64' := hT.2.1
  have hb := okS_w8 hS
  have eh : hwC I t p = (decide (0 < I (t + 6) p) || hwy (I (t + 1)) p 8 0) := rfl
  rw [eh, Bool.or_eq_true, decide_eq_true_eq, h6, hwy_t]
  constructor
  · rintro (h | ⟨j, h1, h2, h3⟩)
    · exact Or.inl h
    · rw [e64' _ (by omega)] at h3
      obtain ⟨e, x1, x2⟩ := (dwy_pos w hb _).mp h3
      have := hb e x1
      exact Or.inr ⟨e, x1, by omega⟩
  · rintro (h | ⟨e, x1, x2⟩)
    · exact Or.inl h
    · have := hb e x1
      rcases x2 with x2 | x2
      · refine Or.inr ⟨(A 1 e).toNat, by omega, by omega, ?_⟩
        rw [e64' _ (by omega)]
        exact (dwy_pos w hb _).mpr ⟨e, x1, Or.inl (by omega)⟩
      · refine Or.inr ⟨(A 0 e).toNat, by omega, by omega, ?_⟩
        rw [e64' _ (by omega)]
        exact (dwy_pos w hb _).mpr ⟨e, x1, Or.inr (by omega)⟩
def needC (A : II) (C : Nat → Bool) (P n q m : Nat) : Int := mxF (A 12) (mxF (A 10) (mxF (A 4) (mxP C (max (A 7 3) (A 14 5)) P) n) q) m + 1
theorem need_eq (hT : TW g I t A w n) (hS : okS A P w n q m) : needC A (hwC I t) P n q m = needA A w n q m := by
  have hwj := hS.2.2.1.2
  have hP := hS.2.1
  have h8 := hS.2.2.2.2.2.2.2.1
  have key : ∀ x : Int, mxF (A 12) (mxF (A 10) (mxF (A 4) (mxP (hwC I t) (max (A 7 3) (A 14 5)) P) n) q) m ≤ x ↔ mxP (fun p => decide (0 < A 8 p)) (mxF (A 12) (mxF (A 10) (mxF (A 4) (mxW (A 0) (A 1) (max (A 7 3) (A 14 5)) w) n) q) m) 8 ≤ x := by
    intro x
    rw [mxF_le m, mxF_le q, mxF_le n, mxP_le P, mxP_le 8, mxF_le m, mxF_le q, mxF_le n, mxW_le w]
    constructor
    · rintro ⟨⟨⟨⟨h1, h2⟩, h3⟩, h4⟩, h5⟩
      refine ⟨⟨⟨⟨⟨h1, fun j hj => ?_⟩, h3⟩, h4⟩, h5⟩, fun j hj hc => ?_⟩
      · have hb := hwj j hj
        have a1 := h2 (A 0 j).toNat (by omega) ((hwC_t hT hS (by omega)).mpr (Or.inr ⟨j, hj, Or.inl (by omega)⟩))
        have a2 := h2 (A 1 j).toNat (by omega) ((hwC_t hT hS (by omega)).mpr (Or.inr ⟨j, hj, Or.inr (by omega)⟩))
        omega
      · have hc := of_decide_eq_true hc
        by_cases z : j < P
        · exact h2 j z ((hwC_t hT hS hj).mpr (Or.inl hc))
        · have := (h8 j hj).2.2 (by omega)
          omega
    · rintro ⟨⟨⟨⟨⟨h1, h2⟩, h3⟩, h4⟩, h5⟩, h6⟩
      refine ⟨⟨⟨⟨h1, fun j hj hc => ?_⟩, h3⟩, h4⟩, h5⟩
      rcases (hwC_t hT hS (by omega)).mp hc with c | ⟨e, x1, x2⟩
      · exact h6 j (by omega) (decide_eq_true c)
      · have := h2 e x1
        omega
  unfold needC needA
  have k1 := (key _).mp (Int.le_refl _)
  have k2 := (key _).mpr (Int.le_refl _)
  omega
theorem ct_pn (hW : WT g t) (hT : TW g I t A w n) (hS : okS A P w n q m) (d : Nat) (Q : QQ) : WP (d + 1) m_X9_placesNeeded 0 [some (vr (some t)), none, none] [] g I Q = Q (some (vi (needA A w n q m))) g I := by
  rw [← need_eq hT hS]
  obtain ⟨⟨f0, f1, f4, f7, f11⟩, _, hTH, r4, r5, r6, r7, r8, r9, ⟨l0, l1, l2⟩, lh⟩ := hT
  obtain ⟨⟨s0, s1, s2, s3, s4⟩, hP, ⟨hw, hwj⟩, hA, hpl, hst, h73, hwt, ⟨hq, hqj⟩, ⟨hm, hmj⟩, hhb, ⟨hl5, hl5b⟩, hl6⟩ := hS
  have e3 := r4 3 (by omega)
  have h70 := hst.2.2.2.1
  have st : WP (d + 1) m_X9_placesNeeded 0 [some (vr (some t)), none, none] [] g I Q = WP (d + 1) m_X9_placesNeeded 19 [some (vr (some t)), some (vi (max (A 7 3) (A 14 5))), some (vi 0)] [] g I Q := by
    simp (config := { contextual := true }) (disch := omega) only [R_X9_placesNeeded_b0, R_X9_placesNeeded_b1, hW, e3, l0, true_and, and_true, true_implies, not_true_eq_false, false_implies, not_false_eq_true, false_and, and_false, or_true, true_or, false_or, or_false, implies_true, forall_const, kl_i, kl_n, kl_r, kl_l, tl_s, tl_n, List.cons_append, List.nil_append, Int.cast_ofNat_Int, w32_id, w64_id, le_T, le_F, lt_T, lt_F, eq_T, eq_F, reduceIte, ne_eq, Int.toNat_natCast, bi_0, bi_1, bi_b, Nat.reduceAdd, Nat.reduceEqDiff, Int.reduceToNat, Int.reduceNeg, nle_T, nlt_T, neq_T, neq_F, b2_0, b2_b, both, reduceCtorEq]
  have la : ∀ v0 : Int, WP (d + 1) m_X9_placesNeeded 19 [some (vr (some t)), some (vi v0), some (vi 0)] [] g I Q = WP (d + 1) m_X9_placesNeeded 58 [some (vr (some t)), some (vi (mxP (hwC I t) v0 P)), some (vi 0)] [] g I Q := fun v0 => lp_pnA (v0 := v0) hW (P := P) (by rw [f0, s0]) hP.2 d Q P 0 (by omega)
  have lb : ∀ v0 : Int, WP (d + 1) m_X9_placesNeeded 58 [some (vr (some t)), some (vi v0), some (vi 0)] [] g I Q = WP (d + 1) m_X9_placesNeeded 88 [some (vr (some t)), some (vi (mxF (A 4) v0 n)), some (vi 0)] [] g I Q := fun v0 => lp_pnB (v0 := v0) hW hTH hA (by rw [f4, s2]) d Q n 0 (by omega)
  have lc : ∀ v0 : Int, WP (d + 1) m_X9_placesNeeded 88 [some (vr (some t)), some (vi v0), some (vi 0)] [] g I Q = WP (d + 1) m_X9_placesNeeded 115 [some (vr (some t)), some (vi (mxF (A 10) v0 q)), some (vi 0)] [] g I Q := fun v0 => lp_pnC (v0 := v0) hW (f := A 10) (q := q) (by rw [f11, s3]) hq (fun j hj => r8 j (by omega)) d Q q 0 (by omega)
  have ld : ∀ v0 : Int, 0 ≤ v0 ∧ v0 ≤ 1000 → WP (d + 1) m_X9_placesNeeded 115 [some (vr (some t)), some (vi v0), some (vi 0)] [] g I Q = Q (some (vi (mxF (A 12) v0 m + 1))) g I := fun v0 hv => lp_pnD (v0 := v0) hW (f := A 12) (q := m) (by rw [f7, s4]) hm (fun j hj => r5 j (by omega)) d Q (fun i hi => by
    have h1 : v0 ≤ mxF (A 12) v0 i := ((mxF_le (f := A 12) i).mp (Int.le_refl _)).1
    have h2 : mxF (A 12) v0 i ≤ 1000 := (mxF_le i).mpr ⟨hv.2, fun j hj => by have := hmj j (by omega); omega⟩
    omega) m 0 (by omega)
  rw [st, la, lb, lc, ld]
  · rfl
  · have h1 : max (A 7 3) (A 14 5) ≤ mxF (A 10) (mxF (A 4) (mxP (hwC I t) (max (A 7 3) (A 14 5)) P) n) q := ((mxP_le P).mp ((mxF_le n).mp ((mxF_le q).mp (Int.le_refl _)).1).1).1
    have h2 : mxF (A 10) (mxF (A 4) (mxP (hwC I t) (max (A 7 3) (A 14 5)) P) n) q ≤ 1000 := by
      refine (mxF_le q).mpr ⟨(mxF_le n).mpr ⟨(mxP_le P).mpr ⟨by omega, fun j hj _ => by omega⟩, fun j hj => ?_⟩, fun j hj => ?_⟩
      · have := hpl j hj
        omega
      · have := hqj j hj
        omega
    omega
theorem ct_tellPlaces (hW : WT g t) (hT : TW g I t A w n) (hS : okS A P w n q m) (v : Int) (d : Nat) (Q : QQ) : WP (d + 2) m_X9_tellPlaces 0 [some (vr (some t)), some (vi v)] [] g I Q = if 2 ≤ v ∧ v ≤ 8 ∧ needA A w n q m ≤ v then Q (some (vi 1)) g (pr I t (uf (I t) 0 v)) else Q (some (vi 0)) g I := by
  have kp := fun Q => ct_pn hW hT hS d Q
  generalize needA A w n q m = N at kp ⊢
  by_cases c1 : 2 ≤ v
  · by_cases c2 : v ≤ 8
    · by_cases c3 : N ≤ v
      · rw [if_pos ⟨c1, c2, c3⟩]
        simp (config := { contextual := true }) (disch := omega) only [R_X9_tellPlaces, hW, kp, up_pr, true_and, and_true, true_implies, not_true_eq_false, false_implies, not_false_eq_true, false_and, and_false, or_true, true_or, false_or, or_false, implies_true, forall_const, kl_i, kl_n, kl_r, kl_l, tl_s, tl_n, List.cons_append, List.nil_append, Int.cast_ofNat_Int, w32_id, w64_id, le_T, le_F, lt_T, lt_F, eq_T, eq_F, reduceIte, ne_eq, Int.toNat_natCast, bi_0, bi_1, bi_b, Nat.reduceAdd, Nat.reduceEqDiff, Int.reduceToNat, Int.reduceNeg, nle_T, nlt_T, neq_T, neq_F, b2_0, b2_b, both, reduceCtorEq]
      · rw [if_neg (fun z => c3 z.2.2)]
        simp (config := { contextual := true }) (disch := omega) only [R_X9_tellPlaces, hW, kp, up_pr, true_and, and_true, true_implies, not_true_eq_false, false_implies, not_false_eq_true, false_and, and_false, or_true, true_or, false_or, or_false, implies_true, forall_const, kl_i, kl_n, kl_r, kl_l, tl_s, tl_n, List.cons_append, List.nil_append, Int.cast_ofNat_Int, w32_id, w64_id, le_T, le_F, lt_T, lt_F, eq_T, eq_F, reduceIte, ne_eq, Int.toNat_natCast, bi_0, bi_1, bi_b, Nat.reduceAdd, Nat.reduceEqDiff, Int.reduceToNat, Int.reduceNeg, nle_T, nlt_T, neq_T, neq_F, b2_0, b2_b, both, reduceCtorEq]
    · rw [if_neg (fun z => c2 z.2.1)]
      simp (config := { contextual := true }) (disch := omega) only [R_X9_tellPlaces, hW, true_and, and_true, true_implies, not_true_eq_false, false_implies, not_false_eq_true, false_and, and_false, or_true, true_or, false_or, or_false, implies_true, forall_const, kl_i, kl_n, kl_r, kl_l, tl_s, tl_n, List.cons_append, List.nil_append, Int.cast_ofNat_Int, w32_id, w64_id, le_T, le_F, lt_T, lt_F, eq_T, eq_F, reduceIte, ne_eq, Int.toNat_natCast, bi_0, bi_1, bi_b, Nat.reduceAdd, Nat.reduceEqDiff, Int.reduceToNat, Int.reduceNeg, nle_T, nlt_T, neq_T, neq_F, b2_0, b2_b, both, reduceCtorEq]
  · rw [if_neg (fun z => c1 z.1)]
    simp (config := { contextual := true }) (disch := omega) only [R_X9_tellPlaces, hW, true_and, and_true, true_implies, not_true_eq_false, false_implies, not_false_eq_true, false_and, and_false, or_true, true_or, false_or, or_false, implies_true, forall_const, kl_i, kl_n, kl_r, kl_l, tl_s, tl_n, List.cons_append, List.nil_append, Int.cast_ofNat_Int, w32_id, w64_id, le_T, le_F, lt_T, lt_F, eq_T, eq_F, reduceIte, ne_eq, Int.toNat_natCast, bi_0, bi_1, bi_b, Nat.reduceAdd, Nat.reduceEqDiff, Int.reduceToNat, Int.reduceNeg, nle_T, nlt_T, neq_T, neq_F, b2_0, b2_b, both, reduceCtorEq]
end TELL

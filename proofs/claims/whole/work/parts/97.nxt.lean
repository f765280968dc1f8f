-- LAND: what a place count and a way told change
section NXT
variable {g : GG} {I A : II} {t P w n q m : Nat}
def nxP (A : II) (v : Int) : II := pr A 14 (uf (A 14) 0 v)
theorem needA_b (hS : okS A P w n q m) {v : Int} (h : needA A w n q m ≤ v) : (∀ j, j < w → A 0 j < v ∧ A 1 j < v) ∧ (∀ i, i < n → A 4 i < v) ∧ A 7 3 < v ∧ A 14 5 < v ∧ (∀ j : Nat, j < 8 → v ≤ (j : Int) → A 8 j = 0) ∧ (∀ j, j < q → A 10 j < v) ∧ (∀ j, j < m → A 12 j < v) := by
  unfold needA at h
  have h := Int.le_sub_one_of_lt (Int.lt_of_lt_of_le (Int.lt_succ _) h)
  rw [mxP_le 8, mxF_le m, mxF_le q, mxF_le n, mxW_le w] at h
  obtain ⟨⟨⟨⟨⟨h1, h2⟩, h3⟩, h4⟩, h5⟩, h6⟩ := h
  have h8 := hS.2.2.2.2.2.2.2.1
  refine ⟨fun j hj => ?_, fun i hi => ?_, by omega, by omega, fun j hj hv => ?_, fun j hj => ?_, fun j hj => ?_⟩
  · have := h2 j hj; omega
  · have := h3 i hi; omega
  · have k := (h8 j hj).1
    refine Classical.byContradiction (fun z => ?_)
    have := h6 j hj (decide_eq_true (by omega))
    omega
  · have := h4 j hj; omega
  · have := h5 j hj; omega
theorem okS_nxP (hS : okS A P w n q m) {v : Nat} (hv : 2 ≤ v ∧ v ≤ 8) (h : needA A w n q m ≤ v) : okS (nxP A v) v w n q m := by
  obtain ⟨b1, b2, b3, b4, b5, b6, b7⟩ := needA_b hS h
  obtain ⟨⟨s0, s1, s2, s3, s4⟩, hP, ⟨hw, hwj⟩, hA, hpl, hst, h73, hwt, ⟨hq, hqj⟩, ⟨hm, hmj⟩, hhb, ⟨hl5, hl5b⟩, hl6⟩ := hS
  have eo : ∀ a, ¬ a = 14 → nxP A v a = A a := fun a ha => by unfold nxP; rw [pr_o ha]
  have e14 : nxP A v 14 = uf (A 14) 0 v := by unfold nxP; rw [pr_s]
  unfold okS okA okSt
  rw [eo 0 (by omega), eo 1 (by omega), eo 2 (by omega), eo 3 (by omega), eo 4 (by omega), eo 5 (by omega), eo 6 (by omega), eo 7 (by omega), eo 8 (by omega), eo 9 (by omega), eo 10 (by omega), eo 11 (by omega), eo 12 (by omega), eo 13 (by omega), e14, uf_s, uf_o (by omega), uf_o (by omega), uf_o (by omega), uf_o (by omega), uf_o (by omega), uf_o (by omega)]
  refine ⟨⟨rfl, s1, s2, s3, s4⟩, hv, ⟨hw, fun j hj => ?_⟩, hA, b2, hst, b3, fun j hj => ⟨(hwt j hj).1, (hwt j hj).2.1, fun z => b5 j hj (by omega)⟩, ⟨hq, fun j hj => ⟨⟨(hqj j hj).1.1, b6 j hj⟩, (hqj j hj).2⟩⟩, ⟨hm, fun j hj => ⟨(hmj j hj).1, b7 j hj⟩⟩, hhb, ⟨hl5, b4⟩, hl6⟩
  obtain ⟨x1, x2, x3, x4⟩ := hwj j hj
  exact ⟨⟨x1.1, (b1 j hj).1⟩, ⟨x2.1, (b1 j hj).2⟩, x3, x4⟩
theorem TH_rows {A' : II} (h : TH g I t A n) (e : A' 3 = A 3 ∧ A' 4 = A 4 ∧ A' 5 = A 5 ∧ A' 6 = A 6) : TH g I t A' n := by
  unfold TH
  rw [e.1, e.2.1, e.2.2.1, e.2.2.2]
  exact h
theorem TW_nxP (ht : t ≤ 19) (hT : TW g I t A w n) (v : Int) : TW g (pr I t (uf (I t) 0 v)) t (nxP A v) w n := by
  obtain ⟨⟨f0, f1, f4, f7, f11⟩, h1, hTH, r4, r5, r6, r7, r8, r9, ⟨l0, l1, l2⟩, lh⟩ := hT
  have eo : ∀ a, ¬ a = 14 → nxP A v a = A a := fun a ha => by unfold nxP; rw [pr_o ha]
  have e14 : nxP A v 14 = uf (A 14) 0 v := by unfold nxP; rw [pr_s]
  have io : ∀ a, ¬ a = t → pr I t (uf (I t) 0 v) a = I a := fun a ha => pr_o ha
  have hTH' : TH g (pr I t (uf (I t) 0 v)) t (nxP A v) n := TH_rows (TH_fr hTH (fun a ha => io a (by omega))) ⟨eo 3 (by omega), eo 4 (by omega), eo 5 (by omega), eo 6 (by omega)⟩
  refine ⟨⟨?_, ?_, ?_, ?_, ?_⟩, ?_, hTH', ?_, ?_, ?_, ?_, ?_, ?_, ⟨?_, ?_, ?_⟩, ?_⟩
  · rw [pr_s, uf_s, e14, uf_s]
  · rw [pr_s, uf_o (by omega), e14, uf_o (by omega)]; exact f1
  · rw [pr_s, uf_o (by omega), e14, uf_o (by omega)]; exact f4
  · rw [pr_s, uf_o (by omega), e14, uf_o (by omega)]; exact f7
  · rw [pr_s, uf_o (by omega), e14, uf_o (by omega)]; exact f11
  · rw [io _ (by omega), eo 0 (by omega), eo 1 (by omega), eo 2 (by omega)]; exact h1
  · rw [io _ (by omega), eo 7 (by omega)]; exact r4
  · rw [io _ (by omega), eo 12 (by omega)]; exact r5
  · rw [io _ (by omega), eo 8 (by omega)]; exact r6
  · rw [io _ (by omega), eo 9 (by omega)]; exact r7
  · rw [io _ (by omega), eo 10 (by omega)]; exact r8
  · rw [io _ (by omega), eo 11 (by omega)]; exact r9
  · rw [io _ (by omega), e14, uf_o (by omega)]; exact l0
  · rw [io _ (by omega), e14, uf_o (by omega)]; exact l1
  · rw [io _ (by omega), e14, uf_o (by omega)]; exact l2
  · rw [io _ (by omega), eo 13 (by omega)]; exact lh
theorem MR_nxP (hM : MR I A) (v : Int) : MR (pr I 57 (uf (I 57) 14 v)) (nxP A v) := by
  obtain ⟨m0, m1, m2, m3, m4, m5, m6, m7, m8, m9, m10, m11, m12, m13, m14, m15, m16, m17, m18, m19, m20, m21⟩ := hM
  unfold MR nxP
  simp (disch := omega) only [pr_s, pr_o, uf_s, uf_o, m0, m1, m2, m3, m4, m5, m6, m7, m8, m9, m10, m11, m12, m13, m15, m16, m17, m18, m19, m20, m21, and_self]
-- a way
theorem okS_nxW (hS : okS A P w n q m) {a b l : Int} (hf : fitW A P w a b l) : okS (nxW A w a b l) P (w + 1) n q m := by
  obtain ⟨⟨s0, s1, s2, s3, s4⟩, hP, ⟨hw, hwj⟩, hA, hpl, hst, h73, hwt, hq, hm, hhb, hl5, hl6⟩ := hS
  obtain ⟨⟨ha, hb, hab, hl⟩, hw', hy⟩ := hf
  have eo : ∀ c, 3 ≤ c → ¬ c = 14 → nxW A w a b l c = A c := fun c h1 h2 => by unfold nxW; rw [pr_o h2, pr_o (by omega), pr_o (by omega), pr_o (by omega)]
  have e14 : nxW A w a b l 14 = uf (A 14) 1 ((w : Int) + 1) := by unfold nxW; rw [pr_s]
  have e0 : nxW A w a b l 0 = uf (A 0) w a := by unfold nxW; rw [pr_o (by omega), pr_o (by omega), pr_o (by omega), pr_s]
  have e1 : nxW A w a b l 1 = uf (A 1) w b := by unfold nxW; rw [pr_o (by omega), pr_o (by omega), pr_s]
  have e2 : nxW A w a b l 2 = uf (A 2) w l := by unfold nxW; rw [pr_o (by omega), pr_s]
  unfold okS okA okSt
  rw [e0, e1, e2, eo 3 (by omega) (by omega), eo 4 (by omega) (by omega), eo 5 (by omega) (by omega), eo 6 (by omega) (by omega), eo 7 (by omega) (by omega), eo 8 (by omega) (by omega), eo 9 (by omega) (by omega), eo 10 (by omega) (by omega), eo 11 (by omega) (by omega), eo 12 (by omega) (by omega), eo 13 (by omega) (by omega), e14, uf_s, uf_o (by omega), uf_o (by omega), uf_o (by omega), uf_o (by omega), uf_o (by omega), uf_o (by omega)]
  refine ⟨⟨s0, by omega, s2, s3, s4⟩, hP, ⟨by omega, fun j hj => ?_⟩, hA, hpl, hst, h73, hwt, hq, hm, hhb, hl5, hl6⟩
  by_cases z : j = w
  · subst z
    rw [uf_s, uf_s, uf_s]
    exact ⟨ha, hb, hab, hl⟩
  · rw [uf_o z, uf_o z, uf_o z]
    exact hwj j (by omega)
theorem TW_nxW (ht : t ≤ 19) (hT : TW g I t A w n) {a b : Nat} {l : Int} : TW g (pr (pr I (t + 1) (uf (uf (I (t + 1)) (8 * a + b) l) (8 * b + a) l)) t (uf (I t) 1 ((w : Int) + 1))) t (nxW A w a b l) (w + 1) n := by
  obtain ⟨⟨f0, f1, f4, f7, f11⟩, h1, hTH, r4, r5, r6, r7, r8, r9, ⟨l0, l1, l2⟩, lh⟩ := hT
  obtain ⟨J, hJ⟩ : ∃ J, J = pr (pr I (t + 1) (uf (uf (I (t + 1)) (8 * a + b) l) (8 * b + a) l)) t (uf (I t) 1 ((w : Int) + 1)) := ⟨_, rfl⟩
  rw [← hJ]
  have eo : ∀ c, 3 ≤ c → ¬ c = 14 → nxW A w a b l c = A c := fun c h1 h2 => by unfold nxW; rw [pr_o h2, pr_o (by omega), pr_o (by omega), pr_o (by omega)]
  have e14 : nxW A w a b l 14 = uf (A 14) 1 ((w : Int) + 1) := by unfold nxW; rw [pr_s]
  have e0 : nxW A w a b l 0 = uf (A 0) w a := by unfold nxW; rw [pr_o (by omega), pr_o (by omega), pr_o (by omega), pr_s]
  have e1 : nxW A w a b l 1 = uf (A 1) w b := by unfold nxW; rw [pr_o (by omega), pr_o (by omega), pr_s]
  have e2 : nxW A w a b l 2 = uf (A 2) w l := by unfold nxW; rw [pr_o (by omega), pr_s]
  have io : ∀ c, ¬ c = t → ¬ c = t + 1 → J c = I c := fun c h1 h2 => by rw [hJ, pr_o h1, pr_o h2]
  have it : J t = uf (I t) 1 ((w : Int) + 1) := by rw [hJ, pr_s]
  have i1 : J (t + 1) = uf (uf (I (t + 1)) (8 * a + b) l) (8 * b + a) l := by rw [hJ, pr_o (by omega), pr_s]
  have hTH' : TH g J t (nxW A w a b l) n := TH_rows (TH_fr hTH (fun c ha => io c (by omega) (by omega))) ⟨eo 3 (by omega) (by omega), eo 4 (by omega) (by omega), eo 5 (by omega) (by omega), eo 6 (by omega) (by omega)⟩
  refine ⟨⟨?_, ?_, ?_, ?_, ?_⟩, ?_, hTH', ?_, ?_, ?_, ?_, ?_, ?_, ⟨?_, ?_, ?_⟩, ?_⟩
  · rw [it, uf_o (by omega), e14, uf_o (by omega)]; exact f0
  · rw [it, uf_s, e14, uf_s]
  · rw [it, uf_o (by omega), e14, uf_o (by omega)]; exact f4
  · rw [it, uf_o (by omega), e14, uf_o (by omega)]; exact f7
  · rw [it, uf_o (by omega), e14, uf_o (by omega)]; exact f11
  · have ed : dwy (uf (A 0) w a) (uf (A 1) w b) (uf (A 2) w l) (w + 1) z0 = uf (uf (dwy (A 0) (A 1) (A 2) w z0) (8 * a + b) l) (8 * b + a) l := by
      show uf (uf (dwy (uf (A 0) w a) (uf (A 1) w b) (uf (A 2) w l) w z0) (8 * (uf (A 0) w a w).toNat + (uf (A 1) w b w).toNat) (uf (A 2) w l w)) (8 * (uf (A 1) w b w).toNat + (uf (A 0) w a w).toNat) (uf (A 2) w l w) = _
      rw [uf_s, uf_s, uf_s, Int.toNat_natCast, Int.toNat_natCast, dwy_c z0 w (fun j hj => ⟨uf_o (by omega), uf_o (by omega), uf_o (by omega)⟩)]
    rw [i1, e0, e1, e2, ed]
    exact uf_e (uf_e h1 _ _) _ _
  · rw [io _ (by omega) (by omega), eo 7 (by omega) (by omega)]; exact r4
  · rw [io _ (by omega) (by omega), eo 12 (by omega) (by omega)]; exact r5
  · rw [io _ (by omega) (by omega), eo 8 (by omega) (by omega)]; exact r6
  · rw [io _ (by omega) (by omega), eo 9 (by omega) (by omega)]; exact r7
  · rw [io _ (by omega) (by omega), eo 10 (by omega) (by omega)]; exact r8
  · rw [io _ (by omega) (by omega), eo 11 (by omega) (by omega)]; exact r9
  · rw [io _ (by omega) (by omega), e14, uf_o (by omega)]; exact l0
  · rw [io _ (by omega) (by omega), e14, uf_o (by omega)]; exact l1
  · rw [io _ (by omega) (by omega), e14, uf_o (by omega)]; exact l2
  · rw [io _ (by omega) (by omega), eo 13 (by omega) (by omega)]; exact lh
theorem MR_nxW (hM : MR I A) (a b l : Int) : MR (pr (pr (pr (pr I 59 (uf (I 59) w a)) 60 (uf (I 60) w b)) 61 (uf (I 61) w l)) 57 (uf (I 57) 15 ((w : Int) + 1))) (nxW A w a b l) := by
  obtain ⟨m0, m1, m2, m3, m4, m5, m6, m7, m8, m9, m10, m11, m12, m13, m14, m15, m16, m17, m18, m19, m20, m21⟩ := hM
  unfold MR nxW
  simp (disch := omega) only [pr_s, pr_o, uf_s, uf_o, m0, m1, m2, m3, m4, m5, m6, m7, m8, m9, m10, m11, m12, m13, m14, m16, m17, m18, m19, m20, m21, and_self]
end NXT

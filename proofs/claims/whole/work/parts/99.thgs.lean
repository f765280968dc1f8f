-- LAND: what a thing told changes
section GTH
variable {g : GG} {t n : Nat} {kd : Int}
theorem gth_K {b : Nat} (hn : ¬ b = gN g) : gK (gth g t kd n) b = gK g b := by
  show gK (gnew g (0, clsO kd) 5) b = _
  rw [gK_new, if_neg hn]
theorem gth_Kn : gK (gth g t kd n) (gN g) = (0, clsO kd) := by
  show gK (gnew g (0, clsO kd) 5) (gN g) = _
  rw [gK_new, if_pos rfl]
theorem gth_N : gN (gth g t kd n) = gN g + 1 := rfl
theorem gth_S : gS (gth g t kd n) = gS g + 5 := rfl
theorem gth_Ro {b k : Nat} (hb : ¬ b = t + 3) (hn : ¬ b = gN g) : gR (gth g t kd n) b k = gR g b k := by
  show (if b = t + 3 then (fun j => if j = n then some (gN g) else gR (gnew g (0, clsO kd) 5) (t + 3) j) else (gnew g (0, clsO kd) 5).2.1 b) k = _
  rw [if_neg hb]
  show gR (gnew g (0, clsO kd) 5) b k = _
  rw [gR_new, if_neg hn]
theorem gth_R3 {k : Nat} (hn : ¬ t + 3 = gN g) : gR (gth g t kd n) (t + 3) k = if k = n then some (gN g) else gR g (t + 3) k := by
  show (if t + 3 = t + 3 then (fun j => if j = n then some (gN g) else gR (gnew g (0, clsO kd) 5) (t + 3) j) else (gnew g (0, clsO kd) 5).2.1 (t + 3)) k = _
  rw [if_pos rfl, gR_new, if_neg hn]
theorem WZ_gth (ht : t = 6 ∨ t = 19) (h90 : 90 ≤ gN g) (hg : WZ g) (hk : 0 ≤ kd ∧ kd ≤ 5) : WZ (gth g t kd n) := by
  obtain ⟨h1, h2, ⟨h6, h19, h32⟩, n6, n19, n32⟩ := hg
  have hK : ∀ a, a < 90 → gK (gth g t kd n) a = gK g a := fun a ha => gth_K (by omega)
  have hR : ∀ a k, a < 90 → ¬ a = t + 3 → gR (gth g t kd n) a k = gR g a k := fun a k ha hb => gth_Ro hb (by omega)
  have r57 : ∀ k, gR (gth g t kd n) 57 k = gR g 57 k := fun k => hR 57 k (by omega) (by omega)
  have r5 : ∀ k, gR (gth g t kd n) 5 k = gR g 5 k := fun k => hR 5 k (by omega) (by omega)
  have r47 : ∀ k, gR (gth g t kd n) 47 k = gR g 47 k := fun k => hR 47 k (by omega) (by omega)
  have r48 : ∀ k, gR (gth g t kd n) 48 k = gR g 48 k := fun k => hR 48 k (by omega) (by omega)
  have hwt : ∀ T, WT g T → (T = 6 ∨ T = 19 ∨ T = 32) → WT (gth g t kd n) T := by
    intro T hT hT3
    have a1 : ∀ k, gR (gth g t kd n) T k = gR g T k := fun k => hR T k (by omega) (by omega)
    have a2 : ∀ k, gR (gth g t kd n) (T + 10) k = gR g (T + 10) k := fun k => hR (T + 10) k (by omega) (by omega)
    unfold WT
    simp (disch := omega) only [hK, a1, a2]
    exact hT
  have hth : ∀ b, b < gN g → isTh g b → isTh (gth g t kd n) b := fun b hb h => by
    unfold isTh
    rw [gth_K (by omega)]
    exact h
  have htn : ∀ T, TN g T → (T = 6 ∨ T = 19 ∨ T = 32) → TN (gth g t kd n) T := by
    intro T hTT hT3 i hi
    obtain ⟨b, b1, b2, b3, b4⟩ := hTT i hi
    by_cases c : T = t
    · subst c
      by_cases z : i = n
      · refine ⟨gN g, by rw [gth_R3 (by omega), if_pos z], by omega, by rw [gth_N]; omega, isTh_of gth_Kn ?_⟩
        rcases kd_six hk with e | e | e | e | e | e <;> rw [e] <;> decide
      · exact ⟨b, by rw [gth_R3 (by omega), if_neg z]; exact b1, b2, by rw [gth_N]; omega, hth b b3 b4⟩
    · exact ⟨b, by rw [hR (T + 3) i (by omega) (by omega)]; exact b1, b2, by rw [gth_N]; omega, hth b b3 b4⟩
  refine ⟨?_, ?_, ⟨hwt 6 h6 (by omega), hwt 19 h19 (by omega), hwt 32 h32 (by omega)⟩, htn 6 n6 (by omega), htn 19 n19 (by omega), htn 32 n32 (by omega)⟩
  · unfold WM
    simp (disch := omega) only [hK, r57]
    exact h1
  · unfold WX
    simp (disch := omega) only [hK, r5, r47, r48]
    exact h2
end GTH
section NXTH
variable {g : GG} {I A : II} {t P w n q m : Nat} {kd pl wo ak : Int}
def fitT (P n : Nat) (kd pl ak : Int) : Prop := pl < P ∧ n < 7 ∧ (kd = 2 → ak < n)
def nxT (A : II) (n : Nat) (kd pl wo ak : Int) : II := pr (pr (pr (pr (pr A 3 (uf (A 3) n kd)) 4 (uf (A 4) n pl)) 5 (uf (A 5) n wo)) 6 (uf (A 6) n ak)) 14 (uf (A 14) 2 ((n : Int) + 1))
theorem nxT_3 : nxT A n kd pl wo ak 3 = uf (A 3) n kd := by unfold nxT; rw [pr_o (by omega), pr_o (by omega), pr_o (by omega), pr_o (by omega), pr_s]
theorem nxT_4 : nxT A n kd pl wo ak 4 = uf (A 4) n pl := by unfold nxT; rw [pr_o (by omega), pr_o (by omega), pr_o (by omega), pr_s]
theorem nxT_5 : nxT A n kd pl wo ak 5 = uf (A 5) n wo := by unfold nxT; rw [pr_o (by omega), pr_o (by omega), pr_s]
theorem nxT_6 : nxT A n kd pl wo ak 6 = uf (A 6) n ak := by unfold nxT; rw [pr_o (by omega), pr_s]
theorem nxT_14 : nxT A n kd pl wo ak 14 = uf (A 14) 2 ((n : Int) + 1) := by unfold nxT; rw [pr_s]
theorem nxT_o {c : Nat} (h : ¬ c = 14) (h2 : c < 3 ∨ 6 < c) : nxT A n kd pl wo ak c = A c := by unfold nxT; rw [pr_o h, pr_o (by omega), pr_o (by omega), pr_o (by omega), pr_o (by omega)]
theorem okS_nxT (hS : okS A P w n q m) (hk : 0 ≤ kd ∧ kd ≤ 5) (hpl : 0 ≤ pl) (hwo : 0 ≤ wo ∧ wo ≤ 99) (hak : 0 ≤ ak) (hf : fitT P n kd pl ak) : okS (nxT A n kd pl wo ak) P w (n + 1) q m := by
  obtain ⟨⟨s0, s1, s2, s3, s4⟩, hP, hw, ⟨hA, hAi⟩, hp4, hst, h73, hwt, hq, hm, ⟨hhb, hh0⟩, hl5, hl6⟩ := hS
  obtain ⟨f1, f2, f3⟩ := hf
  unfold okS okA okSt
  rw [nxT_o (c := 0) (by omega) (by omega), nxT_o (c := 1) (by omega) (by omega), nxT_o (c := 2) (by omega) (by omega), nxT_3, nxT_4, nxT_5, nxT_6, nxT_o (c := 7) (by omega) (by omega), nxT_o (c := 8) (by omega) (by omega), nxT_o (c := 9) (by omega) (by omega), nxT_o (c := 10) (by omega) (by omega), nxT_o (c := 11) (by omega) (by omega), nxT_o (c := 12) (by omega) (by omega), nxT_o (c := 13) (by omega) (by omega), nxT_14, uf_s, uf_o (by omega), uf_o (by omega), uf_o (by omega), uf_o (by omega), uf_o (by omega), uf_o (by omega)]
  refine ⟨⟨s0, s1, by omega, s3, s4⟩, hP, hw, ⟨by omega, fun i hi => ?_⟩, fun i hi => ?_, hst, h73, hwt, hq, hm, ⟨hhb, fun j hj hj7 => hh0 j (by omega) hj7⟩, hl5, hl6⟩
  · by_cases z : i = n
    · subst z
      rw [uf_s, uf_s, uf_s, uf_s]
      exact ⟨⟨hk, f2, hwo, hak, f3⟩, hpl, by omega⟩
    · rw [uf_o z, uf_o z, uf_o z, uf_o z]
      exact hAi i (by omega)
  · by_cases z : i = n
    · subst z
      rw [uf_s]
      exact f1
    · rw [uf_o z]
      exact hp4 i (by omega)
theorem TW_nxT (ht : t = 6 ∨ t = 19) (h90 : 90 ≤ gN g) (hTN : TN g t) (hn : n < 7) (hT : TW g I t A w n) : TW (gth g t kd n) (pr (pr I (gN g) (thr kd n pl wo ak)) t (uf (I t) 4 ((n : Int) + 1))) t (nxT A n kd pl wo ak) w (n + 1) := by
  obtain ⟨⟨f0, f1, f4, f7, f11⟩, h1, hTH, r4, r5, r6, r7, r8, r9, ⟨l0, l1, l2⟩, lh⟩ := hT
  obtain ⟨J, hJ⟩ : ∃ J, J = pr (pr I (gN g) (thr kd n pl wo ak)) t (uf (I t) 4 ((n : Int) + 1)) := ⟨_, rfl⟩
  rw [← hJ]
  have io : ∀ c, ¬ c = t → ¬ c = gN g → J c = I c := fun c h1 h2 => by rw [hJ, pr_o h1, pr_o h2]
  have it : J t = uf (I t) 4 ((n : Int) + 1) := by rw [hJ, pr_s]
  have iN : J (gN g) = thr kd n pl wo ak := by rw [hJ, pr_o (by omega), pr_s]
  have hTH' : TH (gth g t kd n) J t (nxT A n kd pl wo ak) (n + 1) := by
    intro i hi
    rw [nxT_3, nxT_4, nxT_5, nxT_6]
    by_cases z : i = n
    · subst z
      rw [uf_s, uf_s, uf_s, uf_s]
      refine ⟨gN g, h90, by rw [gth_R3 (by omega), if_pos rfl], gth_Kn, ?_, ?_, ?_, ?_, ?_⟩
      all_goals rw [iN]; rfl
    · rw [uf_o z, uf_o z, uf_o z, uf_o z]
      obtain ⟨b, b1, b2, b3⟩ := hTH i (by omega)
      obtain ⟨b', c1, c2, c3, c4⟩ := hTN i (by omega)
      have eb : b = b' := by rw [b2] at c1; exact Option.some.inj c1
      have hb : b < gN g := by omega
      refine ⟨b, b1, by rw [gth_R3 (by omega), if_neg z]; exact b2, ?_⟩
      rw [ThA, gth_K (by omega), io b (by omega) (by omega)]
      exact b3
  refine ⟨⟨?_, ?_, ?_, ?_, ?_⟩, ?_, hTH', ?_, ?_, ?_, ?_, ?_, ?_, ⟨?_, ?_, ?_⟩, ?_⟩
  · rw [it, uf_o (by omega), nxT_14, uf_o (by omega)]; exact f0
  · rw [it, uf_o (by omega), nxT_14, uf_o (by omega)]; exact f1
  · rw [it, uf_s, nxT_14, uf_s]
  · rw [it, uf_o (by omega), nxT_14, uf_o (by omega)]; exact f7
  · rw [it, uf_o (by omega), nxT_14, uf_o (by omega)]; exact f11
  · rw [io _ (by omega) (by omega), nxT_o (by omega) (by omega), nxT_o (by omega) (by omega), nxT_o (by omega) (by omega)]; exact h1
  · rw [io _ (by omega) (by omega), nxT_o (by omega) (by omega)]; exact r4
  · rw [io _ (by omega) (by omega), nxT_o (by omega) (by omega)]; exact r5
  · rw [io _ (by omega) (by omega), nxT_o (by omega) (by omega)]; exact r6
  · rw [io _ (by omega) (by omega), nxT_o (by omega) (by omega)]; exact r7
  · rw [io _ (by omega) (by omega), nxT_o (by omega) (by omega)]; exact r8
  · rw [io _ (by omega) (by omega), nxT_o (by omega) (by omega)]; exact r9
  · rw [io _ (by omega) (by omega), nxT_14, uf_o (by omega)]; exact l0
  · rw [io _ (by omega) (by omega), nxT_14, uf_o (by omega)]; exact l1
  · rw [io _ (by omega) (by omega), nxT_14, uf_o (by omega)]; exact l2
  · rw [io _ (by omega) (by omega), nxT_o (by omega) (by omega)]; exact lh
theorem MR_nxT (hM : MR I A) (hz : A 13 n = 0) : MR (pr (pr (pr (pr (pr (pr I 62 (uf (I 62) n kd)) 63 (uf (I 63) n pl)) 64 (uf (I 64) n wo)) 65 (uf (I 65) n ak)) 81 (uf (I 81) n 0)) 57 (uf (I 57) 16 ((n : Int) + 1))) (nxT A n kd pl wo ak) := by
  obtain ⟨m0, m1, m2, m3, m4, m5, m6, m7, m8, m9, m10, m11, m12, m13, m14, m15, m16, m17, m18, m19, m20, m21⟩ := hM
  have e : uf (A 13) n 0 = A 13 := by
    have h := uf_id (A 13) n
    rw [hz] at h
    exact h
  unfold MR nxT
  simp (disch := omega) only [pr_s, pr_o, uf_s, uf_o, m0, m1, m2, m3, m4, m5, m6, m7, m8, m9, m10, m11, m12, m13, m14, m15, m17, m18, m19, m20, m21, e, and_self]
end NXTH

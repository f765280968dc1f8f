-- THE CALLS OF A THING, and a LIFE of the class
theorem WPv_eq {d : Nat} {tg : List (Nat × Nat)} {b ci m : Nat} {as : List PV} {ls : LL} {g : GG} {I : II} {Q : QQ} (hk : gK g b = (0, ci)) (hl : tg.lookup ci = some m) (he : entryL m (vr (some b) :: as) = ls) : WPv d tg b as g I Q = WP d m 0 ls [] g I Q := by
  unfold WPv
  rw [hk]
  refine propext ⟨fun h => ?_, fun h => ⟨m, hl, he ▸ h⟩⟩
  obtain ⟨m', h1, h2⟩ := h
  rw [hl] at h1
  cases h1
  rw [he] at h2
  exact h2
abbrev ThA (g : GG) (I : II) (b : Nat) (kd : Int) (num : Nat) (pl wo ak : Int) : Prop := gK g b = (0, clsO kd) ∧ I b 0 = kd ∧ I b 1 = (num : Int) ∧ I b 2 = pl ∧ I b 3 = wo ∧ I b 4 = ak
abbrev okTh (kd : Int) (num : Nat) (wo ak : Int) : Prop := (0 ≤ kd ∧ kd ≤ 5) ∧ num < 7 ∧ (0 ≤ wo ∧ wo ≤ 99) ∧ 0 ≤ ak ∧ (kd = 2 → ak < num)
theorem kd_six {kd : Int} (h : 0 ≤ kd ∧ kd ≤ 5) : kd = 0 ∨ kd = 1 ∨ kd = 2 ∨ kd = 3 ∨ kd = 4 ∨ kd = 5 := by omega
theorem isTh_of {g : GG} {b ci : Nat} (h : gK g b = (0, ci)) (hc : ci ∈ [0, 1, 2, 3, 6, 9]) : isTh g b := by
  unfold isTh
  rw [h]
  exact ⟨rfl, hc⟩
section DISP
variable {g : GG} {I : II} {b s h num : Nat} {kd pl wo ak : Int}
theorem ct_wT (hA : ThA g I b kd num pl wo ak) (ok : okTh kd num wo ak) (hs : gK g s = (1, 4)) (d : Nat) (Q : QQ) (age n : Int) (ha : 0 ≤ age ∧ age ≤ 1000000) (ho : 0 ≤ I s 1 ∧ I s 1 ≤ 1000) (hn : 0 ≤ n) : WPv (d + 2) tgW b [vi age, vi n, vr (some s)] g I Q = Q (some (vi (wth kd wo ak (I s 0) (I s 1) age n))) g I := by
  obtain ⟨hk, h0, h1, h2, h3, h4⟩ := hA
  obtain ⟨hkd, hnum, hwo, hak, hb⟩ := ok
  rcases kd_six hkd with rfl | rfl | rfl | rfl | rfl | rfl
  · rw [WPv_eq (ci := 6) (m := m_X6_worthThen) (ls := [some (vr (some b)), some (vi age), some (vi n), some (vr (some s))]) hk rfl rfl, ct_w6 (I := I) (isTh_of hk (by decide)), h3]; rfl
  · rw [WPv_eq (ci := 0) (m := m_X0_worthThen) (ls := [some (vr (some b)), some (vi age), some (vi n), some (vr (some s))]) hk rfl rfl, ct_w0 (I := I) (isTh_of hk (by decide)) (by omega) (by omega) _ _ _ _ hn, h3]; rfl
  · rw [WPv_eq (ci := 1) (m := m_X6_worthThen) (ls := [some (vr (some b)), some (vi age), some (vi n), some (vr (some s))]) hk rfl rfl, ct_w6 (I := I) (isTh_of hk (by decide)), h3]; rfl
  · rw [WPv_eq (ci := 9) (m := m_X10_worthThen) (ls := [some (vr (some b)), some (vi age), some (vi n), some (vr (some s)), none]) hk rfl rfl, ct_w9 (I := I) (isTh_of hk (by decide)) hk (by omega) (by omega), h3, h4]; rfl
  · rw [WPv_eq (ci := 2) (m := m_X2_worthThen) (ls := [some (vr (some b)), some (vi age), some (vi n), some (vr (some s))]) hk rfl rfl, ct_w2 (I := I) (isTh_of hk (by decide)) (by rw [hk]; decide) hs, h3]; rfl
  · rw [WPv_eq (ci := 3) (m := m_X3_worthThen) (ls := [some (vr (some b)), some (vi age), some (vi n), some (vr (some s)), none]) hk rfl rfl, ct_w3 (I := I) (isTh_of hk (by decide)) (by rw [hk]; decide) hs (by omega) (by omega) _ _ _ _ ha ho, h3]; rfl
theorem ct_oT (hA : ThA g I b kd num pl wo ak) (ok : okTh kd num wo ak) (hh : gK g h = (1, 7)) (h0' : 0 ≤ I h num) (d : Nat) (Q : QQ) : WPv (d + 1) tgO b [vr (some h)] g I Q = Q (some (vi (bi (opn kd wo ak num (I h))))) g I := by
  obtain ⟨hk, h0, h1, h2, h3, h4⟩ := hA
  obtain ⟨hkd, hnum, hwo, hak, hb⟩ := ok
  have gen : ∀ (kd : Int) (P : Prop) [Decidable P], ¬ kd = 1 → ¬ kd = 2 → (P ↔ I h num = 0) → bi P = bi (opn kd wo ak num (I h)) := by
    intro kd P _ e1 e2 hP
    by_cases hp : P
    · rw [bi_T hp, bi_T]
      exact Or.inr ⟨e1, hP.mp hp, fun q => absurd q e2⟩
    · rw [bi_F hp, bi_F]
      rintro (q | q)
      · exact e1 q.1
      · exact hp (hP.mpr q.2.1)
  rcases kd_six hkd with rfl | rfl | rfl | rfl | rfl | rfl
  · rw [WPv_eq (ci := 6) (m := m_X6_isOpen) (ls := [some (vr (some b)), some (vr (some h))]) hk rfl rfl, ct_o6 (I := I) (isTh_of hk (by decide)) hh h1 hnum, gen 0 (I h num = 0) (by decide) (by decide) Iff.rfl]
  · rw [WPv_eq (ci := 0) (m := m_X0_isOpen) (ls := [some (vr (some b)), some (vr (some h))]) hk rfl rfl, ct_o0 (I := I) (isTh_of hk (by decide)) hh h1 hnum (by omega) (by omega) h0', h3]
    have : bi (0 < hlf wo (I h num)) = bi (opn 1 wo ak num (I h)) := by
      by_cases hp : 0 < hlf wo (I h num)
      · rw [bi_T hp, bi_T]; exact Or.inl ⟨rfl, hp⟩
      · rw [bi_F hp, bi_F]
        rintro (q | q)
        · exact hp q.2
        · exact q.1 rfl
    rw [this]
  · have hka : I b 4 = (ak.toNat : Int) := by rw [h4]; omega
    have hb2 := hb rfl
    rw [WPv_eq (ci := 1) (m := m_X1_isOpen) (ls := [some (vr (some b)), some (vr (some h))]) hk rfl rfl, ct_o1 (I := I) (isTh_of hk (by decide)) hk hh h1 hnum hka (by omega)]
    have : bi (I h num = 0 ∧ 0 < I h ak.toNat) = bi (opn 2 wo ak num (I h)) := by
      by_cases hp : I h num = 0 ∧ 0 < I h ak.toNat
      · rw [bi_T hp, bi_T]; exact Or.inr ⟨by decide, hp.1, fun _ => hp.2⟩
      · rw [bi_F hp, bi_F]
        rintro (q | q)
        · exact absurd q.1 (by decide)
        · exact hp ⟨q.2.1, q.2.2 rfl⟩
    rw [this]
  · rw [WPv_eq (ci := 9) (m := m_X6_isOpen) (ls := [some (vr (some b)), some (vr (some h))]) hk rfl rfl, ct_o6 (I := I) (isTh_of hk (by decide)) hh h1 hnum, gen 3 (I h num = 0) (by decide) (by decide) Iff.rfl]
  · rw [WPv_eq (ci := 2) (m := m_X6_isOpen) (ls := [some (vr (some b)), some (vr (some h))]) hk rfl rfl, ct_o6 (I := I) (isTh_of hk (by decide)) hh h1 hnum, gen 4 (I h num = 0) (by decide) (by decide) Iff.rfl]
  · rw [WPv_eq (ci := 3) (m := m_X6_isOpen) (ls := [some (vr (some b)), some (vr (some h))]) hk rfl rfl, ct_o6 (I := I) (isTh_of hk (by decide)) hh h1 hnum, gen 5 (I h num = 0) (by decide) (by decide) Iff.rfl]
end DISP

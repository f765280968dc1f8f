-- LAND: the fars of the draft; a reading rests on the bytes alone; what is kept
theorem dwy_far {a b m : Nat → Int} : ∀ w, (∀ j, j < w → (0 ≤ a j ∧ a j < 8) ∧ (0 ≤ b j ∧ b j < 8) ∧ a j ≠ b j ∧ 1 ≤ m j) → ∀ k, k < 64 → dwy a b m w (fll dgz 64 z0) k = if k / 8 = k % 8 then 0 else if 0 < dwy a b m w z0 k then dwy a b m w z0 k else 100000
  | 0, _, k, hk => by
    show fll dgz 64 z0 k = if k / 8 = k % 8 then 0 else if 0 < z0 k then z0 k else 100000
    have e0 : ¬ 0 < z0 k := by show ¬ (0 : Int) < 0; omega
    rw [if_neg e0]
    unfold fll dgz
    rw [if_pos hk]
  | w + 1, h, k, hk => by
    have ih := dwy_far w (fun j hj => h j (by omega)) k hk
    have hw := h w (by omega)
    have e : ∀ D, dwy a b m (w + 1) D k = if k = 8 * (b w).toNat + (a w).toNat then m w else if k = 8 * (a w).toNat + (b w).toNat then m w else dwy a b m w D k := fun D => rfl
    rw [e, e]
    by_cases c1 : k = 8 * (b w).toNat + (a w).toNat
    · rw [if_pos c1, if_pos c1, if_neg (by omega), if_pos (by omega)]
    rw [if_neg c1, if_neg c1]
    by_cases c2 : k = 8 * (a w).toNat + (b w).toNat
    · rw [if_pos c2, if_pos c2, if_neg (by omega), if_pos (by omega)]
    rw [if_neg c2, if_neg c2]
    exact ih
theorem dgs_e (D : Nat → Int) : ∀ p j, j < 64 → dgs p D j = if j / 8 = j % 8 ∧ j / 8 < p then 0 else D j
  | 0, j, _ => by rw [if_neg (by omega)]; rfl
  | p + 1, j, hj => by
    have ih := dgs_e D p j hj
    have e : dgs (p + 1) D j = if j = 8 * p + p then 0 else dgs p D j := rfl
    rw [e, ih]
    by_cases c : j = 8 * p + p
    · rw [if_pos c]
      by_cases c2 : p < 8
      · rw [if_pos (by omega)]
      · omega
    · rw [if_neg c]
      by_cases c2 : j / 8 = j % 8 ∧ j / 8 < p
      · rw [if_pos c2, if_pos (by omega)]
      · rw [if_neg c2, if_neg (by omega)]
theorem bD_dwy0 {a b m : Nat → Int} : ∀ w, (∀ j, j < w → 1 ≤ m j ∧ m j ≤ 200) → bD (dwy a b m w z0)
  | 0, _ => fun j _ => ⟨by show (0 : Int) ≤ 0; omega, by show (0 : Int) ≤ 100000; omega⟩
  | w + 1, h => by
    have hw := h w (by omega)
    exact bD_uf (bD_uf (bD_dwy0 w (fun j hj => h j (by omega))) (by omega) (by omega)) (by omega) (by omega)
theorem xfar_DA {W D : Nat → Int} {A : II} {P w n q m : Nat} (hS : okS A P w n q m) (hW : e64 W (dwy (A 0) (A 1) (A 2) w z0)) : e64 (xfar W D) (DA A P w) := by
  have hP := hS.2.1.2
  have k := okP_dwy hP z0 w hS.2.2.1.2
  have e := fwm_8 k.1 hP
  unfold xfar DA
  rw [← e]
  refine fwm_e (fun j hj => ?_) (by omega) 8 (by omega)
  have hd := dwy_far w (fun j hj => by have := hS.2.2.1.2 j hj; exact ⟨by omega, by omega, this.2.2.1, by omega⟩ : ∀ j, j < w → (0 ≤ A 0 j ∧ A 0 j < 8) ∧ (0 ≤ A 1 j ∧ A 1 j < 8) ∧ A 0 j ≠ A 1 j ∧ 1 ≤ A 2 j) j hj
  rw [dgs_e _ 8 j hj, hd]
  unfold fll wz
  rw [if_pos hj, hW j hj]
  by_cases c : j / 8 = j % 8
  · rw [if_pos ⟨c, by omega⟩, if_pos c]
  · rw [if_neg (fun z => c z.1), if_neg c]
section PLC
variable {T T' : Nat → Int} {n : Nat}
theorem nby_c (h : ∀ j, j < n → T j = T' j) : nby T n = nby T' n := by
  funext a
  unfold nby
  by_cases c : a < n
  · rw [if_pos c, if_pos c, h a c]
  · rw [if_neg c, if_neg c]
theorem dgt_c (h : ∀ j, j < n → T j = T' j) {a : Nat} (c : dgt T n a) : dgt T' n a := by
  have e := h a c.1
  have c2 := c.2
  exact ⟨c.1, by omega⟩
theorem nbr_c (h : ∀ j, j < n → T j = T' j) : ∀ k v a, nbr T n k v a = nbr T' n k v a
  | 0, v, a => rfl
  | k + 1, v, a => by
    show (if dgt T n a then nbr T n k (10 * v + T a - 48) (a + 1) else (v, a)) = (if dgt T' n a then nbr T' n k (10 * v + T' a - 48) (a + 1) else (v, a))
    by_cases c : dgt T n a
    · rw [if_pos c, if_pos (dgt_c h c), h a c.1]
      exact nbr_c h k _ _
    · rw [if_neg c, if_neg (fun z => c (dgt_c (fun j hj => (h j hj).symm) z))]
theorem num_c (h : ∀ j, j < n → T j = T' j) : num T n = num T' n := by
  funext k a
  unfold num
  by_cases c : dgt T n a
  · rw [if_pos c, if_pos (dgt_c h c)]
    exact nbr_c h k _ _
  · rw [if_neg c, if_neg (fun z => c (dgt_c (fun j hj => (h j hj).symm) z))]
theorem stp_c (h : ∀ j, j < n → T j = T' j) : stp T n = stp T' n := by
  funext a
  unfold stp stN stW stT stE
  rw [nby_c h, num_c h]
theorem pl_c (h : ∀ j, j < n → T j = T' j) : ∀ f a, pl T n f a = pl T' n f a
  | 0, a => rfl
  | f + 1, a => by rw [pl_s, pl_s, stp_c h, pl_c h f]
end PLC
theorem WZ_put {g : GG} {a k : Nat} {r : Option Nat} (ha : (a = 5 ∧ k ≤ 1) ∨ a = 45) (hg : WZ g) : WZ (gput g a k r) := by
  obtain ⟨h1, h2, ⟨h6, h19, h32⟩, n6, n19, n32⟩ := hg
  have hK : ∀ b, gK (gput g a k r) b = gK g b := fun b => rfl
  have hR : ∀ b, ¬ b = a → ∀ j, gR (gput g a k r) b j = gR g b j := fun b hb j => by rw [gput_ne hb]
  have r57 : ∀ j, gR (gput g a k r) 57 j = gR g 57 j := hR 57 (by omega)
  have r47 : ∀ j, gR (gput g a k r) 47 j = gR g 47 j := hR 47 (by omega)
  have r48 : ∀ j, gR (gput g a k r) 48 j = gR g 48 j := hR 48 (by omega)
  have r5 : ∀ j, 2 ≤ j → gR (gput g a k r) 5 j = gR g 5 j := fun j hj => by
    rcases ha with ⟨e, e2⟩ | e
    · rw [e, gput_at, if_neg (by omega)]
    · exact hR 5 (by omega) j
  have hwt : ∀ T, WT g T → (T = 6 ∨ T = 19 ∨ T = 32) → WT (gput g a k r) T := by
    intro T hT hT3
    have a1 : ∀ k', gR (gput g a k r) T k' = gR g T k' := hR T (by omega)
    have a2 : ∀ k', gR (gput g a k r) (T + 10) k' = gR g (T + 10) k' := hR (T + 10) (by omega)
    unfold WT
    simp only [hK, a1, a2]
    exact hT
  have htn : ∀ T, TN g T → (T = 6 ∨ T = 19 ∨ T = 32) → TN (gput g a k r) T := by
    intro T hTT hT3 i hi
    obtain ⟨b, b1, b2, b3, b4⟩ := hTT i hi
    exact ⟨b, by rw [hR (T + 3) (by omega)]; exact b1, b2, b3, by rw [isTh_sm hK]; exact b4⟩
  refine ⟨?_, ?_, ⟨hwt 6 h6 (by omega), hwt 19 h19 (by omega), hwt 32 h32 (by omega)⟩, htn 6 n6 (by omega), htn 19 n19 (by omega), htn 32 n32 (by omega)⟩
  · unfold WM
    simp only [hK, r57]
    exact h1
  · unfold WX
    simp (disch := omega) only [hK, r5, r47, r48]
    exact h2
theorem TR_gI {g g' : GG} {I I' A : II} {T P w n : Nat} (h : TR g I T A P w n) (hTN : TN g T) (hn : n ≤ 7) (h90 : 90 ≤ gN g) (hT : T ≤ 32) (hK : ∀ a, a < gN g → gK g' a = gK g a) (hR : ∀ k, gR g' (T + 3) k = gR g (T + 3) k) (hI : ∀ a, a < gN g → ((T ≤ a ∧ a ≤ T + 11) ∨ 90 ≤ a) → I' a = I a) : TR g' I' T A P w n := by
  obtain ⟨a1, a6, a7, a8, a9⟩ := h
  have hTH : TH g' I' T A n := by
    intro i hi
    obtain ⟨b, b1, b2, b3⟩ := a8 i hi
    obtain ⟨b', c1, c2, c3, c4⟩ := hTN i (by omega)
    have eb : b = b' := by rw [b2] at c1; exact Option.some.inj c1
    refine ⟨b, b1, by rw [hR]; exact b2, ?_⟩
    rw [ThA, hK b (by omega), hI b (by omega) (Or.inr b1)]
    exact b3
  unfold TR
  rw [hI T (by omega) (by omega), hI (T + 1) (by omega) (by omega), hI (T + 2) (by omega) (by omega), hI (T + 4) (by omega) (by omega), hI (T + 5) (by omega) (by omega), hI (T + 6) (by omega) (by omega), hI (T + 7) (by omega) (by omega), hI (T + 8) (by omega) (by omega), hI (T + 9) (by omega) (by omega), hI (T + 10) (by omega) (by omega), hI (T + 11) (by omega) (by omega)]
  exact ⟨a1, a6, a7, hTH, a9⟩
theorem WP_extG {d m pc : Nat} {ls : LL} {st : List PV} {g : GG} {I : II} {post : Option PV → GG → II → Prop} (H : ∀ Q : QQ, (∀ v g' J, post v g' J → Q v g' J) → WP d m pc ls st g I Q) : ∃ v g' J, post v g' J ∧ ∀ Q : QQ, WP d m pc ls st g I Q = Q v g' J := by
  obtain ⟨n, hn⟩ := H (fun v g1 J => post v g1 J) (fun v g' J hJ => hJ)
  obtain ⟨v, g1, J, h3, hw⟩ := wp_det _ _ _ _ _ _ _ _ _ hn
  exact ⟨v, g1, J, h3, fun Q => WP_fun (fun Q hQ => ⟨n, wp_mono _ _ _ _ _ _ _ _ _ _ (fun v' g' I' e => by obtain ⟨e1, e2, e3⟩ := e; subst e1 e2 e3; exact hQ) hw⟩) Q⟩
section LDG
variable {g g' : GG} {I I' : II} {t dr : Nat} {A : II} {P w n q m : Nat}
/-- nothing told: the draft and the scratch alone have changed, and the tape is empty -/
theorem RQ_ld (h : RQ g I t dr A P w n q m) (h90 : 90 ≤ gN g) (hZ : WZ g') (hK : ∀ a, a < gN g → gK g' a = gK g a) (hR : ∀ a k, a < gN g → ¬ a = dr + 3 → ¬ a = 45 → gR g' a k = gR g a k) (hI : ∀ a, a < gN g → ¬ (dr ≤ a ∧ a ≤ dr + 11) → ¬ a = 45 → I' a = I a) : RQ g' (z27 (pr I' 5 (uf (I' 5) 7 0))) t dr A P w n q m := by
  obtain ⟨h1, ⟨h2, h2'⟩, h3, h4, h5, h6, h7, h8⟩ := h
  obtain ⟨J, hJ⟩ : ∃ J, J = z27 (pr I' 5 (uf (I' 5) 7 0)) := ⟨_, rfl⟩
  rw [← hJ]
  have hd : (t = 6 ∧ dr = 19) ∨ (t = 19 ∧ dr = 6) := h1
  have jo : ∀ a, a < gN g → ¬ (dr ≤ a ∧ a ≤ dr + 11) → ¬ a = 45 → ¬ a = 57 → ¬ a = 5 → J a = I a := fun a a1 a2 a3 a4 a5 => by
    rw [hJ]
    unfold z27
    rw [pr_o a4, pr_o a5, hI a a1 a2 a3]
  have j5 : ∀ j, ¬ j = 7 → J 5 j = I 5 j := fun j hj => by
    rw [hJ]
    unfold z27
    rw [pr_o (by omega), pr_s, uf_o hj, hI 5 (by omega) (by omega) (by omega)]
  have j57 : ∀ j, ¬ j = 27 → J 57 j = I 57 j := fun j hj => by
    rw [hJ]
    unfold z27
    rw [pr_s, uf_o hj, pr_o (by omega), hI 57 (by omega) (by omega) (by omega)]
  have j5z : J 5 7 = 0 := by
    rw [hJ]
    unfold z27
    rw [pr_o (by omega), pr_s, uf_s]
  have j57z : J 57 27 = 0 := by
    rw [hJ]
    unfold z27
    rw [pr_s, uf_s]
  have hnt : TN g t := by
    obtain ⟨-, -, -, n6, n19, -⟩ := h3
    rcases hd with ⟨r, -⟩ | ⟨r, -⟩ <;> rw [r]
    · exact n6
    · exact n19
  refine ⟨h1, ⟨by rw [hR 5 0 (by omega) (by omega) (by omega)]; exact h2, by rw [hR 5 1 (by omega) (by omega) (by omega)]; exact h2'⟩, hZ, ?_, ?_, h6, ?_, ?_⟩
  · rw [MR, jo 59 (by omega) (by omega) (by omega) (by omega) (by omega), jo 60 (by omega) (by omega) (by omega) (by omega) (by omega), jo 61 (by omega) (by omega) (by omega) (by omega) (by omega), jo 62 (by omega) (by omega) (by omega) (by omega) (by omega), jo 63 (by omega) (by omega) (by omega) (by omega) (by omega), jo 64 (by omega) (by omega) (by omega) (by omega) (by omega), jo 65 (by omega) (by omega) (by omega) (by omega) (by omega), jo 66 (by omega) (by omega) (by omega) (by omega) (by omega), jo 67 (by omega) (by omega) (by omega) (by omega) (by omega), jo 68 (by omega) (by omega) (by omega) (by omega) (by omega), jo 69 (by omega) (by omega) (by omega) (by omega) (by omega), jo 70 (by omega) (by omega) (by omega) (by omega) (by omega), jo 71 (by omega) (by omega) (by omega) (by omega) (by omega), jo 81 (by omega) (by omega) (by omega) (by omega) (by omega), j57 14 (by omega), j57 15 (by omega), j57 16 (by omega), j57 17 (by omega), j57 18 (by omega), j57 35 (by omega), j57 36 (by omega), j57 37 (by omega)]
    exact h4
  · exact TR_gI h5 hnt (okS_A h6).1 h90 (by omega) hK (fun k => hR (t + 3) k (by omega) (by omega) (by omega)) (fun a a1 a2 => jo a a1 (by omega) (by omega) (by omega) (by omega))
  · obtain ⟨i1, i2⟩ := h7
    refine ⟨by rw [j5 3 (by omega), j57 31 (by omega)]; exact i1, ?_⟩
    rw [j57 31 (by omega)]
    rcases i2 with i2 | ⟨i2, B, P', w', n', q', m', hKR, hTB, hSB⟩
    · exact Or.inl i2
    · refine Or.inr ⟨i2, B, P', w', n', q', m', KR_fr hKR (fun j _ => by rw [jo 80 (by omega) (by omega) (by omega) (by omega) (by omega)]), ?_, hSB⟩
      exact TR_gI hTB h3.2.2.2.2.2 (okS_A hSB).1 h90 (by omega) hK (fun k => hR (32 + 3) k (by omega) (by omega) (by omega)) (fun a a1 a2 => jo a a1 (by omega) (by omega) (by omega) (by omega))
  · obtain ⟨o1, o2, o3, o4, o5, o6, o7⟩ := h8
    unfold OT
    rw [j5z, j57z, j5 9 (by omega), j57 48 (by omega), jo 52 (by omega) (by omega) (by omega) (by omega) (by omega), jo 73 (by omega) (by omega) (by omega) (by omega) (by omega), jo 53 (by omega) (by omega) (by omega) (by omega) (by omega), jo 89 (by omega) (by omega) (by omega) (by omega) (by omega), jo 56 (by omega) (by omega) (by omega) (by omega) (by omega), jo 58 (by omega) (by omega) (by omega) (by omega) (by omega), jo 49 (by omega) (by omega) (by omega) (by omega) (by omega), jo 81 (by omega) (by omega) (by omega) (by omega) (by omega)]
    exact ⟨⟨rfl, by omega, by omega⟩, o2, o3, o4, o5, o6, o7⟩
/-- all told: the draft is what is told -/
theorem RQ_gd {s : LST} {J : II} (h : RQ g I t dr A P w n q m) (h90 : 90 ≤ gN g) (hT : TW g J dr s.1 s.2.2.1 s.2.2.2) (hF : e64 (J (dr + 2)) (DA s.1 s.2.1 s.2.2.1)) (hM : MR J s.1) (hS : okLS s q m) (hJ : ∀ a, (32 ≤ a ∧ a ≤ 43) ∨ 90 ≤ a ∨ a = 52 ∨ a = 73 ∨ a = 53 ∨ a = 89 ∨ a = 56 ∨ a = 58 → J a = I a) (h5 : J 5 = I 5) (h57 : J 57 27 = I 57 27 ∧ J 57 31 = I 57 31 ∧ J 57 48 = I 57 48) (h80 : ∀ j, j < 200 → J 80 j = I 80 j) (h49 : ∀ j, 7 ≤ j → J 49 j = I 49 j) (h81 : ∀ j, 7 ≤ j → J 81 j = I 81 j) : RQ (gput (gput g 5 0 (some dr)) 5 1 (some t)) J dr t s.1 s.2.1 s.2.2.1 s.2.2.2 q m := by
  obtain ⟨h1, h2, h3, h4, h5', h6, h7, h8⟩ := h
  have hd : (t = 6 ∧ dr = 19) ∨ (t = 19 ∧ dr = 6) := h1
  have hR : ∀ b, ¬ b = 5 → ∀ j, gR (gput (gput g 5 0 (some dr)) 5 1 (some t)) b j = gR g b j := fun b hb j => by rw [gput_ne hb, gput_ne hb]
  have hK : ∀ b, gK (gput (gput g 5 0 (some dr)) 5 1 (some t)) b = gK g b := fun b => rfl
  refine ⟨?_, ⟨by rw [gput_at, if_neg (by omega), gput_at, if_pos rfl], by rw [gput_at, if_pos rfl]⟩, WZ_put (Or.inl ⟨rfl, by omega⟩) (WZ_put (Or.inl ⟨rfl, by omega⟩) h3), hM, ?_, hS, ?_, ?_⟩
  · show (dr = 6 ∧ t = 19) ∨ (dr = 19 ∧ t = 6)
    omega
  · refine TW_TR ?_ hF
    obtain ⟨f, a1, hTH, r⟩ := hT
    refine ⟨f, a1, fun i hi => ?_, r⟩
    obtain ⟨b, b1, b2, b3⟩ := hTH i hi
    exact ⟨b, b1, by rw [hR (dr + 3) (by omega)]; exact b2, b3⟩
  · obtain ⟨i1, i2⟩ := h7
    refine ⟨by rw [h5, h57.2.1]; exact i1, ?_⟩
    rw [h57.2.1]
    rcases i2 with i2 | ⟨i2, B, P', w', n', q', m', hKR, hTB, hSB⟩
    · exact Or.inl i2
    · refine Or.inr ⟨i2, B, P', w', n', q', m', KR_fr hKR h80, ?_, hSB⟩
      exact TR_gI hTB h3.2.2.2.2.2 (okS_A hSB).1 h90 (by omega) (fun a _ => hK a) (fun k => hR (32 + 3) (by omega) k) (fun a a1 a2 => hJ a (by omega))
  · exact OT_fr h8 ⟨by rw [h5], h57.1, hJ 52 (by omega), hJ 73 (by omega)⟩ ⟨by rw [h5], h57.2.2, hJ 53 (by omega), hJ 89 (by omega)⟩ ⟨hJ 56 (by omega), hJ 58 (by omega)⟩ (fun j hj => (h49 j hj).trans (h8.2.2.2.2.2.1 j hj)) (fun j hj => (h81 j hj).trans (h8.2.2.2.2.2.2 j hj))
end LDG

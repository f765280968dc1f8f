-- THE RELATION between class and model at the law's loop
def DA (A : II) (P w : Nat) : Nat → Int := fwm P P (dwy (A 0) (A 1) (A 2) w (fll dgz 64 z0))
abbrev MR (I A : II) : Prop := I 59 = A 0 ∧ I 60 = A 1 ∧ I 61 = A 2 ∧ I 62 = A 3 ∧ I 63 = A 4 ∧ I 64 = A 5 ∧ I 65 = A 6 ∧ I 66 = A 7 ∧ I 67 = A 8 ∧ I 68 = A 9 ∧ I 69 = A 10 ∧ I 70 = A 11 ∧ I 71 = A 12 ∧ I 81 = A 13 ∧ I 57 14 = A 14 0 ∧ I 57 15 = A 14 1 ∧ I 57 16 = A 14 2 ∧ I 57 17 = A 14 3 ∧ I 57 18 = A 14 4 ∧ I 57 35 = A 14 5 ∧ I 57 36 = A 14 6 ∧ I 57 37 = A 14 7
def okS (A : II) (P w n q m : Nat) : Prop :=
  (A 14 0 = (P : Int) ∧ A 14 1 = (w : Int) ∧ A 14 2 = (n : Int) ∧ A 14 3 = (q : Int) ∧ A 14 4 = (m : Int)) ∧
  (2 ≤ P ∧ P ≤ 8) ∧ (w ≤ 14 ∧ ∀ j, j < w → (0 ≤ A 0 j ∧ A 0 j < P) ∧ (0 ≤ A 1 j ∧ A 1 j < P) ∧ A 0 j ≠ A 1 j ∧ (1 ≤ A 2 j ∧ A 2 j ≤ 200)) ∧
  okA A n ∧ (∀ i, i < n → A 4 i < P) ∧ okSt A ∧ A 7 3 < P ∧
  (∀ j, j < 8 → (0 ≤ A 8 j ∧ A 8 j ≤ 9) ∧ (0 ≤ A 9 j ∧ A 9 j ≤ 99) ∧ (P ≤ j → A 8 j = 0)) ∧
  (q ≤ 4 ∧ ∀ j, j < q → (0 ≤ A 10 j ∧ A 10 j < P) ∧ (0 ≤ A 11 j ∧ A 11 j ≤ 999)) ∧
  (m ≤ 8 ∧ ∀ j, j < m → 0 ≤ A 12 j ∧ A 12 j < P) ∧
  (hb7 (A 13) ∧ ∀ j, n ≤ j → j < 7 → A 13 j = 0) ∧
  (0 ≤ A 14 5 ∧ A 14 5 < P) ∧ (0 ≤ A 14 6 ∧ A 14 6 ≤ 999)
def TR (g : GG) (I : II) (t : Nat) (A : II) (P w n : Nat) : Prop :=
  (I t 0 = A 14 0 ∧ I t 1 = A 14 1 ∧ I t 4 = A 14 2 ∧ I t 7 = A 14 4 ∧ I t 11 = A 14 3) ∧
  e64 (I (t + 1)) (dwy (A 0) (A 1) (A 2) w z0) ∧ e64 (I (t + 2)) (DA A P w) ∧ TH g I t A n ∧
  (∀ j, j < 4 → I (t + 4) j = A 7 j) ∧ (∀ j, j < 8 → I (t + 5) j = A 12 j) ∧ (∀ j, j < 8 → I (t + 6) j = A 8 j) ∧ (∀ j, j < 8 → I (t + 7) j = A 9 j) ∧
  (∀ j, j < 4 → I (t + 8) j = A 10 j) ∧ (∀ j, j < 4 → I (t + 9) j = A 11 j) ∧
  (I (t + 10) 0 = A 14 5 ∧ I (t + 10) 1 = A 14 6 ∧ I (t + 10) 2 = A 14 7) ∧ (∀ j, j < 7 → I (t + 11) j = A 13 j)
def TN (g : GG) (t : Nat) : Prop := ∀ i, i < 7 → ∃ b, gR g (t + 3) i = some b ∧ 5 ≤ b ∧ b < gN g ∧ isTh g b
abbrev WZ (g : GG) : Prop := WM g ∧ WX g ∧ (WT g 6 ∧ WT g 19 ∧ WT g 32) ∧ (TN g 6 ∧ TN g 19 ∧ TN g 32)
abbrev KR (I B : II) : Prop := (∀ j, j < 14 → I 80 j = B 0 j) ∧ (∀ j, j < 14 → I 80 (14 + j) = B 1 j) ∧ (∀ j, j < 14 → I 80 (28 + j) = B 2 j) ∧ (∀ j, j < 7 → I 80 (42 + j) = B 3 j) ∧ (∀ j, j < 7 → I 80 (49 + j) = B 4 j) ∧ (∀ j, j < 7 → I 80 (56 + j) = B 5 j) ∧ (∀ j, j < 7 → I 80 (63 + j) = B 6 j) ∧ (∀ j, j < 4 → I 80 (70 + j) = B 7 j) ∧ (∀ j, j < 8 → I 80 (74 + j) = B 8 j) ∧ (∀ j, j < 8 → I 80 (82 + j) = B 9 j) ∧ (∀ j, j < 4 → I 80 (90 + j) = B 10 j) ∧ (∀ j, j < 4 → I 80 (94 + j) = B 11 j) ∧ (∀ j, j < 8 → I 80 (98 + j) = B 12 j) ∧ (∀ j, j < 7 → I 80 (106 + j) = B 13 j) ∧ (∀ j, j < 8 → I 80 (113 + j) = B 14 j)
def IM (g : GG) (I : II) : Prop := I 5 3 = I 57 31 ∧ (I 57 31 = 0 ∨ (I 57 31 = 1 ∧ ∃ B P w n q m, KR I B ∧ TR g I 32 B P w n ∧ okS B P w n q m))
def OT (I : II) : Prop :=
  (I 5 7 = I 57 27 ∧ (0 ≤ I 57 27 ∧ I 57 27 ≤ 64)) ∧ (∀ j, j < 64 → I 52 j = I 73 j ∧ (0 ≤ I 73 j ∧ I 73 j ≤ 255)) ∧
  (I 5 9 = I 57 48 ∧ (0 ≤ I 57 48 ∧ I 57 48 ≤ 10)) ∧ (∀ j, j < 10 → I 53 j = I 89 j ∧ (0 ≤ I 89 j ∧ I 89 j ≤ 9)) ∧
  (∀ j, j < 7 → I 56 j = I 58 j) ∧ (∀ j, 7 ≤ j → I 49 j = 0) ∧ (∀ j, 7 ≤ j → I 81 j = 0)
abbrev TD (t dr : Nat) : Prop := (t = 6 ∧ dr = 19) ∨ (t = 19 ∧ dr = 6)
def SS (L : Nat) (xs : Nat → Int32) (g : GG) (I : II) : Prop := gK g 0 = (5, L) ∧ gK g 1 = (0, 12) ∧ gK g 2 = (4, 6) ∧ gR g 1 0 = some 2 ∧ (∀ j, I 0 j = (xs j).toInt) ∧ (∀ j, I 2 j = KL.getD j 0) ∧ I 1 1 = 0
def RQ (g : GG) (I : II) (t dr : Nat) (A : II) (P w n q m : Nat) : Prop :=
  TD t dr ∧ (gR g 5 0 = some t ∧ gR g 5 1 = some dr) ∧ WZ g ∧ MR I A ∧ TR g I t A P w n ∧ okS A P w n q m ∧ IM g I ∧ OT I
def RR (L : Nat) (xs : Nat → Int32) (X Y : Nat) (g : GG) (I : II) : Prop := SS L xs g I ∧ (90 ≤ gN g ∧ gN g ≤ X ∧ gS g ≤ Y) ∧ ∃ t dr A P w n q m, RQ g I t dr A P w n q m
-- frames
section FRAME
variable {g : GG} {I J A : II} {t P w n : Nat}
theorem TH_fr (h : TH g I t A n) (hJ : ∀ a, 90 ≤ a → J a = I a) : TH g J t A n := by
  intro i hi
  obtain ⟨b, h1, h2, h3⟩ := h i hi
  refine ⟨b, h1, h2, ?_⟩
  rw [ThA, hJ b h1]
  exact h3
theorem TR_fr (h : TR g I t A P w n) (hJ : ∀ a, (t ≤ a ∧ a ≤ t + 12) ∨ 90 ≤ a → J a = I a) : TR g J t A P w n := by
  unfold TR
  have h3 : TH g J t A n := TH_fr h.2.2.2.1 (fun a ha => hJ a (Or.inr ha))
  rw [hJ t (by omega), hJ (t + 1) (by omega), hJ (t + 2) (by omega), hJ (t + 4) (by omega), hJ (t + 5) (by omega), hJ (t + 6) (by omega), hJ (t + 7) (by omega), hJ (t + 8) (by omega), hJ (t + 9) (by omega), hJ (t + 10) (by omega), hJ (t + 11) (by omega)]
  exact ⟨h.1, h.2.1, h.2.2.1, h3, h.2.2.2.2⟩
theorem KR_fr {B : II} (h : KR I B) (hJ : ∀ j, j < 200 → J 80 j = I 80 j) : KR J B := by
  obtain ⟨a0, a1, a2, a3, a4, a5, a6, a7, a8, a9, a10, a11, a12, a13, a14⟩ := h
  exact ⟨fun j hj => (hJ _ (by omega)).trans (a0 j hj), fun j hj => (hJ _ (by omega)).trans (a1 j hj), fun j hj => (hJ _ (by omega)).trans (a2 j hj), fun j hj => (hJ _ (by omega)).trans (a3 j hj), fun j hj => (hJ _ (by omega)).trans (a4 j hj), fun j hj => (hJ _ (by omega)).trans (a5 j hj), fun j hj => (hJ _ (by omega)).trans (a6 j hj), fun j hj => (hJ _ (by omega)).trans (a7 j hj), fun j hj => (hJ _ (by omega)).trans (a8 j hj), fun j hj => (hJ _ (by omega)).trans (a9 j hj), fun j hj => (hJ _ (by omega)).trans (a10 j hj), fun j hj => (hJ _ (by omega)).trans (a11 j hj), fun j hj => (hJ _ (by omega)).trans (a12 j hj), fun j hj => (hJ _ (by omega)).trans (a13 j hj), fun j hj => (hJ _ (by omega)).trans (a14 j hj)⟩
theorem IM_fr (h : IM g I) (hJ : ∀ a, (32 ≤ a ∧ a ≤ 44) ∨ 90 ≤ a → J a = I a) (hK : ∀ j, j < 200 → J 80 j = I 80 j) (h5 : J 5 3 = I 5 3) (h57 : J 57 31 = I 57 31) : IM g J := by
  unfold IM
  rw [h5, h57]
  refine ⟨h.1, ?_⟩
  rcases h.2 with q | ⟨q, B, P, w, n, q', m, r1, r2, r3⟩
  · exact Or.inl q
  · exact Or.inr ⟨q, B, P, w, n, q', m, KR_fr r1 hK, TR_fr r2 hJ, r3⟩
theorem OT_fr (h : OT I) (h1 : J 5 7 = I 5 7 ∧ J 57 27 = I 57 27 ∧ J 52 = I 52 ∧ J 73 = I 73) (h2 : J 5 9 = I 5 9 ∧ J 57 48 = I 57 48 ∧ J 53 = I 53 ∧ J 89 = I 89) (h3 : J 56 = I 56 ∧ J 58 = I 58) (h4 : ∀ j, 7 ≤ j → J 49 j = 0) (h5 : ∀ j, 7 ≤ j → J 81 j = 0) : OT J := by
  unfold OT
  rw [h1.1, h1.2.1, h1.2.2.1, h1.2.2.2, h2.1, h2.2.1, h2.2.2.1, h2.2.2.2, h3.1, h3.2]
  exact ⟨h.1, h.2.1, h.2.2.1, h.2.2.2.1, h.2.2.2.2.1, h4, h5⟩
end FRAME
-- what scratch there is
def okc (a : Nat) : Prop := a ≤ 44 ∨ a = 52 ∨ a = 53 ∨ a = 56 ∨ (58 ≤ a ∧ a ≤ 71) ∨ a = 73 ∨ a = 81 ∨ 89 ≤ a
def okf (j : Nat) : Prop := ¬ j = 28 ∧ ¬ j = 29 ∧ ¬ j = 32 ∧ ¬ j = 33 ∧ ¬ j = 43 ∧ ¬ j = 44
def sm (I J : II) : Prop := (∀ a, okc a → J a = I a) ∧ (∀ j, okf j → J 57 j = I 57 j) ∧ (∀ j, j < 200 → J 80 j = I 80 j) ∧ (∀ j, 7 ≤ j → J 49 j = I 49 j)
theorem sm_rf (I : II) : sm I I := ⟨fun _ _ => rfl, fun _ _ => rfl, fun _ _ => rfl, fun _ _ => rfl⟩
theorem sm_tr {I J K : II} (h : sm I J) (k : sm J K) : sm I K := ⟨fun a q => (k.1 a q).trans (h.1 a q), fun a q => (k.2.1 a q).trans (h.2.1 a q), fun a q => (k.2.2.1 a q).trans (h.2.2.1 a q), fun a q => (k.2.2.2 a q).trans (h.2.2.2 a q)⟩
theorem sm_pr {I J : II} {a : Nat} {f : Nat → Int} (h : sm I J) (ha : ¬ okc a ∧ ¬ a = 57 ∧ ¬ a = 80 ∧ ¬ a = 49) : sm I (pr J a f) := by
  refine ⟨fun b q => ?_, fun j q => ?_, fun j q => ?_, fun j q => ?_⟩
  · rw [pr_o (by intro e; subst e; exact ha.1 q)]; exact h.1 b q
  · rw [pr_o (by omega)]; exact h.2.1 j q
  · rw [pr_o (by omega)]; exact h.2.2.1 j q
  · rw [pr_o (by omega)]; exact h.2.2.2 j q
theorem sm_57 {I J : II} {f : Nat → Int} (h : sm I J) (hf : ∀ j, okf j → f j = J 57 j) : sm I (pr J 57 f) := by
  refine ⟨fun b q => ?_, fun j q => ?_, fun j q => ?_, fun j q => ?_⟩
  · rw [pr_o (by intro e; subst e; unfold okc at q; omega)]; exact h.1 b q
  · rw [pr_s, hf j q]; exact h.2.1 j q
  · rw [pr_o (by omega)]; exact h.2.2.1 j q
  · rw [pr_o (by omega)]; exact h.2.2.2 j q
theorem sm_mcx {I J : II} {x : LF} (h : sm I J) (hx : ∀ j, 7 ≤ j → lHad x j = J 49 j) : sm I (mcx J x) := by
  refine ⟨fun b q => ?_, fun j q => ?_, fun j q => ?_, fun j q => ?_⟩
  · rw [mcx_o (by unfold okc at q; omega)]; exact h.1 b q
  · rw [mcx_o (by omega)]; exact h.2.1 j q
  · rw [mcx_o (by omega)]; exact h.2.2.1 j q
  · rw [mcx_h, hx j q]; exact h.2.2.2 j q
theorem RQ_sm {g : GG} {I J : II} {t dr : Nat} {A : II} {P w n q m : Nat} (h : RQ g I t dr A P w n q m) (k : sm I J) : RQ g J t dr A P w n q m := by
  obtain ⟨h1, h2, h3, h4, h5, h6, h7, h8⟩ := h
  obtain ⟨k1, k2, k3, k4⟩ := k
  have kk : ∀ a, 58 ≤ a ∧ a ≤ 71 → J a = I a := fun a q => k1 a (by unfold okc; omega)
  have kf : ∀ j, okf j → J 57 j = I 57 j := k2
  refine ⟨h1, h2, h3, ?_, TR_fr h5 (fun a q => k1 a (by unfold okc; omega)), h6, IM_fr h7 (fun a q => k1 a (by unfold okc; omega)) k3 (by rw [k1 5 (by unfold okc; omega)]) (kf 31 (by unfold okf; omega)), ?_⟩
  · rw [MR, kk 59 (by omega), kk 60 (by omega), kk 61 (by omega), kk 62 (by omega), kk 63 (by omega), kk 64 (by omega), kk 65 (by omega), kk 66 (by omega), kk 67 (by omega), kk 68 (by omega), kk 69 (by omega), kk 70 (by omega), kk 71 (by omega), k1 81 (by unfold okc; omega), kf 14 (by unfold okf; omega), kf 15 (by unfold okf; omega), kf 16 (by unfold okf; omega), kf 17 (by unfold okf; omega), kf 18 (by unfold okf; omega), kf 35 (by unfold okf; omega), kf 36 (by unfold okf; omega), kf 37 (by unfold okf; omega)]
    exact h4
  · have e5 := k1 5 (by unfold okc; omega)
    refine OT_fr h8 ⟨by rw [e5], kf 27 (by unfold okf; omega), k1 52 (by unfold okc; omega), k1 73 (by unfold okc; omega)⟩ ⟨by rw [e5], kf 48 (by unfold okf; omega), k1 53 (by unfold okc; omega), k1 89 (by unfold okc; omega)⟩ ⟨k1 56 (by unfold okc; omega), kk 58 (by omega)⟩ (fun j q => (k4 j q).trans (h8.2.2.2.2.2.1 j q)) (fun j q => ?_)
    rw [k1 81 (by unfold okc; omega)]
    exact h8.2.2.2.2.2.2 j q
theorem SS_sm {L : Nat} {xs : Nat → Int32} {g : GG} {I J : II} (h : SS L xs g I) (k : sm I J) : SS L xs g J := by
  unfold SS
  rw [k.1 0 (by unfold okc; omega), k.1 1 (by unfold okc; omega), k.1 2 (by unfold okc; omega)]
  exact h
-- a refusal told on both sides
def rfC (I : II) (k : Nat) : II := pr I 56 (uf (I 56) k (w32 (I 56 k + 1)))
def rfM (I : II) (k : Nat) : II := pr I 58 (uf (I 58) k (w32 (I 58 k + 1)))
theorem RQ_rf {g : GG} {I : II} {t dr : Nat} {A : II} {P w n q m : Nat} (h : RQ g I t dr A P w n q m) {k : Nat} (hk : k < 7) : RQ g (rfM (rfC I k) k) t dr A P w n q m := by
  obtain ⟨h1, h2, h3, h4, h5, h6, h7, h8⟩ := h
  have ho : ∀ a, ¬ a = 56 → ¬ a = 58 → rfM (rfC I k) k a = I a := by
    intro a e1 e2
    unfold rfM rfC
    rw [pr_o e2, pr_o e1]
  have htd : t ≤ 19 := by rcases h1 with q | q <;> omega
  refine ⟨h1, h2, h3, ?_, TR_fr h5 (fun a q => ho a (by omega) (by omega)), h6, IM_fr h7 (fun a q => ho a (by omega) (by omega)) (fun j _ => by rw [ho 80 (by omega) (by omega)]) (by rw [ho 5 (by omega) (by omega)]) (by rw [ho 57 (by omega) (by omega)]), ?_⟩
  · rw [MR, ho 59 (by omega) (by omega), ho 60 (by omega) (by omega), ho 61 (by omega) (by omega), ho 62 (by omega) (by omega), ho 63 (by omega) (by omega), ho 64 (by omega) (by omega), ho 65 (by omega) (by omega), ho 66 (by omega) (by omega), ho 67 (by omega) (by omega), ho 68 (by omega) (by omega), ho 69 (by omega) (by omega), ho 70 (by omega) (by omega), ho 71 (by omega) (by omega), ho 81 (by omega) (by omega), ho 57 (by omega) (by omega)]
    exact h4
  · obtain ⟨o1, o2, o3, o4, o5, o6, o7⟩ := h8
    unfold OT
    rw [ho 5 (by omega) (by omega), ho 57 (by omega) (by omega), ho 52 (by omega) (by omega), ho 73 (by omega) (by omega), ho 53 (by omega) (by omega), ho 89 (by omega) (by omega), ho 49 (by omega) (by omega), ho 81 (by omega) (by omega)]
    refine ⟨o1, o2, o3, o4, fun j hj => ?_, o6, o7⟩
    have e1 : rfM (rfC I k) k 56 = uf (I 56) k (w32 (I 56 k + 1)) := by unfold rfM rfC; rw [pr_o (by omega), pr_s]
    have e2 : rfM (rfC I k) k 58 = uf (I 58) k (w32 (I 58 k + 1)) := by unfold rfM rfC; rw [pr_s, pr_o (by omega)]
    rw [e1, e2]
    unfold uf
    rw [o5 k hk, o5 j hj]
theorem SS_rf {L : Nat} {xs : Nat → Int32} {g : GG} {I : II} (h : SS L xs g I) (k : Nat) : SS L xs g (rfM (rfC I k) k) := by
  have ho : ∀ a, ¬ a = 56 → ¬ a = 58 → rfM (rfC I k) k a = I a := by
    intro a e1 e2
    unfold rfM rfC
    rw [pr_o e2, pr_o e1]
  unfold SS
  rw [ho 0 (by omega) (by omega), ho 1 (by omega) (by omega), ho 2 (by omega) (by omega)]
  exact h
-- ONE CALL on both sides
def CS (L : Nat) (xs : Nat → Int32) (g : GG) (I : II) (cm mm : Nat) (cl ml : LL) (c : Int → PV) : Prop := ∃ z g1 I1 g2 I2, (∀ Q : QQ, WP 999 cm 0 (some (vr (some 5)) :: cl) [] g I Q = Q (some (c z)) g1 I1) ∧ (SS L xs g1 I1 ∧ gK g1 57 = (0, 11)) ∧ (∀ Q : QQ, WP 999 mm 0 (some (vr (some 57)) :: ml) [] g1 I1 Q = Q (some (c z)) g2 I2) ∧ RR L xs (gN g + 30) (gS g + 300) g2 I2
section CSS
variable {L : Nat} {xs : Nat → Int32} {g : GG} {I : II} {t dr : Nat} {A : II} {P w n q m : Nat} {cm mm : Nat} {cl ml : LL} {c : Int → PV}
/-- an answer, with scratch written at most -/
theorem CS_q (hs : SS L xs g I) (hg : 90 ≤ gN g) (h : RQ g I t dr A P w n q m) (z : Int) {I1 J : II} (h1 : ∀ Q : QQ, WP 999 cm 0 (some (vr (some 5)) :: cl) [] g I Q = Q (some (c z)) g I1) (k1 : sm I I1) (h2 : ∀ Q : QQ, WP 999 mm 0 (some (vr (some 57)) :: ml) [] g I1 Q = Q (some (c z)) g J) (k2 : sm I J) : CS L xs g I cm mm cl ml c :=
  ⟨z, g, I1, g, J, h1, ⟨SS_sm hs k1, h.2.2.1.1.1⟩, h2, SS_sm hs k2, ⟨hg, by omega, by omega⟩, t, dr, A, P, w, n, q, m, RQ_sm h k2⟩
/-- an answer, with all that counts changed alike -/
theorem CS_s (hs : SS L xs g I) (hg : 90 ≤ gN g) (h : RQ g I t dr A P w n q m) (z : Int) {I1 J : II} (h1 : ∀ Q : QQ, WP 999 cm 0 (some (vr (some 5)) :: cl) [] g I Q = Q (some (c z)) g I1) (k1 : I1 0 = I 0 ∧ I1 1 = I 1 ∧ I1 2 = I 2) (h2 : ∀ Q : QQ, WP 999 mm 0 (some (vr (some 57)) :: ml) [] g I1 Q = Q (some (c z)) g J) (k2 : J 0 = I 0 ∧ J 1 = I 1 ∧ J 2 = I 2) {t' dr' : Nat} {A' : II} {P' w' n' q' m' : Nat} (h' : RQ g J t' dr' A' P' w' n' q' m') : CS L xs g I cm mm cl ml c := by
  refine ⟨z, g, I1, g, J, h1, ⟨?_, h.2.2.1.1.1⟩, h2, ?_, ⟨hg, by omega, by omega⟩, t', dr', A', P', w', n', q', m', h'⟩
  · unfold SS; rw [k1.1, k1.2.1, k1.2.2]; exact hs
  · unfold SS; rw [k2.1, k2.2.1, k2.2.2]; exact hs
/-- a refusal -/
theorem CS_r (hs : SS L xs g I) (hg : 90 ≤ gN g) (h : RQ g I t dr A P w n q m) (z : Int) {k : Nat} (hk : k < 7) (h1 : ∀ Q : QQ, WP 999 cm 0 (some (vr (some 5)) :: cl) [] g I Q = Q (some (c z)) g (rfC I k)) (h2 : ∀ Q : QQ, WP 999 mm 0 (some (vr (some 57)) :: ml) [] g (rfC I k) Q = Q (some (c z)) g (rfM (rfC I k) k)) : CS L xs g I cm mm cl ml c := by
  refine ⟨z, g, _, g, _, h1, ⟨?_, h.2.2.1.1.1⟩, h2, SS_rf hs k, ⟨hg, by omega, by omega⟩, t, dr, A, P, w, n, q, m, RQ_rf h hk⟩
  unfold SS
  have e : ∀ a, ¬ a = 56 → rfC I k a = I a := fun a e => pr_o e
  rw [e 0 (by omega), e 1 (by omega), e 2 (by omega)]
  exact hs
end CSS
-- THE LEAST WAYS of what is told
theorem uf_e {D E : Nat → Int} (h : e64 D E) (k : Nat) (v : Int) : e64 (uf D k v) (uf E k v) := by
  intro j hj
  unfold uf
  by_cases e : j = k
  · rw [if_pos e, if_pos e]
  · rw [if_neg e, if_neg e]; exact h j hj
theorem dwy_e (a b m : Nat → Int) {D E : Nat → Int} (h : e64 D E) : ∀ w, e64 (dwy a b m w D) (dwy a b m w E)
  | 0 => h
  | w + 1 => uf_e (uf_e (dwy_e a b m h w) _ _) _ _
theorem dgz_e (X Y : Nat → Int) : e64 (fll dgz 64 X) (fll dgz 64 Y) := by
  intro j hj
  unfold fll
  rw [if_pos hj, if_pos hj]
def DM (A : II) (P w : Nat) (X : Nat → Int) : Nat → Int := fwm P P (dwy (A 0) (A 1) (A 2) w (fll dgz 64 X))
theorem DM_e (A : II) {P : Nat} (hP : P ≤ 8) (w : Nat) (X Y : Nat → Int) : e64 (DM A P w X) (DM A P w Y) := fwm_e (dwy_e _ _ _ (dgz_e X Y) w) hP P hP
theorem bD_dgz' (X : Nat → Int) : bD (fll dgz 64 X) := by
  intro j hj
  unfold fll dgz
  rw [if_pos hj]
  by_cases h : j / 8 = j % 8
  · rw [if_pos h]; omega
  · rw [if_neg h]; omega
def okPl (P : Nat) (D : Nat → Int) : Prop := okF P D ∧ pos1 D
theorem okP_0 (P : Nat) (X : Nat → Int) : okPl P (fll dgz 64 X) := by
  have e : ∀ a b, a < 8 → b < 8 → fll dgz 64 X (8 * a + b) = if a = b then 0 else 100000 := by
    intro a b ha hb
    unfold fll dgz
    rw [if_pos (by omega)]
    by_cases h : a = b
    · rw [if_pos h, if_pos (by omega)]
    · rw [if_neg h, if_neg (by omega)]
  refine ⟨⟨bD_dgz' X, fun a ha => ?_, fun a b ha hb _ hn => ?_⟩, fun a b ha hb hn => ?_⟩
  · rw [e a a ha ha]; exact if_pos rfl
  · rw [e a b ha hb, if_neg hn]
  · rw [e a b ha hb, if_neg hn]; omega
theorem okP_uf {P : Nat} {D : Nat → Int} (h : okPl P D) (hP : P ≤ 8) {a b : Nat} (ha : a < P) (hb : b < P) (hab : a ≠ b) {v : Int} (h1 : 1 ≤ v) (h2 : v ≤ 200) : okPl P (uf D (8 * a + b) v) := by
  obtain ⟨⟨hB, hZ, hI⟩, hp⟩ := h
  refine ⟨⟨bD_uf hB (by omega) (by omega), fun c hc => ?_, fun c e hc he hne hce => ?_⟩, fun c e hc he hce => ?_⟩
  · rw [uf_o (by omega)]; exact hZ c hc
  · rw [uf_o (by omega)]; exact hI c e hc he hne hce
  · by_cases q : 8 * c + e = 8 * a + b
    · rw [q, uf_s]; exact h1
    · rw [uf_o q]; exact hp c e hc he hce
theorem okP_dwy {P : Nat} (hP : P ≤ 8) {a b m : Nat → Int} (X : Nat → Int) : ∀ w, (∀ j, j < w → (0 ≤ a j ∧ a j < P) ∧ (0 ≤ b j ∧ b j < P) ∧ a j ≠ b j ∧ (1 ≤ m j ∧ m j ≤ 200)) → okPl P (dwy a b m w (fll dgz 64 X))
  | 0, _ => okP_0 P X
  | w + 1, h => by
    have ih := okP_dwy hP X w (fun j hj => h j (by omega))
    have q := h w (by omega)
    have q2 : (a w).toNat ≠ (b w).toNat := by omega
    exact okP_uf (okP_uf ih hP (by omega) (by omega) q2 (by omega) (by omega)) hP (by omega) (by omega) (fun e => q2 e.symm) (by omega) (by omega)
/-- the ways' table of what is told: what all rests on -/
theorem DM_ok {A : II} {P w n q m : Nat} (h : okS A P w n q m) (X : Nat → Int) : bD (DM A P w X) ∧ dg0 (DM A P w X) ∧ pos1 (DM A P w X) ∧ tri 8 (DM A P w X) := by
  have hP := h.2.1.2
  have k := okP_dwy hP X w h.2.2.1.2
  have e := fwm_8 k.1 hP
  unfold DM
  rw [← e]
  exact okTr_fwm ⟨k.1.1, k.1.2.1, k.2, fun a b c _ _ hc => absurd hc (Nat.not_lt_zero c)⟩ 8 (Nat.le_refl 8)
section OF
variable {g : GG} {I : II} {t dr : Nat} {A : II} {P w n q m : Nat}
theorem RQ_t (h : RQ g I t dr A P w n q m) : t ≤ 19 ∧ 6 ≤ t ∧ WT g t := by
  rcases h.1 with ⟨rfl, -⟩ | ⟨rfl, -⟩
  · exact ⟨by omega, by omega, h.2.2.1.2.2.1.1⟩
  · exact ⟨by omega, by omega, h.2.2.1.2.2.1.2.1⟩
theorem RQ_f (h : RQ g I t dr A P w n q m) : I 57 14 = A 14 0 ∧ I 57 15 = A 14 1 ∧ I 57 16 = A 14 2 ∧ I 57 17 = A 14 3 ∧ I 57 18 = A 14 4 ∧ I 57 35 = A 14 5 ∧ I 57 36 = A 14 6 ∧ I 57 37 = A 14 7 := by
  obtain ⟨r0, r1, r2, r3, r4, r5, r6, r7, r8, r9, r10, r11, r12, r13, k⟩ := h.2.2.2.1
  exact k
theorem RQ_CV (h : RQ g I t dr A P w n q m) : CV g I t A n := by
  obtain ⟨h1, h2, h3⟩ := RQ_t h
  have s := h.2.2.2.2.1.2.2.2.2.1
  exact ⟨h1, h.2.2.1.2.1, h3, h.2.2.2.2.1.1.2.2.1.trans h.2.2.2.2.2.1.1.2.2.1, s 0 (by omega), s 1 (by omega), s 2 (by omega), s 3 (by omega)⟩
theorem RQ_MV (h : RQ g I t dr A P w n q m) : MV g I A n := by
  obtain ⟨r0, r1, r2, r3, r4, r5, r6, r7, r8, r9, r10, r11, r12, r13, f14, f15, f16, f17, f18, f35, f36, f37⟩ := h.2.2.2.1
  exact ⟨h.2.2.1.1, f16.trans h.2.2.2.2.2.1.1.2.2.1, r3, r4, r5, r6, r7⟩
theorem RQ_TH (h : RQ g I t dr A P w n q m) : TH g I t A n := h.2.2.2.2.1.2.2.2.1
theorem RQ_S (h : RQ g I t dr A P w n q m) : okS A P w n q m := h.2.2.2.2.2.1
theorem okS_A (h : okS A P w n q m) : okA A n := h.2.2.2.1
theorem okS_S (h : okS A P w n q m) : okSt A := h.2.2.2.2.2.1
theorem okS_O (h : okS A P w n q m) : okOr A m := ⟨h.2.2.2.2.2.2.2.2.2.1.1, fun i hi => by have := h.2.2.2.2.2.2.2.2.2.1.2 i hi; have := h.2.1; omega⟩
theorem RQ_far (h : RQ g I t dr A P w n q m) (X : Nat → Int) : e64 (I (t + 2)) (DM A P w X) := fun j hj => (h.2.2.2.2.1.2.2.1 j hj).trans (DM_e A (RQ_S h).2.1.2 w z0 X j hj)
theorem RQ_P (h : RQ g I t dr A P w n q m) : I t 0 = (P : Int) ∧ I 57 14 = (P : Int) := ⟨h.2.2.2.2.1.1.1.trans (RQ_S h).1.1, (RQ_f h).1.trans (RQ_S h).1.1⟩
theorem RQ_n (h : RQ g I t dr A P w n q m) : I t 4 = (n : Int) ∧ I 57 16 = (n : Int) := ⟨(RQ_CV h).2.2.2.1, (RQ_MV h).2.1⟩
theorem RQ_m (h : RQ g I t dr A P w n q m) : I t 7 = (m : Int) ∧ I 57 18 = (m : Int) := ⟨h.2.2.2.2.1.1.2.2.2.1.trans (RQ_S h).1.2.2.2.2, (RQ_f h).2.2.2.2.1.trans (RQ_S h).1.2.2.2.2⟩
theorem RQ_q (h : RQ g I t dr A P w n q m) : I t 11 = (q : Int) ∧ I 57 17 = (q : Int) := ⟨h.2.2.2.2.1.1.2.2.2.2.trans (RQ_S h).1.2.2.2.1, (RQ_f h).2.2.2.1.trans (RQ_S h).1.2.2.2.1⟩
theorem RQ_w (h : RQ g I t dr A P w n q m) : I t 1 = (w : Int) ∧ I 57 15 = (w : Int) := ⟨h.2.2.2.2.1.1.2.1.trans (RQ_S h).1.2.1, (RQ_f h).2.1.trans (RQ_S h).1.2.1⟩
/-- findFar, over any cells that hold the ways -/
theorem ct_ff {I : II} (hW : WM g) (hS : okS A P w n q m) (h14 : I 57 14 = (P : Int)) (h15 : I 57 15 = (w : Int)) (h0 : I 59 = A 0) (h1 : I 60 = A 1) (h2 : I 61 = A 2) (d : Nat) (Q : QQ) : WP d m_X12_findFar 0 [some (vr (some 57)), none, none, none, none] [] g I Q = Q none g (pr I 72 (DM A P w (I 72))) := by
  have k := hS.2.2.1.2
  have hP := hS.2.1.2
  have e := ct_findFar (d := d) hW h14 hP h15 hS.2.2.1.1 (fun j hj => by rw [h0, h1]; have := k j hj; omega) (fun j hj => by rw [h2]; have := k j hj; omega) Q
  unfold mfar at e
  rw [h0, h1, h2] at e
  exact e
end OF

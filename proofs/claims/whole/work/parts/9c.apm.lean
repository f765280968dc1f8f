-- LAND: all statements told, one after another; the model's telling of them, and its land
section AP
noncomputable def nyS (s : LST) (q m : Nat) (r : RG) : LST := @ite _ (fitS s q m r) (Classical.propDecidable _) (nxS s r) s
noncomputable def wrS (q m : Nat) : LST → List (Nat × RG) → Option Nat
  | _, [] => none
  | s, p :: l => @ite _ (fitS s q m p.2) (Classical.propDecidable _) (wrS q m (nxS s p.2) l) (some p.1)
noncomputable def apS (q m : Nat) : LST → List (Nat × RG) → LST
  | s, [] => s
  | s, p :: l => apS q m (nyS s q m p.2) l
theorem nyS_y {s : LST} {q m : Nat} {r : RG} (h : fitS s q m r) : nyS s q m r = nxS s r := if_pos h
theorem nyS_n {s : LST} {q m : Nat} {r : RG} (h : ¬ fitS s q m r) : nyS s q m r = s := if_neg h
theorem wrS_y {s : LST} {q m : Nat} {p : Nat × RG} {l : List (Nat × RG)} (h : fitS s q m p.2) : wrS q m s (p :: l) = wrS q m (nxS s p.2) l := if_pos h
theorem wrS_n {s : LST} {q m : Nat} {p : Nat × RG} {l : List (Nat × RG)} (h : ¬ fitS s q m p.2) : wrS q m s (p :: l) = some p.1 := if_neg h
end AP
theorem apS_y {s : LST} {q m : Nat} {p : Nat × RG} {l : List (Nat × RG)} (h : fitS s q m p.2) : apS q m s (p :: l) = apS q m (nxS s p.2) l := by
  show apS q m (nyS s q m p.2) l = _
  rw [nyS_y h]
theorem pl_st (T : Nat → Int) (n : Nat) : ∀ f a, a ≤ n → ∀ p ∈ (pl T n f a).2.2, p.1 ≤ n
  | 0, a, _, p, hp => by cases hp
  | f + 1, a, ha, p, hp => by
    have ih := fun h => pl_st T n f (stp T n a).2.1 h
    unfold pl at hp
    by_cases c : (stp T n a).1 = true
    · rw [if_pos c] at hp
      have h1 := (stp_ok c).2.2
      by_cases c2 : (stp T n a).2.1 < n
      · rw [if_pos c2] at hp
        rcases List.mem_cons.mp hp with q | q
        · rw [q]; exact ha
        · exact ih h1 p q
      · rw [if_neg c2] at hp
        rcases List.mem_cons.mp hp with q | q
        · rw [q]; exact ha
        · cases q
    · rw [if_neg c] at hp; cases hp
theorem stE_le {T : Nat → Int} {n a : Nat} {r : Int → RG} (ha : a ≤ n) : (stE T n a r).2.1 ≤ n := by
  unfold stE
  by_cases c1 : nby T n a = 44
  case neg => rw [if_pos c1]; exact ha
  have h1 := nby_in c1 (by omega)
  rw [if_neg (fun q => q c1)]
  by_cases c2 : (num T n 3 (a + 1)).1 < 0
  · rw [if_pos c2]; exact h1
  rw [if_neg c2]
  have h2 := (num_p (T := T) (k := 3) (a := a + 1) h1).2
  by_cases c3 : nby T n (num T n 3 (a + 1)).2 = 59
  · rw [if_pos c3]
    exact nby_in c3 (by omega)
  · rw [if_neg c3]; exact h2
theorem stN_le {T : Nat → Int} {n a : Nat} (ha : a ≤ n) : (stN T n a).2.1 ≤ n := by
  unfold stN
  by_cases c2 : (num T n 1 a).1 < 0
  · rw [if_pos c2]; exact ha
  rw [if_neg c2]
  have h2 := (num_p (T := T) (k := 1) (a := a) ha).2
  by_cases c3 : nby T n (num T n 1 a).2 = 59
  · rw [if_pos c3]
    exact nby_in c3 (by omega)
  · rw [if_neg c3]; exact h2
theorem stW_le {T : Nat → Int} {n a : Nat} (ha : a ≤ n) : (stW T n a).2.1 ≤ n := by
  unfold stW
  have h1 := (num_p (T := T) (k := 1) (a := a) ha).2
  have h2 := (num_p (T := T) (k := 1) (a := (num T n 1 a).2) h1).2
  by_cases c1 : (num T n 1 a).1 < 0
  · rw [if_pos c1]; exact ha
  rw [if_neg c1]
  by_cases c2 : (num T n 1 (num T n 1 a).2).1 < 0
  · rw [if_pos c2]; exact h1
  rw [if_neg c2]
  exact stE_le h2
theorem stT_le {T : Nat → Int} {n a : Nat} (ha : a ≤ n) : (stT T n a).2.1 ≤ n := by
  unfold stT
  by_cases c0 : kdo (nby T n a) < 0
  · rw [if_pos c0]; exact ha
  rw [if_neg c0]
  have h0 : a < n := by
    refine Classical.byContradiction (fun z => c0 ?_)
    rw [nby_n (by omega)]
    decide
  have h1 := (num_p (T := T) (k := 1) (a := a + 1) h0).2
  have h2 := (num_p (T := T) (k := 2) (a := (num T n 1 (a + 1)).2) h1).2
  by_cases c1 : (num T n 1 (a + 1)).1 < 0
  · rw [if_pos c1]; exact h0
  rw [if_neg c1]
  by_cases c2 : (num T n 2 (num T n 1 (a + 1)).2).1 < 0
  · rw [if_pos c2]; exact h1
  rw [if_neg c2]
  exact stE_le h2
theorem stp_le {T : Nat → Int} {n a : Nat} (ha : a ≤ n) : (stp T n a).2.1 ≤ n := by
  unfold stp
  by_cases c1 : nby T n a = 110
  · rw [if_pos c1]; exact stN_le (nby_in c1 (by omega))
  rw [if_neg c1]
  by_cases c2 : nby T n a = 119
  · rw [if_pos c2]; exact stW_le (nby_in c2 (by omega))
  rw [if_neg c2]
  by_cases c3 : nby T n a = 116
  · rw [if_pos c3]; exact stT_le (nby_in c3 (by omega))
  rw [if_neg c3]; exact ha
theorem pl_e (T : Nat → Int) (n : Nat) : ∀ f a, a ≤ n → (pl T n f a).2.1 ≤ n
  | 0, a, ha => ha
  | f + 1, a, ha => by
    have h1 := stp_le (T := T) ha
    have ih := pl_e T n f (stp T n a).2.1 h1
    unfold pl
    by_cases c : (stp T n a).1 = true
    · rw [if_pos c]
      by_cases c2 : (stp T n a).2.1 < n
      · rw [if_pos c2]; exact ih
      · rw [if_neg c2]; exact h1
    · rw [if_neg c]; exact h1
theorem mk57_rf (I : II) : mk57 I I := ⟨fun _ _ _ _ => rfl, fun _ _ _ _ => rfl, fun _ _ _ _ _ => rfl, fun _ _ _ _ => rfl⟩
theorem mk57_tr {I J K : II} (h : mk57 I J) (k : mk57 J K) : mk57 I K := ⟨fun a x y z => (k.1 a x y z).trans (h.1 a x y z), fun j x y z => (k.2.1 j x y z).trans (h.2.1 j x y z), fun a j x y z => (k.2.2.1 a j x y z).trans (h.2.2.1 a j x y z), fun a j x y => (k.2.2.2 a j x y).trans (h.2.2.2 a j x y)⟩
theorem rgL_e {I J : II} (e : ∀ a, 74 ≤ a → a ≤ 79 → J a = I a) : ∀ (l : List (Nat × RG)) (k : Nat), rgL I k l → rgL J k l
  | [], _, _ => trivial
  | p :: l, k, h => by
    refine ⟨⟨?_, rgA_e (fun a x y => by rw [e a x y]) h.1.2⟩, rgL_e e l (k + 1) h.2⟩
    rw [e 75 (by omega) (by omega)]
    exact h.1.1
section COM
variable {g : GG} {q m : Nat}
theorem lp_com (hW : WM g) (d : Nat) (Q : QQ) : ∀ (l : List (Nat × RG)) (k : Nat) (s : LST) (I : II), MR I s.1 → okLS s q m → rgL I k l → (∀ p ∈ l, okRG p.2 ∧ p.1 ≤ 64) → I 57 29 = ((k + l.length : Nat) : Int) → k + l.length ≤ 22 → (wrS q m s l = none → ∀ J, MR J (apS q m s l).1 → mk57 I J → Q (some (vi ((k + l.length : Nat) : Int))) g J) → (∀ a, wrS q m s l = some a → ∀ J, mk57 I J → Q (some (vi (-2000 - (a : Int)))) g (sP 0 (rAll200 J) 321)) → WP (d + 3) m_X12_land 86 [some (vr (some 57)), some (vi 1), some (vi k)] [] g I Q := by
  intro l
  induction l with
  | nil =>
    intro k s I hM hS hR hO h29 hk h1 h2
    have h29 : I 57 29 = (k : Int) := h29
    have hq : Q (some (vi (k : Int))) g I := h1 rfl I hM (mk57_rf I)
    rw [H_X12_land_86]
    simp (config := { contextual := true }) (disch := omega) only [R_X12_land_b0, R_X12_land_b1, hW, h29, true_and, and_true, true_implies, not_true_eq_false, false_implies, not_false_eq_true, false_and, and_false, or_true, true_or, false_or, or_false, implies_true, forall_const, kl_i, kl_n, kl_r, kl_l, tl_s, tl_n, List.cons_append, List.nil_append, Int.cast_ofNat_Int, w32_id, w64_id, le_T, le_F, lt_T, lt_F, eq_T, eq_F, reduceIte, ne_eq, Int.toNat_natCast, bi_0, bi_1, bi_b, Nat.reduceAdd, Nat.reduceEqDiff, Int.reduceToNat, Int.reduceNeg, nle_T, nlt_T, neq_T, neq_F, b2_0, b2_b, both, reduceCtorEq]
    exact hq
  | cons p l ih =>
    intro k s I hM hS hR hO h29 hk h1 h2
    obtain ⟨⟨h75, hA⟩, hR'⟩ := hR
    obtain ⟨hr, hp⟩ := hO p (List.mem_cons_self ..)
    have hk' : k + (l.length + 1) ≤ 22 := hk
    have h29 : I 57 29 = ((k + (l.length + 1) : Nat) : Int) := h29
    have kb := fun J Q => ct_back200 (I := J) (d := d + 1) hW Q
    have cs := fun Q hy hn => ct_comesS hW hM hS hr (k := k) (by omega) hA d Q hy hn
    rw [H_X12_land_86]
    simp (config := { contextual := true }) (disch := omega) only [R_X12_land_b0, R_X12_land_b1, hW, h29, true_and, and_true, true_implies, not_true_eq_false, false_implies, not_false_eq_true, false_and, and_false, or_true, true_or, false_or, or_false, implies_true, forall_const, kl_i, kl_n, kl_r, kl_l, tl_s, tl_n, List.cons_append, List.nil_append, Int.cast_ofNat_Int, w32_id, w64_id, le_T, le_F, lt_T, lt_F, eq_T, eq_F, reduceIte, ne_eq, Int.toNat_natCast, bi_0, bi_1, bi_b, Nat.reduceAdd, Nat.reduceEqDiff, Int.reduceToNat, Int.reduceNeg, nle_T, nlt_T, neq_T, neq_F, b2_0, b2_b, both, reduceCtorEq]
    refine cs _ (fun hf J hJ hm => ?_) (fun hf => ?_)
    · have ec : ((k + 1 : Nat) : Int) = (k : Int) + 1 := by omega
      have en : k + 1 + l.length = k + (l.length + 1) := by omega
      have ih' := ih (k + 1) (nxS s p.2) J hJ (okLS_nx hS hr hf) (rgL_e (fun a x y => hm.1 a (by omega) (by omega) (by omega)) l (k + 1) hR') (fun p' hp' => hO p' (List.mem_cons_of_mem _ hp')) (by rw [hm.2.1 29 (by omega) (by omega) (by omega), h29, en]) (by omega) (fun hn J' hJ' hm' => ?_) (fun a ha J' hm' => ?_)
      · rw [ec] at ih'
        simp (config := { contextual := true }) (disch := omega) only [R_X12_land_b0, R_X12_land_b1, ih', true_and, and_true, true_implies, not_true_eq_false, false_implies, not_false_eq_true, false_and, and_false, or_true, true_or, false_or, or_false, implies_true, forall_const, kl_i, kl_n, kl_r, kl_l, tl_s, tl_n, List.cons_append, List.nil_append, Int.cast_ofNat_Int, w32_id, w64_id, le_T, le_F, lt_T, lt_F, eq_T, eq_F, reduceIte, ne_eq, Int.toNat_natCast, bi_0, bi_1, bi_b, Nat.reduceAdd, Nat.reduceEqDiff, Int.reduceToNat, Int.reduceNeg, nle_T, nlt_T, neq_T, neq_F, b2_0, b2_b, both, reduceCtorEq]
      · have e := h1 (by rw [wrS_y hf]; exact hn) J' (by rw [apS_y hf]; exact hJ') (mk57_tr hm hm')
        rw [en]
        exact e
      · exact h2 a (by rw [wrS_y hf]; exact ha) J' (mk57_tr hm hm')
    · have hq := h2 p.1 (wrS_n hf) I (mk57_rf I)
      have h75' : sP 0 (rAll200 I) 321 75 k = (p.1 : Int) := by rw [sP_o (by omega), rA2_o (by omega)]; exact h75
      simp (config := { contextual := true }) (disch := omega) only [R_X12_land_b0, R_X12_land_b1, hW, kb, h75', true_and, and_true, true_implies, not_true_eq_false, false_implies, not_false_eq_true, false_and, and_false, or_true, true_or, false_or, or_false, implies_true, forall_const, kl_i, kl_n, kl_r, kl_l, tl_s, tl_n, List.cons_append, List.nil_append, Int.cast_ofNat_Int, w32_id, w64_id, le_T, le_F, lt_T, lt_F, eq_T, eq_F, reduceIte, ne_eq, Int.toNat_natCast, bi_0, bi_1, bi_b, Nat.reduceAdd, Nat.reduceEqDiff, Int.reduceToNat, Int.reduceNeg, nle_T, nlt_T, neq_T, neq_F, b2_0, b2_b, both, reduceCtorEq]
      exact hq
end COM
theorem fll_id2 {h D E : Nat → Int} {n : Nat} (e : ∀ j, j < n → h j = D j) (e2 : ∀ j, n ≤ j → E j = D j) : fll h n E = D := by
  funext j
  unfold fll
  by_cases c : j < n
  · rw [if_pos c, e j c]
  · rw [if_neg c, e2 j (by omega)]
theorem sm_back2 {I J : II} (h1 : ∀ a, okc a → ¬ (59 ≤ a ∧ a ≤ 65) → ¬ a = 81 → J a = I a) (h59 : ∀ a j, 59 ≤ a → a ≤ 61 → 14 ≤ j → J a j = I a j) (h62 : ∀ a j, (62 ≤ a ∧ a ≤ 65) ∨ a = 81 → 7 ≤ j → J a j = I a j) (h2 : ∀ j, okf j → ¬ (14 ≤ j ∧ j ≤ 18) ∧ ¬ (35 ≤ j ∧ j ≤ 37) → J 57 j = I 57 j) (h80 : J 80 = kAll200 I) (h49 : ∀ j, 7 ≤ j → J 49 j = I 49 j) : sm I (sP 0 (rAll200 J) 321) := by
  have hr : ∀ a, 66 ≤ a ∧ a ≤ 71 → ∀ j, J a j = I a j := fun a q j => by rw [h1 a (by unfold okc; omega) (by omega) (by omega)]
  obtain ⟨f1, f2, f3, f4, f5, f6, f7, f8⟩ := k2_f (I := I)
  refine ⟨fun a q => ?_, fun j q => ?_, fun j q => ?_, fun j q => ?_⟩
  · rw [sP_o (by intro e; subst e; unfold okc at q; omega)]
    by_cases c : 59 ≤ a ∧ a ≤ 71
    · unfold rAll200
      rw [pr_o (by omega), pr_o (by omega)]
      rcases (by omega : a = 59 ∨ a = 60 ∨ a = 61 ∨ a = 62 ∨ a = 63 ∨ a = 64 ∨ a = 65 ∨ a = 66 ∨ a = 67 ∨ a = 68 ∨ a = 69 ∨ a = 70 ∨ a = 71) with r | r | r | r | r | r | r | r | r | r | r | r | r <;> subst r <;> simp (disch := omega) only [pr_o, pr_s] <;> rw [h80]
      · exact fll_id2 (fun j h => k2_59 h) (fun j h => h59 59 j (by omega) (by omega) h)
      · exact fll_id2 (fun j h => k2_60 h) (fun j h => h59 60 j (by omega) (by omega) h)
      · exact fll_id2 (fun j h => k2_61 h) (fun j h => h59 61 j (by omega) (by omega) h)
      · exact fll_id2 (fun j h => k2_62 h) (fun j h => h62 62 j (by omega) h)
      · exact fll_id2 (fun j h => k2_63 h) (fun j h => h62 63 j (by omega) h)
      · exact fll_id2 (fun j h => k2_64 h) (fun j h => h62 64 j (by omega) h)
      · exact fll_id2 (fun j h => k2_65 h) (fun j h => h62 65 j (by omega) h)
      · exact fll_id2 (fun j h => k2_66 h) (fun j h => hr 66 (by omega) j)
      · exact fll_id2 (fun j h => k2_67 h) (fun j h => hr 67 (by omega) j)
      · exact fll_id2 (fun j h => k2_68 h) (fun j h => hr 68 (by omega) j)
      · exact fll_id2 (fun j h => k2_69 h) (fun j h => hr 69 (by omega) j)
      · exact fll_id2 (fun j h => k2_70 h) (fun j h => hr 70 (by omega) j)
      · exact fll_id2 (fun j h => k2_71 h) (fun j h => hr 71 (by omega) j)
    · by_cases c2 : a = 81
      · subst c2
        unfold rAll200
        rw [pr_o (by omega), pr_s, h80]
        exact fll_id2 (fun j h => k2_81 h) (fun j h => h62 81 j (by omega) h)
      · rw [rA2_o ⟨by intro e; subst e; unfold okc at q; omega, c2, c⟩]
        exact h1 a q (by omega) c2
  · rw [sP_f (by unfold okf at q; omega)]
    unfold rAll200
    rw [pr_s, h80, f1, f2, f3, f4, f5, f6, f7, f8]
    by_cases c : (14 ≤ j ∧ j ≤ 18) ∨ (35 ≤ j ∧ j ≤ 37)
    · rcases (by omega : j = 14 ∨ j = 15 ∨ j = 16 ∨ j = 17 ∨ j = 18 ∨ j = 35 ∨ j = 36 ∨ j = 37) with r | r | r | r | r | r | r | r <;> subst r <;> simp (disch := omega) only [uf_o, uf_s]
    · simp (disch := omega) only [uf_o]
      exact h2 j q (by omega)
  · rw [sP_o (by omega), rA2_o (by omega), h80]
    exact k2_lo q
  · rw [sP_o (by omega), rA2_o (by omega)]
    exact h49 j q
def z27 (I : II) : II := pr I 57 (uf (I 57) 27 0)
/-- the model's cells behind a land that was told -/
def fin (I J : II) : Prop := (∀ a, okc a → ¬ (59 ≤ a ∧ a ≤ 65) → ¬ a = 81 → J a = I a) ∧ (∀ j, okf j → ¬ (14 ≤ j ∧ j ≤ 16) → ¬ j = 27 → J 57 j = I 57 j) ∧ J 57 27 = 0 ∧ (∀ j, j < 200 → J 80 j = I 80 j) ∧ (∀ j, 7 ≤ j → J 49 j = I 49 j) ∧ (∀ j, 7 ≤ j → J 81 j = I 81 j)
section MLAND
variable {g : GG} {I A : II} {P w n q m : Nat}
theorem ct_landM (hW : WM g) (hM : MR I A) (hS : okS A P w n q m) {nn : Nat} (hT : TP I nn) (d : Nat) (Q : QQ) (h1 : ¬ (pl (I 73) nn 22 0).1 = true → ∀ J, sm (z27 I) J → Q (some (vi (-1000 - ((pl (I 73) nn 22 0).2.1 : Int)))) g J) (h2 : (pl (I 73) nn 22 0).1 = true → ∀ a, wrS q m (A, P, w, n) (pl (I 73) nn 22 0).2.2 = some a → ∀ J, sm (z27 I) J → Q (some (vi (-2000 - (a : Int)))) g J) (h3 : (pl (I 73) nn 22 0).1 = true → wrS q m (A, P, w, n) (pl (I 73) nn 22 0).2.2 = none → ∀ J, MR J (apS q m (A, P, w, n) (pl (I 73) nn 22 0).2.2).1 → fin I J → Q (some (vi ((pl (I 73) nn 22 0).2.2.length : Int))) g J) : WP (d + 4) m_X12_land 0 [some (vr (some 57)), none, none] [] g I Q := by
  obtain ⟨t1, t2, t3⟩ := hT
  have hl := pl_len (I 73) nn 22 0
  have hok := pl_ok (I 73) nn 22 0
  have hst := pl_st (I 73) nn 22 0 (by omega)
  have hpe := pl_e (I 73) nn 22 0 (by omega)
  have hpl := fun I0 => lp_pl (n := nn) hW I d Q 22 0 0 I0
  generalize pl (I 73) nn 22 0 = R at h1 h2 h3 hl hok hst hpe hpl
  obtain ⟨ok, e, l⟩ := R
  have hpe : e ≤ nn := hpe
  obtain ⟨I0, hI0⟩ : ∃ I0, I0 = pr I 57 (uf (uf (I 57) 28 0) 29 0) := ⟨_, rfl⟩
  have io : ∀ a, ¬ a = 57 → I0 a = I a := fun a ha => by rw [hI0, pr_o ha]
  have if57 : ∀ j, ¬ j = 28 → ¬ j = 29 → I0 57 j = I 57 j := fun j j1 j2 => by rw [hI0, pr_s, uf_o j2, uf_o j1]
  have hpl := hpl I0 ⟨by rw [if57 27 (by omega) (by omega)]; exact t1, t2, by rw [io 73 (by omega)]; exact t3⟩ (io 73 (by omega)) (by rw [hI0, pr_s, uf_o (by omega), uf_s]; rfl) (by rw [hI0, pr_s, uf_s]; rfl) (by omega) (by omega) (by omega) (by omega)
  have hgo : WP (d + 4) m_X12_land 12 [some (vr (some 57)), some (vi 1), none] [] g I0 Q := by
    refine hpl (fun J hmq h28 hg => ?_)
    clear hpl
    have h28 : J 57 28 = (e : Int) := h28
    have hJo : ∀ a, ¬ a = 57 → ¬ (74 ≤ a ∧ a ≤ 79) → J a = I a := fun a a1 a2 => by rw [hmq.1 a a1 a2, io a a1]
    have hJf : ∀ j, ¬ j = 28 → ¬ j = 29 → J 57 j = I 57 j := fun j j1 j2 => by rw [hmq.2.1 j j1 j2, if57 j j1 j2]
    obtain ⟨J1, hJ1⟩ : ∃ J1, J1 = pr J 57 (uf (J 57) 27 0) := ⟨_, rfl⟩
    have k1o : ∀ a, ¬ a = 57 → J1 a = J a := fun a ha => by rw [hJ1, pr_o ha]
    have k1f : ∀ j, ¬ j = 27 → J1 57 j = J 57 j := fun j hj => by rw [hJ1, pr_s, uf_o hj]
    have k127 : J1 57 27 = 0 := by rw [hJ1, pr_s, uf_s]
    have hsm : sm (z27 I) J1 := by
      have zo : ∀ a, ¬ a = 57 → z27 I a = I a := fun a ha => pr_o ha
      refine ⟨fun a ha => ?_, fun j hj => ?_, fun j hj => ?_, fun j hj => ?_⟩
      · have a57 : ¬ a = 57 := by intro z; subst z; unfold okc at ha; omega
        rw [k1o a a57, zo a a57]
        exact hJo a a57 (by unfold okc at ha; omega)
      · have j28 : ¬ j = 28 ∧ ¬ j = 29 := by unfold okf at hj; omega
        unfold z27
        rw [pr_s]
        by_cases z : j = 27
        · rw [z, uf_s, k127]
        · rw [uf_o z, k1f j z]
          exact hJf j j28.1 j28.2
      · rw [k1o 80 (by omega), zo 80 (by omega), hJo 80 (by omega) (by omega)]
      · rw [k1o 49 (by omega), zo 49 (by omega), hJo 49 (by omega) (by omega)]
    cases ok with
    | false =>
      have hq := h1 (by simp) J1 hsm
      have hq : Q (some (vi (-1000 - (e : Int)))) g J1 := hq
      have he : e ≤ 64 := by omega
      have eb : b2 false = 0 := rfl
      have e28 : J1 57 28 = (e : Int) := by rw [k1f 28 (by omega)]; exact h28
      show WP (d + 4) m_X12_land 60 [some (vr (some 57)), some (vi (b2 false)), none] [] g J Q
      rw [eb]
      simp (config := { contextual := true }) (disch := omega) only [R_X12_land_b0, R_X12_land_b1, hW, up_pr, ← hJ1, e28, true_and, and_true, true_implies, not_true_eq_false, false_implies, not_false_eq_true, false_and, and_false, or_true, true_or, false_or, or_false, implies_true, forall_const, kl_i, kl_n, kl_r, kl_l, tl_s, tl_n, List.cons_append, List.nil_append, Int.cast_ofNat_Int, w32_id, w64_id, le_T, le_F, lt_T, lt_F, eq_T, eq_F, reduceIte, ne_eq, Int.toNat_natCast, bi_0, bi_1, bi_b, Nat.reduceAdd, Nat.reduceEqDiff, Int.reduceToNat, Int.reduceNeg, nle_T, nlt_T, neq_T, neq_F, b2_0, b2_b, both, reduceCtorEq]
      exact hq
    | true =>
      obtain ⟨g29, gL⟩ := hg rfl
      have g29 : J 57 29 = ((0 : Nat) : Int) + (l.length : Int) := g29
      have gL : rgL J 0 l := gL
      have kk := fun Q => ct_keep200 (I := J1) (d := d + 2) hW Q
      obtain ⟨K, hK⟩ : ∃ K, K = sP 1 (pr J1 80 (kAll200 J1)) 321 := ⟨_, rfl⟩
      have hKo : ∀ a, ¬ a = 57 → ¬ a = 80 → K a = J1 a := fun a a1 a2 => by rw [hK, kp_o ⟨a1, a2⟩]
      have hKf : ∀ j, ¬ j = 32 → ¬ j = 33 → K 57 j = J1 57 j := fun j j1 j2 => by rw [hK, kp_f ⟨j1, j2⟩]
      have hK80 : K 80 = kAll200 J1 := by rw [hK, kp_80]
      rw [← hK] at kk
      have hMK : MR K A := by
        have hq : ∀ a, (59 ≤ a ∧ a ≤ 71) ∨ a = 81 → K a = I a := fun a ha => by rw [hKo a (by omega) (by omega), k1o a (by omega), hJo a (by omega) (by omega)]
        have hqf : ∀ j, (14 ≤ j ∧ j ≤ 18) ∨ (35 ≤ j ∧ j ≤ 37) → K 57 j = I 57 j := fun j hj => by rw [hKf j (by omega) (by omega), k1f j (by omega), hJf j (by omega) (by omega)]
        rw [MR, hq 59 (by omega), hq 60 (by omega), hq 61 (by omega), hq 62 (by omega), hq 63 (by omega), hq 64 (by omega), hq 65 (by omega), hq 66 (by omega), hq 67 (by omega), hq 68 (by omega), hq 69 (by omega), hq 70 (by omega), hq 71 (by omega), hq 81 (by omega), hqf 14 (by omega), hqf 15 (by omega), hqf 16 (by omega), hqf 17 (by omega), hqf 18 (by omega), hqf 35 (by omega), hqf 36 (by omega), hqf 37 (by omega)]
        exact hM
      have hl : l.length ≤ 22 := hl
      have hrun := lp_com hW (d + 1) Q l 0 (A, P, w, n) K hMK hS (rgL_e (fun a x y => by rw [hKo a (by omega) (by omega), k1o a (by omega)]) l 0 gL) (fun p hp => ⟨hok p hp, by have := hst p hp; omega⟩) (by rw [hKf 29 (by omega) (by omega), k1f 29 (by omega), g29]; omega) (by omega) (fun hn J2 hJ2 hm => ?_) (fun a ha J2 hm => ?_)
      · have eb : b2 true = 1 := rfl
        have e0 : ((0 : Nat) : Int) = 0 := rfl
        rw [e0] at hrun
        show WP (d + 4) m_X12_land 60 [some (vr (some 57)), some (vi (b2 true)), none] [] g J Q
        rw [eb]
        simp (config := { contextual := true }) (disch := omega) only [R_X12_land_b0, R_X12_land_b1, hW, up_pr, ← hJ1, kk, hrun, true_and, and_true, true_implies, not_true_eq_false, false_implies, not_false_eq_true, false_and, and_false, or_true, true_or, false_or, or_false, implies_true, forall_const, kl_i, kl_n, kl_r, kl_l, tl_s, tl_n, List.cons_append, List.nil_append, Int.cast_ofNat_Int, w32_id, w64_id, le_T, le_F, lt_T, lt_F, eq_T, eq_F, reduceIte, ne_eq, Int.toNat_natCast, bi_0, bi_1, bi_b, Nat.reduceAdd, Nat.reduceEqDiff, Int.reduceToNat, Int.reduceNeg, nle_T, nlt_T, neq_T, neq_F, b2_0, b2_b, both, reduceCtorEq]
      · have hq := h3 rfl hn J2 hJ2 ⟨fun a a1 a2 a3 => ?_, fun j j1 j2 j3 => ?_, ?_, fun j hj => ?_, fun j hj => ?_, fun j hj => ?_⟩
        · have en : ((0 + l.length : Nat) : Int) = (l.length : Int) := by omega
          rw [en]
          exact hq
        · have a57 : ¬ a = 57 ∧ ¬ a = 80 ∧ ¬ (74 ≤ a ∧ a ≤ 79) := by refine ⟨fun z => ?_, fun z => ?_, fun z => ?_⟩ <;> (unfold okc at a1; omega)
          rw [hm.1 a a57.1 a2 a3, hKo a a57.1 a57.2.1, k1o a a57.1, hJo a a57.1 a57.2.2]
        · have hj : ¬ j = 28 ∧ ¬ j = 29 ∧ ¬ j = 32 ∧ ¬ j = 33 := by unfold okf at j1; omega
          rw [hm.2.1 j (by omega) (by omega) (by omega), hKf j (by omega) (by omega), k1f j j3, hJf j (by omega) (by omega)]
        · rw [hm.2.1 27 (by omega) (by omega) (by omega), hKf 27 (by omega) (by omega), k127]
        · rw [hm.1 80 (by omega) (by omega) (by omega), hK80, k2_lo hj, k1o 80 (by omega), hJo 80 (by omega) (by omega)]
        · rw [hm.1 49 (by omega) (by omega) (by omega), hKo 49 (by omega) (by omega), k1o 49 (by omega), hJo 49 (by omega) (by omega)]
        · rw [hm.2.2.2 81 j (by omega) hj, hKo 81 (by omega) (by omega), k1o 81 (by omega), hJo 81 (by omega) (by omega)]
      · refine h2 rfl a ha _ (sm_tr hsm (sm_back2 (fun c c1 c2 c3 => ?_) (fun c j c1 c2 c3 => ?_) (fun c j c1 c2 => ?_) (fun j c1 c2 => ?_) ?_ (fun j hj => ?_)))
        · have a57 : ¬ c = 57 ∧ ¬ c = 80 := by refine ⟨fun z => ?_, fun z => ?_⟩ <;> (unfold okc at c1; omega)
          rw [hm.1 c a57.1 c2 c3, hKo c a57.1 a57.2]
        · rw [hm.2.2.1 c j c1 c2 c3, hKo c (by omega) (by omega)]
        · rw [hm.2.2.2 c j c1 c2, hKo c (by omega) (by omega)]
        · have hj : ¬ j = 32 ∧ ¬ j = 33 := by unfold okf at c1; omega
          rw [hm.2.1 j (by omega) (by omega) (by omega), hKf j hj.1 hj.2]
        · rw [hm.1 80 (by omega) (by omega) (by omega), hK80]
        · rw [hm.1 49 (by omega) (by omega) (by omega), hKo 49 (by omega) (by omega)]
  rw [hI0] at hgo
  simp (config := { contextual := true }) (disch := omega) only [R_X12_land_b0, R_X12_land_b1, hW, up_pr, pr_s, pr_pr, true_and, and_true, true_implies, not_true_eq_false, false_implies, not_false_eq_true, false_and, and_false, or_true, true_or, false_or, or_false, implies_true, forall_const, kl_i, kl_n, kl_r, kl_l, tl_s, tl_n, List.cons_append, List.nil_append, Int.cast_ofNat_Int, w32_id, w64_id, le_T, le_F, lt_T, lt_F, eq_T, eq_F, reduceIte, ne_eq, Int.toNat_natCast, bi_0, bi_1, bi_b, Nat.reduceAdd, Nat.reduceEqDiff, Int.reduceToNat, Int.reduceNeg, nle_T, nlt_T, neq_T, neq_F, b2_0, b2_b, both, reduceCtorEq]
  exact hgo
end MLAND

-- LAND: the class reads and tells all
theorem rs_self (I : II) : rs I (I 45 2) (I 45 3) (I 45 4) (I 45 5) (I 45 6) (I 45 7) = I := by
  have e : (fun j => if j = 2 then I 45 2 else if j = 3 then I 45 3 else if j = 4 then I 45 4 else if j = 5 then I 45 5 else if j = 6 then I 45 6 else if j = 7 then I 45 7 else I 45 j) = I 45 := by
    funext j
    by_cases e2 : j = 2
    · rw [if_pos e2, e2]
    rw [if_neg e2]
    by_cases e3 : j = 3
    · rw [if_pos e3, e3]
    rw [if_neg e3]
    by_cases e4 : j = 4
    · rw [if_pos e4, e4]
    rw [if_neg e4]
    by_cases e5 : j = 5
    · rw [if_pos e5, e5]
    rw [if_neg e5]
    by_cases e6 : j = 6
    · rw [if_pos e6, e6]
    rw [if_neg e6]
    by_cases e7 : j = 7
    · rw [if_pos e7, e7]
    rw [if_neg e7]
  unfold rs
  rw [e, pr_id]
theorem TW_fr {g : GG} {I J A : II} {t w n : Nat} (ht : t = 6 ∨ t = 19) (h : TW g I t A w n) (e : ∀ a, ((t ≤ a ∧ a ≤ t + 11) ∧ ¬ a = t + 2) ∨ 90 ≤ a → J a = I a) : TW g J t A w n := by
  obtain ⟨f, h1, hTH, r4, r5, r6, r7, r8, r9, l, lh⟩ := h
  have hTH' := TH_fr (J := J) hTH (fun a ha => e a (by omega))
  refine ⟨?_, ?_, hTH', ?_, ?_, ?_, ?_, ?_, ?_, ?_, ?_⟩
  · rw [e t (by omega)]; exact f
  · rw [e (t + 1) (by omega)]; exact h1
  · rw [e (t + 4) (by omega)]; exact r4
  · rw [e (t + 5) (by omega)]; exact r5
  · rw [e (t + 6) (by omega)]; exact r6
  · rw [e (t + 7) (by omega)]; exact r7
  · rw [e (t + 8) (by omega)]; exact r8
  · rw [e (t + 9) (by omega)]; exact r9
  · rw [e (t + 10) (by omega)]; exact l
  · rw [e (t + 11) (by omega)]; exact lh
section RN
/-- what a reading answers, where all bytes are right -/
noncomputable def rnV (q m : Nat) : LST → List (Nat × RG) → Int → Nat → Int
  | _, [], wr, i => if 0 ≤ wr then -2000 - wr else (i : Int)
  | s, p :: L, wr, i => rnV q m (nyS s q m p.2) L (@ite _ (wr < 0 ∧ ¬ fitS s q m p.2) (Classical.propDecidable _) (p.1 : Int) wr) (i + 1)
noncomputable def wrN (s : LST) (q m : Nat) (p : Nat × RG) (wr : Int) : Int := @ite _ (wr < 0 ∧ ¬ fitS s q m p.2) (Classical.propDecidable _) (p.1 : Int) wr
theorem wrN_y {s : LST} {q m : Nat} {p : Nat × RG} {wr : Int} (h : wr < 0 ∧ ¬ fitS s q m p.2) : wrN s q m p wr = (p.1 : Int) := if_pos h
theorem wrN_n {s : LST} {q m : Nat} {p : Nat × RG} {wr : Int} (h : ¬ (wr < 0 ∧ ¬ fitS s q m p.2)) : wrN s q m p wr = wr := if_neg h
theorem rnV_s (q m : Nat) (s : LST) (p : Nat × RG) (L : List (Nat × RG)) (wr : Int) (i : Nat) : rnV q m s (p :: L) wr i = rnV q m (nyS s q m p.2) L (wrN s q m p wr) (i + 1) := rfl
theorem rnV_w {q m : Nat} : ∀ (L : List (Nat × RG)) (s : LST) (wr : Int) (i : Nat), 0 ≤ wr → rnV q m s L wr i = -2000 - wr
  | [], s, wr, i, h => if_pos h
  | p :: L, s, wr, i, h => by
    rw [rnV_s, wrN_n (fun z => by omega)]
    exact rnV_w L _ wr (i + 1) h
theorem rnV_0 {q m : Nat} : ∀ (L : List (Nat × RG)) (s : LST) (i : Nat), wrS q m s L = none → rnV q m s L (-1) i = ((i + L.length : Nat) : Int)
  | [], s, i, h => if_neg (by omega)
  | p :: L, s, i, h => by
    by_cases c : fitS s q m p.2
    · rw [wrS_y c] at h
      rw [rnV_s, wrN_n (fun z => z.2 c), nyS_y c, rnV_0 L _ (i + 1) h]
      have e : i + 1 + L.length = i + (L.length + 1) := by omega
      rw [e]
      rfl
    · rw [wrS_n c] at h
      cases h
theorem rnV_1 {q m : Nat} : ∀ (L : List (Nat × RG)) (s : LST) (i : Nat) (b : Nat), wrS q m s L = some b → rnV q m s L (-1) i = -2000 - (b : Int)
  | [], s, i, b, h => by cases h
  | p :: L, s, i, b, h => by
    by_cases c : fitS s q m p.2
    · rw [wrS_y c] at h
      rw [rnV_s, wrN_n (fun z => z.2 c), nyS_y c, rnV_1 L _ (i + 1) b h]
    · rw [wrS_n c] at h
      have h := Option.some.inj h
      rw [rnV_s, wrN_y ⟨by omega, c⟩, rnV_w L _ _ _ (by omega), h]
end RN
theorem pl_s (T : Nat → Int) (n f a : Nat) : pl T n (f + 1) a = if (stp T n a).1 = true then (if (stp T n a).2.1 < n then ((pl T n f (stp T n a).2.1).1, (pl T n f (stp T n a).2.1).2.1, (a, (stp T n a).2.2) :: (pl T n f (stp T n a).2.1).2.2) else (true, (stp T n a).2.1, [(a, (stp T n a).2.2)])) else (false, (stp T n a).2.1, []) := rfl
section RDL
variable {g0 : GG} {I0 : II} {n dr q m : Nat}
theorem CI_rs {c : Nat} {g : GG} {I : II} {s : LST} (h : CI g0 I0 n dr q m c g I s) (hd : dr = 6 ∨ dr = 19) (a ft k f s' t : Int) : CI g0 I0 n dr q m c g (rs I a ft k f s' t) s := by
  obtain ⟨h1, h2, h3, h4, h5, h6, ⟨f1, f2, f3, f4⟩, h8, h9⟩ := h
  exact ⟨h1, h2, STR_fr h3 ⟨rfl, rfl, rfl⟩ (rs_o (by omega)) (rs_o (by omega)), XP_fr h4 ⟨rfl, rfl, rfl⟩ rs_1 (rs_o (by omega)), TW_fr hd h5 (fun a ha => rs_o (by omega)), h6, ⟨f1, f2, fun a x y z => (rs_o z).trans (f3 a x y z), f4⟩, h8, h9⟩
theorem lp_rd (hd : dr = 6 ∨ dr = 19) (tp : Int) (d : Nat) (Q : QQ) : ∀ (f i a : Nat) (s : LST) (g : GG) (I : II) (wr : Int) (l7 l8 l9 : Option PV), i + f = 22 → 65 ≤ a + 3 * f → a ≤ n → (i = 0 ∨ a < n) → I 45 2 = (a : Int) → I 45 3 = -1 → (wr = -1 ∨ (0 ≤ wr ∧ wr ≤ 64)) → CI g0 I0 n dr q m i g I s → (∀ g' I' s' v, CI g0 I0 n dr q m 22 g' I' s' → ((pl (I0 52) n f a).1 = true → s' = apS q m s (pl (I0 52) n f a).2.2 ∧ v = rnV q m s (pl (I0 52) n f a).2.2 wr i) → (¬ (pl (I0 52) n f a).1 = true → v = -1000 - ((pl (I0 52) n f a).2.1 : Int)) → Q (some (vi v)) g' I') → WP (d + 7) m_X7_read 34 [some (vr (some 45)), some (vr (some 52)), some (vi tp), some (vr (some dr)), some (vi wr), some (vi i), some (vi i), l7, l8, l9] [] g I Q := by
  intro f
  induction f with
  | zero =>
    intro i a s g I wr l7 l8 l9 hi ha han _ _ _ _ h
    have hn := h.2.2.2.1.2.2.2.2.1
    omega
  | succ f ih =>
    intro i a s g I wr l7 l8 l9 hi ha han hia e2 e3 hwr h hQ
    have hX := h.2.2.2.1
    have hn := hX.2.2.2.2.1
    have h45 := hX.1
    have e1 := hX.2.2.2.1
    have e52 : I 52 = I0 52 := h.2.2.2.2.2.2.1.2.2.1 52 (by have := h.2.2.2.2.2.2.2.2; omega) (by omega) (by omega)
    have hgo : WP (d + 7) m_X7_read 57 [some (vr (some 45)), some (vr (some 52)), some (vi tp), some (vr (some dr)), some (vi wr), some (vi i), some (vi i), l7, l8, l9] [] g I Q := by
      have kr : ∀ Q : QQ, (∀ (a' ft' k' f' s' t' l : Int), ((stp (I0 52) n a).1 = true → a' = ((stp (I0 52) n a).2.1 : Int) ∧ ft' = -1 ∧ l = (stp (I0 52) n a).2.2.1 ∧ rgC (stp (I0 52) n a).2.2 k' f' s' t') → (¬ (stp (I0 52) n a).1 = true → ft' = ((stp (I0 52) n a).2.1 : Int)) → Q (some (vi l)) g (rs I a' ft' k' f' s' t')) → WP (d + 6) m_X7_readStatement 0 [some (vr (some 45)), none] [] g I Q := by
        intro Q hQ
        have eI := rs_self I
        rw [e2, e3] at eI
        have k := ct_rst (k := I 45 4) (f := I 45 5) (s := I 45 6) (t := I 45 7) hX h.2.2.1 a d Q (by rw [e52]; exact hQ)
        rw [eI] at k
        exact k
      simp (config := { contextual := true }) (disch := omega) only [R_X7_read_b0, R_X7_read_b1, h45, e2, true_and, and_true, true_implies, not_true_eq_false, false_implies, not_false_eq_true, false_and, and_false, or_true, true_or, false_or, or_false, implies_true, forall_const, kl_i, kl_n, kl_r, kl_l, tl_s, tl_n, List.cons_append, List.nil_append, Int.cast_ofNat_Int, w32_id, w64_id, le_T, le_F, lt_T, lt_F, eq_T, eq_F, reduceIte, ne_eq, Int.toNat_natCast, bi_0, bi_1, bi_b, Nat.reduceAdd, Nat.reduceEqDiff, Int.reduceToNat, Int.reduceNeg, nle_T, nlt_T, neq_T, neq_F, b2_0, b2_b, both, reduceCtorEq]
      refine kr _ (fun a' ft' k' f' s' t' l hok hno => ?_)
      clear kr
      have hle := stp_le (T := I0 52) han
      by_cases c : (stp (I0 52) n a).1 = true
      case neg =>
        have hv := hno c
        subst hv
        have hq := hQ g (rs I a' ((stp (I0 52) n a).2.1 : Int) k' f' s' t') s (-1000 - ((stp (I0 52) n a).2.1 : Int)) (CI_le (CI_rs h hd _ _ _ _ _ _) (by omega)) (fun z => by rw [pl_s, if_neg c] at z; cases z) (fun _ => by rw [pl_s, if_neg c])
        simp (config := { contextual := true }) (disch := omega) only [R_X7_read_b0, R_X7_read_b1, h45, rs_3, true_and, and_true, true_implies, not_true_eq_false, false_implies, not_false_eq_true, false_and, and_false, or_true, true_or, false_or, or_false, implies_true, forall_const, kl_i, kl_n, kl_r, kl_l, tl_s, tl_n, List.cons_append, List.nil_append, Int.cast_ofNat_Int, w32_id, w64_id, le_T, le_F, lt_T, lt_F, eq_T, eq_F, reduceIte, ne_eq, Int.toNat_natCast, bi_0, bi_1, bi_b, Nat.reduceAdd, Nat.reduceEqDiff, Int.reduceToNat, Int.reduceNeg, nle_T, nlt_T, neq_T, neq_F, b2_0, b2_b, both, reduceCtorEq]
        exact hq
      obtain ⟨r1, r2, r3, r4⟩ := hok c
      clear hok hno
      have hr := (stp_ok c).1
      have he3 := (stp_ok c).2.1
      subst r1 r2 r3
      have hpl := pl_s (I0 52) n f a
      rw [if_pos c] at hpl
      generalize stp (I0 52) n a = R at hpl hr he3 hle r4 ⊢
      obtain ⟨ok, e, r⟩ := R
      have hpl : pl (I0 52) n (f + 1) a = if e < n then ((pl (I0 52) n f e).1, (pl (I0 52) n f e).2.1, (a, r) :: (pl (I0 52) n f e).2.2) else (true, e, [(a, r)]) := hpl
      have hr : okRG r := hr
      have he3 : a + 3 ≤ e := he3
      have hle : e ≤ n := hle
      have r4 : rgC r k' f' s' t' := r4
      have hc1 : CI g0 I0 n dr q m i g (rs I e (-1) k' f' s' t') s := CI_rs h hd _ _ _ _ _ _
      have hts := ct_tellS hc1 hd hr (by rw [rs_4, rs_5, rs_6, rs_7]; exact r4) tp wr i i a l9 d Q (fun g' I' v hc2 h45' hv1 hv0 => ?_)
      · refine Eq.mp (Eq.symm ?_) hts
        simp (config := { contextual := true }) (disch := omega) only [R_X7_read_b0, R_X7_read_b1, h45, rs_3, true_and, and_true, true_implies, not_true_eq_false, false_implies, not_false_eq_true, false_and, and_false, or_true, true_or, false_or, or_false, implies_true, forall_const, kl_i, kl_n, kl_r, kl_l, tl_s, tl_n, List.cons_append, List.nil_append, Int.cast_ofNat_Int, w32_id, w64_id, le_T, le_F, lt_T, lt_F, eq_T, eq_F, reduceIte, ne_eq, Int.toNat_natCast, bi_0, bi_1, bi_b, Nat.reduceAdd, Nat.reduceEqDiff, Int.reduceToNat, Int.reduceNeg, nle_T, nlt_T, neq_T, neq_F, b2_0, b2_b, both, reduceCtorEq]
      · have f2 : I' 45 2 = (e : Int) := by rw [h45', rs_2]
        have f3 : I' 45 3 = -1 := by rw [h45', rs_3]
        have f1 : I' 45 1 = (n : Int) := hc2.2.2.2.1.2.2.2.1
        have k45 := hc2.2.2.2.1.1
        have hw' : wrN s q m (a, r) wr = -1 ∨ (0 ≤ wrN s q m (a, r) wr ∧ wrN s q m (a, r) wr ≤ 64) := by
          by_cases z : wr < 0 ∧ ¬ fitS s q m r
          · rw [wrN_y z]
            show (a : Int) = -1 ∨ (0 ≤ (a : Int) ∧ (a : Int) ≤ 64)
            omega
          · rw [wrN_n z]; exact hwr
        have ec : ((i + 1 : Nat) : Int) = (i : Int) + 1 := by omega
        have hhead : WP (d + 7) m_X7_read 34 [some (vr (some 45)), some (vr (some 52)), some (vi tp), some (vr (some dr)), some (vi (wrN s q m (a, r) wr)), some (vi ((i : Int) + 1)), some (vi ((i : Int) + 1)), some (vi (a : Int)), some (vi r.1), some (vi v)] [] g' I' Q := by
          by_cases c2 : e < n
          · rw [if_pos c2] at hpl
            have ih' := ih (i + 1) e (nyS s q m r) g' I' (wrN s q m (a, r) wr) (some (vi (a : Int))) (some (vi r.1)) (some (vi v)) (by omega) (by omega) hle (Or.inr c2) f2 f3 hw' hc2 (fun g2 I2 s2 v2 x1 x2 x3 => hQ g2 I2 s2 v2 x1 (fun z => ?_) (fun z => ?_))
            · rw [ec] at ih'; exact ih'
            · rw [hpl] at z ⊢
              exact x2 z
            · rw [hpl] at z ⊢
              exact x3 z
          · rw [if_neg c2] at hpl
            have hi22 : i + 1 ≤ 22 := by omega
            have hq : ∀ v2, v2 = rnV q m s [(a, r)] wr i → Q (some (vi v2)) g' I' := fun v2 hv => hQ g' I' (nyS s q m r) v2 (CI_le hc2 hi22) (fun _ => by rw [hpl]; exact ⟨rfl, hv⟩) (fun z => by rw [hpl] at z; exact absurd rfl z)
            have hv2 : rnV q m s [(a, r)] wr i = if 0 ≤ wrN s q m (a, r) wr then -2000 - wrN s q m (a, r) wr else ((i + 1 : Nat) : Int) := rfl
            rw [ec] at hv2
            rw [H_X7_read_34]
            rcases hw' with hw' | hw'
            · rw [hw', if_neg (by omega)] at hv2
              have hq := hq _ hv2.symm
              rw [hw']
              by_cases c3 : i < 21
              · simp (config := { contextual := true }) (disch := omega) only [R_X7_read_b0, R_X7_read_b1, k45, f1, f2, true_and, and_true, true_implies, not_true_eq_false, false_implies, not_false_eq_true, false_and, and_false, or_true, true_or, false_or, or_false, implies_true, forall_const, kl_i, kl_n, kl_r, kl_l, tl_s, tl_n, List.cons_append, List.nil_append, Int.cast_ofNat_Int, w32_id, w64_id, le_T, le_F, lt_T, lt_F, eq_T, eq_F, reduceIte, ne_eq, Int.toNat_natCast, bi_0, bi_1, bi_b, Nat.reduceAdd, Nat.reduceEqDiff, Int.reduceToNat, Int.reduceNeg, nle_T, nlt_T, neq_T, neq_F, b2_0, b2_b, both, reduceCtorEq]
                exact hq
              · exfalso; omega
            · rw [if_pos hw'.1] at hv2
              have hq := hq _ hv2.symm
              generalize wrN s q m (a, r) wr = wr' at hw' hq ⊢
              by_cases c3 : i < 21
              · simp (config := { contextual := true }) (disch := omega) only [R_X7_read_b0, R_X7_read_b1, k45, f1, f2, true_and, and_true, true_implies, not_true_eq_false, false_implies, not_false_eq_true, false_and, and_false, or_true, true_or, false_or, or_false, implies_true, forall_const, kl_i, kl_n, kl_r, kl_l, tl_s, tl_n, List.cons_append, List.nil_append, Int.cast_ofNat_Int, w32_id, w64_id, le_T, le_F, lt_T, lt_F, eq_T, eq_F, reduceIte, ne_eq, Int.toNat_natCast, bi_0, bi_1, bi_b, Nat.reduceAdd, Nat.reduceEqDiff, Int.reduceToNat, Int.reduceNeg, nle_T, nlt_T, neq_T, neq_F, b2_0, b2_b, both, reduceCtorEq]
                exact hq
              · exfalso; omega
        by_cases z1 : fitS s q m r
        · obtain rfl := hv1 z1
          rw [wrN_n (fun z => z.2 z1)] at hhead
          rcases hwr with hwr | hwr
          · subst hwr
            simp (config := { contextual := true }) (disch := omega) only [R_X7_read_b0, R_X7_read_b1, hhead, true_and, and_true, true_implies, not_true_eq_false, false_implies, not_false_eq_true, false_and, and_false, or_true, true_or, false_or, or_false, implies_true, forall_const, kl_i, kl_n, kl_r, kl_l, tl_s, tl_n, List.cons_append, List.nil_append, Int.cast_ofNat_Int, w32_id, w64_id, le_T, le_F, lt_T, lt_F, eq_T, eq_F, reduceIte, ne_eq, Int.toNat_natCast, bi_0, bi_1, bi_b, Nat.reduceAdd, Nat.reduceEqDiff, Int.reduceToNat, Int.reduceNeg, nle_T, nlt_T, neq_T, neq_F, b2_0, b2_b, both, reduceCtorEq]
          · simp (config := { contextual := true }) (disch := omega) only [R_X7_read_b0, R_X7_read_b1, hhead, true_and, and_true, true_implies, not_true_eq_false, false_implies, not_false_eq_true, false_and, and_false, or_true, true_or, false_or, or_false, implies_true, forall_const, kl_i, kl_n, kl_r, kl_l, tl_s, tl_n, List.cons_append, List.nil_append, Int.cast_ofNat_Int, w32_id, w64_id, le_T, le_F, lt_T, lt_F, eq_T, eq_F, reduceIte, ne_eq, Int.toNat_natCast, bi_0, bi_1, bi_b, Nat.reduceAdd, Nat.reduceEqDiff, Int.reduceToNat, Int.reduceNeg, nle_T, nlt_T, neq_T, neq_F, b2_0, b2_b, both, reduceCtorEq]
        · obtain rfl := hv0 z1
          rcases hwr with hwr | hwr
          · subst hwr
            rw [wrN_y ⟨by omega, z1⟩] at hhead
            simp (config := { contextual := true }) (disch := omega) only [R_X7_read_b0, R_X7_read_b1, hhead, true_and, and_true, true_implies, not_true_eq_false, false_implies, not_false_eq_true, false_and, and_false, or_true, true_or, false_or, or_false, implies_true, forall_const, kl_i, kl_n, kl_r, kl_l, tl_s, tl_n, List.cons_append, List.nil_append, Int.cast_ofNat_Int, w32_id, w64_id, le_T, le_F, lt_T, lt_F, eq_T, eq_F, reduceIte, ne_eq, Int.toNat_natCast, bi_0, bi_1, bi_b, Nat.reduceAdd, Nat.reduceEqDiff, Int.reduceToNat, Int.reduceNeg, nle_T, nlt_T, neq_T, neq_F, b2_0, b2_b, both, reduceCtorEq]
          · rw [wrN_n (fun z => by omega)] at hhead
            simp (config := { contextual := true }) (disch := omega) only [R_X7_read_b0, R_X7_read_b1, hhead, true_and, and_true, true_implies, not_true_eq_false, false_implies, not_false_eq_true, false_and, and_false, or_true, true_or, false_or, or_false, implies_true, forall_const, kl_i, kl_n, kl_r, kl_l, tl_s, tl_n, List.cons_append, List.nil_append, Int.cast_ofNat_Int, w32_id, w64_id, le_T, le_F, lt_T, lt_F, eq_T, eq_F, reduceIte, ne_eq, Int.toNat_natCast, bi_0, bi_1, bi_b, Nat.reduceAdd, Nat.reduceEqDiff, Int.reduceToNat, Int.reduceNeg, nle_T, nlt_T, neq_T, neq_F, b2_0, b2_b, both, reduceCtorEq]
    rw [H_X7_read_34]
    by_cases z : i = 0
    · refine Eq.mp (Eq.symm ?_) hgo
      subst z
      have ez : ((0 : Nat) : Int) = 0 := rfl
      rw [ez]
      simp (config := { contextual := true }) (disch := omega) only [R_X7_read_b0, R_X7_read_b1, h45, e1, e2, true_and, and_true, true_implies, not_true_eq_false, false_implies, not_false_eq_true, false_and, and_false, or_true, true_or, false_or, or_false, implies_true, forall_const, kl_i, kl_n, kl_r, kl_l, tl_s, tl_n, List.cons_append, List.nil_append, Int.cast_ofNat_Int, w32_id, w64_id, le_T, le_F, lt_T, lt_F, eq_T, eq_F, reduceIte, ne_eq, Int.toNat_natCast, bi_0, bi_1, bi_b, Nat.reduceAdd, Nat.reduceEqDiff, Int.reduceToNat, Int.reduceNeg, nle_T, nlt_T, neq_T, neq_F, b2_0, b2_b, both, reduceCtorEq]
    · refine Eq.mp (Eq.symm ?_) hgo
      simp (config := { contextual := true }) (disch := omega) only [R_X7_read_b0, R_X7_read_b1, h45, e1, e2, true_and, and_true, true_implies, not_true_eq_false, false_implies, not_false_eq_true, false_and, and_false, or_true, true_or, false_or, or_false, implies_true, forall_const, kl_i, kl_n, kl_r, kl_l, tl_s, tl_n, List.cons_append, List.nil_append, Int.cast_ofNat_Int, w32_id, w64_id, le_T, le_F, lt_T, lt_F, eq_T, eq_F, reduceIte, ne_eq, Int.toNat_natCast, bi_0, bi_1, bi_b, Nat.reduceAdd, Nat.reduceEqDiff, Int.reduceToNat, Int.reduceNeg, nle_T, nlt_T, neq_T, neq_F, b2_0, b2_b, both, reduceCtorEq]
end RDL

-- LAND: all statements, and the model's reading of them
def okRG (r : RG) : Prop := (r.1 = 110 ∧ (0 ≤ r.2.1 ∧ r.2.1 ≤ 9)) ∨ (r.1 = 119 ∧ (0 ≤ r.2.1 ∧ r.2.1 ≤ 9) ∧ (0 ≤ r.2.2.1 ∧ r.2.2.1 ≤ 9) ∧ (0 ≤ r.2.2.2.1 ∧ r.2.2.2.1 ≤ 999)) ∨ (r.1 = 116 ∧ (0 ≤ r.2.1 ∧ r.2.1 ≤ 5) ∧ (0 ≤ r.2.2.1 ∧ r.2.2.1 ≤ 9) ∧ (0 ≤ r.2.2.2.1 ∧ r.2.2.2.1 ≤ 99) ∧ (0 ≤ r.2.2.2.2 ∧ r.2.2.2.2 ≤ 999))
theorem stN_ok {T : Nat → Int} {n a : Nat} (ha : a ≤ n) (h : (stN T n a).1 = true) : ∃ (v : Int) (e : Nat), (0 ≤ v ∧ v ≤ 9) ∧ stN T n a = (true, e, 110, v, 0, 0, 0) ∧ (a + 2 ≤ e ∧ e ≤ n) := by
  have eN : stN T n a = if (num T n 1 a).1 < 0 then noP a else if nby T n (num T n 1 a).2 = 59 then (true, (num T n 1 a).2 + 1, 110, (num T n 1 a).1, 0, 0, 0) else noP (num T n 1 a).2 := rfl
  have e1 : pw 0 1 = 9 := by decide
  by_cases c1 : (num T n 1 a).1 < 0
  · rw [eN, if_pos c1] at h; cases h
  have k1 := num_ok (k := 1) (by omega) c1 ha
  rw [e1] at k1
  by_cases c2 : nby T n (num T n 1 a).2 = 59
  case neg => rw [eN, if_neg c1, if_neg c2] at h; cases h
  have q := nby_in c2 (by omega)
  exact ⟨(num T n 1 a).1, (num T n 1 a).2 + 1, by omega, by rw [eN, if_neg c1, if_pos c2], by omega⟩
theorem stp_ok {T : Nat → Int} {n a : Nat} (h : (stp T n a).1 = true) : okRG (stp T n a).2.2 ∧ a + 3 ≤ (stp T n a).2.1 ∧ (stp T n a).2.1 ≤ n := by
  have eS : stp T n a = if nby T n a = 110 then stN T n (a + 1) else if nby T n a = 119 then stW T n (a + 1) else if nby T n a = 116 then stT T n (a + 1) else noP a := rfl
  by_cases c1 : nby T n a = 110
  · have q := nby_in c1 (by omega)
    rw [eS, if_pos c1] at h ⊢
    obtain ⟨v, e, x1, x2, x3⟩ := stN_ok (by omega) h
    rw [x2]
    exact ⟨Or.inl ⟨rfl, x1⟩, by show a + 3 ≤ e; omega, by show e ≤ n; omega⟩
  by_cases c2 : nby T n a = 119
  · have q := nby_in c2 (by omega)
    rw [eS, if_neg c1, if_pos c2] at h ⊢
    obtain ⟨v1, v2, c, e, x1, x2, x3, x4, x5⟩ := stW_ok (by omega) h
    rw [x4]
    exact ⟨Or.inr (Or.inl ⟨rfl, x1, x2, x3⟩), by show a + 3 ≤ e; omega, by show e ≤ n; omega⟩
  by_cases c3 : nby T n a = 116
  · have q := nby_in c3 (by omega)
    rw [eS, if_neg c1, if_neg c2, if_pos c3] at h ⊢
    obtain ⟨v0, v1, v2, c, e, x1, x2, x3, x4, x5, x6⟩ := stT_ok (by omega) h
    rw [x5]
    exact ⟨Or.inr (Or.inr ⟨rfl, x1, x2, x3, x4⟩), by show a + 3 ≤ e; omega, by show e ≤ n; omega⟩
  · rw [eS, if_neg c1, if_neg c2, if_neg c3] at h
    cases h
abbrev PL : Type := Bool × Nat × List (Nat × RG)
def pl (T : Nat → Int) (n : Nat) : Nat → Nat → PL
  | 0, a => (false, a, [])
  | f + 1, a => if (stp T n a).1 = true then (if (stp T n a).2.1 < n then ((pl T n f (stp T n a).2.1).1, (pl T n f (stp T n a).2.1).2.1, (a, (stp T n a).2.2) :: (pl T n f (stp T n a).2.1).2.2) else (true, (stp T n a).2.1, [(a, (stp T n a).2.2)])) else (false, (stp T n a).2.1, [])
theorem pl_len (T : Nat → Int) (n : Nat) : ∀ f a, (pl T n f a).2.2.length ≤ f
  | 0, a => Nat.le_refl 0
  | f + 1, a => by
    have ih := pl_len T n f (stp T n a).2.1
    unfold pl
    split
    · split
      · show (pl T n f (stp T n a).2.1).2.2.length + 1 ≤ f + 1; omega
      · show 1 ≤ f + 1; omega
    · exact Nat.zero_le _
theorem pl_ok (T : Nat → Int) (n : Nat) : ∀ f a, ∀ p ∈ (pl T n f a).2.2, okRG p.2
  | 0, a, p, hp => by cases hp
  | f + 1, a, p, hp => by
    have ih := pl_ok T n f (stp T n a).2.1
    unfold pl at hp
    by_cases c : (stp T n a).1 = true
    · rw [if_pos c] at hp
      have h1 := (stp_ok c).1
      by_cases c2 : (stp T n a).2.1 < n
      · rw [if_pos c2] at hp
        rcases List.mem_cons.mp hp with q | q
        · rw [q]; exact h1
        · exact ih p q
      · rw [if_neg c2] at hp
        rcases List.mem_cons.mp hp with q | q
        · rw [q]; exact h1
        · cases q
    · rw [if_neg c] at hp; cases hp
def rgL (J : II) : Nat → List (Nat × RG) → Prop
  | _, [] => True
  | k, p :: l => (J 75 k = (p.1 : Int) ∧ rgA J k p.2) ∧ rgL J (k + 1) l
/-- reading on: the rows of the statements ahead are as they were -/
def mq (I J : II) (k : Nat) : Prop := (∀ a, ¬ a = 57 → ¬ (74 ≤ a ∧ a ≤ 79) → J a = I a) ∧ (∀ j, ¬ j = 28 → ¬ j = 29 → J 57 j = I 57 j) ∧ (∀ a, 74 ≤ a → a ≤ 79 → ∀ j, j < k → J a j = I a j)
theorem rgA_e {J J' : II} {k : Nat} {r : RG} (e : ∀ a, 74 ≤ a → a ≤ 79 → J' a k = J a k) (h : rgA J k r) : rgA J' k r := by
  unfold rgA
  rw [e 74 (by omega) (by omega), e 76 (by omega) (by omega), e 77 (by omega) (by omega), e 78 (by omega) (by omega), e 79 (by omega) (by omega)]
  exact h
section MPL
variable {g : GG} {n : Nat}
theorem lp_pl (hW : WM g) (I0 : II) (d : Nat) (Q : QQ) : ∀ (f a k : Nat) (I : II), TP I n → I 73 = I0 73 → I 57 28 = (a : Int) → I 57 29 = (k : Int) → 65 ≤ a + 3 * f → k + f ≤ 22 → a ≤ n → (a < n ∨ k = 0) → (∀ J : II, mq I J k → J 57 28 = ((pl (I0 73) n f a).2.1 : Int) → ((pl (I0 73) n f a).1 = true → J 57 29 = (k : Int) + ((pl (I0 73) n f a).2.2.length : Int) ∧ rgL J k (pl (I0 73) n f a).2.2) → WP (d + 4) m_X12_land 60 [some (vr (some 57)), some (vi (b2 (pl (I0 73) n f a).1)), none] [] g J Q) → WP (d + 4) m_X12_land 12 [some (vr (some 57)), some (vi 1), none] [] g I Q := by
  intro f
  induction f with
  | zero =>
    intro a k I hT h73 h28 h29 hf hk ha hak hQ
    have := hT.2.1
    omega
  | succ f ih =>
    intro a k I hT h73 h28 h29 hf hk ha hak hQ
    have e : pl (I0 73) n (f + 1) a = if (stp (I0 73) n a).1 = true then (if (stp (I0 73) n a).2.1 < n then ((pl (I0 73) n f (stp (I0 73) n a).2.1).1, (pl (I0 73) n f (stp (I0 73) n a).2.1).2.1, (a, (stp (I0 73) n a).2.2) :: (pl (I0 73) n f (stp (I0 73) n a).2.1).2.2) else (true, (stp (I0 73) n a).2.1, [(a, (stp (I0 73) n a).2.2)])) else (false, (stp (I0 73) n a).2.1, []) := rfl
    have kst := ct_stm hW hT (k := k) (by omega) h29 a (d := d)
    rw [atA_id h28, h73] at kst
    have hsok := stp_ok (T := I0 73) (n := n) (a := a)
    generalize stp (I0 73) n a = r at e kst hsok
    obtain ⟨ok, e1, rg⟩ := r
    have h27 := hT.1
    have hn := hT.2.1
    have hcond : (a : Int) < n ∨ (¬ (a : Int) < n ∧ k = 0) := by omega
    have rest : ∀ (J : II), mp I J k → J 57 28 = (e1 : Int) → (ok = true → J 75 k = (a : Int) ∧ rgA J k rg) → WP (d + 4) m_X12_land 38 [some (vr (some 57)), some (vi 1), none] [vi (b2 ok)] g J Q := by
      intro J j1 j2 j3
      have j29 : J 57 29 = (k : Int) := by rw [j1.2.1 29 (by omega)]; exact h29
      cases ok with
      | false =>
        have ef : ¬ (false = true) := by decide
        rw [if_neg ef] at e
        rw [e] at hQ
        have hq := hQ J ⟨j1.1, fun j q1 q2 => j1.2.1 j q1, fun a q1 q2 j q3 => j1.2.2 a q1 q2 j (by omega)⟩ j2 (fun q => by cases q)
        have bf : b2 false = 0 := rfl
        have hq : WP (d + 4) m_X12_land 60 [some (vr (some 57)), some (vi 0), none] [] g J Q := hq
        have ei : pr J 57 (uf (J 57) 29 (k : Int)) = J := by rw [← j29, uf_id, pr_id]
        rw [bf]
        have st : WP (d + 4) m_X12_land 38 [some (vr (some 57)), some (vi 1), none] [vi 0] g J Q = WP (d + 4) m_X12_land 12 [some (vr (some 57)), some (vi 0), none] [] g J Q := by
          simp (config := { contextual := true }) (disch := omega) only [R_X12_land_b0, R_X12_land_b1, hW, j29, up_pr, Int.add_zero, ei, true_and, and_true, true_implies, not_true_eq_false, false_implies, not_false_eq_true, false_and, and_false, or_true, true_or, false_or, or_false, implies_true, forall_const, kl_i, kl_n, kl_r, kl_l, tl_s, tl_n, List.cons_append, List.nil_append, Int.cast_ofNat_Int, w32_id, w64_id, le_T, le_F, lt_T, lt_F, eq_T, eq_F, reduceIte, ne_eq, Int.toNat_natCast, bi_0, bi_1, bi_b, Nat.reduceAdd, Nat.reduceEqDiff, Int.reduceToNat, Int.reduceNeg, nle_T, nlt_T, neq_T, neq_F, b2_0, b2_b, both, reduceCtorEq]
        rw [st, H_X12_land_12]
        refine Eq.mp (Eq.symm ?_) hq
        simp (config := { contextual := true }) (disch := omega) only [R_X12_land_b0, R_X12_land_b1, hW, true_and, and_true, true_implies, not_true_eq_false, false_implies, not_false_eq_true, false_and, and_false, or_true, true_or, false_or, or_false, implies_true, forall_const, kl_i, kl_n, kl_r, kl_l, tl_s, tl_n, List.cons_append, List.nil_append, Int.cast_ofNat_Int, w32_id, w64_id, le_T, le_F, lt_T, lt_F, eq_T, eq_F, reduceIte, ne_eq, Int.toNat_natCast, bi_0, bi_1, bi_b, Nat.reduceAdd, Nat.reduceEqDiff, Int.reduceToNat, Int.reduceNeg, nle_T, nlt_T, neq_T, neq_F, b2_0, b2_b, both, reduceCtorEq]
      | true =>
        obtain ⟨j4, j5⟩ := j3 rfl
        obtain ⟨s1, s2, s3⟩ := hsok rfl
        have s2 : a + 3 ≤ e1 := s2
        have s3 : e1 ≤ n := s3
        rw [if_pos rfl] at e
        have bt : b2 true = 1 := rfl
        rw [bt]
        obtain ⟨J', hJ'⟩ : ∃ J', J' = pr J 57 (uf (J 57) 29 ((k : Int) + 1)) := ⟨_, rfl⟩
        have o1 : ∀ b, ¬ b = 57 → J' b = J b := fun b hb => by rw [hJ', pr_o hb]
        have o2 : ∀ j, ¬ j = 29 → J' 57 j = J 57 j := fun j hj => by rw [hJ', pr_s, uf_o hj]
        have o3 : J' 57 29 = ((k + 1 : Nat) : Int) := by rw [hJ', pr_s, uf_s]; omega
        have st : WP (d + 4) m_X12_land 38 [some (vr (some 57)), some (vi 1), none] [vi 1] g J Q = WP (d + 4) m_X12_land 12 [some (vr (some 57)), some (vi 1), none] [] g J' Q := by
          simp (config := { contextual := true }) (disch := omega) only [R_X12_land_b0, R_X12_land_b1, hW, j29, up_pr, ← hJ', true_and, and_true, true_implies, not_true_eq_false, false_implies, not_false_eq_true, false_and, and_false, or_true, true_or, false_or, or_false, implies_true, forall_const, kl_i, kl_n, kl_r, kl_l, tl_s, tl_n, List.cons_append, List.nil_append, Int.cast_ofNat_Int, w32_id, w64_id, le_T, le_F, lt_T, lt_F, eq_T, eq_F, reduceIte, ne_eq, Int.toNat_natCast, bi_0, bi_1, bi_b, Nat.reduceAdd, Nat.reduceEqDiff, Int.reduceToNat, Int.reduceNeg, nle_T, nlt_T, neq_T, neq_F, b2_0, b2_b, both, reduceCtorEq]
        rw [st]
        have mqJ : mq I J' k := ⟨fun b q1 q2 => by rw [o1 b q1]; exact j1.1 b q1 q2, fun j q1 q2 => by rw [o2 j q2]; exact j1.2.1 j q1, fun b q1 q2 j q3 => by rw [o1 b (by omega)]; exact j1.2.2 b q1 q2 j (by omega)⟩
        have p75 : J' 75 k = (a : Int) := by rw [o1 75 (by omega)]; exact j4
        have pA : rgA J' k rg := rgA_e (fun b q1 q2 => by rw [o1 b (by omega)]) j5
        have pT : TP J' n := ⟨by rw [o2 27 (by omega), j1.2.1 27 (by omega)]; exact h27, hn, by rw [o1 73 (by omega), j1.1 73 (by omega) (by omega)]; exact hT.2.2⟩
        have p73 : J' 73 = I0 73 := by rw [o1 73 (by omega), j1.1 73 (by omega) (by omega)]; exact h73
        have p28 : J' 57 28 = (e1 : Int) := by rw [o2 28 (by omega)]; exact j2
        by_cases c : e1 < n
        · rw [if_pos c] at e
          rw [e] at hQ
          refine ih e1 (k + 1) J' pT p73 p28 o3 (by omega) (by omega) s3 (Or.inl c) (fun J2 x1 x2 x3 => ?_)
          have hq := hQ J2 ⟨fun b q1 q2 => (x1.1 b q1 q2).trans (mqJ.1 b q1 q2), fun j q1 q2 => (x1.2.1 j q1 q2).trans (mqJ.2.1 j q1 q2), fun b q1 q2 j q3 => (x1.2.2 b q1 q2 j (by omega)).trans (mqJ.2.2 b q1 q2 j q3)⟩ x2 (fun q => by
            obtain ⟨y1, y2⟩ := x3 q
            refine ⟨?_, ⟨?_, ?_⟩, y2⟩
            · rw [y1]
              show ((k + 1 : Nat) : Int) + ((pl (I0 73) n f e1).2.2.length : Int) = (k : Int) + (((pl (I0 73) n f e1).2.2.length + 1 : Nat) : Int)
              omega
            · rw [x1.2.2 75 (by omega) (by omega) k (by omega)]; exact p75
            · exact rgA_e (fun b q1 q2 => x1.2.2 b q1 q2 k (by omega)) pA)
          exact hq
        · rw [if_neg c] at e
          rw [e] at hQ
          have hq := hQ J' mqJ p28 (fun _ => ⟨by rw [o3]; show ((k + 1 : Nat) : Int) = (k : Int) + ((1 : Nat) : Int); omega, ⟨p75, pA⟩, trivial⟩)
          have hq : WP (d + 4) m_X12_land 60 [some (vr (some 57)), some (vi 1), none] [] g J' Q := hq
          have p27 := pT.1
          have pk : ¬ ((k + 1 : Nat) : Int) = 0 := by omega
          refine Eq.mp (Eq.symm ?_) hq
          rw [H_X12_land_12]
          simp (config := { contextual := true }) (disch := omega) only [R_X12_land_b0, R_X12_land_b1, hW, p27, p28, o3, pk, true_and, and_true, true_implies, not_true_eq_false, false_implies, not_false_eq_true, false_and, and_false, or_true, true_or, false_or, or_false, implies_true, forall_const, kl_i, kl_n, kl_r, kl_l, tl_s, tl_n, List.cons_append, List.nil_append, Int.cast_ofNat_Int, w32_id, w64_id, le_T, le_F, lt_T, lt_F, eq_T, eq_F, reduceIte, ne_eq, Int.toNat_natCast, bi_0, bi_1, bi_b, Nat.reduceAdd, Nat.reduceEqDiff, Int.reduceToNat, Int.reduceNeg, nle_T, nlt_T, neq_T, neq_F, b2_0, b2_b, both, reduceCtorEq]
    rw [H_X12_land_12]
    rcases hcond with q | ⟨q, q0⟩
    · simp (config := { contextual := true }) (disch := omega) only [R_X12_land_b0, R_X12_land_b1, hW, h28, h27, true_and, and_true, true_implies, not_true_eq_false, false_implies, not_false_eq_true, false_and, and_false, or_true, true_or, false_or, or_false, implies_true, forall_const, kl_i, kl_n, kl_r, kl_l, tl_s, tl_n, List.cons_append, List.nil_append, Int.cast_ofNat_Int, w32_id, w64_id, le_T, le_F, lt_T, lt_F, eq_T, eq_F, reduceIte, ne_eq, Int.toNat_natCast, bi_0, bi_1, bi_b, Nat.reduceAdd, Nat.reduceEqDiff, Int.reduceToNat, Int.reduceNeg, nle_T, nlt_T, neq_T, neq_F, b2_0, b2_b, both, reduceCtorEq]
      exact kst _ (fun J j1 j2 j3 => rest J j1 j2 j3)
    · have h290 : I 57 29 = 0 := by rw [h29, q0]; rfl
      simp (config := { contextual := true }) (disch := omega) only [R_X12_land_b0, R_X12_land_b1, hW, h28, h27, h290, true_and, and_true, true_implies, not_true_eq_false, false_implies, not_false_eq_true, false_and, and_false, or_true, true_or, false_or, or_false, implies_true, forall_const, kl_i, kl_n, kl_r, kl_l, tl_s, tl_n, List.cons_append, List.nil_append, Int.cast_ofNat_Int, w32_id, w64_id, le_T, le_F, lt_T, lt_F, eq_T, eq_F, reduceIte, ne_eq, Int.toNat_natCast, bi_0, bi_1, bi_b, Nat.reduceAdd, Nat.reduceEqDiff, Int.reduceToNat, Int.reduceNeg, nle_T, nlt_T, neq_T, neq_F, b2_0, b2_b, both, reduceCtorEq]
      exact kst _ (fun J j1 j2 j3 => rest J j1 j2 j3)
end MPL

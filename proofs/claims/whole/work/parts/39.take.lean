-- TAKING: class's takeWorthy and takeOpen, model's hasAll
abbrev CV (g : GG) (I : II) (t : Nat) (A : II) (n : Nat) : Prop := t ≤ 19 ∧ WX g ∧ WT g t ∧ I t 4 = (n : Int) ∧ I (t + 4) 0 = A 7 0 ∧ I (t + 4) 1 = A 7 1 ∧ I (t + 4) 2 = A 7 2 ∧ I (t + 4) 3 = A 7 3
abbrev okSt (A : II) : Prop := (0 ≤ A 7 0 ∧ A 7 0 ≤ 999) ∧ (0 ≤ A 7 1 ∧ A 7 1 ≤ 999) ∧ (1 ≤ A 7 2 ∧ A 7 2 ≤ 999) ∧ (0 ≤ A 7 3 ∧ A 7 3 < 8)
theorem TH_mcx {g : GG} {I : II} {t : Nat} {A : II} {n : Nat} (h : TH g I t A n) (x : LF) : TH g (mcx I x) t A n := TH_pr (TH_pr h (by omega)) (by omega)
theorem WL_m {g : GG} (h : WX g) : WL g 48 49 := by simp only [WL, h, and_self]
section TAKE
variable {g : GG} {I : II} {d t n : Nat} {A : II}
theorem lp_tW (hV : CV g I t A n) (hTH : TH g I t A n) (hA : okA A n) (hS : okSt A) (x : LF) (hx : okL x) (Q : QQ) (hQ : Q none g (mcx I (tkA A true n x))) : ∀ k i : Nat, i + k = n → ∀ l3, WP (d + 4) m_X5_takeWorthy 2 [some (vr (some 47)), some (vr (some t)), some (vi i), l3] [] g (mcx I (tkA A true i x)) Q := by
  obtain ⟨ht, hX, hT, hn, s0, s1, s2, s3⟩ := hV
  have hn7 := hA.1
  have hL := WL_m hX
  intro k
  induction k with
  | zero =>
    intro i hb l3
    obtain rfl : i = n := by omega
    rw [H_X5_takeWorthy_2]
    simp (config := { contextual := true }) (disch := omega) only [R_X5_takeWorthy, hX, hT, hn, mcx_o, true_and, and_true, true_implies, not_true_eq_false, false_implies, not_false_eq_true, false_and, and_false, or_true, true_or, false_or, or_false, implies_true, forall_const, kl_i, kl_n, kl_r, kl_l, tl_s, tl_n, List.cons_append, List.nil_append, Int.cast_ofNat_Int, w32_id, w64_id, le_T, le_F, lt_T, lt_F, eq_T, eq_F, reduceIte, ne_eq, Int.toNat_natCast, bi_0, bi_1, bi_b, Nat.reduceAdd, Nat.reduceEqDiff, Int.reduceToNat, Int.reduceNeg, nle_T, nlt_T, neq_T, neq_F]
    exact hQ
  | succ k ih =>
    intro i hb l3
    have hy := okL_tkA (w := true) hA hx i (by omega)
    have hTH' := TH_mcx hTH (tkA A true i x)
    have hi : i < n := by omega
    have ih' := ih (i + 1) (by omega)
    have e1 : tkA A true (i + 1) x = tk1 A true i (tkA A true i x) := rfl
    rw [e1] at ih'
    generalize tkA A true i x = y at hy hTH' ih' ⊢
    obtain ⟨b, hb1, hb2, hb3⟩ := hTH' i hi
    obtain ⟨ok, hpl⟩ := hA.2 i hi
    have hs : gK g (t + 4) = (1, 4) := by simp only [hT]
    obtain ⟨hy1, hy2, hy3⟩ := hy
    have hyi := hy3 i (by omega)
    have ho : 0 ≤ mcx I y (t + 4) 1 ∧ mcx I y (t + 4) 1 ≤ 1000 := by rw [mcx_o (by omega), s1]; omega
    have h0 : 0 ≤ mcx I y 49 i := by rw [mcx_h]; omega
    have ha : 0 ≤ mcx I y 48 1 ∧ mcx I y 48 1 ≤ 1000000 := by rw [mcx_1]; omega
    have ew : wth (A 3 i) (A 5 i) (A 6 i) (A 7 0) (A 7 1) (lAge y) (lHad y i) = wOf A i (lAge y) (lHad y i) := rfl
    rw [H_X5_takeWorthy_2]
    by_cases c1 : 0 < wOf A i (lAge y) (lHad y i)
    · by_cases c2 : A 4 i = lAt y ∧ opn (A 3 i) (A 5 i) (A 6 i) i (lHad y)
      · rw [show tk1 A true i y = tk0 A i y from if_pos ⟨c2, fun _ => c1⟩] at ih'
        simp (config := { contextual := true }) (disch := omega) only [R_X5_takeWorthy, hX, hT, hn, mcx_o, hb2, hb3.1, ct_wT hb3 ok hs, ct_mayTake hT hL hTH' hA hi h0, ct_take hT hL (by decide) hTH' hA hi h0 ha ho, mcx_0, mcx_1, mcx_2, mcx_h, s0, s1, ew, c2, mcx_take, true_and, and_true, true_implies, not_true_eq_false, false_implies, not_false_eq_true, false_and, and_false, or_true, true_or, false_or, or_false, implies_true, forall_const, kl_i, kl_n, kl_r, kl_l, tl_s, tl_n, List.cons_append, List.nil_append, Int.cast_ofNat_Int, w32_id, w64_id, le_T, le_F, lt_T, lt_F, eq_T, eq_F, reduceIte, ne_eq, Int.toNat_natCast, bi_0, bi_1, bi_b, Nat.reduceAdd, Nat.reduceEqDiff, Int.reduceToNat, Int.reduceNeg, nle_T, nlt_T, neq_T, neq_F]
        exact ih' _
      · rw [show tk1 A true i y = y from if_neg (fun q => c2 q.1)] at ih'
        simp (config := { contextual := true }) (disch := omega) only [R_X5_takeWorthy, hX, hT, hn, mcx_o, hb2, hb3.1, ct_wT hb3 ok hs, ct_mayTake hT hL hTH' hA hi h0, mcx_0, mcx_1, mcx_2, mcx_h, s0, s1, ew, c2, true_and, and_true, true_implies, not_true_eq_false, false_implies, not_false_eq_true, false_and, and_false, or_true, true_or, false_or, or_false, implies_true, forall_const, kl_i, kl_n, kl_r, kl_l, tl_s, tl_n, List.cons_append, List.nil_append, Int.cast_ofNat_Int, w32_id, w64_id, le_T, le_F, lt_T, lt_F, eq_T, eq_F, reduceIte, ne_eq, Int.toNat_natCast, bi_0, bi_1, bi_b, Nat.reduceAdd, Nat.reduceEqDiff, Int.reduceToNat, Int.reduceNeg, nle_T, nlt_T, neq_T, neq_F]
        exact ih' _
    · rw [show tk1 A true i y = y from if_neg (fun q => c1 (q.2 rfl))] at ih'
      simp (config := { contextual := true }) (disch := omega) only [R_X5_takeWorthy, hX, hT, hn, mcx_o, hb2, hb3.1, ct_wT hb3 ok hs, mcx_0, mcx_1, mcx_2, mcx_h, s0, s1, ew, true_and, and_true, true_implies, not_true_eq_false, false_implies, not_false_eq_true, false_and, and_false, or_true, true_or, false_or, or_false, implies_true, forall_const, kl_i, kl_n, kl_r, kl_l, tl_s, tl_n, List.cons_append, List.nil_append, Int.cast_ofNat_Int, w32_id, w64_id, le_T, le_F, lt_T, lt_F, eq_T, eq_F, reduceIte, ne_eq, Int.toNat_natCast, bi_0, bi_1, bi_b, Nat.reduceAdd, Nat.reduceEqDiff, Int.reduceToNat, Int.reduceNeg, nle_T, nlt_T, neq_T, neq_F]
      exact ih' _
theorem ct_takeWorthy (hV : CV g I t A n) (hTH : TH g I t A n) (hA : okA A n) (hS : okSt A) (x : LF) (hx : okL x) (Q : QQ) : WP (d + 4) m_X5_takeWorthy 0 [some (vr (some 47)), some (vr (some t)), none, none] [] g (mcx I x) Q = Q none g (mcx I (tkA A true n x)) := by
  refine WP_fun (fun Q hQ => ?_) Q
  simp (config := { contextual := true }) (disch := omega) only [R_X5_takeWorthy, true_and, and_true, true_implies, not_true_eq_false, false_implies, not_false_eq_true, false_and, and_false, or_true, true_or, false_or, or_false, implies_true, forall_const, kl_i, kl_n, kl_r, kl_l, tl_s, tl_n, List.cons_append, List.nil_append, Int.cast_ofNat_Int, w32_id, w64_id, le_T, le_F, lt_T, lt_F, eq_T, eq_F, reduceIte, ne_eq, Int.toNat_natCast, bi_0, bi_1, bi_b, Nat.reduceAdd, Nat.reduceEqDiff, Int.reduceToNat, Int.reduceNeg, nle_T, nlt_T, neq_T, neq_F]
  exact lp_tW hV hTH hA hS x hx Q hQ n 0 (by omega) none
theorem lp_tO (hV : CV g I t A n) (hTH : TH g I t A n) (hA : okA A n) (hS : okSt A) (x : LF) (hx : okL x) (Q : QQ) (hQ : Q none g (mcx I (tkA A false n x))) : ∀ k i : Nat, i + k = n → WP (d + 4) m_X5_takeOpen 2 [some (vr (some 47)), some (vr (some t)), some (vi i)] [] g (mcx I (tkA A false i x)) Q := by
  obtain ⟨ht, hX, hT, hn, s0, s1, s2, s3⟩ := hV
  have hn7 := hA.1
  have hL := WL_m hX
  intro k
  induction k with
  | zero =>
    intro i hb
    obtain rfl : i = n := by omega
    rw [H_X5_takeOpen_2]
    simp (config := { contextual := true }) (disch := omega) only [R_X5_takeOpen, hX, hT, hn, mcx_o, true_and, and_true, true_implies, not_true_eq_false, false_implies, not_false_eq_true, false_and, and_false, or_true, true_or, false_or, or_false, implies_true, forall_const, kl_i, kl_n, kl_r, kl_l, tl_s, tl_n, List.cons_append, List.nil_append, Int.cast_ofNat_Int, w32_id, w64_id, le_T, le_F, lt_T, lt_F, eq_T, eq_F, reduceIte, ne_eq, Int.toNat_natCast, bi_0, bi_1, bi_b, Nat.reduceAdd, Nat.reduceEqDiff, Int.reduceToNat, Int.reduceNeg, nle_T, nlt_T, neq_T, neq_F]
    exact hQ
  | succ k ih =>
    intro i hb
    have hy := okL_tkA (w := false) hA hx i (by omega)
    have hTH' := TH_mcx hTH (tkA A false i x)
    have hi : i < n := by omega
    have ih' := ih (i + 1) (by omega)
    have e1 : tkA A false (i + 1) x = tk1 A false i (tkA A false i x) := rfl
    rw [e1] at ih'
    generalize tkA A false i x = y at hy hTH' ih' ⊢
    obtain ⟨hy1, hy2, hy3⟩ := hy
    have hyi := hy3 i (by omega)
    have ho : 0 ≤ mcx I y (t + 4) 1 ∧ mcx I y (t + 4) 1 ≤ 1000 := by rw [mcx_o (by omega), s1]; omega
    have h0 : 0 ≤ mcx I y 49 i := by rw [mcx_h]; omega
    have ha : 0 ≤ mcx I y 48 1 ∧ mcx I y 48 1 ≤ 1000000 := by rw [mcx_1]; omega
    have ew : wth (A 3 i) (A 5 i) (A 6 i) (A 7 0) (A 7 1) (lAge y) (lHad y i) = wOf A i (lAge y) (lHad y i) := rfl
    rw [H_X5_takeOpen_2]
    by_cases c2 : A 4 i = lAt y ∧ opn (A 3 i) (A 5 i) (A 6 i) i (lHad y)
    · rw [show tk1 A false i y = tk0 A i y from if_pos ⟨c2, fun q => by cases q⟩] at ih'
      simp (config := { contextual := true }) (disch := omega) only [R_X5_takeOpen, hX, hT, hn, mcx_o, ct_mayTake hT hL hTH' hA hi h0, ct_take hT hL (by decide) hTH' hA hi h0 ha ho, mcx_0, mcx_1, mcx_2, mcx_h, s0, s1, ew, c2, mcx_take, true_and, and_true, true_implies, not_true_eq_false, false_implies, not_false_eq_true, false_and, and_false, or_true, true_or, false_or, or_false, implies_true, forall_const, kl_i, kl_n, kl_r, kl_l, tl_s, tl_n, List.cons_append, List.nil_append, Int.cast_ofNat_Int, w32_id, w64_id, le_T, le_F, lt_T, lt_F, eq_T, eq_F, reduceIte, ne_eq, Int.toNat_natCast, bi_0, bi_1, bi_b, Nat.reduceAdd, Nat.reduceEqDiff, Int.reduceToNat, Int.reduceNeg, nle_T, nlt_T, neq_T, neq_F]
      exact ih'
    · rw [show tk1 A false i y = y from if_neg (fun q => c2 q.1)] at ih'
      simp (config := { contextual := true }) (disch := omega) only [R_X5_takeOpen, hX, hT, hn, mcx_o, ct_mayTake hT hL hTH' hA hi h0, mcx_0, mcx_1, mcx_2, mcx_h, s0, s1, ew, c2, true_and, and_true, true_implies, not_true_eq_false, false_implies, not_false_eq_true, false_and, and_false, or_true, true_or, false_or, or_false, implies_true, forall_const, kl_i, kl_n, kl_r, kl_l, tl_s, tl_n, List.cons_append, List.nil_append, Int.cast_ofNat_Int, w32_id, w64_id, le_T, le_F, lt_T, lt_F, eq_T, eq_F, reduceIte, ne_eq, Int.toNat_natCast, bi_0, bi_1, bi_b, Nat.reduceAdd, Nat.reduceEqDiff, Int.reduceToNat, Int.reduceNeg, nle_T, nlt_T, neq_T, neq_F]
      exact ih'
theorem ct_takeOpen (hV : CV g I t A n) (hTH : TH g I t A n) (hA : okA A n) (hS : okSt A) (x : LF) (hx : okL x) (Q : QQ) : WP (d + 4) m_X5_takeOpen 0 [some (vr (some 47)), some (vr (some t)), none] [] g (mcx I x) Q = Q none g (mcx I (tkA A false n x)) := by
  refine WP_fun (fun Q hQ => ?_) Q
  simp (config := { contextual := true }) (disch := omega) only [R_X5_takeOpen, true_and, and_true, true_implies, not_true_eq_false, false_implies, not_false_eq_true, false_and, and_false, or_true, true_or, false_or, or_false, implies_true, forall_const, kl_i, kl_n, kl_r, kl_l, tl_s, tl_n, List.cons_append, List.nil_append, Int.cast_ofNat_Int, w32_id, w64_id, le_T, le_F, lt_T, lt_F, eq_T, eq_F, reduceIte, ne_eq, Int.toNat_natCast, bi_0, bi_1, bi_b, Nat.reduceAdd, Nat.reduceEqDiff, Int.reduceToNat, Int.reduceNeg, nle_T, nlt_T, neq_T, neq_F]
  exact lp_tO hV hTH hA hS x hx Q hQ n 0 (by omega)
-- the model: rows of things and settings are A's
abbrev MV (g : GG) (I : II) (A : II) (n : Nat) : Prop := WM g ∧ I 57 16 = (n : Int) ∧ I 62 = A 3 ∧ I 63 = A 4 ∧ I 64 = A 5 ∧ I 65 = A 6 ∧ I 66 = A 7
theorem lp_hA (hV : MV g I A n) (hA : okA A n) (hS : okSt A) (w : Bool) (x : LF) (hx : okL x) (Q : QQ) (hQ : Q none g (mmx I (tkA A w n x))) : ∀ k i : Nat, i + k = n → WP (d + 3) m_X12_hasAll 2 [some (vr (some 57)), some (vi (if w then 1 else 0)), some (vi i)] [] g (mmx I (tkA A w i x)) Q := by
  obtain ⟨hW, hn, r3, r4, r5, r6, r7⟩ := hV
  have hn7 := hA.1
  intro k
  induction k with
  | zero =>
    intro i hb
    obtain rfl : i = n := by omega
    rw [H_X12_hasAll_2]
    simp (config := { contextual := true }) (disch := omega) only [R_X12_hasAll, hW, hn, mmx_o, mmx_f, true_and, and_true, true_implies, not_true_eq_false, false_implies, not_false_eq_true, false_and, and_false, or_true, true_or, false_or, or_false, implies_true, forall_const, kl_i, kl_n, kl_r, kl_l, tl_s, tl_n, List.cons_append, List.nil_append, Int.cast_ofNat_Int, w32_id, w64_id, le_T, le_F, lt_T, lt_F, eq_T, eq_F, reduceIte, ne_eq, Int.toNat_natCast, bi_0, bi_1, bi_b, Nat.reduceAdd, Nat.reduceEqDiff, Int.reduceToNat, Int.reduceNeg, nle_T, nlt_T, neq_T, neq_F]
    exact hQ
  | succ k ih =>
    intro i hb
    have hy := okL_tkA (w := w) hA hx i (by omega)
    have hi : i < n := by omega
    have ih' := ih (i + 1) (by omega)
    have e1 : tkA A w (i + 1) x = tk1 A w i (tkA A w i x) := rfl
    rw [e1] at ih'
    generalize tkA A w i x = y at hy ih' ⊢
    obtain ⟨ok, hpl⟩ := hA.2 i hi
    obtain ⟨hy1, hy2, hy3⟩ := hy
    have hyi := hy3 i (by omega)
    have q3 : mmx I y 62 = A 3 := by rw [mmx_o (by omega), r3]
    have q4 : mmx I y 63 = A 4 := by rw [mmx_o (by omega), r4]
    have q5 : mmx I y 64 = A 5 := by rw [mmx_o (by omega), r5]
    have q6 : mmx I y 65 = A 6 := by rw [mmx_o (by omega), r6]
    have q7 : mmx I y 66 = A 7 := by rw [mmx_o (by omega), r7]
    have ok' : okTh (mmx I y 62 i) i (mmx I y 64 i) (mmx I y 65 i) := by rw [q3, q5, q6]; exact ok
    have ho : 0 ≤ mmx I y 66 1 ∧ mmx I y 66 1 ≤ 1000 := by rw [q7]; omega
    have h0 : 0 ≤ mmx I y 81 i ∧ mmx I y 81 i ≤ 1000000 := by rw [mmx_h]; omega
    have ha : 0 ≤ mmx I y 57 36 ∧ mmx I y 57 36 ≤ 1000000 := by rw [mmx_1]; omega
    have hk' : 0 ≤ mmx I y 62 i ∧ mmx I y 62 i ≤ 5 := ok'.1
    have hwo' : 0 ≤ mmx I y 64 i ∧ mmx I y 64 i ≤ 99 := ok'.2.2.1
    have hi7 : i < 7 := by omega
    have ew : wth (A 3 i) (A 5 i) (A 6 i) (A 7 0) (A 7 1) (lAge y) (lHad y i) = wOf A i (lAge y) (lHad y i) := rfl
    rw [H_X12_hasAll_2]
    by_cases c2 : A 4 i = lAt y ∧ opn (A 3 i) (A 5 i) (A 6 i) i (lHad y)
    · cases w with
      | true =>
        have tt : (if true = true then (1 : Int) else 0) = 1 := rfl
        rw [tt] at ih' ⊢
        by_cases c1 : 0 < wOf A i (lAge y) (lHad y i)
        · rw [show tk1 A true i y = tk0 A i y from if_pos ⟨c2, fun _ => c1⟩] at ih'
          simp (config := { contextual := true }) (disch := omega) only [R_X12_hasAll, hW, hn, mmx_f, ct_mayHave hW hi7 ok', ct_worthOf hW hi7 hk' hwo', ct_hasIt hW hi7 ok', q3, q4, q5, q6, q7, mmx_0, mmx_1, mmx_2, mmx_h, ew, c2, mmx_take, true_and, and_true, true_implies, not_true_eq_false, false_implies, not_false_eq_true, false_and, and_false, or_true, true_or, false_or, or_false, implies_true, forall_const, kl_i, kl_n, kl_r, kl_l, tl_s, tl_n, List.cons_append, List.nil_append, Int.cast_ofNat_Int, w32_id, w64_id, le_T, le_F, lt_T, lt_F, eq_T, eq_F, reduceIte, ne_eq, Int.toNat_natCast, bi_0, bi_1, bi_b, Nat.reduceAdd, Nat.reduceEqDiff, Int.reduceToNat, Int.reduceNeg, nle_T, nlt_T, neq_T, neq_F]
          exact ih'
        · rw [show tk1 A true i y = y from if_neg (fun q => c1 (q.2 rfl))] at ih'
          simp (config := { contextual := true }) (disch := omega) only [R_X12_hasAll, hW, hn, mmx_f, ct_mayHave hW hi7 ok', ct_worthOf hW hi7 hk' hwo', q3, q4, q5, q6, q7, mmx_0, mmx_1, mmx_2, mmx_h, ew, c2, true_and, and_true, true_implies, not_true_eq_false, false_implies, not_false_eq_true, false_and, and_false, or_true, true_or, false_or, or_false, implies_true, forall_const, kl_i, kl_n, kl_r, kl_l, tl_s, tl_n, List.cons_append, List.nil_append, Int.cast_ofNat_Int, w32_id, w64_id, le_T, le_F, lt_T, lt_F, eq_T, eq_F, reduceIte, ne_eq, Int.toNat_natCast, bi_0, bi_1, bi_b, Nat.reduceAdd, Nat.reduceEqDiff, Int.reduceToNat, Int.reduceNeg, nle_T, nlt_T, neq_T, neq_F]
          exact ih'
      | false =>
        have tt : (if false = true then (1 : Int) else 0) = 0 := rfl
        rw [tt] at ih' ⊢
        rw [show tk1 A false i y = tk0 A i y from if_pos ⟨c2, fun q => by cases q⟩] at ih'
        simp (config := { contextual := true }) (disch := omega) only [R_X12_hasAll, hW, hn, mmx_f, ct_mayHave hW hi7 ok', ct_hasIt hW hi7 ok', q3, q4, q5, q6, q7, mmx_0, mmx_1, mmx_2, mmx_h, ew, c2, mmx_take, true_and, and_true, true_implies, not_true_eq_false, false_implies, not_false_eq_true, false_and, and_false, or_true, true_or, false_or, or_false, implies_true, forall_const, kl_i, kl_n, kl_r, kl_l, tl_s, tl_n, List.cons_append, List.nil_append, Int.cast_ofNat_Int, w32_id, w64_id, le_T, le_F, lt_T, lt_F, eq_T, eq_F, reduceIte, ne_eq, Int.toNat_natCast, bi_0, bi_1, bi_b, Nat.reduceAdd, Nat.reduceEqDiff, Int.reduceToNat, Int.reduceNeg, nle_T, nlt_T, neq_T, neq_F]
        exact ih'
    · rw [show tk1 A w i y = y from if_neg (fun q => c2 q.1)] at ih'
      simp (config := { contextual := true }) (disch := omega) only [R_X12_hasAll, hW, hn, mmx_f, ct_mayHave hW hi7 ok', q3, q4, q5, q6, q7, mmx_0, mmx_1, mmx_2, mmx_h, ew, c2, true_and, and_true, true_implies, not_true_eq_false, false_implies, not_false_eq_true, false_and, and_false, or_true, true_or, false_or, or_false, implies_true, forall_const, kl_i, kl_n, kl_r, kl_l, tl_s, tl_n, List.cons_append, List.nil_append, Int.cast_ofNat_Int, w32_id, w64_id, le_T, le_F, lt_T, lt_F, eq_T, eq_F, reduceIte, ne_eq, Int.toNat_natCast, bi_0, bi_1, bi_b, Nat.reduceAdd, Nat.reduceEqDiff, Int.reduceToNat, Int.reduceNeg, nle_T, nlt_T, neq_T, neq_F]
      exact ih'
theorem ct_hasAll (hV : MV g I A n) (hA : okA A n) (hS : okSt A) (w : Bool) (x : LF) (hx : okL x) (Q : QQ) : WP (d + 3) m_X12_hasAll 0 [some (vr (some 57)), some (vi (if w then 1 else 0)), none] [] g (mmx I x) Q = Q none g (mmx I (tkA A w n x)) := by
  refine WP_fun (fun Q hQ => ?_) Q
  simp (config := { contextual := true }) (disch := omega) only [R_X12_hasAll, true_and, and_true, true_implies, not_true_eq_false, false_implies, not_false_eq_true, false_and, and_false, or_true, true_or, false_or, or_false, implies_true, forall_const, kl_i, kl_n, kl_r, kl_l, tl_s, tl_n, List.cons_append, List.nil_append, Int.cast_ofNat_Int, w32_id, w64_id, le_T, le_F, lt_T, lt_F, eq_T, eq_F, reduceIte, ne_eq, Int.toNat_natCast, bi_0, bi_1, bi_b, Nat.reduceAdd, Nat.reduceEqDiff, Int.reduceToNat, Int.reduceNeg, nle_T, nlt_T, neq_T, neq_F]
  exact lp_hA hV hA hS w x hx Q hQ n 0 (by omega)
end TAKE

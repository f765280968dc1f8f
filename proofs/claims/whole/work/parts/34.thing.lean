-- THINGS: what one is worth, whether it is open
def wv (wo n : Int) : Int := if n = 0 then wo else 0
def hlf (wo n : Int) : Int := ((wo.toNat / 2 ^ n.toNat : Nat) : Int)
def wth (kd wo ak gr ol age n : Int) : Int :=
  if kd = 1 then hlf wo n
  else if kd = 3 then (if age ≤ ak then wv wo n else wv wo n / 2)
  else if kd = 4 then (if gr ≤ age then wv wo n else 0)
  else if kd = 5 then (if gr ≤ age ∧ 0 < wv wo n then wv wo n + max 0 (age - ol) / 50 else 0)
  else wv wo n
abbrev opn (kd wo ak : Int) (num : Nat) (had : Nat → Int) : Prop := (kd = 1 ∧ 0 < hlf wo (had num)) ∨ (¬ kd = 1 ∧ had num = 0 ∧ (kd = 2 → 0 < had ak.toNat))
def clsO (kd : Int) : Nat := if kd = 0 then 6 else if kd = 1 then 0 else if kd = 2 then 1 else if kd = 3 then 9 else if kd = 4 then 2 else 3
theorem hlf_31 {wo n : Int} (h2 : wo < 128) (h3 : 31 ≤ n) : hlf wo n = 0 := by
  unfold hlf
  rw [Nat.div_eq_of_lt]
  · rfl
  · calc wo.toNat < 2 ^ 7 := by omega
      _ ≤ 2 ^ n.toNat := Nat.pow_le_pow_right (by omega) (by omega)
theorem hlf_min {wo n : Int} (h1 : 0 ≤ wo) (h2 : wo < 128) : (0 < hlf wo (min n 30)) = (0 < hlf wo n) := by
  by_cases h : n ≤ 30
  · rw [Int.min_eq_left h]
  · rw [Int.min_eq_right (by omega), hlf_31 (n := n) h2 (by omega)]
    have : hlf wo 30 = 0 := by
      unfold hlf
      rw [Nat.div_eq_of_lt]
      · rfl
      · show wo.toNat < 2 ^ 30
        omega
    rw [this]
theorem hlf_0 {wo : Int} (h : 0 ≤ wo) : hlf wo 0 = wo := by
  unfold hlf
  show ((wo.toNat / 1 : Nat) : Int) = wo
  rw [Nat.div_one]
  omega
theorem hlf_le {wo n : Int} (h : 0 ≤ wo) : 0 ≤ hlf wo n ∧ hlf wo n ≤ wo := by
  unfold hlf
  have h1 : wo.toNat / 2 ^ n.toNat ≤ wo.toNat := Nat.div_le_self _ _
  generalize wo.toNat / 2 ^ n.toNat = q at h1 ⊢
  omega
section THING
variable {g : GG} {I : II} {b s : Nat}
theorem ct_w6 (hT : isTh g b) (d : Nat) (Q : QQ) (age n : Int) (o : Option Nat) : WP d m_X6_worthThen 0 [some (vr (some b)), some (vi age), some (vi n), some (vr o)] [] g I Q = Q (some (vi (wv (I b 3) n))) g I := by
  unfold wv
  by_cases h : n = 0
  · rw [if_pos h]
    simp (config := { contextual := true }) (disch := omega) only [R_X6_worthThen, hT, true_and, and_true, true_implies, not_true_eq_false, false_implies, not_false_eq_true, false_and, and_false, or_true, true_or, false_or, or_false, implies_true, forall_const, kl_i, kl_n, kl_r, kl_l, tl_s, tl_n, List.cons_append, List.nil_append, Int.cast_ofNat_Int, w32_id, w64_id, le_T, le_F, lt_T, lt_F, eq_T, eq_F, reduceIte, ne_eq, Int.toNat_natCast, bi_0, bi_1, bi_b, Nat.reduceAdd, Nat.reduceEqDiff, Int.reduceToNat, Int.reduceNeg, nle_T, nlt_T, neq_T, neq_F]
  · rw [if_neg h]
    simp (config := { contextual := true }) (disch := omega) only [R_X6_worthThen, hT, true_and, and_true, true_implies, not_true_eq_false, false_implies, not_false_eq_true, false_and, and_false, or_true, true_or, false_or, or_false, implies_true, forall_const, kl_i, kl_n, kl_r, kl_l, tl_s, tl_n, List.cons_append, List.nil_append, Int.cast_ofNat_Int, w32_id, w64_id, le_T, le_F, lt_T, lt_F, eq_T, eq_F, reduceIte, ne_eq, Int.toNat_natCast, bi_0, bi_1, bi_b, Nat.reduceAdd, Nat.reduceEqDiff, Int.reduceToNat, Int.reduceNeg, nle_T, nlt_T, neq_T, neq_F]
theorem ct_w0 (hT : isTh g b) (h1 : 0 ≤ I b 3) (h2 : I b 3 < 128) (d : Nat) (Q : QQ) (age n : Int) (hn : 0 ≤ n) (o : Option Nat) : WP d m_X0_worthThen 0 [some (vr (some b)), some (vi age), some (vi n), some (vr o)] [] g I Q = Q (some (vi (hlf (I b 3) n))) g I := by
  by_cases h : n < 31
  · simp (config := { contextual := true }) (disch := omega) only [R_X0_worthThen, hT, iShr_eq, true_and, and_true, true_implies, not_true_eq_false, false_implies, not_false_eq_true, false_and, and_false, or_true, true_or, false_or, or_false, implies_true, forall_const, kl_i, kl_n, kl_r, kl_l, tl_s, tl_n, List.cons_append, List.nil_append, Int.cast_ofNat_Int, w32_id, w64_id, le_T, le_F, lt_T, lt_F, eq_T, eq_F, reduceIte, ne_eq, Int.toNat_natCast, bi_0, bi_1, bi_b, Nat.reduceAdd, Nat.reduceEqDiff, Int.reduceToNat, Int.reduceNeg, nle_T, nlt_T, neq_T, neq_F]
    rfl
  · rw [hlf_31 h2 (by omega)]
    simp (config := { contextual := true }) (disch := omega) only [R_X0_worthThen, hT, true_and, and_true, true_implies, not_true_eq_false, false_implies, not_false_eq_true, false_and, and_false, or_true, true_or, false_or, or_false, implies_true, forall_const, kl_i, kl_n, kl_r, kl_l, tl_s, tl_n, List.cons_append, List.nil_append, Int.cast_ofNat_Int, w32_id, w64_id, le_T, le_F, lt_T, lt_F, eq_T, eq_F, reduceIte, ne_eq, Int.toNat_natCast, bi_0, bi_1, bi_b, Nat.reduceAdd, Nat.reduceEqDiff, Int.reduceToNat, Int.reduceNeg, nle_T, nlt_T, neq_T, neq_F]
theorem ct_w9 (hT : isTh g b) (hT2 : gK g b = (0, 9)) (h1 : 0 ≤ I b 3) (h2 : I b 3 < 128) (d : Nat) (Q : QQ) (age n : Int) (o : Option Nat) : WP (d + 1) m_X10_worthThen 0 [some (vr (some b)), some (vi age), some (vi n), some (vr o), none] [] g I Q = Q (some (vi (if age ≤ I b 4 then wv (I b 3) n else wv (I b 3) n / 2))) g I := by
  have h3 : 0 ≤ wv (I b 3) n ∧ wv (I b 3) n < 128 := by unfold wv; split <;> omega
  by_cases h : age ≤ I b 4
  · rw [if_pos h]
    simp (config := { contextual := true }) (disch := omega) only [R_X10_worthThen, hT, hT2, ct_w6 hT, true_and, and_true, true_implies, not_true_eq_false, false_implies, not_false_eq_true, false_and, and_false, or_true, true_or, false_or, or_false, implies_true, forall_const, kl_i, kl_n, kl_r, kl_l, tl_s, tl_n, List.cons_append, List.nil_append, Int.cast_ofNat_Int, w32_id, w64_id, le_T, le_F, lt_T, lt_F, eq_T, eq_F, reduceIte, ne_eq, Int.toNat_natCast, bi_0, bi_1, bi_b, Nat.reduceAdd, Nat.reduceEqDiff, Int.reduceToNat, Int.reduceNeg, nle_T, nlt_T, neq_T, neq_F]
  · rw [if_neg h]
    simp (config := { contextual := true }) (disch := omega) only [R_X10_worthThen, hT, hT2, ct_w6 hT, iDiv_eq, true_and, and_true, true_implies, not_true_eq_false, false_implies, not_false_eq_true, false_and, and_false, or_true, true_or, false_or, or_false, implies_true, forall_const, kl_i, kl_n, kl_r, kl_l, tl_s, tl_n, List.cons_append, List.nil_append, Int.cast_ofNat_Int, w32_id, w64_id, le_T, le_F, lt_T, lt_F, eq_T, eq_F, reduceIte, ne_eq, Int.toNat_natCast, bi_0, bi_1, bi_b, Nat.reduceAdd, Nat.reduceEqDiff, Int.reduceToNat, Int.reduceNeg, nle_T, nlt_T, neq_T, neq_F]
theorem ct_w2 (hT : isTh g b) (hT2 : (gK g b).1 = 0 ∧ (gK g b).2 < 12) (hs : gK g s = (1, 4)) (d : Nat) (Q : QQ) (age n : Int) : WP (d + 1) m_X2_worthThen 0 [some (vr (some b)), some (vi age), some (vi n), some (vr (some s))] [] g I Q = Q (some (vi (if I s 0 ≤ age then wv (I b 3) n else 0))) g I := by
  by_cases h : I s 0 ≤ age
  · rw [if_pos h]
    simp (config := { contextual := true }) (disch := omega) only [R_X2_worthThen, hT, hT2, hs, ct_w6 hT, true_and, and_true, true_implies, not_true_eq_false, false_implies, not_false_eq_true, false_and, and_false, or_true, true_or, false_or, or_false, implies_true, forall_const, kl_i, kl_n, kl_r, kl_l, tl_s, tl_n, List.cons_append, List.nil_append, Int.cast_ofNat_Int, w32_id, w64_id, le_T, le_F, lt_T, lt_F, eq_T, eq_F, reduceIte, ne_eq, Int.toNat_natCast, bi_0, bi_1, bi_b, Nat.reduceAdd, Nat.reduceEqDiff, Int.reduceToNat, Int.reduceNeg, nle_T, nlt_T, neq_T, neq_F]
  · rw [if_neg h]
    simp (config := { contextual := true }) (disch := omega) only [R_X2_worthThen, hT, hT2, hs, ct_w6 hT, true_and, and_true, true_implies, not_true_eq_false, false_implies, not_false_eq_true, false_and, and_false, or_true, true_or, false_or, or_false, implies_true, forall_const, kl_i, kl_n, kl_r, kl_l, tl_s, tl_n, List.cons_append, List.nil_append, Int.cast_ofNat_Int, w32_id, w64_id, le_T, le_F, lt_T, lt_F, eq_T, eq_F, reduceIte, ne_eq, Int.toNat_natCast, bi_0, bi_1, bi_b, Nat.reduceAdd, Nat.reduceEqDiff, Int.reduceToNat, Int.reduceNeg, nle_T, nlt_T, neq_T, neq_F]
theorem ct_w3 (hT : isTh g b) (hT2 : (gK g b).1 = 0 ∧ (gK g b).2 < 12) (hs : gK g s = (1, 4)) (h1 : 0 ≤ I b 3) (h2 : I b 3 < 128) (d : Nat) (Q : QQ) (age n : Int) (ha : 0 ≤ age ∧ age ≤ 1000000) (ho : 0 ≤ I s 1 ∧ I s 1 ≤ 1000) : WP (d + 2) m_X3_worthThen 0 [some (vr (some b)), some (vi age), some (vi n), some (vr (some s)), none] [] g I Q = Q (some (vi (if I s 0 ≤ age ∧ 0 < wv (I b 3) n then wv (I b 3) n + max 0 (age - I s 1) / 50 else 0))) g I := by
  have h3 : 0 ≤ wv (I b 3) n ∧ wv (I b 3) n < 128 := by unfold wv; split <;> omega
  have h5 : 0 ≤ max 0 (age - I s 1) ∧ max 0 (age - I s 1) ≤ 1000000 := by omega
  have h4 : 0 ≤ max 0 (age - I s 1) / 50 ∧ max 0 (age - I s 1) / 50 ≤ 1000000 := by omega
  by_cases h : I s 0 ≤ age
  · by_cases h6 : 0 < wv (I b 3) n
    · rw [if_pos ⟨h, h6⟩]
      have e : (if I s 0 ≤ age then wv (I b 3) n else 0) = wv (I b 3) n := if_pos h
      simp (config := { contextual := true }) (disch := omega) only [R_X3_worthThen, hT, hT2, hs, ct_w2 hT hT2 hs, e, iDiv_eq, true_and, and_true, true_implies, not_true_eq_false, false_implies, not_false_eq_true, false_and, and_false, or_true, true_or, false_or, or_false, implies_true, forall_const, kl_i, kl_n, kl_r, kl_l, tl_s, tl_n, List.cons_append, List.nil_append, Int.cast_ofNat_Int, w32_id, w64_id, le_T, le_F, lt_T, lt_F, eq_T, eq_F, reduceIte, ne_eq, Int.toNat_natCast, bi_0, bi_1, bi_b, Nat.reduceAdd, Nat.reduceEqDiff, Int.reduceToNat, Int.reduceNeg, nle_T, nlt_T, neq_T, neq_F]
    · rw [if_neg (fun q => h6 q.2)]
      have e : (if I s 0 ≤ age then wv (I b 3) n else 0) = wv (I b 3) n := if_pos h
      simp (config := { contextual := true }) (disch := omega) only [R_X3_worthThen, hT, hT2, hs, ct_w2 hT hT2 hs, e, true_and, and_true, true_implies, not_true_eq_false, false_implies, not_false_eq_true, false_and, and_false, or_true, true_or, false_or, or_false, implies_true, forall_const, kl_i, kl_n, kl_r, kl_l, tl_s, tl_n, List.cons_append, List.nil_append, Int.cast_ofNat_Int, w32_id, w64_id, le_T, le_F, lt_T, lt_F, eq_T, eq_F, reduceIte, ne_eq, Int.toNat_natCast, bi_0, bi_1, bi_b, Nat.reduceAdd, Nat.reduceEqDiff, Int.reduceToNat, Int.reduceNeg, nle_T, nlt_T, neq_T, neq_F]
  · rw [if_neg (fun q => h q.1)]
    have e : (if I s 0 ≤ age then wv (I b 3) n else 0) = 0 := if_neg h
    simp (config := { contextual := true }) (disch := omega) only [R_X3_worthThen, hT, hT2, hs, ct_w2 hT hT2 hs, e, true_and, and_true, true_implies, not_true_eq_false, false_implies, not_false_eq_true, false_and, and_false, or_true, true_or, false_or, or_false, implies_true, forall_const, kl_i, kl_n, kl_r, kl_l, tl_s, tl_n, List.cons_append, List.nil_append, Int.cast_ofNat_Int, w32_id, w64_id, le_T, le_F, lt_T, lt_F, eq_T, eq_F, reduceIte, ne_eq, Int.toNat_natCast, bi_0, bi_1, bi_b, Nat.reduceAdd, Nat.reduceEqDiff, Int.reduceToNat, Int.reduceNeg, nle_T, nlt_T, neq_T, neq_F]
theorem ct_o6 (hT : isTh g b) {h num : Nat} (hh : gK g h = (1, 7)) (hn : I b 1 = (num : Int)) (hn7 : num < 7) (d : Nat) (Q : QQ) : WP d m_X6_isOpen 0 [some (vr (some b)), some (vr (some h))] [] g I Q = Q (some (vi (bi (I h num = 0)))) g I := by
  by_cases e : I h num = 0
  · rw [bi_T e]
    simp (config := { contextual := true }) (disch := omega) only [R_X6_isOpen, hT, hh, hn, true_and, and_true, true_implies, not_true_eq_false, false_implies, not_false_eq_true, false_and, and_false, or_true, true_or, false_or, or_false, implies_true, forall_const, kl_i, kl_n, kl_r, kl_l, tl_s, tl_n, List.cons_append, List.nil_append, Int.cast_ofNat_Int, w32_id, w64_id, le_T, le_F, lt_T, lt_F, eq_T, eq_F, reduceIte, ne_eq, Int.toNat_natCast, bi_0, bi_1, bi_b, Nat.reduceAdd, Nat.reduceEqDiff, Int.reduceToNat, Int.reduceNeg, nle_T, nlt_T, neq_T, neq_F]
  · rw [bi_F e]
    simp (config := { contextual := true }) (disch := omega) only [R_X6_isOpen, hT, hh, hn, true_and, and_true, true_implies, not_true_eq_false, false_implies, not_false_eq_true, false_and, and_false, or_true, true_or, false_or, or_false, implies_true, forall_const, kl_i, kl_n, kl_r, kl_l, tl_s, tl_n, List.cons_append, List.nil_append, Int.cast_ofNat_Int, w32_id, w64_id, le_T, le_F, lt_T, lt_F, eq_T, eq_F, reduceIte, ne_eq, Int.toNat_natCast, bi_0, bi_1, bi_b, Nat.reduceAdd, Nat.reduceEqDiff, Int.reduceToNat, Int.reduceNeg, nle_T, nlt_T, neq_T, neq_F]
theorem ct_o0 (hT : isTh g b) {h num : Nat} (hh : gK g h = (1, 7)) (hn : I b 1 = (num : Int)) (hn7 : num < 7) (h1 : 0 ≤ I b 3) (h2 : I b 3 < 128) (h3 : 0 ≤ I h num) (d : Nat) (Q : QQ) : WP d m_X0_isOpen 0 [some (vr (some b)), some (vr (some h))] [] g I Q = Q (some (vi (bi (0 < hlf (I b 3) (I h num))))) g I := by
  have e0 : iShr (I b 3) (min (I h num) 30) = hlf (I b 3) (min (I h num) 30) := iShr_eq h1 h2 (by omega) (by omega)
  have e1 := hlf_min (n := I h num) h1 h2
  by_cases e : 0 < hlf (I b 3) (I h num)
  · rw [bi_T e]
    rw [← e1] at e
    simp (config := { contextual := true }) (disch := omega) only [R_X0_isOpen, hT, hh, hn, e0, true_and, and_true, true_implies, not_true_eq_false, false_implies, not_false_eq_true, false_and, and_false, or_true, true_or, false_or, or_false, implies_true, forall_const, kl_i, kl_n, kl_r, kl_l, tl_s, tl_n, List.cons_append, List.nil_append, Int.cast_ofNat_Int, w32_id, w64_id, le_T, le_F, lt_T, lt_F, eq_T, eq_F, reduceIte, ne_eq, Int.toNat_natCast, bi_0, bi_1, bi_b, Nat.reduceAdd, Nat.reduceEqDiff, Int.reduceToNat, Int.reduceNeg, nle_T, nlt_T, neq_T, neq_F]
  · rw [bi_F e]
    rw [← e1] at e
    simp (config := { contextual := true }) (disch := omega) only [R_X0_isOpen, hT, hh, hn, e0, true_and, and_true, true_implies, not_true_eq_false, false_implies, not_false_eq_true, false_and, and_false, or_true, true_or, false_or, or_false, implies_true, forall_const, kl_i, kl_n, kl_r, kl_l, tl_s, tl_n, List.cons_append, List.nil_append, Int.cast_ofNat_Int, w32_id, w64_id, le_T, le_F, lt_T, lt_F, eq_T, eq_F, reduceIte, ne_eq, Int.toNat_natCast, bi_0, bi_1, bi_b, Nat.reduceAdd, Nat.reduceEqDiff, Int.reduceToNat, Int.reduceNeg, nle_T, nlt_T, neq_T, neq_F]
theorem ct_o1 (hT : isTh g b) (hT2 : gK g b = (0, 1)) {h num ak : Nat} (hh : gK g h = (1, 7)) (hn : I b 1 = (num : Int)) (hn7 : num < 7) (hk : I b 4 = (ak : Int)) (hk7 : ak < 7) (d : Nat) (Q : QQ) : WP (d + 1) m_X1_isOpen 0 [some (vr (some b)), some (vr (some h))] [] g I Q = Q (some (vi (bi (I h num = 0 ∧ 0 < I h ak)))) g I := by
  by_cases e : I h num = 0
  · by_cases e2 : 0 < I h ak
    · rw [bi_T ⟨e, e2⟩]
      simp (config := { contextual := true }) (disch := omega) only [R_X1_isOpen, hT, hT2, hh, hn, hk, ct_o6 hT hh hn hn7, true_and, and_true, true_implies, not_true_eq_false, false_implies, not_false_eq_true, false_and, and_false, or_true, true_or, false_or, or_false, implies_true, forall_const, kl_i, kl_n, kl_r, kl_l, tl_s, tl_n, List.cons_append, List.nil_append, Int.cast_ofNat_Int, w32_id, w64_id, le_T, le_F, lt_T, lt_F, eq_T, eq_F, reduceIte, ne_eq, Int.toNat_natCast, bi_0, bi_1, bi_b, Nat.reduceAdd, Nat.reduceEqDiff, Int.reduceToNat, Int.reduceNeg, nle_T, nlt_T, neq_T, neq_F]
    · rw [bi_F (fun q => e2 q.2)]
      simp (config := { contextual := true }) (disch := omega) only [R_X1_isOpen, hT, hT2, hh, hn, hk, ct_o6 hT hh hn hn7, true_and, and_true, true_implies, not_true_eq_false, false_implies, not_false_eq_true, false_and, and_false, or_true, true_or, false_or, or_false, implies_true, forall_const, kl_i, kl_n, kl_r, kl_l, tl_s, tl_n, List.cons_append, List.nil_append, Int.cast_ofNat_Int, w32_id, w64_id, le_T, le_F, lt_T, lt_F, eq_T, eq_F, reduceIte, ne_eq, Int.toNat_natCast, bi_0, bi_1, bi_b, Nat.reduceAdd, Nat.reduceEqDiff, Int.reduceToNat, Int.reduceNeg, nle_T, nlt_T, neq_T, neq_F]
  · rw [bi_F (fun q => e q.1)]
    simp (config := { contextual := true }) (disch := omega) only [R_X1_isOpen, hT, hT2, hh, hn, hk, ct_o6 hT hh hn hn7, true_and, and_true, true_implies, not_true_eq_false, false_implies, not_false_eq_true, false_and, and_false, or_true, true_or, false_or, or_false, implies_true, forall_const, kl_i, kl_n, kl_r, kl_l, tl_s, tl_n, List.cons_append, List.nil_append, Int.cast_ofNat_Int, w32_id, w64_id, le_T, le_F, lt_T, lt_F, eq_T, eq_F, reduceIte, ne_eq, Int.toNat_natCast, bi_0, bi_1, bi_b, Nat.reduceAdd, Nat.reduceEqDiff, Int.reduceToNat, Int.reduceNeg, nle_T, nlt_T, neq_T, neq_F]
end THING

-- BEST of the model: findBest
def fS (I : II) (H R B a u p : Nat → Int) (bm bw : Int) : II := fun c => if c = 81 then H else if c = 82 then R else if c = 83 then B else if c = 84 then a else if c = 85 then u else if c = 86 then p else if c = 57 then uf (uf (I 57) 43 bm) 44 bw else I c
section FSX
variable {I : II} {H R B a u p : Nat → Int} {bm bw : Int}
theorem fS_81 : fS I H R B a u p bm bw 81 = H := rfl
theorem fS_82 : fS I H R B a u p bm bw 82 = R := rfl
theorem fS_83 : fS I H R B a u p bm bw 83 = B := rfl
theorem fS_84 : fS I H R B a u p bm bw 84 = a := rfl
theorem fS_85 : fS I H R B a u p bm bw 85 = u := rfl
theorem fS_86 : fS I H R B a u p bm bw 86 = p := rfl
theorem fS_43 : fS I H R B a u p bm bw 57 43 = bm := rfl
theorem fS_44 : fS I H R B a u p bm bw 57 44 = bw := rfl
theorem fS_f {j : Nat} (h : ¬ j = 43 ∧ ¬ j = 44) : fS I H R B a u p bm bw 57 j = I 57 j := by
  show uf (uf (I 57) 43 bm) 44 bw j = I 57 j
  rw [uf_o h.2, uf_o h.1]
theorem fS_o {c : Nat} (h : ¬ c = 57 ∧ (c < 81 ∨ 86 < c)) : fS I H R B a u p bm bw c = I c := by
  unfold fS
  rw [if_neg (by omega), if_neg (by omega), if_neg (by omega), if_neg (by omega), if_neg (by omega), if_neg (by omega), if_neg h.1]
theorem fS_w81 (f : Nat → Int) : pr (fS I H R B a u p bm bw) 81 f = fS I f R B a u p bm bw := by
  funext c
  unfold pr fS
  by_cases e : c = 81
  · subst e; simp
  · simp [e]
theorem fS_w82 (f : Nat → Int) : pr (fS I H R B a u p bm bw) 82 f = fS I H f B a u p bm bw := by
  funext c
  unfold pr fS
  by_cases e : c = 82
  · subst e; simp
  · simp [e]
theorem fS_w83 (f : Nat → Int) : pr (fS I H R B a u p bm bw) 83 f = fS I H R f a u p bm bw := by
  funext c
  unfold pr fS
  by_cases e : c = 83
  · subst e; simp
  · simp [e]
theorem fS_w84 (f : Nat → Int) : pr (fS I H R B a u p bm bw) 84 f = fS I H R B f u p bm bw := by
  funext c
  unfold pr fS
  by_cases e : c = 84
  · subst e; simp
  · simp [e]
theorem fS_w85 (f : Nat → Int) : pr (fS I H R B a u p bm bw) 85 f = fS I H R B a f p bm bw := by
  funext c
  unfold pr fS
  by_cases e : c = 85
  · subst e; simp
  · simp [e]
theorem fS_w86 (f : Nat → Int) : pr (fS I H R B a u p bm bw) 86 f = fS I H R B a u f bm bw := by
  funext c
  unfold pr fS
  by_cases e : c = 86
  · subst e; simp
  · simp [e]
theorem fS_w43 (v : Int) : pr (fS I H R B a u p bm bw) 57 (uf (fS I H R B a u p bm bw 57) 43 v) = fS I H R B a u p v bw := by
  funext c
  by_cases e : c = 57
  · subst e
    rw [pr_s]
    show uf (uf (uf (I 57) 43 bm) 44 bw) 43 v = uf (uf (I 57) 43 v) 44 bw
    funext j
    unfold uf
    by_cases e : j = 43
    · subst e; simp
    · simp [e]
  · rw [pr_o e]
    unfold fS
    simp [e]
theorem fS_w44 (v : Int) : pr (fS I H R B a u p bm bw) 57 (uf (fS I H R B a u p bm bw 57) 44 v) = fS I H R B a u p bm v := by
  funext c
  by_cases e : c = 57
  · subst e
    rw [pr_s]
    show uf (uf (uf (I 57) 43 bm) 44 bw) 44 v = uf (uf (I 57) 43 bm) 44 v
    rw [uf_uf]
  · rw [pr_o e]
    unfold fS
    simp [e]
theorem fS_id (I : II) : fS I (I 81) (I 82) (I 83) (I 84) (I 85) (I 86) (I 57 43) (I 57 44) = I := by
  funext c
  by_cases e : c = 57
  · subst e
    show uf (uf (I 57) 43 (I 57 43)) 44 (I 57 44) = I 57
    rw [uf_id, uf_id]
  · unfold fS
    by_cases e1 : c = 81
    · subst e1; simp
    by_cases e2 : c = 82
    · subst e2; simp
    by_cases e3 : c = 83
    · subst e3; simp
    by_cases e4 : c = 84
    · subst e4; simp
    by_cases e5 : c = 85
    · subst e5; simp
    by_cases e6 : c = 86
    · subst e6; simp
    simp [e, e1, e2, e3, e4, e5, e6]
end FSX
def cz (H : Nat → Int) : Nat → Nat
  | 0 => 0
  | i + 1 => cz H i + if H i = 0 then 1 else 0
theorem cz_o {H : Nat → Int} {i : Nat} {v : Int} : ∀ n, n ≤ i → cz (uf H i v) n = cz H n
  | 0, _ => rfl
  | n + 1, h => by
    show cz (uf H i v) n + (if uf H i v n = 0 then 1 else 0) = cz H n + (if H n = 0 then 1 else 0)
    rw [cz_o n (by omega), uf_o (by omega)]
theorem cz_u {H : Nat → Int} {i : Nat} (h : H i = 0) : ∀ n, i < n → cz (uf H i 1) n + 1 = cz H n
  | 0, hi => by omega
  | n + 1, hi => by
    show cz (uf H i 1) n + (if uf H i 1 n = 0 then 1 else 0) + 1 = cz H n + (if H n = 0 then 1 else 0)
    by_cases e : n = i
    · subst e
      rw [cz_o n (Nat.le_refl n), uf_s, h]
      simp
    · have := cz_u h n (by omega)
      rw [uf_o e]
      omega
theorem cz_0 {H : Nat → Int} : ∀ n, cz H n = 0 → ∀ i, i < n → ¬ H i = 0
  | 0, _, i, hi => by omega
  | n + 1, h, i, hi => by
    have h : cz H n + (if H n = 0 then 1 else 0) = 0 := h
    by_cases e : i = n
    · subst e
      intro q
      rw [if_pos q] at h
      omega
    · exact cz_0 n (by omega) i (by omega)
theorem cz_le (H : Nat → Int) : ∀ n, cz H n ≤ n
  | 0 => Nat.le_refl 0
  | n + 1 => by
    have := cz_le H n
    show cz H n + (if H n = 0 then 1 else 0) ≤ n + 1
    split <;> omega
section FB
variable {g : GG} {I : II} {d n : Nat} {A : II} {D : Nat → Int}
theorem lp_fcp (hW : WM g) {len : Nat} (hl : len ≤ 7) {H R B a u p : Nat → Int} {bm bw : Int} {l1 l3 l4 : Option PV} {z5 : Int} (Q : QQ) : ∀ k i : Nat, i + k = len → WP d m_X12_findBest 260 [some (vr (some 57)), l1, some (vi len), l3, l4, some (vi z5), some (vi i)] [] g (fS I H R (fll R i B) a u p bm bw) Q = WP d m_X12_findBest 46 [some (vr (some 57)), l1, some (vi len), l3, l4, some (vi z5), some (vi len)] [] g (fS I H R (fll R len B) a u p bm bw) Q := by
  intro k
  induction k with
  | zero =>
    intro i hi
    obtain rfl : i = len := by omega
    rw [H_X12_findBest_260]
    simp (config := { contextual := true }) (disch := omega) only [R_X12_findBest_b0, R_X12_findBest_b1, R_X12_findBest_b2, R_X12_findBest_b3, hW, true_and, and_true, true_implies, not_true_eq_false, false_implies, not_false_eq_true, false_and, and_false, or_true, true_or, false_or, or_false, implies_true, forall_const, kl_i, kl_n, kl_r, kl_l, tl_s, tl_n, List.cons_append, List.nil_append, Int.cast_ofNat_Int, w32_id, w64_id, le_T, le_F, lt_T, lt_F, eq_T, eq_F, reduceIte, ne_eq, Int.toNat_natCast, bi_0, bi_1, bi_b, Nat.reduceAdd, Nat.reduceEqDiff, Int.reduceToNat, Int.reduceNeg, nle_T, nlt_T, neq_T, neq_F, b2_0, b2_b, both, reduceCtorEq]
  | succ k ih =>
    intro i hi
    have ih' := ih (i + 1) (by omega)
    have ec : ((i + 1 : Nat) : Int) = (i : Int) + 1 := by omega
    rw [← fll_s R i B rfl, ec] at ih'
    rw [H_X12_findBest_260]
    simp (config := { contextual := true }) (disch := omega) only [R_X12_findBest_b0, R_X12_findBest_b1, R_X12_findBest_b2, R_X12_findBest_b3, hW, fS_82, fS_83, up_pr, fS_w83, ih', true_and, and_true, true_implies, not_true_eq_false, false_implies, not_false_eq_true, false_and, and_false, or_true, true_or, false_or, or_false, implies_true, forall_const, kl_i, kl_n, kl_r, kl_l, tl_s, tl_n, List.cons_append, List.nil_append, Int.cast_ofNat_Int, w32_id, w64_id, le_T, le_F, lt_T, lt_F, eq_T, eq_F, reduceIte, ne_eq, Int.toNat_natCast, bi_0, bi_1, bi_b, Nat.reduceAdd, Nat.reduceEqDiff, Int.reduceToNat, Int.reduceNeg, nle_T, nlt_T, neq_T, neq_F, b2_0, b2_b, both, reduceCtorEq]
def FBk (g : GG) (I : II) (d n : Nat) (A : II) (D : Nat → Int) (k : Nat) : Prop := ∀ (x : LF) (r : List Nat), r.length + k ≤ 7 → okX A n x r.length → cz (lHad x) n ≤ k → ∀ (h0 : Int) (Q : QQ) (c i : Nat), i + c = n → ∀ (l4 l5 l6 : Option PV) (s : BS) (R B a u p : Nat → Int), rl R r → rl B s.2 → (a r.length = lAge x ∧ u r.length = lWo x ∧ p r.length = lAt x) → (∀ (l4 l5 l6 : Option PV) (R' B' a' u' p' : Nat → Int), rl R' r → rl B' ((ndL A D (nd A D n (k - 1)) x r c i).foldl up1 s).2 → (∀ j, j ≤ r.length → a' j = a j ∧ u' j = u j ∧ p' j = p j) → WP (d + 3) m_X12_findBest 46 [some (vr (some 57)), some (vi h0), some (vi (r.length : Nat)), some (vi n), l4, l5, l6] [] g (fS I (lHad x) R' B' a' u' p' (((ndL A D (nd A D n (k - 1)) x r c i).foldl up1 s).2.length : Nat) ((ndL A D (nd A D n (k - 1)) x r c i).foldl up1 s).1) Q) → WP (d + 3) m_X12_findBest 46 [some (vr (some 57)), some (vi h0), some (vi (r.length : Nat)), some (vi i), l4, l5, l6] [] g (fS I (lHad x) R B a u p (s.2.length : Nat) s.1) Q
theorem FB (hV : MV g I A n) (hA : okA A n) (hS : okSt A) (hD : bD D) (hI : I 72 = D) : ∀ k, FBk g I d n A D k := by
  intro k
  induction k with
  | zero =>
    intro x r hk hx hz h0 Q c
    have hn7 := hA.1
    obtain ⟨hW, hn, r3, r4, r5, r6, r7⟩ := hV
    have hno := cz_0 n (by omega : cz (lHad x) n = 0)
    induction c with
    | zero =>
      intro i hi l4 l5 l6 s R B a u p hr hB hp hQ
      obtain rfl : i = n := by omega
      exact hQ l4 l5 l6 R B a u p hr hB (fun _ _ => ⟨rfl, rfl, rfl⟩)
    | succ c ihc =>
      intro i hi l4 l5 l6 s R B a u p hr hB hp hQ
      have hi' : i < n := by omega
      have hne := hno i hi'
      have hcn : ¬ cnT A D x i := fun q => hne q.1
      have eL : ndL A D (nd A D n (0 - 1)) x r (c + 1) i = (if cnT A D x i then (lWo (gT A D x i), r ++ [i]) :: nd A D n (0 - 1) (gT A D x i) (r ++ [i]) else []) ++ ndL A D (nd A D n (0 - 1)) x r c (i + 1) := rfl
      rw [eL, if_neg hcn, List.nil_append] at hQ
      have hh := fun l4 l5 l6 => ihc (i + 1) (by omega) l4 l5 l6 s R B a u p hr hB hp hQ
      have ec : ((i + 1 : Nat) : Int) = (i : Int) + 1 := by omega
      rw [ec] at hh
      obtain ⟨⟨hy1, hy2, hy3⟩, hwo, hh01⟩ := hx
      have hpi := (hA.2 i hi').2
      have h1 := hh01 i hi'
      obtain ⟨p1, p2, p3⟩ := hp
      have hd := hD (8 * (lAt x).toNat + (A 4 i).toNat) (by omega)
      have rl8 : (r.length : Int) ≤ 7 := by omega
      rw [H_X12_findBest_46]
      simp (config := { contextual := true }) (disch := omega) only [R_X12_findBest_b0, R_X12_findBest_b1, R_X12_findBest_b2, R_X12_findBest_b3, hW, hn, fS_f, fS_81, fS_84, fS_86, fS_o, r4, p1, p3, hI, ct_farOf hW, true_and, and_true, true_implies, not_true_eq_false, false_implies, not_false_eq_true, false_and, and_false, or_true, true_or, false_or, or_false, implies_true, forall_const, kl_i, kl_n, kl_r, kl_l, tl_s, tl_n, List.cons_append, List.nil_append, Int.cast_ofNat_Int, w32_id, w64_id, le_T, le_F, lt_T, lt_F, eq_T, eq_F, reduceIte, ne_eq, Int.toNat_natCast, bi_0, bi_1, bi_b, Nat.reduceAdd, Nat.reduceEqDiff, Int.reduceToNat, Int.reduceNeg, nle_T, nlt_T, neq_T, neq_F, b2_0, b2_b, both, reduceCtorEq]
      exact hh _ _ _
  | succ k ihk =>
    intro x r hk hx hz h0 Q c
    have hn7 := hA.1
    have hV0 := hV
    obtain ⟨hW, hn, r3, r4, r5, r6, r7⟩ := hV0
    induction c with
    | zero =>
      intro i hi l4 l5 l6 s R B a u p hr hB hp hQ
      obtain rfl : i = n := by omega
      exact hQ l4 l5 l6 R B a u p hr hB (fun _ _ => ⟨rfl, rfl, rfl⟩)
    | succ c ihc =>
      intro i hi l4 l5 l6 s R B a u p hr hB hp hQ
      have hi' : i < n := by omega
      have hi7 : i < 7 := by omega
      have eL : ndL A D (nd A D n (k + 1 - 1)) x r (c + 1) i = (if cnT A D x i then (lWo (gT A D x i), r ++ [i]) :: nd A D n k (gT A D x i) (r ++ [i]) else []) ++ ndL A D (nd A D n (k + 1 - 1)) x r c (i + 1) := rfl
      rw [eL] at hQ
      have ec : ((i + 1 : Nat) : Int) = (i : Int) + 1 := by omega
      have hx0 := hx
      obtain ⟨⟨hy1, hy2, hy3⟩, hwo, hh01⟩ := hx0
      obtain ⟨ok, hpi⟩ := hA.2 i hi'
      have h1 := hh01 i hi'
      have hp0 := hp
      obtain ⟨p1, p2, p3⟩ := hp0
      have hd := hD (8 * (lAt x).toNat + (A 4 i).toNat) (by omega)
      have rl8 : (r.length : Int) ≤ 6 := by omega
      have hst := hS.2.1
      have hen := hS.2.2.1
      have ok' : okTh (fS I (lHad x) R B a u p (s.2.length : Nat) s.1 62 i) i (fS I (lHad x) R B a u p (s.2.length : Nat) s.1 64 i) (fS I (lHad x) R B a u p (s.2.length : Nat) s.1 65 i) := by rw [fS_o (by omega), fS_o (by omega), fS_o (by omega), r3, r5, r6]; exact ok
      have ho' : 0 ≤ fS I (lHad x) R B a u p (s.2.length : Nat) s.1 66 1 ∧ fS I (lHad x) R B a u p (s.2.length : Nat) s.1 66 1 ≤ 1000 := by rw [fS_o (by omega), r7]; omega
      have hh' : 0 ≤ fS I (lHad x) R B a u p (s.2.length : Nat) s.1 81 i ∧ fS I (lHad x) R B a u p (s.2.length : Nat) s.1 81 i ≤ 1000000 := by rw [fS_81]; omega
      have nocase : ¬ cnT A D x i → WP (d + 3) m_X12_findBest 46 [some (vr (some 57)), some (vi h0), some (vi (r.length : Nat)), some (vi ((i : Int) + 1)), some (vi i), some (vi (lAge x + D (8 * (lAt x).toNat + (A 4 i).toNat))), l6] [] g (fS I (lHad x) R B a u p (s.2.length : Nat) s.1) Q := by
        intro hcn
        rw [if_neg hcn, List.nil_append] at hQ
        have hh := ihc (i + 1) (by omega) (some (vi i)) (some (vi (lAge x + D (8 * (lAt x).toNat + (A 4 i).toNat)))) l6 s R B a u p hr hB hp hQ
        rw [ec] at hh
        exact hh
      rw [H_X12_findBest_46]
      by_cases c1 : lHad x i = 0
      · by_cases c2 : lAge x + D (8 * (lAt x).toNat + (A 4 i).toNat) ≤ A 7 2
        · have km := fun Q => ct_mayBe (d := d + 1) hW hi7 ok' Q (lAge x + D (8 * (lAt x).toNat + (A 4 i).toNat)) (by omega) ho' hh'
          rw [fS_o (by omega), fS_o (by omega), fS_o (by omega), r3, r5, r6, fS_81] at km
          by_cases co : opn (A 3 i) (A 5 i) (A 6 i) i (lHad x)
          · have hcn : cnT A D x i := ⟨c1, c2, co⟩
            rw [if_pos hcn, List.cons_append, List.foldl_cons, List.foldl_append] at hQ
            have hgX := okX_g hA hS hD hx (by omega) hi' hcn
            have hgT : lHad (gT A D x i) = uf (lHad x) i 1 := by
              show uf (lHad x) i (lHad x i + 1) = _
              rw [c1]; rfl
            have hcz : cz (lHad (gT A D x i)) n ≤ k := by
              rw [hgT]
              have := cz_u c1 n hi'
              omega
            have hlen : (r ++ [i]).length = r.length + 1 := by rw [List.length_append, List.length_singleton]
            obtain ⟨gw1, gw2⟩ := gT_w hA hS hD hx (by omega) hi' hcn
            have hIH := ihk (gT A D x i) (r ++ [i]) (by omega) (by rw [hlen]; exact hgX) hcz h0 Q n 0 (by omega)
            -- behind it: back to this depth
            have back : ∀ (s1 : BS) (R1 B1 a1 u1 p1 : Nat → Int) (l4 l5 l6 : Option PV), rl R1 (r ++ [i]) → rl B1 s1.2 → (∀ j, j ≤ r.length → a1 j = a j ∧ u1 j = u j ∧ p1 j = p j) → (ndL A D (nd A D n (k + 1 - 1)) x r c (i + 1)).foldl up1 s1 = (ndL A D (nd A D n (k + 1 - 1)) x r c (i + 1)).foldl up1 ((nd A D n k (gT A D x i) (r ++ [i])).foldl up1 (up1 s (lWo (gT A D x i), r ++ [i]))) → WP (d + 3) m_X12_findBest 46 [some (vr (some 57)), some (vi h0), some (vi ((r.length : Int) + 1)), some (vi n), l4, l5, l6] [] g (fS I (lHad (gT A D x i)) R1 B1 a1 u1 p1 (s1.2.length : Nat) s1.1) Q := by
              intro s1 R1 B1 a1 u1 p1 l4 l5 l6 hR1 hB1 hf hs1
              have hRi : R1 r.length = (i : Int) := by
                have := hR1 r.length (by omega)
                rw [this, List.getD_eq_getElem?_getD, List.getElem?_append_right (Nat.le_refl _), Nat.sub_self]
                rfl
              have f2 : uf (lHad (gT A D x i)) i 0 = lHad x := by
                rw [hgT, uf_uf]
                have := uf_id (lHad x) i
                rw [c1] at this
                exact this
              have q := hf r.length (Nat.le_refl _)
              have hh := ihc (i + 1) (by omega) l4 l5 l6 s1 R1 B1 a1 u1 p1 (rl_pre hR1) hB1 (by rw [q.1, q.2.1, q.2.2]; exact hp) (by
                intro l4 l5 l6 R' B' a' u' p' hR' hB' hf'
                rw [hs1] at hB' ⊢
                exact hQ l4 l5 l6 R' B' a' u' p' hR' hB' (fun j hj => by
                  obtain ⟨y1, y2, y3⟩ := hf' j hj
                  obtain ⟨z1, z2, z3⟩ := hf j hj
                  exact ⟨y1.trans z1, y2.trans z2, y3.trans z3⟩))
              rw [ec] at hh
              have em : (r.length : Int) + 1 + -1 = (r.length : Int) := by omega
              rw [H_X12_findBest_46]
              simp (config := { contextual := true }) (disch := omega) only [R_X12_findBest_b0, R_X12_findBest_b1, R_X12_findBest_b2, R_X12_findBest_b3, hW, hn, fS_f, fS_82, fS_81, em, hRi, up_pr, fS_w81, f2, true_and, and_true, true_implies, not_true_eq_false, false_implies, not_false_eq_true, false_and, and_false, or_true, true_or, false_or, or_false, implies_true, forall_const, kl_i, kl_n, kl_r, kl_l, tl_s, tl_n, List.cons_append, List.nil_append, Int.cast_ofNat_Int, w32_id, w64_id, le_T, le_F, lt_T, lt_F, eq_T, eq_F, reduceIte, ne_eq, Int.toNat_natCast, bi_0, bi_1, bi_b, Nat.reduceAdd, Nat.reduceEqDiff, Int.reduceToNat, Int.reduceNeg, nle_T, nlt_T, neq_T, neq_F, b2_0, b2_b, both, reduceCtorEq]
              exact hh
            have hk' : 0 ≤ fS I (lHad x) R B a u p (s.2.length : Nat) s.1 62 i ∧ fS I (lHad x) R B a u p (s.2.length : Nat) s.1 62 i ≤ 5 := ok'.1
            have kw := fun (R1 : Nat → Int) Q => ct_worthOf (d := d + 2) (I := fS I (lHad x) R1 B a u p (s.2.length : Nat) s.1) hW hi7 (by rw [fS_o (by omega), r3]; exact ok.1) (by rw [fS_o (by omega), r5]; exact ok.2.2.1) Q (lAge x + D (8 * (lAt x).toNat + (A 4 i).toNat)) 0 (by omega) (by rw [fS_o (by omega), r7]; omega) (by omega)
            have kw2 : ∀ (R1 : Nat → Int) (Q : QQ), WP (d + 2) m_X12_worthOf 0 [some (vr (some 57)), some (vi i), some (vi (lAge x + D (8 * (lAt x).toNat + (A 4 i).toNat))), some (vi 0), none, none] [] g (fS I (lHad x) R1 B a u p (s.2.length : Nat) s.1) Q = Q (some (vi (wOf A i (lAge x + D (8 * (lAt x).toNat + (A 4 i).toNat)) 0))) g (fS I (lHad x) R1 B a u p (s.2.length : Nat) s.1) := by
              intro R1 Q
              have := kw R1 Q
              rw [fS_o (by omega), fS_o (by omega), fS_o (by omega), fS_o (by omega), r3, r5, r6, r7] at this
              exact this
            have erl : ((r.length : Int) + 1).toNat = r.length + 1 := by omega
            have hR1 : rl (uf R r.length i) (r ++ [i]) := rl_app hr
            have hfr : ∀ j, j ≤ r.length → uf a (r.length + 1) (lAge x + D (8 * (lAt x).toNat + (A 4 i).toNat)) j = a j ∧ uf u (r.length + 1) (lWo (gT A D x i)) j = u j ∧ uf p (r.length + 1) (A 4 i) j = p j := fun j hj => ⟨uf_o (by omega), uf_o (by omega), uf_o (by omega)⟩
            have hee : uf a (r.length + 1) (lAge x + D (8 * (lAt x).toNat + (A 4 i).toNat)) (r ++ [i]).length = lAge (gT A D x i) ∧ uf u (r.length + 1) (lWo (gT A D x i)) (r ++ [i]).length = lWo (gT A D x i) ∧ uf p (r.length + 1) (A 4 i) (r ++ [i]).length = lAt (gT A D x i) := by
              rw [hlen, uf_s, uf_s, uf_s]
              exact ⟨rfl, rfl, rfl⟩
            have elen : (((r ++ [i]).length : Nat) : Int) = (r.length : Int) + 1 := by rw [hlen]; omega
            -- the state once it is had
            have go : ∀ (s1 : BS) (B1 : Nat → Int) (l4 l5 l6 : Option PV), s1 = up1 s (lWo (gT A D x i), r ++ [i]) → rl B1 s1.2 → WP (d + 3) m_X12_findBest 46 [some (vr (some 57)), some (vi h0), some (vi ((r.length : Int) + 1)), some (vi 0), l4, l5, l6] [] g (fS I (uf (lHad x) i 1) (uf R r.length i) B1 (uf a (r.length + 1) (lAge x + D (8 * (lAt x).toNat + (A 4 i).toNat))) (uf u (r.length + 1) (lWo (gT A D x i))) (uf p (r.length + 1) (A 4 i)) (s1.2.length : Nat) s1.1) Q := by
              intro s1 B1 l4 l5 l6 hs1 hB1
              have hh := hIH l4 l5 l6 s1 (uf R r.length i) B1 _ _ _ hR1 hB1 hee (by
                intro l4 l5 l6 R' B' a' u' p' hR' hB' hf'
                rw [elen]
                refine back _ R' B' a' u' p' l4 l5 l6 hR' hB' (fun j hj => ?_) ?_
                · obtain ⟨y1, y2, y3⟩ := hf' j (by omega)
                  obtain ⟨z1, z2, z3⟩ := hfr j hj
                  exact ⟨y1.trans z1, y2.trans z2, y3.trans z3⟩
                · congr 1
                  cases k with
                  | zero =>
                    have hnn : ∀ y : LF, cz (lHad y) n = 0 → ∀ (r' : List Nat) (f : LF → List Nat → List BS) c i, i + c = n → ndL A D f y r' c i = [] := by
                      intro y hy r' f c
                      induction c with
                      | zero => intro i _; rfl
                      | succ c ihh =>
                        intro i hi
                        show (if cnT A D y i then _ else []) ++ ndL A D f y r' c (i + 1) = []
                        rw [if_neg (fun q => cz_0 n hy i (by omega) q.1), ihh (i + 1) (by omega)]
                        rfl
                    rw [hnn _ (by omega) _ _ n 0 (by omega), hs1]
                    rfl
                  | succ k => rw [hs1]; rfl)
              rw [elen, hgT] at hh
              exact hh
            have ewt : w32 (lWo x + wOf A i (lAge x + D (8 * (lAt x).toNat + (A 4 i).toNat)) 0) = lWo (gT A D x i) := by rw [gw1]; exact w32_id (by omega) (by omega)
            by_cases cb : s.1 < lWo (gT A D x i)
            · have g1 := fun B1 l4 l5 l6 => go (lWo (gT A D x i), r ++ [i]) B1 l4 l5 l6 (if_pos cb).symm
              have lc := lp_fcp (d := d + 3) (I := I) hW (len := r.length + 1) (by omega) (H := uf (lHad x) i 1) (R := uf R r.length i) (B := B) (a := uf a (r.length + 1) (lAge x + D (8 * (lAt x).toNat + (A 4 i).toNat))) (u := uf u (r.length + 1) (lWo (gT A D x i))) (p := uf p (r.length + 1) (A 4 i)) (bm := (r.length : Int) + 1) (bw := lWo (gT A D x i)) (l1 := some (vi h0)) (l3 := some (vi 0)) (l4 := some (vi i)) (z5 := lAge x + D (8 * (lAt x).toNat + (A 4 i).toNat)) Q (r.length + 1) 0 (by omega)
              rw [fll_0, show ((r.length + 1 : Nat) : Int) = (r.length : Int) + 1 by omega] at lc
              have g2 := g1 (fll (uf R r.length i) (r.length + 1) B) (some (vi i)) (some (vi (lAge x + D (8 * (lAt x).toNat + (A 4 i).toNat)))) (some (vi ((r.length : Int) + 1))) (by
                have := rl_fll (B := B) hR1
                rw [hlen] at this
                exact this)
              rw [show (((lWo (gT A D x i), r ++ [i]) : BS).2.length : Int) = (r.length : Int) + 1 from elen] at g2
              simp (config := { contextual := true }) (disch := omega) only [R_X12_findBest_b0, R_X12_findBest_b1, R_X12_findBest_b2, R_X12_findBest_b3, hW, hn, fS_f, fS_81, fS_82, fS_84, fS_85, fS_86, fS_43, fS_44, fS_o, r4, r7, p1, p2, p3, hI, ct_farOf hW, km, co, up_pr, fS_w81, fS_w82, fS_w84, fS_w85, fS_w86, fS_w43, fS_w44, kw2, ewt, erl, uf_s, true_and, and_true, true_implies, not_true_eq_false, false_implies, not_false_eq_true, false_and, and_false, or_true, true_or, false_or, or_false, implies_true, forall_const, kl_i, kl_n, kl_r, kl_l, tl_s, tl_n, List.cons_append, List.nil_append, Int.cast_ofNat_Int, w32_id, w64_id, le_T, le_F, lt_T, lt_F, eq_T, eq_F, reduceIte, ne_eq, Int.toNat_natCast, bi_0, bi_1, bi_b, Nat.reduceAdd, Nat.reduceEqDiff, Int.reduceToNat, Int.reduceNeg, nle_T, nlt_T, neq_T, neq_F, b2_0, b2_b, both, reduceCtorEq]
              exact lc.mpr g2
            · have g1 := go s B (some (vi i)) (some (vi (lAge x + D (8 * (lAt x).toNat + (A 4 i).toNat)))) l6 (if_neg cb).symm hB
              simp (config := { contextual := true }) (disch := omega) only [R_X12_findBest_b0, R_X12_findBest_b1, R_X12_findBest_b2, R_X12_findBest_b3, hW, hn, fS_f, fS_81, fS_82, fS_84, fS_85, fS_86, fS_43, fS_44, fS_o, r4, r7, p1, p2, p3, hI, ct_farOf hW, km, co, up_pr, fS_w81, fS_w82, fS_w84, fS_w85, fS_w86, kw2, ewt, erl, uf_s, true_and, and_true, true_implies, not_true_eq_false, false_implies, not_false_eq_true, false_and, and_false, or_true, true_or, false_or, or_false, implies_true, forall_const, kl_i, kl_n, kl_r, kl_l, tl_s, tl_n, List.cons_append, List.nil_append, Int.cast_ofNat_Int, w32_id, w64_id, le_T, le_F, lt_T, lt_F, eq_T, eq_F, reduceIte, ne_eq, Int.toNat_natCast, bi_0, bi_1, bi_b, Nat.reduceAdd, Nat.reduceEqDiff, Int.reduceToNat, Int.reduceNeg, nle_T, nlt_T, neq_T, neq_F, b2_0, b2_b, both, reduceCtorEq]
              exact g1
          · have hcn : ¬ cnT A D x i := fun q => co q.2.2
            have hh := nocase hcn
            simp (config := { contextual := true }) (disch := omega) only [R_X12_findBest_b0, R_X12_findBest_b1, R_X12_findBest_b2, R_X12_findBest_b3, hW, hn, fS_f, fS_81, fS_84, fS_86, fS_o, r4, r7, p1, p3, hI, ct_farOf hW, km, co, true_and, and_true, true_implies, not_true_eq_false, false_implies, not_false_eq_true, false_and, and_false, or_true, true_or, false_or, or_false, implies_true, forall_const, kl_i, kl_n, kl_r, kl_l, tl_s, tl_n, List.cons_append, List.nil_append, Int.cast_ofNat_Int, w32_id, w64_id, le_T, le_F, lt_T, lt_F, eq_T, eq_F, reduceIte, ne_eq, Int.toNat_natCast, bi_0, bi_1, bi_b, Nat.reduceAdd, Nat.reduceEqDiff, Int.reduceToNat, Int.reduceNeg, nle_T, nlt_T, neq_T, neq_F, b2_0, b2_b, both, reduceCtorEq]
            exact hh
        · have hcn : ¬ cnT A D x i := fun q => c2 q.2.1
          have hh := nocase hcn
          simp (config := { contextual := true }) (disch := omega) only [R_X12_findBest_b0, R_X12_findBest_b1, R_X12_findBest_b2, R_X12_findBest_b3, hW, hn, fS_f, fS_81, fS_84, fS_86, fS_o, r4, r7, p1, p3, hI, ct_farOf hW, true_and, and_true, true_implies, not_true_eq_false, false_implies, not_false_eq_true, false_and, and_false, or_true, true_or, false_or, or_false, implies_true, forall_const, kl_i, kl_n, kl_r, kl_l, tl_s, tl_n, List.cons_append, List.nil_append, Int.cast_ofNat_Int, w32_id, w64_id, le_T, le_F, lt_T, lt_F, eq_T, eq_F, reduceIte, ne_eq, Int.toNat_natCast, bi_0, bi_1, bi_b, Nat.reduceAdd, Nat.reduceEqDiff, Int.reduceToNat, Int.reduceNeg, nle_T, nlt_T, neq_T, neq_F, b2_0, b2_b, both, reduceCtorEq]
          exact hh
      · have hcn : ¬ cnT A D x i := fun q => c1 q.1
        have hh := nocase hcn
        simp (config := { contextual := true }) (disch := omega) only [R_X12_findBest_b0, R_X12_findBest_b1, R_X12_findBest_b2, R_X12_findBest_b3, hW, hn, fS_f, fS_81, fS_84, fS_86, fS_o, r4, r7, p1, p3, hI, ct_farOf hW, true_and, and_true, true_implies, not_true_eq_false, false_implies, not_false_eq_true, false_and, and_false, or_true, true_or, false_or, or_false, implies_true, forall_const, kl_i, kl_n, kl_r, kl_l, tl_s, tl_n, List.cons_append, List.nil_append, Int.cast_ofNat_Int, w32_id, w64_id, le_T, le_F, lt_T, lt_F, eq_T, eq_F, reduceIte, ne_eq, Int.toNat_natCast, bi_0, bi_1, bi_b, Nat.reduceAdd, Nat.reduceEqDiff, Int.reduceToNat, Int.reduceNeg, nle_T, nlt_T, neq_T, neq_F, b2_0, b2_b, both, reduceCtorEq]
        exact hh
end FB

-- BEST: all rows of things, and what may be left out
abbrev cnT (A : II) (D : Nat → Int) (x : LF) (i : Nat) : Prop := lHad x i = 0 ∧ lAge x + D (8 * (lAt x).toNat + (A 4 i).toNat) ≤ A 7 2 ∧ opn (A 3 i) (A 5 i) (A 6 i) i (lHad x)
def gT (A : II) (D : Nat → Int) (x : LF) (i : Nat) : LF := tk0 A i (goL D x (A 4 i))
def ndL (A : II) (D : Nat → Int) (f : LF → List Nat → List (Int × List Nat)) (x : LF) (r : List Nat) : Nat → Nat → List (Int × List Nat)
  | 0, _ => []
  | c + 1, i => (if cnT A D x i then (lWo (gT A D x i), r ++ [i]) :: f (gT A D x i) (r ++ [i]) else []) ++ ndL A D f x r c (i + 1)
def nd (A : II) (D : Nat → Int) (n : Nat) : Nat → LF → List Nat → List (Int × List Nat)
  | 0, _, _ => []
  | k + 1, x, r => ndL A D (nd A D n k) x r n 0
abbrev BS : Type := Int × List Nat
def up1 (s e : BS) : BS := if s.1 < e.1 then e else s
theorem up1_ge (s e : BS) : s.1 ≤ (up1 s e).1 := by
  unfold up1
  by_cases h : s.1 < e.1
  · rw [if_pos h]; omega
  · rw [if_neg h]; omega
theorem fo_ge (l : List BS) : ∀ s : BS, s.1 ≤ (l.foldl up1 s).1 := by
  induction l with
  | nil => intro s; exact Int.le_refl _
  | cons e l ih => intro s; exact Int.le_trans (up1_ge s e) (ih _)
theorem fo_le (l : List BS) : ∀ s : BS, (∀ e ∈ l, e.1 ≤ s.1) → l.foldl up1 s = s := by
  induction l with
  | nil => intro s _; rfl
  | cons e l ih =>
    intro s h
    have h1 : up1 s e = s := if_neg (by have := h e List.mem_cons_self; omega)
    rw [List.foldl_cons, h1]
    exact ih s (fun e' he => h e' (List.mem_cons_of_mem _ he))
-- what one thing is worth at most
theorem wth_mid {kd wo ak gr ol a b c : Int} (h0 : 0 ≤ wo) (h1 : a ≤ b) (h2 : b ≤ c) : wth kd wo ak gr ol b 0 ≤ max (wth kd wo ak gr ol a 0) (wth kd wo ak gr ol c 0) := by
  have e0 : wv wo 0 = wo := if_pos rfl
  unfold wth
  rw [e0]
  by_cases k1 : kd = 1
  · rw [if_pos k1, if_pos k1, if_pos k1]; omega
  rw [if_neg k1, if_neg k1, if_neg k1]
  by_cases k3 : kd = 3
  · rw [if_pos k3, if_pos k3, if_pos k3]
    by_cases c1 : b ≤ ak
    · rw [if_pos c1, if_pos (by omega)]; omega
    · rw [if_neg c1]
      by_cases c2 : c ≤ ak
      · omega
      · rw [if_neg c2]; omega
  rw [if_neg k3, if_neg k3, if_neg k3]
  by_cases k4 : kd = 4
  · rw [if_pos k4, if_pos k4, if_pos k4]
    by_cases c1 : gr ≤ b
    · rw [if_pos c1, if_pos (by omega : gr ≤ c)]; omega
    · rw [if_neg c1]
      by_cases c2 : gr ≤ c
      · rw [if_pos c2]; omega
      · rw [if_neg c2]; omega
  rw [if_neg k4, if_neg k4, if_neg k4]
  by_cases k5 : kd = 5
  · rw [if_pos k5, if_pos k5, if_pos k5]
    by_cases c1 : gr ≤ b ∧ 0 < wo
    · rw [if_pos c1, if_pos (by omega : gr ≤ c ∧ 0 < wo)]; omega
    · rw [if_neg c1]
      by_cases c2 : gr ≤ c ∧ 0 < wo
      · rw [if_pos c2]; omega
      · rw [if_neg c2]; omega
  rw [if_neg k5, if_neg k5, if_neg k5]
  omega
theorem wth_b {kd wo ak gr ol a n : Int} (h0 : 0 ≤ wo ∧ wo ≤ 99) (ha : a ≤ 1000) (ho : 0 ≤ ol) : 0 ≤ wth kd wo ak gr ol a n ∧ wth kd wo ak gr ol a n ≤ 119 := by
  have e0 : 0 ≤ wv wo n ∧ wv wo n ≤ 99 := by unfold wv; split <;> omega
  have e1 := hlf_le (n := n) h0.1
  unfold wth
  generalize wv wo n = v at e0 ⊢
  generalize hlf wo n = u at e1 ⊢
  split
  · omega
  · split
    · split <;> omega
    · split
      · split <;> omega
      · split
        · split <;> omega
        · omega
-- the bound
def tmT (A : II) (D : Nat → Int) (x : LF) (i : Nat) : Int := if lHad x i = 0 ∧ lAge x + D (8 * (lAt x).toNat + (A 4 i).toNat) ≤ A 7 2 then max (wOf A i (lAge x + D (8 * (lAt x).toNat + (A 4 i).toNat)) 0) (wOf A i (A 7 2) 0) else 0
def mst (A : II) (D : Nat → Int) (x : LF) : Nat → Int
  | 0 => 0
  | i + 1 => mst A D x i + tmT A D x i
def okX (A : II) (n : Nat) (x : LF) (c : Nat) : Prop := okL x ∧ (0 ≤ lWo x ∧ lWo x ≤ 119 * (c : Int)) ∧ ∀ i, i < n → lHad x i = 0 ∨ lHad x i = 1
section NODES
variable {A : II} {D : Nat → Int} {n : Nat}
theorem tmT_b (hA : okA A n) (hS : okSt A) (hD : bD D) {x : LF} (hx : okL x) {i : Nat} (hi : i < n) : 0 ≤ tmT A D x i ∧ tmT A D x i ≤ 119 := by
  have ok := (hA.2 i hi).1.2.2.1
  have hst := hS.2.2.1
  unfold tmT
  split
  · rename_i c
    have h1 := wth_b (kd := A 3 i) (ak := A 6 i) (gr := A 7 0) (ol := A 7 1) (a := lAge x + D (8 * (lAt x).toNat + (A 4 i).toNat)) (n := 0) ok (by omega) hS.2.1.1
    have h2 := wth_b (kd := A 3 i) (ak := A 6 i) (gr := A 7 0) (ol := A 7 1) (a := A 7 2) (n := 0) ok (by omega) hS.2.1.1
    unfold wOf
    omega
  · omega
theorem mst_b (hA : okA A n) (hS : okSt A) (hD : bD D) {x : LF} (hx : okL x) : ∀ i, i ≤ n → 0 ≤ mst A D x i ∧ mst A D x i ≤ 119 * (i : Int)
  | 0, _ => ⟨by show (0 : Int) ≤ 0; omega, by show (0 : Int) ≤ _; omega⟩
  | i + 1, hi => by
    have h1 := mst_b hA hS hD hx i (by omega)
    have h2 := tmT_b hA hS hD hx (i := i) (by omega)
    show 0 ≤ mst A D x i + tmT A D x i ∧ mst A D x i + tmT A D x i ≤ 119 * ((i + 1 : Nat) : Int)
    omega
theorem gT_w (hA : okA A n) (hS : okSt A) (hD : bD D) {x : LF} {c i : Nat} (hx : okX A n x c) (hc : c ≤ 7) (hi : i < n) (h : cnT A D x i) : lWo (gT A D x i) = lWo x + wOf A i (lAge x + D (8 * (lAt x).toNat + (A 4 i).toNat)) 0 ∧ (0 ≤ wOf A i (lAge x + D (8 * (lAt x).toNat + (A 4 i).toNat)) 0 ∧ wOf A i (lAge x + D (8 * (lAt x).toNat + (A 4 i).toNat)) 0 ≤ 119) := by
  have ok := (hA.2 i hi).1.2.2.1
  have hst := hS.2.2.1
  have h1 := wth_b (kd := A 3 i) (ak := A 6 i) (gr := A 7 0) (ol := A 7 1) (a := lAge x + D (8 * (lAt x).toNat + (A 4 i).toNat)) (n := 0) ok (by have := h.2.1; omega) hS.2.1.1
  have h2 := hx.2.1
  have e : lWo (gT A D x i) = w32 (lWo x + wOf A i (lAge x + D (8 * (lAt x).toNat + (A 4 i).toNat)) (lHad x i)) := rfl
  rw [h.1] at e
  refine ⟨e.trans (w32_id (by unfold wOf; omega) (by unfold wOf; omega)), h1⟩
theorem okX_g (hA : okA A n) (hS : okSt A) (hD : bD D) {x : LF} {c i : Nat} (hx : okX A n x c) (hc : c ≤ 7) (hi : i < n) (h : cnT A D x i) : okX A n (gT A D x i) (c + 1) := by
  obtain ⟨e, h1⟩ := gT_w hA hS hD hx hc hi h
  have hg : okL (goL D x (A 4 i)) := okL_go hS hD hx.1 (hA.2 i hi).2 h.2.1
  have h2 := hx.2.1
  refine ⟨okL_tk0 hA hi hg ⟨rfl, h.2.2⟩, ⟨by rw [e]; omega, by rw [e]; omega⟩, fun j hj => ?_⟩
  show uf (lHad x) i (lHad x i + 1) j = 0 ∨ uf (lHad x) i (lHad x i + 1) j = 1
  by_cases q : j = i
  · rw [q, uf_s, h.1]; omega
  · rw [uf_o q]; exact hx.2.2 j hj
theorem tmT_mono (hA : okA A n) (hS : okSt A) (hD : bD D) (hT : tri 8 D) {x : LF} (hx : okL x) {i j : Nat} (hi : i < n) (hj : j < n) (hc : cnT A D x i) : tmT A D (gT A D x i) j ≤ (if j = i then 0 else tmT A D x j) := by
  have hpi := (hA.2 i hi).2
  have hpj := (hA.2 j hj).2
  have h1 := hx.1
  have ht := hT (lAt x).toNat (A 4 j).toNat (A 4 i).toNat (by omega) (by omega) (by omega)
  have hdi := hD (8 * (lAt x).toNat + (A 4 i).toNat) (by omega)
  have hdj := hD (8 * (A 4 i).toNat + (A 4 j).toNat) (by omega)
  have e1 : lHad (gT A D x i) = uf (lHad x) i (lHad x i + 1) := rfl
  have e2 : lAge (gT A D x i) = lAge x + D (8 * (lAt x).toNat + (A 4 i).toNat) := rfl
  have e3 : lAt (gT A D x i) = A 4 i := rfl
  unfold tmT
  rw [e1, e2, e3]
  by_cases q : j = i
  · subst q
    rw [if_pos rfl, if_neg (fun z => by
      have z1 := z.1
      rw [uf_s, hc.1] at z1
      omega)]
    exact Int.le_refl 0
  · rw [if_neg q, uf_o q]
    by_cases z : lHad x j = 0 ∧ lAge x + D (8 * (lAt x).toNat + (A 4 i).toNat) + D (8 * (A 4 i).toNat + (A 4 j).toNat) ≤ A 7 2
    · rw [if_pos z, if_pos ⟨z.1, by omega⟩]
      have ok := (hA.2 j hj).1.2.2.1
      have := wth_mid (kd := A 3 j) (ak := A 6 j) (gr := A 7 0) (ol := A 7 1) ok.1 (a := lAge x + D (8 * (lAt x).toNat + (A 4 j).toNat)) (b := lAge x + D (8 * (lAt x).toNat + (A 4 i).toNat) + D (8 * (A 4 i).toNat + (A 4 j).toNat)) (c := A 7 2) (by omega) z.2
      unfold wOf
      omega
    · rw [if_neg z]
      split
      · rename_i c
        have ok := (hA.2 j hj).1.2.2.1
        have hst := hS.2.2.1
        have := (wth_b (kd := A 3 j) (ak := A 6 j) (gr := A 7 0) (ol := A 7 1) (a := A 7 2) (n := 0) ok (by omega) hS.2.1.1).1
        unfold wOf
        omega
      · omega
theorem mst_mono (hA : okA A n) (hS : okSt A) (hD : bD D) (hT : tri 8 D) {x : LF} (hx : okL x) {i : Nat} (hi : i < n) (hc : cnT A D x i) : ∀ j, j ≤ n → mst A D (gT A D x i) j + (if i < j then wOf A i (lAge x + D (8 * (lAt x).toNat + (A 4 i).toNat)) 0 else 0) ≤ mst A D x j
  | 0, _ => by rw [if_neg (by omega)]; show (0 : Int) + 0 ≤ 0; omega
  | j + 1, hj => by
    have h1 := mst_mono hA hS hD hT hx hi hc j (by omega)
    have h2 := tmT_mono hA hS hD hT hx hi (j := j) (by omega) hc
    have e1 : mst A D (gT A D x i) (j + 1) = mst A D (gT A D x i) j + tmT A D (gT A D x i) j := rfl
    have e2 : mst A D x (j + 1) = mst A D x j + tmT A D x j := rfl
    rw [e1, e2]
    by_cases q : j = i
    · subst q
      rw [if_pos rfl] at h2
      rw [if_neg (by omega)] at h1
      rw [if_pos (by omega)]
      have e3 : tmT A D x j = max (wOf A j (lAge x + D (8 * (lAt x).toNat + (A 4 j).toNat)) 0) (wOf A j (A 7 2) 0) := if_pos ⟨hc.1, hc.2.1⟩
      omega
    · rw [if_neg q] at h2
      by_cases z : i < j
      · rw [if_pos z] at h1
        rw [if_pos (by omega)]
        omega
      · rw [if_neg z] at h1
        rw [if_neg (by omega)]
        omega
theorem ndL_mem {f : LF → List Nat → List BS} {x : LF} {r : List Nat} {e : BS} : ∀ c i, e ∈ ndL A D f x r c i → ∃ j, i ≤ j ∧ j < i + c ∧ cnT A D x j ∧ (e = (lWo (gT A D x j), r ++ [j]) ∨ e ∈ f (gT A D x j) (r ++ [j]))
  | 0, i, h => by cases h
  | c + 1, i, h => by
    have h : e ∈ (if cnT A D x i then (lWo (gT A D x i), r ++ [i]) :: f (gT A D x i) (r ++ [i]) else []) ++ ndL A D f x r c (i + 1) := h
    rcases List.mem_append.mp h with q | q
    · by_cases z : cnT A D x i
      · rw [if_pos z] at q
        exact ⟨i, by omega, by omega, z, List.mem_cons.mp q⟩
      · rw [if_neg z] at q; cases q
    · obtain ⟨j, h1, h2, h3, h4⟩ := ndL_mem c (i + 1) q
      exact ⟨j, by omega, by omega, h3, h4⟩
theorem nd_le (hA : okA A n) (hS : okSt A) (hD : bD D) (hT : tri 8 D) : ∀ (k c : Nat) (x : LF) (r : List Nat), c + k ≤ 7 → okX A n x c → ∀ e ∈ nd A D n k x r, e.1 ≤ lWo x + mst A D x n
  | 0, c, x, r, _, _, e, he => by cases he
  | k + 1, c, x, r, hk, hx, e, he => by
    obtain ⟨j, h1, h2, h3, h4⟩ := ndL_mem n 0 he
    have hj : j < n := by omega
    have hg := okX_g hA hS hD hx (by omega) hj h3
    obtain ⟨w1, w2⟩ := gT_w hA hS hD hx (by omega) hj h3
    have m1 := mst_mono hA hS hD hT hx.1 hj h3 n (Nat.le_refl n)
    rw [if_pos hj] at m1
    have m2 := (mst_b hA hS hD hg.1 n (Nat.le_refl n)).1
    rcases h4 with q | q
    · rw [q]
      show lWo (gT A D x j) ≤ _
      omega
    · have := nd_le hA hS hD hT k (c + 1) _ _ (by omega) hg e q
      omega
end NODES

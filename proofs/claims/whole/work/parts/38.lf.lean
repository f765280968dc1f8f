-- LIVES in mind: (at, age, worth, had)
abbrev LF : Type := Int × Int × Int × (Nat → Int)
abbrev lAt (x : LF) : Int := x.1
abbrev lAge (x : LF) : Int := x.2.1
abbrev lWo (x : LF) : Int := x.2.2.1
abbrev lHad (x : LF) : Nat → Int := x.2.2.2
def lrow (f : Nat → Int) (x : LF) : Nat → Int := fun j => if j = 0 then lAt x else if j = 1 then lAge x else if j = 2 then lWo x else f j
def mrow (f : Nat → Int) (x : LF) : Nat → Int := fun j => if j = 35 then lAt x else if j = 36 then lAge x else if j = 37 then lWo x else f j
/-- the class's life in mind -/
def mcx (I : II) (x : LF) : II := pr (pr I 49 (lHad x)) 48 (lrow (I 48) x)
/-- the model's life -/
def mmx (I : II) (x : LF) : II := pr (pr I 81 (lHad x)) 57 (mrow (I 57) x)
section LFS
variable {I : II} {x : LF}
theorem mcx_0 : mcx I x 48 0 = lAt x := by unfold mcx; rw [pr_s]; rfl
theorem mcx_1 : mcx I x 48 1 = lAge x := by unfold mcx; rw [pr_s]; rfl
theorem mcx_2 : mcx I x 48 2 = lWo x := by unfold mcx; rw [pr_s]; rfl
theorem mcx_h : mcx I x 49 = lHad x := by unfold mcx; rw [pr_o (by omega), pr_s]
theorem mcx_o {a : Nat} (h : ¬ a = 48 ∧ ¬ a = 49) : mcx I x a = I a := by unfold mcx; rw [pr_o h.1, pr_o h.2]
theorem mmx_0 : mmx I x 57 35 = lAt x := by unfold mmx; rw [pr_s]; rfl
theorem mmx_1 : mmx I x 57 36 = lAge x := by unfold mmx; rw [pr_s]; rfl
theorem mmx_2 : mmx I x 57 37 = lWo x := by unfold mmx; rw [pr_s]; rfl
theorem mmx_h : mmx I x 81 = lHad x := by unfold mmx; rw [pr_o (by omega), pr_s]
theorem mmx_o {a : Nat} (h : ¬ a = 57 ∧ ¬ a = 81) : mmx I x a = I a := by unfold mmx; rw [pr_o h.1, pr_o h.2]
theorem mmx_f {j : Nat} (h : ¬ j = 35 ∧ ¬ j = 36 ∧ ¬ j = 37) : mmx I x 57 j = I 57 j := by
  unfold mmx mrow
  rw [pr_s, if_neg h.1, if_neg h.2.1, if_neg h.2.2]
theorem mcx_take (f : Nat → Int) (w : Int) : pr (pr (mcx I x) 49 f) 48 (uf (mcx I x 48) 2 w) = mcx I (lAt x, lAge x, w, f) := by
  funext a j
  unfold mcx pr uf lrow
  by_cases h1 : a = 48
  · subst h1
    simp only [if_pos]
    by_cases h2 : j = 2
    · subst h2; simp
    · simp [h2]
  · by_cases h2 : a = 49
    · subst h2; simp
    · simp [h1, h2]
theorem mcx_come (p a : Int) : pr (mcx I x) 48 (uf (uf (mcx I x 48) 1 a) 0 p) = mcx I (p, a, lWo x, lHad x) := by
  funext b j
  unfold mcx pr uf lrow
  by_cases h1 : b = 48
  · subst h1
    simp only [if_pos]
    by_cases h2 : j = 0
    · subst h2; simp
    · by_cases h3 : j = 1
      · subst h3; simp
      · simp [h2, h3]
  · simp [h1]
theorem mcx_begin (X : II) (p : Int) (f : Nat → Int) : pr (pr X 48 (uf (uf (uf (X 48) 0 p) 1 0) 2 0)) 49 f = mcx X (p, 0, 0, f) := by
  funext b j
  unfold mcx pr uf lrow
  by_cases h1 : b = 49
  · subst h1; simp
  · by_cases h2 : b = 48
    · subst h2
      by_cases h3 : j = 2
      · subst h3; simp
      · by_cases h4 : j = 1
        · subst h4; simp
        · by_cases h5 : j = 0
          · subst h5; simp
          · simp [h3, h4, h5]
    · simp [h1, h2]
theorem mmx_take (f : Nat → Int) (w : Int) : pr (pr (mmx I x) 81 f) 57 (uf (mmx I x 57) 37 w) = mmx I (lAt x, lAge x, w, f) := by
  funext a j
  unfold mmx pr uf mrow
  by_cases h1 : a = 57
  · subst h1
    by_cases h2 : j = 37
    · subst h2; simp
    · simp [h2]
  · by_cases h2 : a = 81
    · subst h2; simp
    · simp [h1, h2]
theorem mmx_come (p a : Int) : pr (mmx I x) 57 (uf (uf (mmx I x 57) 36 a) 35 p) = mmx I (p, a, lWo x, lHad x) := by
  funext b j
  unfold mmx pr uf mrow
  by_cases h1 : b = 57
  · subst h1
    by_cases h2 : j = 35
    · subst h2; simp
    · by_cases h3 : j = 36
      · subst h3; simp
      · simp [h2, h3]
  · simp [h1]
theorem mmx_begin (X : II) (p : Int) (f : Nat → Int) : pr (pr X 57 (uf (uf (uf (X 57) 35 p) 36 0) 37 0)) 81 f = mmx X (p, 0, 0, f) := by
  funext b j
  unfold mmx pr uf mrow
  by_cases h1 : b = 81
  · subst h1; simp
  · by_cases h2 : b = 57
    · subst h2
      by_cases h3 : j = 37
      · subst h3; simp
      · by_cases h4 : j = 36
        · subst h4; simp
        · by_cases h5 : j = 35
          · subst h5; simp
          · simp [h3, h4, h5]
    · simp [h1, h2]
end LFS
-- taking all that may be had
def wOf (A : II) (i : Nat) (age n : Int) : Int := wth (A 3 i) (A 5 i) (A 6 i) (A 7 0) (A 7 1) age n
abbrev mHv (A : II) (i : Nat) (x : LF) : Prop := A 4 i = lAt x ∧ opn (A 3 i) (A 5 i) (A 6 i) i (lHad x)
def tk0 (A : II) (i : Nat) (x : LF) : LF := (lAt x, lAge x, w32 (lWo x + wOf A i (lAge x) (lHad x i)), uf (lHad x) i (lHad x i + 1))
def tk1 (A : II) (w : Bool) (i : Nat) (x : LF) : LF := if mHv A i x ∧ (w = true → 0 < wOf A i (lAge x) (lHad x i)) then tk0 A i x else x
def tkA (A : II) (w : Bool) : Nat → LF → LF
  | 0, x => x
  | i + 1, x => tk1 A w i (tkA A w i x)
def hb7 (h : Nat → Int) : Prop := ∀ i, i < 7 → 0 ≤ h i ∧ h i ≤ 7
def okL (x : LF) : Prop := (0 ≤ lAt x ∧ lAt x < 8) ∧ (0 ≤ lAge x ∧ lAge x ≤ 1000) ∧ hb7 (lHad x)
theorem hlf_6 {wo n : Int} (h : wo ≤ 99) (hn : 7 ≤ n) : ¬ 0 < hlf wo n := by
  unfold hlf
  rw [Nat.div_eq_of_lt]
  · decide
  · calc wo.toNat < 2 ^ 7 := by omega
      _ ≤ 2 ^ n.toNat := Nat.pow_le_pow_right (by omega) (by omega)
theorem okL_tk0 {A : II} {n i : Nat} {x : LF} (hA : okA A n) (hi : i < n) (h : okL x) (hm : mHv A i x) : okL (tk0 A i x) := by
  refine ⟨h.1, h.2.1, fun j hj => ?_⟩
  show 0 ≤ uf (lHad x) i (lHad x i + 1) j ∧ uf (lHad x) i (lHad x i + 1) j ≤ 7
  unfold uf
  have hj7 := h.2.2 j hj
  by_cases e : j = i
  · rw [if_pos e]
    subst e
    have ok := (hA.2 j hi).1
    rcases hm.2 with q | q
    · have : ¬ 7 ≤ lHad x j := fun h7 => hlf_6 ok.2.2.1.2 h7 q.2
      omega
    · have := q.2.1
      omega
  · rw [if_neg e]; exact hj7
theorem okL_tk1 {A : II} {w : Bool} {n i : Nat} {x : LF} (hA : okA A n) (hi : i < n) (h : okL x) : okL (tk1 A w i x) := by
  unfold tk1
  split
  · rename_i hc; exact okL_tk0 hA hi h hc.1
  · exact h
theorem okL_tkA {A : II} {w : Bool} {n : Nat} {x : LF} (hA : okA A n) (h : okL x) : ∀ i, i ≤ n → okL (tkA A w i x)
  | 0, _ => h
  | i + 1, hi => okL_tk1 hA (by omega) (okL_tkA hA h i (by omega))

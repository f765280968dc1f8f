-- HELPERS of the pure walks
theorem kl_i (x : Int) : kl (some (vi x)) = some (vi x) := rfl
theorem kl_l (x : Int) : kl (some (vl x)) = none := rfl
theorem kl_r (x : Option Nat) : kl (some (vr x)) = some (vr x) := rfl
theorem kl_n : kl none = none := rfl
theorem tl_s (x : PV) : (some x).toList = [x] := rfl
theorem tl_n : (none : Option PV).toList = [] := rfl
theorem le_T {a b : Int} (h : a ≤ b) : (a ≤ b) = True := eq_true h
theorem le_F {a b : Int} (h : ¬ a ≤ b) : (a ≤ b) = False := eq_false h
theorem lt_T {a b : Int} (h : a < b) : (a < b) = True := eq_true h
theorem lt_F {a b : Int} (h : ¬ a < b) : (a < b) = False := eq_false h
theorem eq_T {a b : Int} (h : a = b) : (a = b) = True := eq_true h
theorem eq_F {a b : Int} (h : ¬ a = b) : (a = b) = False := eq_false h
theorem nle_T {a b : Nat} (h : a ≤ b) : (a ≤ b) = True := eq_true h
theorem nlt_T {a b : Nat} (h : a < b) : (a < b) = True := eq_true h
theorem neq_T {a b : Nat} (h : a = b) : (a = b) = True := eq_true h
theorem neq_F {a b : Nat} (h : ¬ a = b) : (a = b) = False := eq_false h
theorem up_r (I : II) (a k : Nat) (v : Int) (b j : Nat) : up I a k v b j = if b = a ∧ j = k then v else I b j := by
  unfold up
  by_cases h : b = a
  · subst h
    by_cases h2 : j = k
    · simp [h2]
    · simp [h2]
  · simp [h]
-- the fixed cells (wip/whole/world.py)
abbrev WM (g : GG) : Prop := gK g 57 = (0, 11) ∧ gR g 57 0 = some 58 ∧ gR g 57 1 = some 59 ∧ gR g 57 2 = some 60 ∧ gR g 57 3 = some 61 ∧ gR g 57 4 = some 62 ∧ gR g 57 5 = some 63 ∧ gR g 57 6 = some 64 ∧ gR g 57 7 = some 65 ∧ gR g 57 8 = some 66 ∧ gR g 57 9 = some 67 ∧ gR g 57 10 = some 68 ∧ gR g 57 11 = some 69 ∧ gR g 57 12 = some 70 ∧ gR g 57 13 = some 71 ∧ gR g 57 19 = some 72 ∧ gR g 57 20 = some 73 ∧ gR g 57 21 = some 74 ∧ gR g 57 22 = some 75 ∧ gR g 57 23 = some 76 ∧ gR g 57 24 = some 77 ∧ gR g 57 25 = some 78 ∧ gR g 57 26 = some 79 ∧ gR g 57 30 = some 80 ∧ gR g 57 34 = some 81 ∧ gR g 57 38 = some 82 ∧ gR g 57 39 = some 83 ∧ gR g 57 40 = some 84 ∧ gR g 57 41 = some 85 ∧ gR g 57 42 = some 86 ∧ gR g 57 45 = some 87 ∧ gR g 57 46 = some 88 ∧ gR g 57 47 = some 89 ∧ gK g 58 = (1, 7) ∧ gK g 59 = (1, 14) ∧ gK g 60 = (1, 14) ∧ gK g 61 = (1, 14) ∧ gK g 62 = (1, 7) ∧ gK g 63 = (1, 7) ∧ gK g 64 = (1, 7) ∧ gK g 65 = (1, 7) ∧ gK g 66 = (1, 4) ∧ gK g 67 = (1, 8) ∧ gK g 68 = (1, 8) ∧ gK g 69 = (1, 4) ∧ gK g 70 = (1, 4) ∧ gK g 71 = (1, 8) ∧ gK g 72 = (1, 64) ∧ gK g 73 = (1, 64) ∧ gK g 74 = (1, 32) ∧ gK g 75 = (1, 32) ∧ gK g 76 = (1, 32) ∧ gK g 77 = (1, 32) ∧ gK g 78 = (1, 32) ∧ gK g 79 = (1, 32) ∧ gK g 80 = (1, 400) ∧ gK g 81 = (1, 7) ∧ gK g 82 = (1, 8) ∧ gK g 83 = (1, 7) ∧ gK g 84 = (1, 8) ∧ gK g 85 = (1, 8) ∧ gK g 86 = (1, 8) ∧ gK g 87 = (2, 7000) ∧ gK g 88 = (2, 16) ∧ gK g 89 = (1, 10)
abbrev WX (g : GG) : Prop := gK g 5 = (0, 10) ∧ gR g 5 2 = some 32 ∧ gR g 5 4 = some 45 ∧ gR g 5 5 = some 47 ∧ gR g 5 6 = some 52 ∧ gR g 5 8 = some 53 ∧ gR g 5 10 = some 54 ∧ gR g 5 11 = some 55 ∧ gR g 5 12 = some 56 ∧ gK g 45 = (0, 7) ∧ gK g 46 = (1, 0) ∧ gK g 47 = (0, 5) ∧ gR g 47 0 = some 48 ∧ gR g 47 1 = some 50 ∧ gR g 47 2 = some 51 ∧ gK g 48 = (0, 4) ∧ gR g 48 3 = some 49 ∧ gK g 49 = (1, 7) ∧ gK g 50 = (1, 7) ∧ gK g 51 = (1, 7) ∧ gK g 52 = (1, 64) ∧ gK g 53 = (1, 10) ∧ gK g 54 = (2, 500) ∧ gK g 55 = (2, 16) ∧ gK g 56 = (1, 7)
abbrev WT (g : GG) (t : Nat) : Prop := gK g t = (0, 8) ∧ gR g t 2 = some (t + 1) ∧ gR g t 3 = some (t + 2) ∧ gR g t 5 = some (t + 3) ∧ gR g t 6 = some (t + 4) ∧ gR g t 8 = some (t + 5) ∧ gR g t 9 = some (t + 6) ∧ gR g t 10 = some (t + 7) ∧ gR g t 12 = some (t + 8) ∧ gR g t 13 = some (t + 9) ∧ gR g t 14 = some (t + 10) ∧ gK g (t + 10) = (0, 4) ∧ gR g (t + 10) 3 = some (t + 11) ∧ gK g (t + 11) = (1, 7) ∧ gK g (t + 1) = (1, 64) ∧ gK g (t + 2) = (1, 64) ∧ gK g (t + 3) = (3, 7) ∧ gK g (t + 4) = (1, 4) ∧ gK g (t + 5) = (1, 8) ∧ gK g (t + 6) = (1, 8) ∧ gK g (t + 7) = (1, 8) ∧ gK g (t + 8) = (1, 4) ∧ gK g (t + 9) = (1, 4)
-- truth as a number; a row put into the cells
def bi (c : Prop) [Decidable c] : Int := if c then 1 else 0
theorem bi_0 (c : Prop) [Decidable c] : (bi c = 0) = ¬ c := by unfold bi; by_cases h : c <;> simp [h]
theorem bi_1 (c : Prop) [Decidable c] : (bi c = 1) = c := by unfold bi; by_cases h : c <;> simp [h]
theorem bi_b (c : Prop) [Decidable c] : (bi c = 0 ∨ bi c = 1) = True := by unfold bi; by_cases h : c <;> simp [h]
theorem bi_T {c : Prop} [Decidable c] (h : c) : bi c = 1 := if_pos h
theorem bi_F {c : Prop} [Decidable c] (h : ¬ c) : bi c = 0 := if_neg h
def uf (f : Nat → Int) (k : Nat) (v : Int) : Nat → Int := fun j => if j = k then v else f j
def pr (I : II) (a : Nat) (f : Nat → Int) : II := fun b => if b = a then f else I b
theorem up_pr (I : II) (a k : Nat) (v : Int) : up I a k v = pr I a (uf (I a) k v) := by
  rfl
theorem inew_pr (I : II) (a : Nat) : inew I a = pr I a (fun _ => 0) := rfl
theorem pr_s (I : II) (a : Nat) (f : Nat → Int) : pr I a f a = f := if_pos rfl
theorem pr_o {I : II} {a b : Nat} {f : Nat → Int} (h : ¬ b = a) : pr I a f b = I b := if_neg h
theorem pr_pr (I : II) (a : Nat) (f h : Nat → Int) : pr (pr I a f) a h = pr I a h := by
  funext b
  unfold pr
  by_cases e : b = a
  · rw [if_pos e, if_pos e]
  · rw [if_neg e, if_neg e, if_neg e]
theorem pr_id (I : II) (a : Nat) : pr I a (I a) = I := by
  funext b
  unfold pr
  by_cases e : b = a
  · rw [if_pos e, e]
  · rw [if_neg e]
theorem pr_c {I : II} {a b : Nat} {f h : Nat → Int} (n : a < b) : pr (pr I b f) a h = pr (pr I a h) b f := by
  funext c
  unfold pr
  by_cases e : c = a
  · rw [if_pos e, if_neg (by omega), if_pos e]
  · rw [if_neg e, if_neg e]
theorem uf_s (f : Nat → Int) (k : Nat) (v : Int) : uf f k v k = v := if_pos rfl
theorem uf_o {f : Nat → Int} {k j : Nat} {v : Int} (h : ¬ j = k) : uf f k v j = f j := if_neg h
theorem uf_uf (f : Nat → Int) (k : Nat) (v w : Int) : uf (uf f k v) k w = uf f k w := by
  funext j
  unfold uf
  by_cases h : j = k
  · rw [if_pos h, if_pos h]
  · rw [if_neg h, if_neg h, if_neg h]
theorem uf_id (f : Nat → Int) (k : Nat) : uf f k (f k) = f := by
  funext j
  unfold uf
  by_cases h : j = k
  · rw [if_pos h, h]
  · rw [if_neg h]

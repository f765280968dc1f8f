-- LAND: one statement told, as a step of (rows, places, ways, things)
abbrev LST : Type := II × Nat × Nat × Nat
def fitS (s : LST) (q m : Nat) (r : RG) : Prop := (r.1 = 110 ∧ 2 ≤ r.2.1 ∧ r.2.1 ≤ 8 ∧ needA s.1 s.2.2.1 s.2.2.2 q m ≤ r.2.1) ∨ (r.1 = 119 ∧ fitW s.1 s.2.1 s.2.2.1 r.2.1 r.2.2.1 r.2.2.2.1) ∨ (r.1 = 116 ∧ fitT s.2.1 s.2.2.2 r.2.1 r.2.2.1 r.2.2.2.2)
def nxS (s : LST) (r : RG) : LST := if r.1 = 110 then (nxP s.1 r.2.1, r.2.1.toNat, s.2.2.1, s.2.2.2) else if r.1 = 119 then (nxW s.1 s.2.2.1 r.2.1 r.2.2.1 r.2.2.2.1, s.2.1, s.2.2.1 + 1, s.2.2.2) else (nxT s.1 s.2.2.2 r.2.1 r.2.2.1 r.2.2.2.1 r.2.2.2.2, s.2.1, s.2.2.1, s.2.2.2 + 1)
abbrev okLS (s : LST) (q m : Nat) : Prop := okS s.1 s.2.1 s.2.2.1 s.2.2.2 q m
/-- what the model's comes leaves as it was -/
def mk57 (I J : II) : Prop := (∀ a, ¬ a = 57 → ¬ (59 ≤ a ∧ a ≤ 65) → ¬ a = 81 → J a = I a) ∧ (∀ j, ¬ j = 14 → ¬ j = 15 → ¬ j = 16 → J 57 j = I 57 j) ∧ (∀ a j, 59 ≤ a → a ≤ 61 → 14 ≤ j → J a j = I a j) ∧ (∀ a j, (62 ≤ a ∧ a ≤ 65) ∨ a = 81 → 7 ≤ j → J a j = I a j)
section STEP
variable {g : GG} {I : II} {q m k : Nat}
theorem okLS_nx {s : LST} {r : RG} (hS : okLS s q m) (hr : okRG r) (hf : fitS s q m r) : okLS (nxS s r) q m := by
  obtain ⟨A, P, w, n⟩ := s
  obtain ⟨l, x1, x2, x3, x4⟩ := r
  rcases hr with ⟨h, h1⟩ | ⟨h, h1, h2, h3⟩ | ⟨h, h1, h2, h3, h4⟩
  all_goals
    have h : l = _ := h
    subst h
  · rcases hf with hf | hf | hf
    · obtain ⟨_, f1, f2, f3⟩ := hf
      have f1 : 2 ≤ x1 := f1
      obtain ⟨v, rfl⟩ := Int.eq_ofNat_of_zero_le (by omega : 0 ≤ x1)
      exact okS_nxP (v := v) hS ⟨by omega, by have f2 : (v : Int) ≤ 8 := f2; omega⟩ f3
    · exact absurd hf.1 (by simp)
    · exact absurd hf.1 (by simp)
  · rcases hf with hf | hf | hf
    · exact absurd hf.1 (by simp)
    · exact okS_nxW hS hf.2
    · exact absurd hf.1 (by simp)
  · rcases hf with hf | hf | hf
    · exact absurd hf.1 (by simp)
    · exact absurd hf.1 (by simp)
    · exact okS_nxT hS h1 h2.1 h3 h4.1 hf.2
theorem ct_comesS {s : LST} {r : RG} (hW : WM g) (hM : MR I s.1) (hS : okLS s q m) (hr : okRG r) (hk : k < 32) (ha : rgA I k r) (d : Nat) (Q : QQ) (hy : fitS s q m r → ∀ J, MR J (nxS s r).1 → mk57 I J → Q (some (vi 1)) g J) (hn : ¬ fitS s q m r → Q (some (vi 0)) g I) : WP (d + 2) m_X12_comes 0 [some (vr (some 57)), some (vi k)] [] g I Q := by
  obtain ⟨A, P, w, n⟩ := s
  obtain ⟨l, x1, x2, x3, x4⟩ := r
  obtain ⟨a1, a2, a3, a4⟩ := ha
  have hM : MR I A := hM
  have hS : okS A P w n q m := hS
  rcases hr with ⟨h, h1⟩ | ⟨h, h1, h2, h3⟩ | ⟨h, h1, h2, h3, h4⟩
  all_goals
    have h : l = _ := h
    subst h
  · rw [ct_comesN hW hM hS hk a1 a2 d Q]
    by_cases c : 2 ≤ x1 ∧ x1 ≤ 8 ∧ needA A w n q m ≤ x1
    · rw [if_pos c]
      refine hy (Or.inl ⟨rfl, c⟩) _ (MR_nxP hM x1) ⟨fun a e1 e2 e3 => pr_o e1, fun j e1 e2 e3 => ?_, fun a j e1 e2 e3 => ?_, fun a j e1 e2 => ?_⟩
      · rw [pr_s, uf_o e1]
      · rw [pr_o (by omega)]
      · rw [pr_o (by omega)]
    · rw [if_neg c]
      refine hn (fun z => ?_)
      rcases z with z | z | z
      · exact c z.2
      · exact absurd z.1 (by simp)
      · exact absurd z.1 (by simp)
  · obtain ⟨b1, b2⟩ := a3 (by simp)
    by_cases c : fitW A P w x1 x2 x3
    · rw [ct_comesW_y hW hM hS hk a1 a2 b1 b2 c d Q]
      refine hy (Or.inr (Or.inl ⟨rfl, c⟩)) _ (MR_nxW hM x1 x2 x3) ⟨fun a e1 e2 e3 => ?_, fun j e1 e2 e3 => ?_, fun a j e1 e2 e3 => ?_, fun a j e1 e2 => ?_⟩
      · rw [pr_o e1, pr_o (by omega), pr_o (by omega), pr_o (by omega)]
      · rw [pr_s, uf_o e2]
      · have hw14 : w < 14 := c.2.1
        rcases (by omega : a = 59 ∨ a = 60 ∨ a = 61) with e | e | e <;> subst e <;> simp (disch := omega) only [pr_o, pr_s, uf_o]
      · rw [pr_o (by omega), pr_o (by omega), pr_o (by omega), pr_o (by omega)]
    · rw [ct_comesW_n hW hM hS hk ⟨h1.1, h2.1⟩ a1 a2 b1 b2 c d Q]
      refine hn (fun z => ?_)
      rcases z with z | z | z
      · exact absurd z.1 (by simp)
      · exact c z.2
      · exact absurd z.1 (by simp)
  · obtain ⟨b1, b2⟩ := a3 (by simp)
    have b3 := a4 rfl
    rw [ct_comesT hW hM hS hk a1 a2 b1 b2 b3 h1 h2.1 h4.1 d Q]
    by_cases c : x2 < P ∧ n < 7 ∧ (x1 = 2 → x4 < n)
    · rw [if_pos c]
      refine hy (Or.inr (Or.inr ⟨rfl, c⟩)) _ (MR_nxT hM (hS.2.2.2.2.2.2.2.2.2.2.1.2 n (by omega) c.2.1)) ⟨fun a e1 e2 e3 => ?_, fun j e1 e2 e3 => ?_, fun a j e1 e2 e3 => ?_, fun a j e1 e2 => ?_⟩
      · rw [pr_o e1, pr_o e3, pr_o (by omega), pr_o (by omega), pr_o (by omega), pr_o (by omega)]
      · rw [pr_s, uf_o e3]
      · rw [pr_o (by omega), pr_o (by omega), pr_o (by omega), pr_o (by omega), pr_o (by omega), pr_o (by omega)]
      · have hn7 : n < 7 := c.2.1
        rcases (by omega : a = 62 ∨ a = 63 ∨ a = 64 ∨ a = 65 ∨ a = 81) with e | e | e | e | e <;> subst e <;> simp (disch := omega) only [pr_o, pr_s, uf_o]
    · rw [if_neg c]
      refine hn (fun z => ?_)
      rcases z with z | z | z
      · exact absurd z.1 (by simp)
      · exact absurd z.1 (by simp)
      · exact c z.2
end STEP

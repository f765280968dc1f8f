-- KEPT AND PUT BACK: what is the same behind it; an end that is not named
theorem WP_ext {d m pc : Nat} {ls : LL} {st : List PV} {g : GG} {I : II} {r : Option PV} {post : II → Prop} (H : ∀ Q : QQ, (∀ J, post J → Q r g J) → WP d m pc ls st g I Q) : ∃ J, post J ∧ ∀ Q : QQ, WP d m pc ls st g I Q = Q r g J := by
  obtain ⟨n, hn⟩ := H (fun v g' J => v = r ∧ g' = g ∧ post J) (fun J hJ => ⟨rfl, rfl, hJ⟩)
  obtain ⟨v, g1, J, ⟨h1, h2, h3⟩, hw⟩ := wp_det _ _ _ _ _ _ _ _ _ hn
  subst h1 h2
  exact ⟨J, h3, fun Q => WP_fun (fun Q hQ => ⟨n, wp_mono _ _ _ _ _ _ _ _ _ _ (fun v' g' I' e => by obtain ⟨e1, e2, e3⟩ := e; subst e1 e2 e3; exact hQ) hw⟩) Q⟩
theorem kpy_i {F src : Nat → Int} {c k j : Nat} (h : j < k) : kpy F src c k (c + j) = src j := by
  unfold kpy
  rw [if_pos (by omega), show c + j - c = j by omega]
theorem kpy_x {F src : Nat → Int} {c k j : Nat} (h : ¬ (c ≤ j ∧ j < c + k)) : kpy F src c k j = F j := if_neg h
section KB
variable {I J : II}
theorem k2_59 {j : Nat} (h : j < 14) : kAll200 I (200 + j) = I 59 j := by unfold kAll200; simp (disch := omega) only [uf_o, kpy_x, kpy_i]
theorem k2_60 {j : Nat} (h : j < 14) : kAll200 I (214 + j) = I 60 j := by unfold kAll200; simp (disch := omega) only [uf_o, kpy_x, kpy_i]
theorem k2_61 {j : Nat} (h : j < 14) : kAll200 I (228 + j) = I 61 j := by unfold kAll200; simp (disch := omega) only [uf_o, kpy_x, kpy_i]
theorem k2_62 {j : Nat} (h : j < 7) : kAll200 I (242 + j) = I 62 j := by unfold kAll200; simp (disch := omega) only [uf_o, kpy_x, kpy_i]
theorem k2_63 {j : Nat} (h : j < 7) : kAll200 I (249 + j) = I 63 j := by unfold kAll200; simp (disch := omega) only [uf_o, kpy_x, kpy_i]
theorem k2_64 {j : Nat} (h : j < 7) : kAll200 I (256 + j) = I 64 j := by unfold kAll200; simp (disch := omega) only [uf_o, kpy_x, kpy_i]
theorem k2_65 {j : Nat} (h : j < 7) : kAll200 I (263 + j) = I 65 j := by unfold kAll200; simp (disch := omega) only [uf_o, kpy_x, kpy_i]
theorem k2_66 {j : Nat} (h : j < 4) : kAll200 I (270 + j) = I 66 j := by unfold kAll200; simp (disch := omega) only [uf_o, kpy_x, kpy_i]
theorem k2_67 {j : Nat} (h : j < 8) : kAll200 I (274 + j) = I 67 j := by unfold kAll200; simp (disch := omega) only [uf_o, kpy_x, kpy_i]
theorem k2_68 {j : Nat} (h : j < 8) : kAll200 I (282 + j) = I 68 j := by unfold kAll200; simp (disch := omega) only [uf_o, kpy_x, kpy_i]
theorem k2_69 {j : Nat} (h : j < 4) : kAll200 I (290 + j) = I 69 j := by unfold kAll200; simp (disch := omega) only [uf_o, kpy_x, kpy_i]
theorem k2_70 {j : Nat} (h : j < 4) : kAll200 I (294 + j) = I 70 j := by unfold kAll200; simp (disch := omega) only [uf_o, kpy_x, kpy_i]
theorem k2_71 {j : Nat} (h : j < 8) : kAll200 I (298 + j) = I 71 j := by unfold kAll200; simp (disch := omega) only [uf_o, kpy_x, kpy_i]
theorem k2_81 {j : Nat} (h : j < 7) : kAll200 I (306 + j) = I 81 j := by unfold kAll200; simp (disch := omega) only [uf_o, kpy_x, kpy_i]
theorem k2_f : kAll200 I 313 = I 57 14 ∧ kAll200 I 314 = I 57 15 ∧ kAll200 I 315 = I 57 16 ∧ kAll200 I 316 = I 57 17 ∧ kAll200 I 317 = I 57 18 ∧ kAll200 I 318 = I 57 35 ∧ kAll200 I 319 = I 57 36 ∧ kAll200 I 320 = I 57 37 := by
  unfold kAll200
  simp (disch := omega) only [uf_o, uf_s, and_self]
theorem k2_lo {j : Nat} (h : j < 200) : kAll200 I j = I 80 j := by unfold kAll200; simp (disch := omega) only [uf_o, kpy_x]
theorem fll_id {h D : Nat → Int} {n : Nat} (e : ∀ j, j < n → h j = D j) : fll h n D = D := by
  funext j
  unfold fll
  by_cases c : j < n
  · rw [if_pos c, e j c]
  · rw [if_neg c]
theorem rA2_o {a : Nat} (h : ¬ a = 57 ∧ ¬ a = 81 ∧ ¬ (59 ≤ a ∧ a ≤ 71)) : rAll200 J a = J a := by
  unfold rAll200
  simp (disch := omega) only [pr_o]
theorem sm_back (h1 : ∀ a, okc a → ¬ a = 81 → J a = I a) (h2 : ∀ j, okf j → ¬ (14 ≤ j ∧ j ≤ 18) ∧ ¬ (35 ≤ j ∧ j ≤ 37) → J 57 j = I 57 j) (h80 : J 80 = kAll200 I) (h49 : ∀ j, 7 ≤ j → J 49 j = I 49 j) (h81 : ∀ j, 7 ≤ j → J 81 j = I 81 j) : sm I (sP 0 (rAll200 J) 321) := by
  have hr : ∀ a, 58 ≤ a ∧ a ≤ 71 → J a = I a := fun a q => h1 a (by unfold okc; omega) (by omega)
  obtain ⟨f1, f2, f3, f4, f5, f6, f7, f8⟩ := k2_f (I := I)
  refine ⟨fun a q => ?_, fun j q => ?_, fun j q => ?_, fun j q => ?_⟩
  · rw [sP_o (by intro e; subst e; unfold okc at q; omega)]
    by_cases c : 59 ≤ a ∧ a ≤ 71
    · have e := hr a (by omega)
      unfold rAll200
      rw [pr_o (by omega), pr_o (by omega)]
      rcases (by omega : a = 59 ∨ a = 60 ∨ a = 61 ∨ a = 62 ∨ a = 63 ∨ a = 64 ∨ a = 65 ∨ a = 66 ∨ a = 67 ∨ a = 68 ∨ a = 69 ∨ a = 70 ∨ a = 71) with r | r | r | r | r | r | r | r | r | r | r | r | r <;> subst r <;> simp (disch := omega) only [pr_o, pr_s] <;> rw [e, h80]
      · exact fll_id (fun j h => k2_59 h)
      · exact fll_id (fun j h => k2_60 h)
      · exact fll_id (fun j h => k2_61 h)
      · exact fll_id (fun j h => k2_62 h)
      · exact fll_id (fun j h => k2_63 h)
      · exact fll_id (fun j h => k2_64 h)
      · exact fll_id (fun j h => k2_65 h)
      · exact fll_id (fun j h => k2_66 h)
      · exact fll_id (fun j h => k2_67 h)
      · exact fll_id (fun j h => k2_68 h)
      · exact fll_id (fun j h => k2_69 h)
      · exact fll_id (fun j h => k2_70 h)
      · exact fll_id (fun j h => k2_71 h)
    · by_cases c2 : a = 81
      · subst c2
        unfold rAll200
        rw [pr_o (by omega), pr_s, h80]
        funext j
        unfold fll
        by_cases c3 : j < 7
        · rw [if_pos c3]; exact k2_81 c3
        · rw [if_neg c3]; exact h81 j (by omega)
      · rw [rA2_o ⟨by intro e; subst e; unfold okc at q; omega, c2, c⟩]
        exact h1 a q c2
  · rw [sP_f (by unfold okf at q; omega)]
    unfold rAll200
    rw [pr_s, h80, f1, f2, f3, f4, f5, f6, f7, f8]
    by_cases c : (14 ≤ j ∧ j ≤ 18) ∨ (35 ≤ j ∧ j ≤ 37)
    · rcases (by omega : j = 14 ∨ j = 15 ∨ j = 16 ∨ j = 17 ∨ j = 18 ∨ j = 35 ∨ j = 36 ∨ j = 37) with r | r | r | r | r | r | r | r <;> subst r <;> simp (disch := omega) only [uf_o, uf_s]
    · simp (disch := omega) only [uf_o]
      exact h2 j q (by omega)
  · rw [sP_o (by omega), rA2_o (by omega), h80]
    exact k2_lo q
  · rw [sP_o (by omega), rA2_o (by omega)]
    exact h49 j q
-- behind the keeping: what the life at hand rests on is as it was
theorem kp_o {a : Nat} (h : ¬ a = 57 ∧ ¬ a = 80) : sP 1 (pr I 80 (kAll200 I)) 321 a = I a := by rw [sP_o h.1, pr_o h.2]
theorem kp_f {j : Nat} (h : ¬ j = 32 ∧ ¬ j = 33) : sP 1 (pr I 80 (kAll200 I)) 321 57 j = I 57 j := by rw [sP_f h, pr_o (by omega)]
theorem kp_80 : sP 1 (pr I 80 (kAll200 I)) 321 80 = kAll200 I := by rw [sP_o (by omega), pr_s]
end KB

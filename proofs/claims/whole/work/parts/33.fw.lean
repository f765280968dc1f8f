-- THE LEAST WAYS: both tables are the same, and no way round is shorter
def dg0 (D : Nat → Int) : Prop := ∀ a, a < 8 → D (8 * a + a) = 0
def iso (n : Nat) (D : Nat → Int) : Prop := ∀ a b, a < 8 → b < 8 → (n ≤ a ∨ n ≤ b) → a ≠ b → D (8 * a + b) = 100000
def pos1 (D : Nat → Int) : Prop := ∀ a b, a < 8 → b < 8 → a ≠ b → 1 ≤ D (8 * a + b)
def tri (k : Nat) (D : Nat → Int) : Prop := ∀ a b c, a < 8 → b < 8 → c < k → D (8 * a + b) ≤ D (8 * a + c) + D (8 * c + b)
theorem ix_inj {a b c e : Nat} (hb : b < 8) (he : e < 8) (h : 8 * a + b = 8 * c + e) : a = c ∧ b = e := by omega
section RLX
variable {D : Nat → Int} {n y a b : Nat}
theorem rlx_no (h : ¬ D (8 * a + y) + D (8 * y + b) < D (8 * a + b)) : rlx y a b D = D := if_neg h
theorem rlx_iso (hB : bD D) (hZ : dg0 D) (hI : iso n D) (hy : y < 8) (ha : a < 8) (hb : b < 8) (h : n ≤ a ∨ n ≤ b ∨ n ≤ y) : rlx y a b D = D := by
  apply rlx_no
  have h1 := hB (8 * a + y) (by omega)
  have h2 := hB (8 * y + b) (by omega)
  have h3 := hB (8 * a + b) (by omega)
  by_cases e1 : a = y
  · subst e1
    have := hZ a ha
    omega
  · by_cases e2 : y = b
    · subst e2
      have := hZ y hy
      omega
    · rcases h with h | h | h
      · have := hI a y ha hy (Or.inl h) e1; omega
      · have := hI y b hy hb (Or.inr h) e2; omega
      · have := hI a y ha hy (Or.inr h) e1; omega
theorem rlx_keep (hB : bD D) (hZ : dg0 D) (hI : iso n D) (hy : y < 8) (ha : a < n) (hb : b < n) (hn : n ≤ 8) : dg0 (rlx y a b D) ∧ iso n (rlx y a b D) := by
  unfold rlx
  by_cases h : D (8 * a + y) + D (8 * y + b) < D (8 * a + b)
  · rw [if_pos h]
    have h1 := hB (8 * a + y) (by omega)
    have h2 := hB (8 * y + b) (by omega)
    refine ⟨fun c hc => ?_, fun c e hc he hne hce => ?_⟩
    · unfold uf
      by_cases e : 8 * c + c = 8 * a + b
      · obtain ⟨rfl, rfl⟩ := ix_inj hc (by omega) e
        have := hZ c hc
        omega
      · rw [if_neg e]; exact hZ c hc
    · unfold uf
      by_cases e' : 8 * c + e = 8 * a + b
      · obtain ⟨rfl, rfl⟩ := ix_inj he (by omega) e'
        omega
      · rw [if_neg e']; exact hI c e hc he hne hce
  · rw [if_neg h]; exact ⟨hZ, hI⟩
end RLX
def okF (n : Nat) (D : Nat → Int) : Prop := bD D ∧ dg0 D ∧ iso n D
theorem okF_fwb {D : Nat → Int} {n y a : Nat} (h : okF n D) (hn : n ≤ 8) (hy : y < n) (ha : a < n) : ∀ b, b ≤ n → okF n (fwb y a b D)
  | 0, _ => h
  | b + 1, hb => by
    obtain ⟨h1, h2, h3⟩ := okF_fwb h hn hy ha b (by omega)
    obtain ⟨h4, h5⟩ := rlx_keep h1 h2 h3 (by omega : y < 8) ha (by omega : b < n) hn
    exact ⟨bD_rlx h1 (by omega) (by omega) (by omega), h4, h5⟩
theorem okF_fwa {D : Nat → Int} {n y : Nat} (h : okF n D) (hn : n ≤ 8) (hy : y < n) : ∀ a, a ≤ n → okF n (fwa n y a D)
  | 0, _ => h
  | a + 1, ha => okF_fwb (okF_fwa h hn hy a (by omega)) hn hy (by omega) n (Nat.le_refl n)
theorem okF_fwm {D : Nat → Int} {n : Nat} (h : okF n D) (hn : n ≤ 8) : ∀ y, y ≤ n → okF n (fwm n y D)
  | 0, _ => h
  | y + 1, hy => okF_fwa (okF_fwm h hn y (by omega)) hn (by omega) n (Nat.le_refl n)
theorem fwb_id {D : Nat → Int} {n y a : Nat} (h : okF n D) (hy : y < 8) (ha : a < 8) (hc : n ≤ a ∨ n ≤ y) : ∀ b, b ≤ 8 → fwb y a b D = D
  | 0, _ => rfl
  | b + 1, hb => by
    show rlx y a b (fwb y a b D) = D
    rw [fwb_id h hy ha hc b (by omega)]
    exact rlx_iso h.1 h.2.1 h.2.2 hy ha (by omega) (by omega)
theorem fwb_n {D : Nat → Int} {n y a : Nat} (h : okF n D) (hn : n ≤ 8) (hy : y < n) (ha : a < n) : ∀ k, n + k ≤ 8 → fwb y a (n + k) D = fwb y a n D
  | 0, _ => rfl
  | k + 1, hk => by
    show rlx y a (n + k) (fwb y a (n + k) D) = _
    rw [fwb_n h hn hy ha k (by omega)]
    have h1 := okF_fwb h hn hy ha n (Nat.le_refl n)
    exact rlx_iso h1.1 h1.2.1 h1.2.2 (by omega) (by omega) (by omega) (by omega)
theorem fwa_n1 {D : Nat → Int} {n y : Nat} (h : okF n D) (hn : n ≤ 8) (hy : y < n) : ∀ a, a ≤ n → fwa 8 y a D = fwa n y a D
  | 0, _ => rfl
  | a + 1, ha => by
    show fwb y a 8 (fwa 8 y a D) = fwb y a n (fwa n y a D)
    rw [fwa_n1 h hn hy a (by omega)]
    have h1 := fwb_n (okF_fwa h hn hy a (by omega)) hn hy (by omega : a < n) (8 - n) (by omega)
    rw [show n + (8 - n) = 8 by omega] at h1
    exact h1
theorem fwa_n2 {D : Nat → Int} {n y : Nat} (h : okF n D) (hn : n ≤ 8) (hy : y < n) : ∀ k, n + k ≤ 8 → fwa 8 y (n + k) D = fwa n y n D
  | 0, _ => fwa_n1 h hn hy n (Nat.le_refl n)
  | k + 1, hk => by
    show fwb y (n + k) 8 (fwa 8 y (n + k) D) = _
    rw [fwa_n2 h hn hy k (by omega)]
    exact fwb_id (okF_fwa h hn hy n (Nat.le_refl n)) (by omega) (by omega) (Or.inl (by omega)) 8 (by omega)
theorem fwa_id {D : Nat → Int} {n y : Nat} (h : okF n D) (hy : y < 8) (hc : n ≤ y) : ∀ a, a ≤ 8 → fwa 8 y a D = D
  | 0, _ => rfl
  | a + 1, ha => by
    show fwb y a 8 (fwa 8 y a D) = D
    rw [fwa_id h hy hc a (by omega)]
    exact fwb_id h hy (by omega) (Or.inr hc) 8 (by omega)
theorem fwm_n1 {D : Nat → Int} {n : Nat} (h : okF n D) (hn : n ≤ 8) : ∀ y, y ≤ n → fwm 8 y D = fwm n y D
  | 0, _ => rfl
  | y + 1, hy => by
    show fwa 8 y 8 (fwm 8 y D) = fwa n y n (fwm n y D)
    rw [fwm_n1 h hn y (by omega)]
    have h1 := fwa_n2 (okF_fwm h hn y (by omega)) hn (by omega : y < n) (8 - n) (by omega)
    rw [show n + (8 - n) = 8 by omega] at h1
    exact h1
theorem fwm_n2 {D : Nat → Int} {n : Nat} (h : okF n D) (hn : n ≤ 8) : ∀ k, n + k ≤ 8 → fwm 8 (n + k) D = fwm n n D
  | 0, _ => fwm_n1 h hn n (Nat.le_refl n)
  | k + 1, hk => by
    show fwa 8 (n + k) 8 (fwm 8 (n + k) D) = _
    rw [fwm_n2 h hn k (by omega)]
    exact fwa_id (okF_fwm h hn n (Nat.le_refl n)) (by omega) (by omega) 8 (by omega)
/-- the class's table, over all eight, is the model's, over the places -/
theorem fwm_8 {D : Nat → Int} {n : Nat} (h : okF n D) (hn : n ≤ 8) : fwm 8 8 D = fwm n n D := by
  have h1 := fwm_n2 h hn (8 - n) (by omega)
  rw [show n + (8 - n) = 8 by omega] at h1
  exact h1
-- the same out of the same first 64
def e64 (D E : Nat → Int) : Prop := ∀ j, j < 64 → D j = E j
theorem rlx_e {D E : Nat → Int} {y a b : Nat} (h : e64 D E) (hy : y < 8) (ha : a < 8) (hb : b < 8) : e64 (rlx y a b D) (rlx y a b E) := by
  intro j hj
  unfold rlx
  rw [h (8 * a + y) (by omega), h (8 * y + b) (by omega), h (8 * a + b) (by omega)]
  by_cases e : E (8 * a + y) + E (8 * y + b) < E (8 * a + b)
  · rw [if_pos e, if_pos e]
    unfold uf
    by_cases e2 : j = 8 * a + b
    · rw [if_pos e2, if_pos e2]
    · rw [if_neg e2, if_neg e2]; exact h j hj
  · rw [if_neg e, if_neg e]; exact h j hj
theorem fwb_e {D E : Nat → Int} {y a : Nat} (h : e64 D E) (hy : y < 8) (ha : a < 8) : ∀ b, b ≤ 8 → e64 (fwb y a b D) (fwb y a b E)
  | 0, _ => h
  | b + 1, hb => rlx_e (fwb_e h hy ha b (by omega)) hy ha (by omega)
theorem fwa_e {D E : Nat → Int} {n y : Nat} (h : e64 D E) (hn : n ≤ 8) (hy : y < 8) : ∀ a, a ≤ 8 → e64 (fwa n y a D) (fwa n y a E)
  | 0, _ => h
  | a + 1, ha => fwb_e (fwa_e h hn hy a (by omega)) hy (by omega) n hn
theorem fwm_e {D E : Nat → Int} {n : Nat} (h : e64 D E) (hn : n ≤ 8) : ∀ y, y ≤ 8 → e64 (fwm n y D) (fwm n y E)
  | 0, _ => h
  | y + 1, hy => fwa_e (fwm_e h hn y (by omega)) hn (by omega) n hn
-- a round as one step
def rx (y : Nat) (D : Nat → Int) : Nat → Int := fun j => if D (8 * (j / 8) + y) + D (8 * y + j % 8) < D j then D (8 * (j / 8) + y) + D (8 * y + j % 8) else D j
theorem rx_ab {D : Nat → Int} {y a b : Nat} (hb : b < 8) : rx y D (8 * a + b) = if D (8 * a + y) + D (8 * y + b) < D (8 * a + b) then D (8 * a + y) + D (8 * y + b) else D (8 * a + b) := by
  unfold rx
  rw [show (8 * a + b) / 8 = a by omega, show (8 * a + b) % 8 = b by omega]
theorem rx_row {D : Nat → Int} {y b : Nat} (hZ : dg0 D) (hy : y < 8) (hb : b < 8) : rx y D (8 * y + b) = D (8 * y + b) := by
  rw [rx_ab hb, if_neg (by have := hZ y hy; omega)]
theorem rx_col {D : Nat → Int} {y a : Nat} (hZ : dg0 D) (hy : y < 8) : rx y D (8 * a + y) = D (8 * a + y) := by
  rw [rx_ab hy, if_neg (by have := hZ y hy; omega)]
def rxp (y m : Nat) (D : Nat → Int) : Nat → Int := fun j => if j < m then rx y D j else D j
theorem rxp_row {D : Nat → Int} {y b m : Nat} (hZ : dg0 D) (hy : y < 8) (hb : b < 8) : rxp y m D (8 * y + b) = D (8 * y + b) := by
  unfold rxp
  by_cases h : 8 * y + b < m
  · rw [if_pos h, rx_row hZ hy hb]
  · rw [if_neg h]
theorem rxp_col {D : Nat → Int} {y a m : Nat} (hZ : dg0 D) (hy : y < 8) : rxp y m D (8 * a + y) = D (8 * a + y) := by
  unfold rxp
  by_cases h : 8 * a + y < m
  · rw [if_pos h, rx_col hZ hy]
  · rw [if_neg h]
theorem rxp_s {D : Nat → Int} {y a b : Nat} (hZ : dg0 D) (hy : y < 8) (hb : b < 8) : rlx y a b (rxp y (8 * a + b) D) = rxp y (8 * a + b + 1) D := by
  funext j
  unfold rlx
  rw [rxp_row hZ hy hb, rxp_col hZ hy]
  have e0 : rxp y (8 * a + b) D (8 * a + b) = D (8 * a + b) := if_neg (by omega)
  rw [e0]
  by_cases e : D (8 * a + y) + D (8 * y + b) < D (8 * a + b)
  · rw [if_pos e]
    unfold uf rxp
    by_cases e2 : j = 8 * a + b
    · rw [if_pos e2, if_pos (by omega), e2, rx_ab hb, if_pos e]
    · rw [if_neg e2]
      by_cases e3 : j < 8 * a + b
      · rw [if_pos e3, if_pos (by omega)]
      · rw [if_neg e3, if_neg (by omega)]
  · rw [if_neg e]
    unfold rxp
    by_cases e2 : j = 8 * a + b
    · rw [if_neg (by omega), if_pos (by omega), e2, rx_ab hb, if_neg e]
    · by_cases e3 : j < 8 * a + b
      · rw [if_pos e3, if_pos (by omega)]
      · rw [if_neg e3, if_neg (by omega)]
theorem fwb_rx {D : Nat → Int} {y a : Nat} (hZ : dg0 D) (hy : y < 8) : ∀ b, b ≤ 8 → fwb y a b (rxp y (8 * a) D) = rxp y (8 * a + b) D
  | 0, _ => rfl
  | b + 1, hb => by
    show rlx y a b (fwb y a b (rxp y (8 * a) D)) = _
    rw [fwb_rx hZ hy b (by omega)]
    exact rxp_s hZ hy (by omega)
theorem rxp_0 (y : Nat) (D : Nat → Int) : rxp y (8 * 0) D = D := by
  funext j
  unfold rxp
  rw [if_neg (by omega)]
theorem fwa_rx {D : Nat → Int} {y : Nat} (hZ : dg0 D) (hy : y < 8) : ∀ a, a ≤ 8 → fwa 8 y a D = rxp y (8 * a) D
  | 0, _ => (rxp_0 y D).symm
  | a + 1, ha => by
    show fwb y a 8 (fwa 8 y a D) = _
    rw [fwa_rx hZ hy a (by omega), fwb_rx hZ hy 8 (by omega)]
    rfl
def okTr (k : Nat) (D : Nat → Int) : Prop := bD D ∧ dg0 D ∧ pos1 D ∧ tri k D
theorem okTr_rx {D : Nat → Int} {y : Nat} (h : okTr y D) (hy : y < 8) : okTr (y + 1) (rxp y 64 D) := by
  obtain ⟨hB, hZ, hP, hT⟩ := h
  have hx : ∀ a b, a < 8 → b < 8 → rxp y 64 D (8 * a + b) = if D (8 * a + y) + D (8 * y + b) < D (8 * a + b) then D (8 * a + y) + D (8 * y + b) else D (8 * a + b) := by
    intro a b ha hb
    unfold rxp
    rw [if_pos (by omega), rx_ab hb]
  have hb : ∀ a b, a < 8 → b < 8 → 0 ≤ D (8 * a + b) ∧ D (8 * a + b) ≤ 100000 := fun a b ha hb => hB _ (by omega)
  refine ⟨fun j hj => ?_, fun a ha => ?_, fun a b ha hb' hab => ?_, fun a b c ha hb' hc => ?_⟩
  · have h1 := hx (j / 8) (j % 8) (by omega) (by omega)
    have h2 := hb (j / 8) y (by omega) hy
    have h3 := hb y (j % 8) hy (by omega)
    have h4 := hb (j / 8) (j % 8) (by omega) (by omega)
    rw [show 8 * (j / 8) + j % 8 = j by omega] at h1 h4
    rw [h1]
    split <;> omega
  · rw [hx a a ha ha, hZ a ha]
    have h2 := hb a y ha hy
    have h3 := hb y a hy ha
    rw [if_neg (by omega)]
  · rw [hx a b ha hb']
    have h2 := hb y b hy hb'
    have h3 := hP a b ha hb' hab
    by_cases e : a = y
    · subst e
      have := hZ a ha
      rw [if_neg (by omega)]; exact h3
    · have := hP a y ha hy e
      split <;> omega
  · by_cases e : c = y
    · subst e
      rw [hx a b ha hb', hx a c ha hy, hx c b hy hb']
      have h1 := hZ c hy
      rw [if_neg (by omega : ¬ D (8 * a + c) + D (8 * c + c) < D (8 * a + c)), if_neg (by omega : ¬ D (8 * c + c) + D (8 * c + b) < D (8 * c + b))]
      split <;> omega
    · have hc' : c < y := by omega
      rw [hx a b ha hb', hx a c ha (by omega), hx c b (by omega) hb']
      have t1 := hT a b c ha hb' hc'
      have t2 := hT a y c ha hy hc'
      have t3 := hT y b c hy hb' hc'
      have b1 := hb y c hy (by omega)
      have b2 := hb c y (by omega) hy
      by_cases c1 : D (8 * a + y) + D (8 * y + b) < D (8 * a + b)
      · rw [if_pos c1]
        by_cases c2 : D (8 * a + y) + D (8 * y + c) < D (8 * a + c)
        · rw [if_pos c2]
          by_cases c3 : D (8 * c + y) + D (8 * y + b) < D (8 * c + b)
          · rw [if_pos c3]; omega
          · rw [if_neg c3]; omega
        · rw [if_neg c2]
          by_cases c3 : D (8 * c + y) + D (8 * y + b) < D (8 * c + b)
          · rw [if_pos c3]; omega
          · rw [if_neg c3]; omega
      · rw [if_neg c1]
        by_cases c2 : D (8 * a + y) + D (8 * y + c) < D (8 * a + c)
        · rw [if_pos c2]
          by_cases c3 : D (8 * c + y) + D (8 * y + b) < D (8 * c + b)
          · rw [if_pos c3]; omega
          · rw [if_neg c3]; omega
        · rw [if_neg c2]
          by_cases c3 : D (8 * c + y) + D (8 * y + b) < D (8 * c + b)
          · rw [if_pos c3]; omega
          · rw [if_neg c3]; omega
theorem okTr_fwm {D : Nat → Int} (h : okTr 0 D) : ∀ y, y ≤ 8 → okTr y (fwm 8 y D)
  | 0, _ => h
  | y + 1, hy => by
    have h1 := okTr_fwm h y (by omega)
    show okTr (y + 1) (fwa 8 y 8 (fwm 8 y D))
    rw [fwa_rx h1.2.1 (by omega) 8 (by omega)]
    exact okTr_rx h1 (by omega)

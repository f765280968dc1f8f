-- THE RELATION BETWEEN THE PURE MACHINE AND THE MACHINE
def TB : List Cond := lw_tbl.filter goodWord
theorem tb_at {w : Cond} (i : Nat) (h : lw_tbl[i]? = some w) (hg : goodWord w = true) : w ∈ TB := List.mem_filter.mpr ⟨List.mem_of_getElem? h, hg⟩
theorem tb_good {ws : List Cond} (h : ∀ w ∈ ws, w ∈ TB) : GoodIn TB ws := fun w hw => ⟨h w hw, good_of_word (List.mem_filter.mp (h w hw)).2⟩
def r32 (x : Int) : Prop := -2147483648 ≤ x ∧ x < 2147483648
def r64 (x : Int) : Prop := -9223372036854775808 ≤ x ∧ x < 9223372036854775808
def okP (v : PV) : Prop := match v with
  | .inl x => r32 x
  | .inr (.inl x) => r64 x
  | .inr (.inr _) => True
theorem r32_toInt (x : Int32) : r32 x.toInt := ⟨by have := x.le_toInt; omega, by have := x.toInt_lt; omega⟩
theorem r64_toInt (x : Int64) : r64 x.toInt := ⟨by have := x.le_toInt; omega, by have := x.toInt_lt; omega⟩
theorem of32 {x : Int} (h : r32 x) : (Int32.ofInt x).toInt = x := Int32.toInt_ofInt_of_le (by have := h.1; omega) (by have := h.2; omega)
theorem of64 {x : Int} (h : r64 x) : (Int64.ofInt x).toInt = x := Int64.toInt_ofInt_of_le (by have := h.1; omega) (by have := h.2; omega)
theorem of32_lt {x y : Int} (hx : r32 x) (hy : r32 y) : Int32.ofInt x < Int32.ofInt y ↔ x < y := by rw [Int32.lt_iff_toInt_lt, of32 hx, of32 hy]
theorem of32_le {x y : Int} (hx : r32 x) (hy : r32 y) : Int32.ofInt x ≤ Int32.ofInt y ↔ x ≤ y := by rw [Int32.le_iff_toInt_le, of32 hx, of32 hy]
theorem of32_eq {x y : Int} (hx : r32 x) (hy : r32 y) : Int32.ofInt x = Int32.ofInt y ↔ x = y := by rw [← Int32.toInt_inj, of32 hx, of32 hy]
theorem of64_eq {x y : Int} (hx : r64 x) (hy : r64 y) : Int64.ofInt x = Int64.ofInt y ↔ x = y := by rw [← Int64.toInt_inj, of64 hx, of64 hy]
theorem of64_lt {x y : Int} (hx : r64 x) (hy : r64 y) : Int64.ofInt x < Int64.ofInt y ↔ x < y := by rw [Int64.lt_iff_toInt_lt, of64 hx, of64 hy]
theorem r32_0 : r32 0 := ⟨by omega, by omega⟩
theorem of32_0 : Int32.ofInt 0 = 0 := by decide +kernel
theorem of64_0 : Int64.ofInt 0 = 0 := by decide +kernel
theorem of32_clamp {x : Int} (h : r32 x) : (Int32.ofInt x).toNatClampNeg = x.toNat := Int32.toNatClampNeg_ofInt_of_le (by have := h.1; omega) (by have := h.2; omega)
theorem of32_in {x : Int} {n : Nat} (h : r32 x) (h0 : 0 ≤ x) (h1 : x < n) : vp_in (Int32.ofInt x) n := by rw [vp_in_iff, of32 h]; exact ⟨h0, h1⟩
theorem r32_r64 {x : Int} (h : r32 x) : r64 x := ⟨by have := h.1; omega, by have := h.2; omega⟩
theorem w32_r (x : Int) : r32 (w32 x) := by
  have h1 := Int.le_bmod (x := x) (m := 4294967296) (by decide)
  have h2 := Int.bmod_lt (x := x) (m := 4294967296) (by decide)
  unfold r32 w32
  omega
theorem w64_r (x : Int) : r64 (w64 x) := by
  have h1 := Int.le_bmod (x := x) (m := 18446744073709551616) (by decide)
  have h2 := Int.bmod_lt (x := x) (m := 18446744073709551616) (by decide)
  unfold r64 w64
  omega
theorem w32_of (x : Int) : Int32.ofInt (w32 x) = Int32.ofInt x := by
  rw [← Int32.toInt_inj, of32 (w32_r x), Int32.toInt_ofInt]; rfl
theorem w32_id {x : Int} (h1 : -2147483648 ≤ x) (h2 : x < 2147483648) : w32 x = x := by
  rw [← of32 (w32_r x), w32_of, of32 ⟨h1, h2⟩]
theorem w64_of (x : Int) : Int64.ofInt (w64 x) = Int64.ofInt x := by
  rw [← Int64.toInt_inj, of64 (w64_r x), Int64.toInt_ofInt]; rfl
theorem w64_id {x : Int} (h1 : -9223372036854775808 ≤ x) (h2 : x < 9223372036854775808) : w64 x = x := by
  rw [← of64 (w64_r x), w64_of, of64 ⟨h1, h2⟩]
-- values
section VAL1
variable (ax : Nat → Value)
def rfv (r : Option Nat) : Value := match r with
  | none => .null
  | some k => ax k
def cv (v : PV) : Value := match v with
  | .inl x => .int (Int32.ofInt x)
  | .inr (.inl x) => .long (Int64.ofInt x)
  | .inr (.inr r) => rfv ax r
def axOk (base b sa sv : Nat) : Prop := ax 0 = .ref b ∧ ax 1 = .ref sa ∧ ax 2 = .ref sv ∧ (ax 3 = .null ∨ ∃ t, ax 3 = .ref t) ∧ ∀ k, 4 ≤ k → ax k = .ref (base + (k - 5))
def al (ls : LL) : List (Nat × Value) := ls.zipIdx.filterMap (fun q => q.1.map (fun v => (q.2, cv ax v)))
theorem al_mem {ls : LL} {j : Nat} {w : Value} : (j, w) ∈ al ax ls ↔ ∃ v, ls[j]? = some (some v) ∧ w = cv ax v := by
  unfold al
  rw [List.mem_filterMap]
  constructor
  · rintro ⟨⟨o, i⟩, h1, h2⟩
    have h3 := List.mem_zipIdx' h1
    cases o with
    | none => cases h2
    | some v =>
      simp only [Option.map_some, Option.some.injEq, Prod.mk.injEq] at h2
      obtain ⟨rfl, rfl⟩ := h2
      exact ⟨v, by rw [List.getElem?_eq_getElem h3.1, ← h3.2], rfl⟩
  · rintro ⟨v, h1, rfl⟩
    refine ⟨(some v, j), ?_, rfl⟩
    rw [List.mem_zipIdx_iff_getElem?]
    exact h1
def LR (lsM : Array Slot) (nL : Nat) (ls : LL) : Prop := lv_has lsM nL (al ax ls) ∧ ls.length = nL ∧ ∀ (j : Nat) (v : PV), ls[j]? = some (some v) → okP v
theorem LR.at {lsM : Array Slot} {nL : Nat} {ls : LL} (h : LR ax lsM nL ls) {k : Nat} {v : PV} (hk : ls[k]? = some (some v)) : lsM[k]? = some (.val (cv ax v)) := h.1.2.2 (k, cv ax v) ((al_mem ax).mpr ⟨v, hk, rfl⟩)
theorem LR.ok {lsM : Array Slot} {nL : Nat} {ls : LL} (h : LR ax lsM nL ls) {k : Nat} {v : PV} (hk : ls[k]? = some (some v)) : okP v := h.2.2 k v hk
theorem LR.pl {lsM : Array Slot} {nL : Nat} {ls : LL} (h : LR ax lsM nL ls) {k : Nat} {v : PV} (hk : ls[k]? = some (some v)) : ∃ q : Nat, (al ax ls)[q]? = some (k, cv ax v) := List.getElem?_of_mem ((al_mem ax).mpr ⟨v, hk, rfl⟩)
theorem cv_cat (hax : ∀ k, (ax k = .null ∨ ∃ t, ax k = .ref t)) (v : PV) : (cv ax v).category = cat v := by
  rcases v with x | x | _ | k
  · rfl
  · rfl
  · rfl
  · show (ax k).category = 1
    rcases hax k with h | ⟨t, h⟩ <;> rw [h] <;> rfl
theorem axOk.nr {base b sa sv : Nat} (h : axOk ax base b sa sv) (k : Nat) : (ax k = .null ∨ ∃ t, ax k = .ref t) := by
  obtain ⟨h0, h1, h2, h3, h4⟩ := h
  rcases (by omega : k = 0 ∨ k = 1 ∨ k = 2 ∨ k = 3 ∨ 4 ≤ k) with rfl | rfl | rfl | rfl | hk
  · exact Or.inr ⟨_, h0⟩
  · exact Or.inr ⟨_, h1⟩
  · exact Or.inr ⟨_, h2⟩
  · exact h3
  · exact Or.inr ⟨_, h4 k hk⟩
theorem kl_some {x : Option PV} {v : PV} (h : kl x = some v) : x = some v ∧ cat v = 1 := by
  unfold kl at h
  split at h
  · cases h
  · subst h
    rcases v with x | x | x
    · exact ⟨rfl, rfl⟩
    · rename_i hh; exact absurd rfl (hh x)
    · exact ⟨rfl, rfl⟩
theorem sto_get {ls : LL} {i j : Nat} {v w : PV} (h : (sto ls i v)[j]? = some (some w)) : (j = i ∧ w = v) ∨ (j ≠ i ∧ ls[j]? = some (some w) ∧ (j + 1 = i → cat w = 1)) := by
  unfold sto at h
  rw [List.getElem?_mapIdx] at h
  cases hl : ls[j]? with
  | none => rw [hl] at h; cases h
  | some x =>
    rw [hl] at h
    simp only [Option.map_some, Option.some.injEq] at h
    by_cases hj : j = i
    · rw [if_pos hj] at h
      cases h
      exact Or.inl ⟨hj, rfl⟩
    · rw [if_neg hj] at h
      by_cases hj1 : j + 1 = i
      · rw [if_pos hj1] at h
        obtain ⟨h1, h2⟩ := kl_some h
        exact Or.inr ⟨hj, by rw [h1], fun _ => h2⟩
      · rw [if_neg hj1] at h
        exact Or.inr ⟨hj, by rw [h], fun q => absurd q hj1⟩
theorem sto2_get {ls : LL} {i j : Nat} {v w : PV} (h : (sto2 ls i v)[j]? = some (some w)) : (j = i ∧ w = v) ∨ (j ≠ i ∧ j ≠ i + 1 ∧ ls[j]? = some (some w) ∧ (j + 1 = i → cat w = 1)) := by
  unfold sto2 at h
  rw [List.getElem?_mapIdx] at h
  cases hl : ls[j]? with
  | none => rw [hl] at h; cases h
  | some x =>
    rw [hl] at h
    simp only [Option.map_some, Option.some.injEq] at h
    by_cases hj : j = i
    · rw [if_pos hj] at h
      cases h
      exact Or.inl ⟨hj, rfl⟩
    · rw [if_neg hj] at h
      by_cases hj2 : j = i + 1
      · rw [if_pos hj2] at h; cases h
      · rw [if_neg hj2] at h
        by_cases hj1 : j + 1 = i
        · rw [if_pos hj1] at h
          obtain ⟨h1, h2⟩ := kl_some h
          exact Or.inr ⟨hj, hj2, by rw [h1], fun _ => h2⟩
        · rw [if_neg hj1] at h
          exact Or.inr ⟨hj, hj2, by rw [h], fun q => absurd q hj1⟩
theorem LR_sto {lsM lsM' : Array Slot} {nL : Nat} {ls : LL} {i : Nat} {v : PV} (hax : ∀ k, (ax k = .null ∨ ∃ t, ax k = .ref t)) (h : LR ax lsM nL ls) (hv : okP v) (h' : lv_has lsM' nL ((i, cv ax v) :: (al ax ls).filter (fun q => !(q.1 == i) && !(q.1 + 1 == i && q.2.category == 2)))) : LR ax lsM' nL (sto ls i v) := by
  refine ⟨⟨h'.1, h'.2.1, fun q hq => ?_⟩, by unfold sto; rw [List.length_mapIdx]; exact h.2.1, fun j w hj => ?_⟩
  · obtain ⟨j, w⟩ := q
    obtain ⟨u, h1, rfl⟩ := (al_mem ax).mp hq
    rcases sto_get h1 with ⟨rfl, rfl⟩ | ⟨n1, h2, n2⟩
    · exact h'.2.2 _ List.mem_cons_self
    · refine h'.2.2 _ (List.mem_cons_of_mem _ (List.mem_filter.mpr ⟨(al_mem ax).mpr ⟨u, h2, rfl⟩, ?_⟩))
      by_cases hj1 : j + 1 = i
      · have hc := n2 hj1
        simp [n1, cv_cat ax hax, hc]
      · simp [n1, hj1]
  · rcases sto_get hj with ⟨rfl, rfl⟩ | ⟨n1, h2, n2⟩
    · exact hv
    · exact h.2.2 j w h2
theorem LR_sto2 {lsM lsM' : Array Slot} {nL : Nat} {ls : LL} {i : Nat} {v : PV} (hax : ∀ k, (ax k = .null ∨ ∃ t, ax k = .ref t)) (h : LR ax lsM nL ls) (hv : okP v) (h' : lv_has lsM' nL ((i, cv ax v) :: (al ax ls).filter (fun q => !(q.1 == i) && (!(q.1 == i + 1) && !(q.1 + 1 == i && q.2.category == 2))))) : LR ax lsM' nL (sto2 ls i v) := by
  refine ⟨⟨h'.1, h'.2.1, fun q hq => ?_⟩, by unfold sto2; rw [List.length_mapIdx]; exact h.2.1, fun j w hj => ?_⟩
  · obtain ⟨j, w⟩ := q
    obtain ⟨u, h1, rfl⟩ := (al_mem ax).mp hq
    rcases sto2_get h1 with ⟨rfl, rfl⟩ | ⟨n1, n3, h2, n2⟩
    · exact h'.2.2 _ List.mem_cons_self
    · refine h'.2.2 _ (List.mem_cons_of_mem _ (List.mem_filter.mpr ⟨(al_mem ax).mpr ⟨u, h2, rfl⟩, ?_⟩))
      by_cases hj1 : j + 1 = i
      · have hc := n2 hj1
        simp [n1, n3, cv_cat ax hax, hc]
      · simp [n1, n3, hj1]
  · rcases sto2_get hj with ⟨rfl, rfl⟩ | ⟨n1, n3, h2, n2⟩
    · exact hv
    · exact h.2.2 j w h2
end VAL1

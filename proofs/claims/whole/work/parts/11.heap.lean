-- the heap's relation
abbrev EV : Type := ((Nat → ClassId) × (Nat → Nat → Nat)) × ((ClassId × (ClassId × ClassId)) × ((Nat × (Nat × (Nat × (Nat × Nat)))) × ((Nat → Value) × (Nat → Int32))))
def eD (E : EV) : va_G := E.1
def eI (E : EV) : ClassId := E.2.1.1
def eJ (E : EV) : ClassId := E.2.1.2.1
def eT (E : EV) : ClassId := E.2.1.2.2
def eBase (E : EV) : Nat := E.2.2.1.1
def eb (E : EV) : Nat := E.2.2.1.2.1
def eL (E : EV) : Nat := E.2.2.1.2.2.1
def esa (E : EV) : Nat := E.2.2.1.2.2.2.1
def esv (E : EV) : Nat := E.2.2.1.2.2.2.2
def eax (E : EV) : Nat → Value := E.2.2.2.1
def exs (E : EV) : Nat → Int32 := E.2.2.2.2
def eA (E : EV) : Nat → Prop := fun q => eBase E ≤ q
def KL : List Int := [111, 97, 98, 121, 103, 108]
def KL32 : List Int32 := [111, 97, 98, 121, 103, 108]
def thingN : String := "AgesByMiles$Thing"
def tyL : List (Nat → FieldType) := [tyX0, tyX1, tyX2, tyX3, tyX4, tyX5, tyX6, tyX7, tyX9, tyX10, tyX11, tyX12]
def tyOf (ci k : Nat) : FieldType := (tyL.getD ci (fun _ => .int)) k
def isRefT (t : FieldType) : Bool := match t with
  | .object _ => true
  | .array _ => true
  | _ => false
def fval (E : EV) (ci k : Nat) (i : Int) (r : Option Nat) : Value := if isRefT (tyOf ci k) = true then rfv (eax E) r else .int (Int32.ofInt i)
def fvs (E : EV) (ci : Nat) (row : Nat → Int) (rr : Nat → Option Nat) : List Value := (List.range (NS.getD ci 0)).map (fun k => fval E ci k (row k) (rr k))
def cE (E : EV) (kd : Nat × Nat) (row : Nat → Int) (rr : Nat → Option Nat) : va_E :=
  if kd.1 = 0 then .inr (kd.2, fvs E kd.2 row rr)
  else if kd.1 = 1 then .inl (eI E, kd.2, .inl (fun j => Int32.ofInt (row j)))
  else if kd.1 = 2 then .inl (eJ E, kd.2, .inr (.inl (fun j => Int64.ofInt (row j))))
  else .inl (eT E, kd.2, .inr (.inr (.inr (.inr (fun j => (rr j).map (fun k => eBase E + (k - 5)))))))
def wsOf (E : EV) (g : GG) (I : II) : va_W := (List.range (gN g - 5)).map (fun j => (eBase E + j, cE E (gK g (j + 5)) (I (j + 5)) (gR g (j + 5))))
theorem ws_get (E : EV) (g : GG) (I : II) {a : Nat} (h1 : 5 ≤ a) (h2 : a < gN g) : (wsOf E g I)[a - 5]? = some (eBase E + (a - 5), cE E (gK g a) (I a) (gR g a)) := by
  unfold wsOf
  rw [List.getElem?_map, List.getElem?_range (by omega)]
  simp only [Option.map_some]
  rw [show a - 5 + 5 = a by omega]
theorem ws_len (E : EV) (g : GG) (I : II) : (wsOf E g I).length = gN g - 5 := by simp [wsOf]
theorem ws_set (E : EV) {g g' : GG} {I I' : II} {a : Nat} (h1 : 5 ≤ a) (h2 : a < gN g) (hn : gN g' = gN g) (hk : ∀ b, b ≠ a → gK g' b = gK g b) (hr : ∀ b, b ≠ a → gR g' b = gR g b) (hi : ∀ b, b ≠ a → I' b = I b) : wsOf E g' I' = (wsOf E g I).set (a - 5) (eBase E + (a - 5), cE E (gK g' a) (I' a) (gR g' a)) := by
  apply List.ext_getElem?
  intro j
  by_cases hj : j = a - 5
  · subst hj
    rw [ws_get E g' I' h1 (by omega), List.getElem?_set_self (by rw [ws_len]; omega)]
  · rw [List.getElem?_set_ne (fun q => hj q.symm)]
    unfold wsOf
    rw [List.getElem?_map, List.getElem?_map, hn]
    by_cases hl : j < gN g - 5
    · rw [List.getElem?_range hl]
      have hb : j + 5 ≠ a := by omega
      simp only [Option.map_some]
      rw [hk _ hb, hi _ hb]
      have := hr _ hb
      rw [show gR g' (j + 5) = gR g (j + 5) from this]
    · rw [List.getElem?_eq_none (by rw [List.length_range]; omega)]; rfl
theorem ws_push (E : EV) {g g' : GG} {I I' : II} (h1 : 5 ≤ gN g) (hn : gN g' = gN g + 1) (hk : ∀ b, b < gN g → gK g' b = gK g b) (hr : ∀ b, b < gN g → gR g' b = gR g b) (hi : ∀ b, b < gN g → I' b = I b) : wsOf E g' I' = wsOf E g I ++ [(eBase E + (gN g - 5), cE E (gK g' (gN g)) (I' (gN g)) (gR g' (gN g)))] := by
  unfold wsOf
  rw [hn, show gN g + 1 - 5 = gN g - 5 + 1 by omega, List.range_succ, List.map_append]
  congr 1
  · apply List.map_congr_left
    intro j hj
    have hj := List.mem_range.mp hj
    rw [hk _ (by omega), hi _ (by omega), show gR g' (j + 5) = gR g (j + 5) from hr _ (by omega)]
  · simp only [List.map_cons, List.map_nil]
    rw [show gN g - 5 + 5 = gN g by omega]
theorem ws_D (E : EV) (g : GG) (I : II) : va_D (eA E) (wsOf E g I) := by
  have key : ∀ (k : Nat) (q : Nat × va_E), (wsOf E g I)[k]? = some q → q.1 = eBase E + k := by
    intro k q h
    unfold wsOf at h
    rw [List.getElem?_map] at h
    cases hr : (List.range (gN g - 5))[k]? with
    | none => rw [hr] at h; cases h
    | some x =>
      rw [hr] at h
      simp only [Option.map_some, Option.some.injEq] at h
      obtain ⟨hl, he⟩ := List.getElem?_eq_some_iff.mp hr
      rw [List.getElem_range] at he
      rw [← h, he]
  refine ⟨fun i j x y hx hy hxy => ?_, fun k q hq => ?_⟩
  · have a1 := key i x hx
    have a2 := key j y hy
    omega
  · have a1 := key k q hq
    show eBase E ≤ q.1
    omega
def PX (E : EV) (g : GG) (I : II) : Prop :=
  (gK g 0 = (5, eL E) ∧ (∀ j, j < eL E → I 0 j = (exs E j).toInt) ∧ gK g 1 = (0, 12) ∧ gR g 1 0 = some 2 ∧ I 1 1 = 0 ∧ gK g 2 = (4, 6) ∧ (∀ j, j < 6 → I 2 j = KL.getD j 0) ∧ (gK g 3).1 = 9 ∧ (gK g 4).1 = 9) ∧
  (∀ a, gN g ≤ a → (gK g a).1 = 9) ∧ (∀ a k, (gK g a).1 ≠ 2 → r32 (I a k)) ∧ (∀ a k, r64 (I a k)) ∧ (∀ a k r, 5 ≤ a → gR g a k = some r → 5 ≤ r) ∧
  (∀ a, 5 ≤ a → a < gN g → ((gK g a).1 = 0 ∧ (gK g a).2 < 12) ∨ (1 ≤ (gK g a).1 ∧ (gK g a).1 ≤ 3 ∧ (gK g a).2 ≤ 10000))
def RelH (E : EV) (g : GG) (I : II) (H : Heap) : Prop := 5 ≤ gN g ∧ H.size = eBase E + (gN g - 5) ∧ va_P (eD E) vwCl (wsOf E g I) H ∧ PX E g I
theorem PX.lt {E : EV} {g : GG} {I : II} (h : PX E g I) {a : Nat} (ha : (gK g a).1 ≠ 9) : a < gN g := by
  rcases Nat.lt_or_ge a (gN g) with q | q
  · exact q
  · exact absurd (h.2.1 a q) ha
/-- an address of a kind that externals haven't -/
theorem PX.own {E : EV} {g : GG} {I : II} (h : PX E g I) {a : Nat} (ha : 1 ≤ (gK g a).1 ∧ (gK g a).1 ≤ 3 ∨ ((gK g a).1 = 0 ∧ (gK g a).2 < 12)) : 5 ≤ a ∧ a < gN g := by
  refine ⟨?_, h.lt (by omega)⟩
  obtain ⟨⟨k0, -, k1, -, -, k2, -, k3, k4⟩, -⟩ := h
  rcases (by omega : a = 0 ∨ a = 1 ∨ a = 2 ∨ a = 3 ∨ a = 4 ∨ 5 ≤ a) with rfl | rfl | rfl | rfl | rfl | q
  · rw [k0] at ha; simp at ha
  · rw [k1] at ha; simp at ha
  · rw [k2] at ha; simp at ha
  · omega
  · omega
  · exact q
theorem PX_up {E : EV} {g : GG} {I : II} (h : PX E g I) {a k : Nat} {v : Int} (h5 : 5 ≤ a) (h1 : r64 v) (h2 : (gK g a).1 ≠ 2 → r32 v) : PX E g (up I a k v) := by
  obtain ⟨⟨k0, x0, k1, r1, i1, k2, x2, k3, k4⟩, hN, h32, h64, hR, hV⟩ := h
  have ne : ∀ b, b ≠ a → up I a k v b = I b := fun b hb => if_neg hb
  have at' : ∀ j, up I a k v a j = if j = k then v else I a j := fun j => by unfold up; rw [if_pos rfl]
  refine ⟨⟨k0, fun j hj => by rw [ne 0 (by omega)]; exact x0 j hj, k1, r1, by rw [ne 1 (by omega)]; exact i1, k2, fun j hj => by rw [ne 2 (by omega)]; exact x2 j hj, k3, k4⟩, hN, fun b j hb => ?_, fun b j => ?_, hR, hV⟩
  · by_cases e : b = a
    · subst e
      rw [at']
      split
      · exact h2 hb
      · exact h32 b j hb
    · rw [ne b e]; exact h32 b j hb
  · by_cases e : b = a
    · subst e
      rw [at']
      split
      · exact h1
      · exact h64 b j
    · rw [ne b e]; exact h64 b j
theorem PX_put {E : EV} {g : GG} {I : II} (h : PX E g I) {a k r : Nat} (h5 : 5 ≤ a) (hr : 5 ≤ r) : PX E (gput g a k (some r)) I := by
  obtain ⟨⟨k0, x0, k1, r1, i1, k2, x2, k3, k4⟩, hN, h32, h64, hR, hV⟩ := h
  have ne : ∀ b, b ≠ a → gR (gput g a k (some r)) b = gR g b := fun b hb => by funext j; show (if b = a then _ else g.2.1 b) j = _; rw [if_neg hb]; rfl
  refine ⟨⟨k0, x0, k1, by rw [show gR (gput g a k (some r)) 1 = gR g 1 from ne 1 (by omega)]; exact r1, i1, k2, x2, k3, k4⟩, hN, h32, h64, fun b j q hb hq => ?_, hV⟩
  by_cases e : b = a
  · subst e
    have hq' : (if j = k then some r else g.2.1 b j) = some q := by
      have : gR (gput g b k (some r)) b j = (if j = k then some r else g.2.1 b j) := by show (if b = b then _ else g.2.1 b) j = _; rw [if_pos rfl]
      rw [← this]; exact hq
    split at hq'
    · cases hq'; exact hr
    · exact hR b j q hb hq'
  · rw [show gR (gput g a k (some r)) b = gR g b from ne b e] at hq
    exact hR b j q hb hq
theorem gK_new {g : GG} {kd : Nat × Nat} {sl b : Nat} : gK (gnew g kd sl) b = if b = gN g then kd else gK g b := rfl
theorem gR_new {g : GG} {kd : Nat × Nat} {sl b : Nat} : gR (gnew g kd sl) b = if b = gN g then (fun _ => none) else gR g b := by
  funext j; show (if b = gN g then (fun _ => none) else g.2.1 b) j = _; split <;> rfl
theorem gN_new {g : GG} {kd : Nat × Nat} {sl : Nat} : gN (gnew g kd sl) = gN g + 1 := rfl
theorem gS_new {g : GG} {kd : Nat × Nat} {sl : Nat} : gS (gnew g kd sl) = gS g + sl := rfl
theorem PX_new {E : EV} {g : GG} {I : II} (h : PX E g I) {kd : Nat × Nat} {sl : Nat} (h5 : 5 ≤ gN g) (hk : (kd.1 = 0 ∧ kd.2 < 12) ∨ (1 ≤ kd.1 ∧ kd.1 ≤ 3 ∧ kd.2 ≤ 10000)) : PX E (gnew g kd sl) (inew I (gN g)) := by
  obtain ⟨⟨k0, x0, k1, r1, i1, k2, x2, k3, k4⟩, hN, h32, h64, hR, hV⟩ := h
  have ne : ∀ b, b ≠ gN g → inew I (gN g) b = I b := fun b hb => if_neg hb
  have at' : ∀ j, inew I (gN g) (gN g) j = 0 := fun j => by unfold inew; rw [if_pos rfl]
  refine ⟨⟨?_, fun j hj => ?_, ?_, ?_, ?_, ?_, fun j hj => ?_, ?_, ?_⟩, fun b hb => ?_, fun b j hb => ?_, fun b j => ?_, fun b j r hb hr => ?_, fun b hb hb2 => ?_⟩
  · rw [gK_new, if_neg (by omega)]; exact k0
  · rw [ne 0 (by omega)]; exact x0 j hj
  · rw [gK_new, if_neg (by omega)]; exact k1
  · rw [gR_new, if_neg (by omega)]; exact r1
  · rw [ne 1 (by omega)]; exact i1
  · rw [gK_new, if_neg (by omega)]; exact k2
  · rw [ne 2 (by omega)]; exact x2 j hj
  · rw [gK_new, if_neg (by omega)]; exact k3
  · rw [gK_new, if_neg (by omega)]; exact k4
  · rw [gN_new] at hb
    rw [gK_new, if_neg (by omega)]; exact hN b (by omega)
  · by_cases e : b = gN g
    · subst e; rw [at']; exact r32_0
    · rw [gK_new, if_neg e] at hb
      rw [ne b e]; exact h32 b j hb
  · by_cases e : b = gN g
    · subst e; rw [at']; exact r32_r64 r32_0
    · rw [ne b e]; exact h64 b j
  · rw [gR_new] at hr
    split at hr
    · cases hr
    · exact hR b j r hb hr
  · rw [gN_new] at hb2
    rw [gK_new]
    split
    · exact hk
    · exact hV b hb (by omega)
theorem PX_cpy {E : EV} {g : GG} {I : II} (h : PX E g I) {a0 sp a dp n : Nat} (h5 : 5 ≤ a) (hk0 : (gK g a0).1 ≠ 2) : PX E g (icpy I a0 sp a dp n) := by
  obtain ⟨⟨k0, x0, k1, r1, i1, k2, x2, k3, k4⟩, hN, h32, h64, hR, hV⟩ := h
  have ne : ∀ b, b ≠ a → icpy I a0 sp a dp n b = I b := fun b hb => if_neg hb
  have at' : ∀ j, icpy I a0 sp a dp n a j = if dp ≤ j ∧ j < dp + n then I a0 (sp + (j - dp)) else I a j := fun j => by unfold icpy; rw [if_pos rfl]
  refine ⟨⟨k0, fun j hj => by rw [ne 0 (by omega)]; exact x0 j hj, k1, r1, by rw [ne 1 (by omega)]; exact i1, k2, fun j hj => by rw [ne 2 (by omega)]; exact x2 j hj, k3, k4⟩, hN, fun b j hb => ?_, fun b j => ?_, hR, hV⟩
  · by_cases e : b = a
    · subst e
      rw [at']
      split
      · exact h32 a0 _ hk0
      · exact h32 b j hb
    · rw [ne b e]; exact h32 b j hb
  · by_cases e : b = a
    · subst e
      rw [at']
      split
      · exact h64 a0 _
      · exact h64 b j
    · rw [ne b e]; exact h64 b j
-- what stays the same over a run: the tables, what lies outside
def NEST : List (Nat × (Nat × Nat)) := [(9, (60, m_X4_init)), (11, (28, m_X7_init)), (11, (35, m_X5_init)), (5, (11, m_X4_init))]
def tys3 (E : EV) : List (ClassId × FieldType) := [(eI E, .int), (eJ E, .long), (eT E, .object thingN)]
def RelV (E : EV) (U : State) : Prop :=
  va_K (eD E) vwCl (tys3 E) U ∧ va_AO thingN U ∧ (∀ q ∈ NEST, va_Nw (.methodLinkNest (CN.getD q.1 "") q.2.1 (mY q.2.2) "AgesByMiles") U) ∧
  (va_Nw (.declares ⟨thingN, "isOpen", "([I)Z"⟩) U ∧ va_Nw (.declares ⟨thingN, "worthThen", "(II[I)I"⟩) U) ∧
  (∀ C ∈ [RX0, RX1, RX2, RX3, RX6, RX10], va_Nw (.castable C thingN) U) ∧ vk_R RX7 78 "oabygl" (esa E) U ∧ vk_R RX9 89 "oabygl" (esa E) U
def RelX (E : EV) (U : State) (H : Heap) : Prop :=
  va_X (eb E) (eL E) (exs E) U H ∧ vk_S 1 [6] [KL32] (fun _ => esa E) (fun _ => esv E) (eA E) U H ∧ va_Z "java/lang/String" "COMPACT_STRINGS" "Z" (.int 1) (eA E) U H ∧ va_Z "jdk/internal/util/Preconditions" "SIOOBE_FORMATTER" "Ljava/util/function/BiFunction;" (eax E 3) (eA E) U H
def EVok (E : EV) : Prop := axOk (eax E) (eBase E) (eb E) (esa E) (esv E) ∧ eb E < eBase E ∧ eL E ≤ 2560
theorem RelV.warm {E : EV} {s U : State} (hW : s.WarmedH U.vm) (h : RelV E s) : RelV E U := by
  obtain ⟨h1, h2, h3, ⟨h4, h5⟩, h6, h7, h8⟩ := h
  exact ⟨h1.moved hW.alike, h2.moved hW.alike, fun q hq => va_Nw.warmM hW (h3 q hq), ⟨va_Nw.warmD hW h4, va_Nw.warmD hW h5⟩, fun C hC => va_Nw.warmC hW (h6 C hC), h7.warm hW, h8.warm hW⟩
theorem RelV.same {E : EV} {u U : State} (hv : u.vm = U.vm) (h : RelV E u) : RelV E U := by
  obtain ⟨h1, h2, h3, ⟨h4, h5⟩, h6, h7, h8⟩ := h
  have ha : u.vm.Alike U.vm := by rw [hv]; exact Vm.Alike.refl _
  exact ⟨h1.moved ha, h2.moved ha, fun q hq => va_Nw.same rfl hv (h3 q hq), ⟨va_Nw.same rfl hv h4, va_Nw.same rfl hv h5⟩, fun C hC => va_Nw.same rfl hv (h6 C hC), h7.same hv.symm, h8.same hv.symm⟩
theorem RelX.moved {E : EV} {u U : State} {H : Heap} (ha : u.vm.Alike U.vm) (h : RelX E u H) : RelX E U H :=
  ⟨h.1.moved ha, h.2.1.moved ha, h.2.2.1.moved ha, h.2.2.2.moved ha⟩
theorem RelX.kept {E : EV} {U : State} {H H1 : Heap} (hb : eb E < eBase E) (hbs : eb E < H.size) (h : RelX E U H) (hq : ∀ a : Nat, a < H.size → ¬ eA E a → H1[a]? = H[a]?) : RelX E U H1 :=
  ⟨h.1.kept (hq _ hbs (Nat.not_le.mpr hb)), h.2.1.kept hq, h.2.2.1.kept hq, h.2.2.2.kept hq⟩

-- ADEQUACY: returns, contracts, calls
def QCc (E : EV) (v1 : Option PV) (g1 : GG) (I1 : II) : Array Value → State → Outcome → State → Prop := fun _ st o t => o = .returned (v1.map (cv (eax E))) ∧ RelH E g1 I1 t.heap ∧ (∀ v, v1 = some v → okP v) ∧ va_F (eA E) st t
def PCc (E : EV) (as : List PV) (g : GG) (I : II) : Array Value → State → Prop := fun v U => v = (as.map (cv (eax E))).toArray ∧ RelH E g I U.heap ∧ RelV E U ∧ RelX E U U.heap ∧ eb E < U.heap.size
def wsM (mi : Nat) : List Cond := Cond.code (mY mi) (mCode mi) (mMax mi) (mRet mi) :: TB
def rmM (d mc ms : Nat) : Room := { frames := d + 1, cells := mc, slots := ms, locals := 40 * (d + 1) }
theorem PCc_blind (E : EV) (as : List PV) (g : GG) (I : II) : FrameBlind (PCc E as g I) := by
  intro a U gg mk h
  obtain ⟨h1, h2, h3, h4, h5⟩ := h
  exact ⟨h1, h2, h3.same rfl, h4.moved (Vm.Alike.refl _), h5⟩
theorem rt_inj {v w : Option PV} (h : rt v = rt w) : v = w := by
  simp only [rt, Option.some.injEq, Sum.inr.injEq, Sum.inl.injEq] at h
  exact h
theorem lay_mem : ∀ (as : List PV) {j : Nat} {v : PV}, (lay as)[j]? = some (some v) → v ∈ as
  | [], j, v, h => by simp [lay] at h
  | .inl x :: r, j, v, h => by
    cases j with
    | zero => simp only [lay, List.getElem?_cons_zero, Option.some.injEq] at h; rw [← h]; exact List.mem_cons_self
    | succ j => simp only [lay, List.getElem?_cons_succ] at h; exact List.mem_cons_of_mem _ (lay_mem r h)
  | .inr (.inl x) :: r, j, v, h => by
    cases j with
    | zero => simp only [lay, List.getElem?_cons_zero, Option.some.injEq] at h; rw [← h]; exact List.mem_cons_self
    | succ j =>
      cases j with
      | zero => simp [lay] at h
      | succ j => simp only [lay, List.getElem?_cons_succ] at h; exact List.mem_cons_of_mem _ (lay_mem r h)
  | .inr (.inr x) :: r, j, v, h => by
    cases j with
    | zero => simp only [lay, List.getElem?_cons_zero, Option.some.injEq] at h; rw [← h]; exact List.mem_cons_self
    | succ j => simp only [lay, List.getElem?_cons_succ] at h; exact List.mem_cons_of_mem _ (lay_mem r h)
theorem lay_args {ax : Nat → Value} (hax : ∀ k, (ax k = .null ∨ ∃ t, ax k = .ref t)) : ∀ (as : List PV) (i : Nat) {j : Nat} {v : PV}, (lay as)[j]? = some (some v) → (i + j, cv ax v) ∈ lv_args i (as.map (cv ax))
  | [], i, j, v, h => by simp [lay] at h
  | .inl x :: r, i, j, v, h => by
    cases j with
    | zero => simp only [lay, List.getElem?_cons_zero, Option.some.injEq] at h; rw [← h]; exact List.mem_cons_self
    | succ j =>
      simp only [lay, List.getElem?_cons_succ] at h
      have := lay_args hax r (i + 1) h
      rw [show i + (j + 1) = i + 1 + j by omega]
      rw [List.map_cons, lv_args, if_neg (by rw [cv_cat ax hax]; show ¬ (1 : Nat) = 2; decide)]
      exact List.mem_cons_of_mem _ this
  | .inr (.inl x) :: r, i, j, v, h => by
    cases j with
    | zero => simp only [lay, List.getElem?_cons_zero, Option.some.injEq] at h; rw [← h]; exact List.mem_cons_self
    | succ j =>
      cases j with
      | zero => simp [lay] at h
      | succ j =>
        simp only [lay, List.getElem?_cons_succ] at h
        have := lay_args hax r (i + 2) h
        rw [show i + (j + 1 + 1) = i + 2 + j by omega]
        rw [List.map_cons, lv_args, if_pos (by rw [cv_cat ax hax]; rfl)]
        exact List.mem_cons_of_mem _ this
  | .inr (.inr x) :: r, i, j, v, h => by
    cases j with
    | zero => simp only [lay, List.getElem?_cons_zero, Option.some.injEq] at h; rw [← h]; exact List.mem_cons_self
    | succ j =>
      simp only [lay, List.getElem?_cons_succ] at h
      have := lay_args hax r (i + 1) h
      rw [show i + (j + 1) = i + 1 + j by omega]
      rw [List.map_cons, lv_args, if_neg (by rw [cv_cat ax hax]; show ¬ (1 : Nat) = 2; decide)]
      exact List.mem_cons_of_mem _ this
theorem lay_sl {ax : Nat → Value} (hax : ∀ k, (ax k = .null ∨ ∃ t, ax k = .ref t)) : ∀ (as : List PV), (lg_sl (as.map (cv ax))).length = (lay as).length
  | [] => rfl
  | v :: r => by
    have ih := lay_sl hax r
    have hc := cv_cat ax hax v
    rcases v with x | x | x
    · rw [List.map_cons]
      unfold lg_sl at ih ⊢
      rw [List.flatMap_cons, if_neg (by rw [hc]; show ¬ (1 : Nat) = 2; decide), List.length_append, ih]
      simp [lay]; omega
    · rw [List.map_cons]
      unfold lg_sl at ih ⊢
      rw [List.flatMap_cons, if_pos (by rw [hc]; rfl), List.length_append, ih]
      simp [lay]; omega
    · rw [List.map_cons]
      unfold lg_sl at ih ⊢
      rw [List.flatMap_cons, if_neg (by rw [hc]; show ¬ (1 : Nat) = 2; decide), List.length_append, ih]
      simp [lay]; omega
theorem entry_LR {ax : Nat → Value} (hax : ∀ k, (ax k = .null ∨ ∃ t, ax k = .ref t)) {mi : Nat} {as : List PV} (hl : (lay as).length ≤ mMax mi) (hok : ∀ v ∈ as, okP v) : LR ax ((lg_sl (as.map (cv ax)) ++ List.replicate (mMax mi - (lg_sl (as.map (cv ax))).length) Slot.unset).toArray) (mMax mi) (entryL mi as) := by
  have h := lv_entry (as.map (cv ax)) (n := mMax mi) (by rw [lay_sl hax]; exact hl)
  have key : ∀ (j : Nat) (v : PV), (entryL mi as)[j]? = some (some v) → (lay as)[j]? = some (some v) := by
    intro j v hj
    unfold entryL at hj
    by_cases hlt : j < (lay as).length
    · rw [List.getElem?_append_left hlt] at hj; exact hj
    · rw [List.getElem?_append_right (by omega)] at hj
      have := List.eq_of_mem_replicate (List.mem_of_getElem? hj)
      cases this
  refine ⟨⟨h.1, h.2.1, fun q hq => ?_⟩, by unfold entryL; rw [List.length_append, List.length_replicate]; omega, fun j v hj => hok v (lay_mem as (key j v hj))⟩
  obtain ⟨j, w⟩ := q
  obtain ⟨v, hj, rfl⟩ := (al_mem ax).mp hq
  have := lay_args hax as 0 (key j v hj)
  rw [Nat.zero_add] at this
  exact h.2.2 _ this
section AQH
variable {E : EV} {p : Program} {l : Launch} {e : Env} {R : Room} {s : State} {m : MethodId} {args : Array Value} {below : List Frame} {meth : Method} {c : Code} {Q : State → Prop} {mi n0 s0 : Nat}
variable {pc pc' : Nat} {ls ls' : LL} {st st' : List PV} {g g' : GG} {I I' : II}
theorem stat_rt {own k : Nat} {v : Option PV} (hs : s_static own k pc ls st g I = rt v) : False := by
  unfold s_static at hs
  cases hk : MC.lookup (own, k) with
  | none => rw [hk] at hs; cases hs
  | some q =>
    rw [hk] at hs
    clear hk
    dsimp only at hs
    by_cases h0 : q.1 = 0
    · rw [if_pos h0] at hs
      unfold s_cst at hs
      split at hs
      · split at hs <;> cases hs
      · cases hs
    rw [if_neg h0] at hs
    by_cases h7 : q.1 = 7
    · rw [if_pos h7] at hs
      unfold s_copy at hs
      split at hs
      · split at hs <;> cases hs
      · cases hs
    rw [if_neg h7] at hs
    by_cases h8 : q.1 = 8
    · rw [if_pos h8] at hs
      unfold s_mx at hs
      split at hs
      · split at hs <;> cases hs
      · cases hs
    rw [if_neg h8] at hs
    by_cases h9 : q.1 = 9
    · rw [if_pos h9] at hs
      unfold s_mx at hs
      split at hs
      · split at hs <;> cases hs
      · cases hs
    rw [if_neg h9] at hs
    by_cases h10 : q.1 = 10
    · rw [if_pos h10] at hs
      unfold s_mxl at hs
      split at hs
      · split at hs <;> cases hs
      · cases hs
    rw [if_neg h10] at hs
    cases hs
theorem virt_rt {own k : Nat} {v : Option PV} (hs : s_virt own k pc ls st g I = rt v) : False := by
  unfold s_virt at hs
  cases hk : MC.lookup (own, k) with
  | none => rw [hk] at hs; cases hs
  | some q =>
    rw [hk] at hs
    clear hk
    dsimp only at hs
    by_cases h0 : q.1 = 1 ∨ q.1 = 2
    · rw [if_pos h0] at hs
      unfold s_cvr at hs
      split at hs
      · split at hs
        · split at hs <;> cases hs
        · cases hs
      · cases hs
    · rw [if_neg h0] at hs; cases hs
theorem spec_rt {own k : Nat} {v : Option PV} (hs : s_spec own k pc ls st g I = rt v) : False := by
  unfold s_spec at hs
  cases hk : MC.lookup (own, k) with
  | none => rw [hk] at hs; cases hs
  | some q =>
    rw [hk] at hs
    clear hk
    dsimp only at hs
    by_cases h6 : q.1 = 6
    · rw [if_pos h6] at hs
      unfold s_coi at hs
      split at hs
      · split at hs <;> cases hs
      · cases hs
    rw [if_neg h6] at hs
    by_cases h0 : q.1 = 3 ∨ q.1 = 4 ∨ q.1 = 5
    · rw [if_pos h0] at hs
      unfold s_csp at hs
      split at hs
      · split at hs
        · split at hs <;> cases hs
        · cases hs
      · cases hs
    · rw [if_neg h0] at hs; cases hs
theorem nb_bool : ∀ x : Int, (x = 0 ∨ x = 1) → narrow .boolean (.int (Int32.ofInt x)) = .int (Int32.ofInt x) := by
  rintro x (rfl | rfl) <;> decide +kernel
theorem nb_char (x : Int) (h : 0 ≤ x ∧ x < 65536) : narrow .char (.int (Int32.ofInt x)) = .int (Int32.ofInt x) := by
  obtain ⟨n, rfl⟩ : ∃ n : Nat, x = (n : Int) := ⟨x.toNat, by omega⟩
  rw [Int32.ofInt_eq_ofNat]
  exact (pk_charN (q := n) (by omega)).1
theorem nb_byte (x : Int) (h : -128 ≤ x ∧ x < 128) : narrow .byte (.int (Int32.ofInt x)) = .int (Int32.ofInt x) := by
  show Value.int (Int32.ofInt x).toInt8.toInt32 = _
  congr 1
  rw [← Int32.toInt_inj, Int8.toInt_toInt32, Int32.toInt_toInt8, of32 ⟨by omega, by omega⟩]
  exact Int.bmod_eq_of_le (by omega) (by omega)
theorem step_ret {v : Option PV} (F : FC E p s m args meth c mi) (hs : step mi pc ls st g I = rt v) : WW E p l e R s m args below meth c (MQ below (QCc E v g I) args s (gN g - n0) (gS g - s0) (eA E)) mi n0 s0 pc ls st g I := by
  obtain ⟨hx, hb, hr, hml, hown, hts, hlk, hnm, hV, hX, hbs, hE⟩ := F
  unfold step at hs
  split at hs
  rotate_left
  · cases hs
  rename_i i len hd
  split at hs
  · exact (onlyN_rt hs).elim
  rename_i hcl
  intro lsM H locs hc
  have hf : ∀ q ∈ locs, eA E q.base := hc.2.1.2.2
  have fin : ∀ (w : Option PV), (∀ x, w = some x → okP x) → ∀ t : State, t.heap = H → s.WarmedH t.vm → QCc E w g I args s (.returned (w.map (cv (eax E)))) t := fun w hw t ht _ => ⟨rfl, by rw [ht]; exact hc.1, hw, hc.2.1.F ht⟩
  cases i with
  | ireturn =>
    change s_iret mi len st = _ at hs
    unfold s_iret at hs
    split at hs
    · rename_i x
      split at hs
      · rename_i h
        obtain ⟨rfl, hrb⟩ := h
        have := rt_inj hs
        subst this
        have hxr : r32 x := hc.2.2.2.1 (vi x) (by simp)
        have fin1 := fin (some (vi x)) (fun y hy => by cases hy; exact hxr)
        unfold retB at hrb
        split at hrb
        · rename_i hret
          exact W.iret hx hb (by rw [hr, hret]) fin1 hf hd
        · rename_i hret
          exact W.zret hx hb (by rw [hr, hret]) (nb_bool x (by simpa using hrb)) fin1 hf hd
        · rename_i hret
          exact W.zret hx hb (by rw [hr, hret]) (nb_char x (by simpa using hrb)) fin1 hf hd
        · rename_i hret
          exact W.zret hx hb (by rw [hr, hret]) (nb_byte x (by simpa using hrb)) fin1 hf hd
        · cases hrb
      · cases hs
    · cases hs
  | lreturn =>
    change s_lret mi len st = _ at hs
    unfold s_lret at hs
    split at hs
    · rename_i x
      split at hs
      · rename_i h
        obtain ⟨rfl, hret⟩ := h
        have := rt_inj hs
        subst this
        have hxr : r64 x := hc.2.2.2.1 (vl x) (by simp)
        exact W.lret hx hb (by rw [hr, hret]) (fin (some (vl x)) (fun y hy => by cases hy; exact hxr)) hf hd
      · cases hs
    · cases hs
  | areturn =>
    change s_aret mi len st = _ at hs
    unfold s_aret at hs
    split at hs
    · rename_i x
      split at hs
      · rename_i h
        obtain ⟨rfl, hrb⟩ := h
        have := rt_inj hs
        subst this
        unfold retA at hrb
        split at hrb
        · rename_i nn hret
          exact W.aret hx hb (by rw [hr, hret]) (Or.inl ⟨nn, rfl⟩) (hE.1.nr _ x) (fin (some (vr (some x))) (fun y hy => by cases hy; trivial)) hf hd
        · cases hrb
      · cases hs
    · cases hs
  | return_ =>
    change s_vret mi len st = _ at hs
    unfold s_vret at hs
    split at hs
    · split at hs
      · rename_i h
        obtain ⟨rfl, hret⟩ := h
        have := rt_inj hs
        subst this
        exact W.vret hx hb (by rw [hr, hret]) (fin none (fun y hy => by cases hy)) hf hd
      · cases hs
    · cases hs
  | invokestatic k =>
    change (if len = 3 then s_static (mOwn mi) k pc ls st g I else none) = _ at hs
    split at hs
    · exact (stat_rt hs).elim
    · cases hs
  | invokevirtual k =>
    change (if len = 3 then s_virt (mOwn mi) k pc ls st g I else none) = _ at hs
    split at hs
    · exact (virt_rt hs).elim
    · cases hs
  | invokespecial k =>
    change (if len = 3 then s_spec (mOwn mi) k pc ls st g I else none) = _ at hs
    split at hs
    · exact (spec_rt hs).elim
    · cases hs
  | _ => exact absurd rfl hcl
theorem met_of {d : Nat} {as : List PV} {v1 : Option PV} {g1 : GG} {I1 : II} (hE : EVok E) (hM : MOK mi) (hl : (lay as).length ≤ mMax mi) (hok : ∀ v ∈ as, okP v)
    (IH : ∀ (p : Program) (e : Env) (R : Room) (s : State) (m : MethodId) (args : Array Value) (below : List Frame) (meth : Method) (c : Code) (n0 s0 : Nat), FC E p s m args meth c mi → d + 1 ≤ R.frames → 40 * (d + 1) ≤ R.locals → gN g1 - n0 ≤ R.cells → gS g1 - s0 ≤ R.slots → WW E p l e R s m args below meth c (MQ below (QCc E v1 g1 I1) args s (gN g1 - n0) (gS g1 - s0) (eA E)) mi n0 s0 0 (entryL mi as) [] g I) :
    Met l (mY mi) (wsM mi) (rmM d (gN g1 - gN g) (gS g1 - gS g)) (PCc E as g I) (QCc E v1 g1 I1) (gN g1 - gN g) (gS g1 - gS g) (eA E) := by
  refine Met.ofW (cc := mCode mi) (maxL := mMax mi) (ret := mRet mi) hM.2.1 rfl ?_
  intro p e s m args below meth c s₁ B hml hv
  obtain ⟨rfl, hH, hV, hX, hbs⟩ := hv
  have hts0 := atoms_spec (ws := wsM mi) B.pre
  have hown : s.vm.findClass (cn (mOwn mi)) = some m.cls := by rw [← hM.2.2.2.2.1]; exact findClass_of_methodNamed B.named
  have F : FC E p s m (as.map (cv (eax E))).toArray meth c mi := ⟨B.exec, B.bytes, B.returns, hml, hown, fun w hw => hts0 w (List.mem_cons_of_mem _ hw), B.notSynchronized, fun _ => (name_of_methodNamed B.named B.method).1, hV, hX, hbs, hE⟩
  have h := IH p e (rmM d (gN g1 - gN g) (gS g1 - gS g)) s m (as.map (cv (eax E))).toArray below meth c (gN g) (gS g) F (Nat.le_refl _) (Nat.le_refl _) (Nat.le_refl _) (Nat.le_refl _) _ s.heap [] ⟨hH, va_S.rf, entry_LR (hE.1.nr _) hl hok, (fun v hv => by cases hv), Nat.le_refl _, Nat.le_refl _⟩
  rw [Nat.sub_self, Nat.sub_self] at h
  rw [lg_entry_eq]
  exact h
theorem run_on {v2 : Option PV} {g2 : GG} {I2 : II} {H : Heap} {locs : List Loc} {lsM : Array Slot} {st0 : List Value} {rest : List PV} {a : Array Value} (hc : CU E s H locs lsM (mMax mi) ls st g I n0 s0) (h1 : gN g ≤ gN g2) (h2 : gS g ≤ gS g2) (hrest : ∀ v ∈ rest, okP v)
    (hr : va_Run p l e R s m args below meth c H locs (gN g - n0) (gS g - s0) (gN g2 - gN g) (gS g2 - gS g) (F0 m pc lsM st0) (rest.map (cv (eax E))) (QCc E v2 g2 I2 a) (eA E))
    (kk : WW E p l e R s m args below meth c Q mi n0 s0 (pc + 3) ls (v2.toList ++ rest) g2 I2) : W p l e R s m args below meth c H locs (gN g - n0) (gS g - s0) Q (F0 m pc lsM st0) := by
  intro T hT X
  obtain ⟨v, st₀, t, T', L, h0, X', hL, e1, e2, ⟨ho, hH2, hok, hF⟩, step⟩ := hr T hT X
  have hv : v = v2.map (cv (eax E)) := Outcome.returned.inj ho
  subst hv
  have hn0 := hc.2.2.2.2.1
  have hs0 := hc.2.2.2.2.2
  rw [show gN g - n0 + (gN g2 - gN g) = gN g2 - n0 by omega, show gS g - s0 + (gS g2 - gS g) = gS g2 - s0 by omega] at X'
  obtain ⟨hF1, hF2⟩ := hF
  rw [h0] at hF1 hF2
  have hS := hc.2.1
  have hok2 : ∀ v ∈ v2.toList ++ rest, okP v := by
    intro w hw
    rcases List.mem_append.mp hw with h | h
    · cases v2 with
      | none => cases h
      | some x => exact hok w (by rw [List.mem_singleton.mp (show w ∈ [x] from h)])
    · exact hrest w h
  obtain ⟨t2, a1, b1⟩ := kk lsM T'.heap (locs ++ L) ⟨by rw [e1]; exact hH2, ⟨Nat.le_trans hS.1 (by rw [e1]; exact hF1), fun q g1 g2 => by rw [e1, hF2 q (Nat.lt_of_lt_of_le g1 hS.1) g2]; exact hS.2.1 q g1 g2, fun q hq => by
      rcases List.mem_append.mp hq with h | h
      · exact hS.2.2 q h
      · exact hL q h⟩, hc.2.2.1, hok2, by omega, by omega⟩ T' rfl X'
  refine ⟨t2, step t2 ?_, b1⟩
  rw [List.map_append] at a1
  cases v2 <;> exact a1
/-- the callee's start out of the caller's state -/
theorem pre_U {H : Heap} {locs : List Loc} {lsM : Array Slot} {as : List PV} (F : FC E p s m args meth c mi) (hc : CU E s H locs lsM (mMax mi) ls st g I n0 s0) : ∀ U : State, U.heap = H → s.WarmedH U.vm → PCc E as g I (as.map (cv (eax E))).toArray U := by
  intro U hU hW
  obtain ⟨hx, hb, hr, hml, hown, hts, hlk, hnm, hV, hX, hbs, hE⟩ := F
  refine ⟨rfl, by rw [hU]; exact hc.1, hV.warm hW, ?_, by rw [hU]; exact Nat.lt_of_lt_of_le hbs hc.2.1.1⟩
  rw [hU]
  exact (hX.kept hE.2.1 hbs hc.2.1.2.1).moved hW.alike
end AQH

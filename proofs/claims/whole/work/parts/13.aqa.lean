-- ADEQUACY, one step: stack, locals, branches
def FC (E : EV) (p : Program) (s : State) (m : MethodId) (args : Array Value) (meth : Method) (c : Code) (mi : Nat) : Prop :=
  p.tables.exec = Jvm.exec ∧ c.code = mCode mi ∧ meth.sig.returnType = mRet mi ∧ c.maxLocals = mMax mi ∧ s.vm.findClass (cn (mOwn mi)) = some m.cls ∧ (∀ w ∈ TB, w.before args s = true) ∧ meth.locks = false ∧ ((mY mi).name = "<init>" → meth.name = (mY mi).name) ∧ RelV E s ∧ RelX E s s.heap ∧ eb E < s.heap.size ∧ EVok E
def CU (E : EV) (s : State) (H : Heap) (locs : List Loc) (lsM : Array Slot) (nL : Nat) (ls : LL) (st : List PV) (g : GG) (I : II) (n0 s0 : Nat) : Prop :=
  RelH E g I H ∧ va_S (eA E) s.heap H locs ∧ LR (eax E) lsM nL ls ∧ (∀ v ∈ st, okP v) ∧ n0 ≤ gN g ∧ s0 ≤ gS g
def WW (E : EV) (p : Program) (l : Launch) (e : Env) (R : Room) (s : State) (m : MethodId) (args : Array Value) (below : List Frame) (meth : Method) (c : Code) (Q : State → Prop) (mi n0 s0 pc : Nat) (ls : LL) (st : List PV) (g : GG) (I : II) : Prop :=
  ∀ (lsM : Array Slot) (H : Heap) (locs : List Loc), CU E s H locs lsM (mMax mi) ls st g I n0 s0 → W p l e R s m args below meth c H locs (gN g - n0) (gS g - s0) Q (F0 m pc lsM (st.map (cv (eax E))))
theorem nx_inj {pc pc' : Nat} {ls ls' : LL} {st st' : List PV} {g g' : GG} {I I' : II} (h : nx pc ls st g I = nx pc' ls' st' g' I') : pc = pc' ∧ ls = ls' ∧ st = st' ∧ g = g' ∧ I = I' := by
  simp only [nx, Option.some.injEq, Sum.inl.injEq, Prod.mk.injEq] at h
  exact h
section AQA
variable {E : EV} {p : Program} {l : Launch} {e : Env} {R : Room} {s : State} {m : MethodId} {args : Array Value} {below : List Frame} {meth : Method} {c : Code} {Q : State → Prop} {mi n0 s0 : Nat}
variable {pc pc' len : Nat} {ls ls' : LL} {st st' : List PV} {g g' : GG} {I I' : II}
theorem CU.stk {H : Heap} {locs : List Loc} {lsM : Array Slot} {nL : Nat} (h : CU E s H locs lsM nL ls st g I n0 s0) (h' : ∀ v ∈ st', okP v) : CU E s H locs lsM nL ls st' g I n0 s0 := ⟨h.1, h.2.1, h.2.2.1, h', h.2.2.2.2⟩
theorem aq_push {v : PV} {L : Nat} (hv : okP v) (k : WW E p l e R s m args below meth c Q mi n0 s0 (pc + L) ls (v :: st) g I)
    (row : ∀ (rest : List Value) (lsM : Array Slot) (H : Heap) (locs : List Loc) (cells slots : Nat), W p l e R s m args below meth c H locs cells slots Q (F0 m (pc + L) lsM (cv (eax E) v :: rest)) → W p l e R s m args below meth c H locs cells slots Q (F0 m pc lsM rest)) : WW E p l e R s m args below meth c Q mi n0 s0 pc ls st g I := by
  intro lsM H locs hc
  refine row _ _ _ _ _ _ (k lsM H locs (hc.stk ?_))
  intro w hw
  rcases List.mem_cons.mp hw with rfl | hw
  · exact hv
  · exact hc.2.2.2.1 w hw
theorem aq_i2 {F : Int32 → Int32 → Int32} (hs : s_i2 (i2 F) len pc ls st g I = nx pc' ls' st' g' I')
    (row : len = 1 → ∀ (x y : Int32) (rest : List Value) (lsM : Array Slot) (H : Heap) (locs : List Loc) (cells slots : Nat), W p l e R s m args below meth c H locs cells slots Q (F0 m (pc + 1) lsM (.int (F x y) :: rest)) → W p l e R s m args below meth c H locs cells slots Q (F0 m pc lsM (.int y :: .int x :: rest)))
    (k : WW E p l e R s m args below meth c Q mi n0 s0 pc' ls' st' g' I') : WW E p l e R s m args below meth c Q mi n0 s0 pc ls st g I := by
  unfold s_i2 at hs
  split at hs
  · rename_i b a r
    split at hs
    · rename_i hl
      obtain ⟨rfl, rfl, rfl, rfl, rfl⟩ := nx_inj hs
      intro lsM H locs hc
      refine row hl _ _ _ _ _ _ _ _ ?_
      have := k lsM H locs (hc.stk ?_)
      · simpa [cv, i2] using this
      · intro w hw
        rcases List.mem_cons.mp hw with rfl | hw
        · exact r32_toInt _
        · exact hc.2.2.2.1 w (by simp [hw])
    · cases hs
  · cases hs
theorem aq_i1 {F : Int32 → Int32} (hs : s_i1 (i1 F) len pc ls st g I = nx pc' ls' st' g' I')
    (row : len = 1 → ∀ (x : Int32) (rest : List Value) (lsM : Array Slot) (H : Heap) (locs : List Loc) (cells slots : Nat), W p l e R s m args below meth c H locs cells slots Q (F0 m (pc + 1) lsM (.int (F x) :: rest)) → W p l e R s m args below meth c H locs cells slots Q (F0 m pc lsM (.int x :: rest)))
    (k : WW E p l e R s m args below meth c Q mi n0 s0 pc' ls' st' g' I') : WW E p l e R s m args below meth c Q mi n0 s0 pc ls st g I := by
  unfold s_i1 at hs
  split at hs
  · rename_i a r
    split at hs
    · rename_i hl
      obtain ⟨rfl, rfl, rfl, rfl, rfl⟩ := nx_inj hs
      intro lsM H locs hc
      refine row hl _ _ _ _ _ _ _ ?_
      have := k lsM H locs (hc.stk ?_)
      · simpa [cv, i1] using this
      · intro w hw
        rcases List.mem_cons.mp hw with rfl | hw
        · exact r32_toInt _
        · exact hc.2.2.2.1 w (by simp [hw])
    · cases hs
  · cases hs
theorem aq_id {F : Int32 → Int32 → Int32} (hs : s_id (i2 F) len pc ls st g I = nx pc' ls' st' g' I')
    (row : len = 1 → ∀ (x y : Int32), ¬ y = 0 → ∀ (rest : List Value) (lsM : Array Slot) (H : Heap) (locs : List Loc) (cells slots : Nat), W p l e R s m args below meth c H locs cells slots Q (F0 m (pc + 1) lsM (.int (F x y) :: rest)) → W p l e R s m args below meth c H locs cells slots Q (F0 m pc lsM (.int y :: .int x :: rest)))
    (k : WW E p l e R s m args below meth c Q mi n0 s0 pc' ls' st' g' I') : WW E p l e R s m args below meth c Q mi n0 s0 pc ls st g I := by
  unfold s_id at hs
  split at hs
  · rename_i b a r
    split at hs
    · rename_i hl
      obtain ⟨rfl, rfl, rfl, rfl, rfl⟩ := nx_inj hs
      intro lsM H locs hc
      have hb : r32 b := hc.2.2.2.1 (vi b) (by simp)
      refine row hl.1 _ _ ?_ _ _ _ _ _ _ ?_
      · rw [← of32_0, of32_eq hb r32_0]; exact hl.2
      have := k lsM H locs (hc.stk ?_)
      · simpa [cv, i2] using this
      · intro w hw
        rcases List.mem_cons.mp hw with rfl | hw
        · exact r32_toInt _
        · exact hc.2.2.2.1 w (by simp [hw])
    · cases hs
  · cases hs
theorem aq_l2 {F : Int64 → Int64 → Int64} (hs : s_l2 (l2 F) len pc ls st g I = nx pc' ls' st' g' I')
    (row : len = 1 → ∀ (x y : Int64) (rest : List Value) (lsM : Array Slot) (H : Heap) (locs : List Loc) (cells slots : Nat), W p l e R s m args below meth c H locs cells slots Q (F0 m (pc + 1) lsM (.long (F x y) :: rest)) → W p l e R s m args below meth c H locs cells slots Q (F0 m pc lsM (.long y :: .long x :: rest)))
    (k : WW E p l e R s m args below meth c Q mi n0 s0 pc' ls' st' g' I') : WW E p l e R s m args below meth c Q mi n0 s0 pc ls st g I := by
  unfold s_l2 at hs
  split at hs
  · rename_i b a r
    split at hs
    · rename_i hl
      obtain ⟨rfl, rfl, rfl, rfl, rfl⟩ := nx_inj hs
      intro lsM H locs hc
      refine row hl _ _ _ _ _ _ _ _ ?_
      have := k lsM H locs (hc.stk ?_)
      · simpa [cv, l2] using this
      · intro w hw
        rcases List.mem_cons.mp hw with rfl | hw
        · exact r64_toInt _
        · exact hc.2.2.2.1 w (by simp [hw])
    · cases hs
  · cases hs
theorem aq_ldv {F : Int64 → Int64 → Int64} (hs : s_ldv (l2 F) len pc ls st g I = nx pc' ls' st' g' I')
    (row : len = 1 → ∀ (x y : Int64), ¬ y = 0 → ∀ (rest : List Value) (lsM : Array Slot) (H : Heap) (locs : List Loc) (cells slots : Nat), W p l e R s m args below meth c H locs cells slots Q (F0 m (pc + 1) lsM (.long (F x y) :: rest)) → W p l e R s m args below meth c H locs cells slots Q (F0 m pc lsM (.long y :: .long x :: rest)))
    (k : WW E p l e R s m args below meth c Q mi n0 s0 pc' ls' st' g' I') : WW E p l e R s m args below meth c Q mi n0 s0 pc ls st g I := by
  unfold s_ldv at hs
  split at hs
  · rename_i b a r
    split at hs
    · rename_i hl
      obtain ⟨rfl, rfl, rfl, rfl, rfl⟩ := nx_inj hs
      intro lsM H locs hc
      have hb : r64 b := hc.2.2.2.1 (vl b) (by simp)
      refine row hl.1 _ _ ?_ _ _ _ _ _ _ ?_
      · rw [← of64_0, of64_eq hb (r32_r64 r32_0)]; exact hl.2
      have := k lsM H locs (hc.stk ?_)
      · simpa [cv, l2] using this
      · intro w hw
        rcases List.mem_cons.mp hw with rfl | hw
        · exact r64_toInt _
        · exact hc.2.2.2.1 w (by simp [hw])
    · cases hs
  · cases hs
theorem aq_lsh {F : Int64 → Int32 → Int64} (hs : s_lsh (l3 F) len pc ls st g I = nx pc' ls' st' g' I')
    (row : len = 1 → ∀ (x : Int64) (y : Int32) (rest : List Value) (lsM : Array Slot) (H : Heap) (locs : List Loc) (cells slots : Nat), W p l e R s m args below meth c H locs cells slots Q (F0 m (pc + 1) lsM (.long (F x y) :: rest)) → W p l e R s m args below meth c H locs cells slots Q (F0 m pc lsM (.int y :: .long x :: rest)))
    (k : WW E p l e R s m args below meth c Q mi n0 s0 pc' ls' st' g' I') : WW E p l e R s m args below meth c Q mi n0 s0 pc ls st g I := by
  unfold s_lsh at hs
  split at hs
  · rename_i b a r
    split at hs
    · rename_i hl
      obtain ⟨rfl, rfl, rfl, rfl, rfl⟩ := nx_inj hs
      intro lsM H locs hc
      refine row hl _ _ _ _ _ _ _ _ ?_
      have := k lsM H locs (hc.stk ?_)
      · simpa [cv, l3] using this
      · intro w hw
        rcases List.mem_cons.mp hw with rfl | hw
        · exact r64_toInt _
        · exact hc.2.2.2.1 w (by simp [hw])
    · cases hs
  · cases hs
theorem lcm3_of {a b : Int} (ha : r64 a) (hb : r64 b) : lg_cmp (Int64.ofInt a) (Int64.ofInt b) = Int32.ofInt (lcm3 a b) := by
  unfold lg_cmp lcm3
  have h1 : (Int64.ofInt a > Int64.ofInt b) ↔ b < a := of64_lt hb ha
  by_cases h : b < a
  · rw [if_pos (h1.mpr h), if_pos h]; rfl
  · rw [if_neg (fun q => h (h1.mp q)), if_neg h]
    by_cases h2 : a = b
    · rw [if_pos ((of64_eq ha hb).mpr h2), if_pos h2]; rfl
    · rw [if_neg (fun q => h2 ((of64_eq ha hb).mp q)), if_neg h2]; rfl
theorem lcm3_r (a b : Int) : r32 (lcm3 a b) := by unfold lcm3 r32; split <;> (try split) <;> omega
theorem aq_lcmp (hs : s_lcmp len pc ls st g I = nx pc' ls' st' g' I')
    (row : len = 1 → ∀ (x y : Int64) (rest : List Value) (lsM : Array Slot) (H : Heap) (locs : List Loc) (cells slots : Nat), W p l e R s m args below meth c H locs cells slots Q (F0 m (pc + 1) lsM (.int (lg_cmp x y) :: rest)) → W p l e R s m args below meth c H locs cells slots Q (F0 m pc lsM (.long y :: .long x :: rest)))
    (k : WW E p l e R s m args below meth c Q mi n0 s0 pc' ls' st' g' I') : WW E p l e R s m args below meth c Q mi n0 s0 pc ls st g I := by
  unfold s_lcmp at hs
  split at hs
  · rename_i b a r
    split at hs
    · rename_i hl
      obtain ⟨rfl, rfl, rfl, rfl, rfl⟩ := nx_inj hs
      intro lsM H locs hc
      have ha : r64 a := hc.2.2.2.1 (vl a) (by simp)
      have hb : r64 b := hc.2.2.2.1 (vl b) (by simp)
      refine row hl _ _ _ _ _ _ _ _ ?_
      rw [lcm3_of ha hb]
      refine k lsM H locs (hc.stk ?_)
      intro w hw
      rcases List.mem_cons.mp hw with rfl | hw
      · exact lcm3_r _ _
      · exact hc.2.2.2.1 w (by simp [hw])
    · cases hs
  · cases hs
theorem aq_i2l (hs : s_i2l len pc ls st g I = nx pc' ls' st' g' I')
    (row : len = 1 → ∀ (x : Int32) (v : Int64), x.toInt64 = v → ∀ (rest : List Value) (lsM : Array Slot) (H : Heap) (locs : List Loc) (cells slots : Nat), W p l e R s m args below meth c H locs cells slots Q (F0 m (pc + 1) lsM (.long v :: rest)) → W p l e R s m args below meth c H locs cells slots Q (F0 m pc lsM (.int x :: rest)))
    (k : WW E p l e R s m args below meth c Q mi n0 s0 pc' ls' st' g' I') : WW E p l e R s m args below meth c Q mi n0 s0 pc ls st g I := by
  unfold s_i2l at hs
  split at hs
  · rename_i a r
    split at hs
    · rename_i hl
      obtain ⟨rfl, rfl, rfl, rfl, rfl⟩ := nx_inj hs
      intro lsM H locs hc
      have ha : r32 a := hc.2.2.2.1 (vi a) (by simp)
      refine row hl _ (Int64.ofInt a) ?_ _ _ _ _ _ _ (k lsM H locs (hc.stk ?_))
      · rw [← Int64.toInt_inj, Int32.toInt_toInt64, of32 ha, of64 (r32_r64 ha)]
      · intro w hw
        rcases List.mem_cons.mp hw with rfl | hw
        · exact r32_r64 ha
        · exact hc.2.2.2.1 w (by simp [hw])
    · cases hs
  · cases hs
theorem aq_l2i (hs : s_l2i len pc ls st g I = nx pc' ls' st' g' I')
    (row : len = 1 → ∀ (x : Int64) (v : Int32), x.toInt32 = v → ∀ (rest : List Value) (lsM : Array Slot) (H : Heap) (locs : List Loc) (cells slots : Nat), W p l e R s m args below meth c H locs cells slots Q (F0 m (pc + 1) lsM (.int v :: rest)) → W p l e R s m args below meth c H locs cells slots Q (F0 m pc lsM (.long x :: rest)))
    (k : WW E p l e R s m args below meth c Q mi n0 s0 pc' ls' st' g' I') : WW E p l e R s m args below meth c Q mi n0 s0 pc ls st g I := by
  unfold s_l2i at hs
  split at hs
  · rename_i a r
    split at hs
    · rename_i hl
      obtain ⟨rfl, rfl, rfl, rfl, rfl⟩ := nx_inj hs
      intro lsM H locs hc
      refine row hl _ (Int32.ofInt (w32 a)) ?_ _ _ _ _ _ _ (k lsM H locs (hc.stk ?_))
      · rw [Int64.toInt32_ofInt, w32_of]
      · intro w hw
        rcases List.mem_cons.mp hw with rfl | hw
        · exact w32_r _
        · exact hc.2.2.2.1 w (by simp [hw])
    · cases hs
  · cases hs
theorem aq_ild {L k : Nat} (hs : s_ild L len k pc ls st g I = nx pc' ls' st' g' I')
    (row : len = L → ∀ (x : Int32) (rest : List Value) (lsM : Array Slot) (H : Heap) (locs : List Loc) (cells slots : Nat), lsM[k]? = some (.val (.int x)) → W p l e R s m args below meth c H locs cells slots Q (F0 m (pc + L) lsM (.int x :: rest)) → W p l e R s m args below meth c H locs cells slots Q (F0 m pc lsM rest))
    (kk : WW E p l e R s m args below meth c Q mi n0 s0 pc' ls' st' g' I') : WW E p l e R s m args below meth c Q mi n0 s0 pc ls st g I := by
  unfold s_ild at hs
  split at hs
  · rename_i x hk
    split at hs
    · rename_i hl
      obtain ⟨rfl, rfl, rfl, rfl, rfl⟩ := nx_inj hs
      intro lsM H locs hc
      refine row hl (Int32.ofInt x) _ _ _ _ _ _ (hc.2.2.1.at _ hk) (kk lsM H locs (hc.stk ?_))
      intro w hw
      rcases List.mem_cons.mp hw with rfl | hw
      · exact hc.2.2.1.ok _ hk
      · exact hc.2.2.2.1 w hw
    · cases hs
  · cases hs
theorem aq_lld {L k : Nat} (hs : s_lld L len k pc ls st g I = nx pc' ls' st' g' I')
    (row : len = L → ∀ (x : Int64) (rest : List Value) (lsM : Array Slot) (H : Heap) (locs : List Loc) (cells slots : Nat), lsM[k]? = some (.val (.long x)) → W p l e R s m args below meth c H locs cells slots Q (F0 m (pc + L) lsM (.long x :: rest)) → W p l e R s m args below meth c H locs cells slots Q (F0 m pc lsM rest))
    (kk : WW E p l e R s m args below meth c Q mi n0 s0 pc' ls' st' g' I') : WW E p l e R s m args below meth c Q mi n0 s0 pc ls st g I := by
  unfold s_lld at hs
  split at hs
  · rename_i x hk
    split at hs
    · rename_i hl
      obtain ⟨rfl, rfl, rfl, rfl, rfl⟩ := nx_inj hs
      intro lsM H locs hc
      refine row hl (Int64.ofInt x) _ _ _ _ _ _ (hc.2.2.1.at _ hk) (kk lsM H locs (hc.stk ?_))
      intro w hw
      rcases List.mem_cons.mp hw with rfl | hw
      · exact hc.2.2.1.ok _ hk
      · exact hc.2.2.2.1 w hw
    · cases hs
  · cases hs
theorem rfv_nr {ax : Nat → Value} (hax : ∀ k, (ax k = .null ∨ ∃ t, ax k = .ref t)) (x : Option Nat) : rfv ax x = .null ∨ ∃ t, rfv ax x = .ref t := by
  cases x with
  | none => exact Or.inl rfl
  | some k => exact hax k
theorem aq_ald {L k : Nat} (hE : EVok E) (hs : s_ald L len k pc ls st g I = nx pc' ls' st' g' I')
    (row : len = L → ∀ (x : Nat) (rest : List Value) (lsM : Array Slot) (H : Heap) (locs : List Loc) (cells slots : Nat), lsM[k]? = some (.val (.ref x)) → W p l e R s m args below meth c H locs cells slots Q (F0 m (pc + L) lsM (.ref x :: rest)) → W p l e R s m args below meth c H locs cells slots Q (F0 m pc lsM rest))
    (row0 : len = L → ∀ (rest : List Value) (lsM : Array Slot) (H : Heap) (locs : List Loc) (cells slots : Nat), lsM[k]? = some (.val .null) → W p l e R s m args below meth c H locs cells slots Q (F0 m (pc + L) lsM (.null :: rest)) → W p l e R s m args below meth c H locs cells slots Q (F0 m pc lsM rest))
    (kk : WW E p l e R s m args below meth c Q mi n0 s0 pc' ls' st' g' I') : WW E p l e R s m args below meth c Q mi n0 s0 pc ls st g I := by
  unfold s_ald at hs
  split at hs
  · rename_i x hk
    split at hs
    · rename_i hl
      obtain ⟨rfl, rfl, rfl, rfl, rfl⟩ := nx_inj hs
      intro lsM H locs hc
      have h1 := hc.2.2.1.at _ hk
      have h2 := kk lsM H locs (hc.stk (by
        intro w hw
        rcases List.mem_cons.mp hw with rfl | hw
        · exact hc.2.2.1.ok _ hk
        · exact hc.2.2.2.1 w hw))
      rw [List.map_cons] at h2
      change W p l e R s m args below meth c H locs _ _ Q (F0 m _ lsM (rfv (eax E) x :: _)) at h2
      change lsM[k]? = some (.val (rfv (eax E) x)) at h1
      rcases rfv_nr (hE.1.nr _) x with hx | ⟨t, hx⟩
      · rw [hx] at h1 h2; exact row0 hl _ _ _ _ _ _ h1 h2
      · rw [hx] at h1 h2; exact row hl _ _ _ _ _ _ _ h1 h2
    · cases hs
  · cases hs
theorem CU.loc {H : Heap} {locs : List Loc} {lsM lsM' : Array Slot} {nL : Nat} (h : CU E s H locs lsM nL ls st g I n0 s0) (hl : LR (eax E) lsM' nL ls') (h' : ∀ v ∈ st', okP v) : CU E s H locs lsM' nL ls' st' g I n0 s0 := ⟨h.1, h.2.1, hl, h', h.2.2.2.2⟩
theorem aq_ist {L k : Nat} (hE : EVok E) (hs : s_ist L len k pc ls st g I = nx pc' ls' st' g' I')
    (row : len = L → ∀ (x : Int32) (nL : Nat) (lv : List (Nat × Value)) (rest : List Value) (lsM : Array Slot) (H : Heap) (locs : List Loc) (cells slots : Nat), lv_has lsM nL lv → k < nL → (∀ ls' : Array Slot, lv_has ls' nL ((k, Value.int x) :: lv.filter (fun q => !(q.1 == k) && !(q.1 + 1 == k && q.2.category == 2))) → W p l e R s m args below meth c H locs cells slots Q (F0 m (pc + L) ls' rest)) → W p l e R s m args below meth c H locs cells slots Q (F0 m pc lsM (.int x :: rest)))
    (kk : WW E p l e R s m args below meth c Q mi n0 s0 pc' ls' st' g' I') : WW E p l e R s m args below meth c Q mi n0 s0 pc ls st g I := by
  unfold s_ist at hs
  split at hs
  · rename_i x r
    split at hs
    · rename_i hl
      obtain ⟨rfl, rfl, rfl, rfl, rfl⟩ := nx_inj hs
      intro lsM H locs hc
      have hx : okP (vi x) := hc.2.2.2.1 _ (by simp)
      refine row hl.1 (Int32.ofInt x) (mMax mi) _ _ lsM _ _ _ _ hc.2.2.1.1 (by rw [← hc.2.2.1.2.1]; exact hl.2) (fun lsM' h' => kk lsM' H locs (hc.loc (LR_sto _ (hE.1.nr _) hc.2.2.1 hx h') ?_))
      intro w hw
      exact hc.2.2.2.1 w (by simp [hw])
    · cases hs
  · cases hs
theorem aq_lst {L k : Nat} (hE : EVok E) (hs : s_lst L len k pc ls st g I = nx pc' ls' st' g' I')
    (row : len = L → ∀ (x : Int64) (nL : Nat) (lv : List (Nat × Value)) (rest : List Value) (lsM : Array Slot) (H : Heap) (locs : List Loc) (cells slots : Nat), lv_has lsM nL lv → k + 1 < nL → (∀ ls' : Array Slot, lv_has ls' nL ((k, Value.long x) :: lv.filter (fun q => !(q.1 == k) && (!(q.1 == k + 1) && !(q.1 + 1 == k && q.2.category == 2)))) → W p l e R s m args below meth c H locs cells slots Q (F0 m (pc + L) ls' rest)) → W p l e R s m args below meth c H locs cells slots Q (F0 m pc lsM (.long x :: rest)))
    (kk : WW E p l e R s m args below meth c Q mi n0 s0 pc' ls' st' g' I') : WW E p l e R s m args below meth c Q mi n0 s0 pc ls st g I := by
  unfold s_lst at hs
  split at hs
  · rename_i x r
    split at hs
    · rename_i hl
      obtain ⟨rfl, rfl, rfl, rfl, rfl⟩ := nx_inj hs
      intro lsM H locs hc
      have hx : okP (vl x) := hc.2.2.2.1 _ (by simp)
      refine row hl.1 (Int64.ofInt x) (mMax mi) _ _ lsM _ _ _ _ hc.2.2.1.1 (by rw [← hc.2.2.1.2.1]; exact hl.2) (fun lsM' h' => kk lsM' H locs (hc.loc (LR_sto2 _ (hE.1.nr _) hc.2.2.1 hx h') ?_))
      intro w hw
      exact hc.2.2.2.1 w (by simp [hw])
    · cases hs
  · cases hs
theorem aq_ast {L k : Nat} (hE : EVok E) (hs : s_ast L len k pc ls st g I = nx pc' ls' st' g' I')
    (row : len = L → ∀ (x : Nat) (nL : Nat) (lv : List (Nat × Value)) (rest : List Value) (lsM : Array Slot) (H : Heap) (locs : List Loc) (cells slots : Nat), lv_has lsM nL lv → k < nL → (∀ ls' : Array Slot, lv_has ls' nL ((k, Value.ref x) :: lv.filter (fun q => !(q.1 == k) && !(q.1 + 1 == k && q.2.category == 2))) → W p l e R s m args below meth c H locs cells slots Q (F0 m (pc + L) ls' rest)) → W p l e R s m args below meth c H locs cells slots Q (F0 m pc lsM (.ref x :: rest)))
    (row0 : len = L → ∀ (nL : Nat) (lv : List (Nat × Value)) (rest : List Value) (lsM : Array Slot) (H : Heap) (locs : List Loc) (cells slots : Nat), lv_has lsM nL lv → k < nL → (∀ ls' : Array Slot, lv_has ls' nL ((k, Value.null) :: lv.filter (fun q => !(q.1 == k) && !(q.1 + 1 == k && q.2.category == 2))) → W p l e R s m args below meth c H locs cells slots Q (F0 m (pc + L) ls' rest)) → W p l e R s m args below meth c H locs cells slots Q (F0 m pc lsM (.null :: rest)))
    (kk : WW E p l e R s m args below meth c Q mi n0 s0 pc' ls' st' g' I') : WW E p l e R s m args below meth c Q mi n0 s0 pc ls st g I := by
  unfold s_ast at hs
  split at hs
  · rename_i x r
    split at hs
    · rename_i hl
      obtain ⟨rfl, rfl, rfl, rfl, rfl⟩ := nx_inj hs
      intro lsM H locs hc
      have hlen : k < mMax mi := by rw [← hc.2.2.1.2.1]; exact hl.2
      have key : ∀ lsM' : Array Slot, lv_has lsM' (mMax mi) ((k, cv (eax E) (vr (some x))) :: (al (eax E) ls).filter (fun q => !(q.1 == k) && !(q.1 + 1 == k && q.2.category == 2))) → W p l e R s m args below meth c H locs (gN g - n0) (gS g - s0) Q (F0 m (pc + L) lsM' (r.map (cv (eax E)))) := fun lsM' h' => kk lsM' H locs (hc.loc (LR_sto _ (hE.1.nr _) hc.2.2.1 (v := vr (some x)) trivial h') (fun w hw => hc.2.2.2.1 w (by simp [hw])))
      rw [List.map_cons]
      change W p l e R s m args below meth c H locs _ _ Q (F0 m _ lsM (eax E x :: _))
      change ∀ lsM' : Array Slot, lv_has lsM' (mMax mi) ((k, eax E x) :: _) → _ at key
      rcases hE.1.nr _ x with hx | ⟨t, hx⟩
      · rw [hx] at key ⊢; exact row0 hl.1 _ _ _ _ _ _ _ _ hc.2.2.1.1 hlen key
      · rw [hx] at key ⊢; exact row hl.1 _ _ _ _ _ _ _ _ _ hc.2.2.1.1 hlen key
    · cases hs
  · cases hs
theorem aq_iinc {k : Nat} {n : Int} (hE : EVok E) (hs : s_iinc len k n pc ls st g I = nx pc' ls' st' g' I')
    (row : len = 3 → ∀ (x v : Int32) (nL q : Nat) (lv : List (Nat × Value)) (rest : List Value) (lsM : Array Slot) (H : Heap) (locs : List Loc) (cells slots : Nat), lv_has lsM nL lv → lv[q]? = some (k, .int x) → x + Int32.ofInt n = v → k < nL → (∀ ls' : Array Slot, lv_has ls' nL ((k, Value.int v) :: lv.filter (fun q => !(q.1 == k) && !(q.1 + 1 == k && q.2.category == 2))) → W p l e R s m args below meth c H locs cells slots Q (F0 m (pc + 3) ls' rest)) → W p l e R s m args below meth c H locs cells slots Q (F0 m pc lsM rest))
    (kk : WW E p l e R s m args below meth c Q mi n0 s0 pc' ls' st' g' I') : WW E p l e R s m args below meth c Q mi n0 s0 pc ls st g I := by
  unfold s_iinc at hs
  split at hs
  · rename_i x hk
    split at hs
    · rename_i hl
      obtain ⟨rfl, rfl, rfl, rfl, rfl⟩ := nx_inj hs
      intro lsM H locs hc
      obtain ⟨q, hq⟩ := hc.2.2.1.pl _ hk
      have hlen : k < mMax mi := by rw [← hc.2.2.1.2.1]; exact (List.getElem?_eq_some_iff.mp hk).1
      refine row hl (Int32.ofInt x) _ (mMax mi) q _ _ lsM _ _ _ _ hc.2.2.1.1 hq rfl hlen (fun lsM' h' => kk lsM' H locs (hc.loc (LR_sto _ (hE.1.nr _) hc.2.2.1 (v := vi (i2 (· + ·) x n)) (r32_toInt _) ?_) hc.2.2.2.1))
      have e1 : cv (eax E) (vi (i2 (· + ·) x n)) = .int (Int32.ofInt x + Int32.ofInt n) := by simp only [cv, i2, Int32.ofInt_toInt]
      rw [e1]
      exact h'
    · cases hs
  · cases hs
end AQA

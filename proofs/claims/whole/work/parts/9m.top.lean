/-! THE CLAIM OUT OF ONE WALK OF THE LAW'S BODY. Your part is whole_start (and what it stands on); all else here is the same for every law, but numbers. -/
def R_law : String := "AgesByMilesLaw"
def lw_P (b : Addr) (xs : List Int32) (args : Array Value) (s : State) : Prop := args = #[.ref b] ∧ s.IntsAt b xs ∧ xs.length ≤ 2560 ∧ (Jvm.Cond.and given_1 narrow_1).before args s = true
def lw_Q (_ : Array Value) (s : State) (o : Outcome) (t : State) : Prop := o = .returned (some (.int 1)) ∧ Framed s o t [] 600000 7302250
def lw_Z (below : List Frame) (a : Array Value) (s : State) : State → Prop := fun t => ∃ o, t.status = .running ∧ Ended t below o ∧ lw_Q a s o t
/-- the law's own end, with 1 on the stack, nothing written that was there before, its room as the claim has it -/
theorem lw_ret {p : Program} {l : Launch} {e : Env} {s : State} {m : MethodId} {below : List Frame} {meth : Method} {c : Code} {b : Nat} (hx : p.tables.exec = Jvm.exec) (hb : c.code = code) (hr : meth.sig.returnType = ret) (hlocks : meth.locks = false) {pc : Nat} {H : Heap} {ls : Array Slot} (hdg : decode code pc = .ok (.ireturn, 1)) : W p l e room_1 s m #[Value.ref b] below meth c H [] 600000 7302250 (lw_Z below #[Value.ref b] s) (F0 m pc ls [.int 1]) := by
  intro T hT X
  obtain ⟨fs, hret, hrun, hended, hW, hframe⟩ := X.leave (v := some (.int 1)) (hlocks := hlocks) (fun h => by rw [hr] at h; cases h)
  have hmeth' : T.vm.method? m = some meth := X.method'
  refine ⟨T.setFrames fs, ?_, .returned (some (.int 1)), hrun, hended, rfl, ⟨_, rfl⟩, hW, hframe⟩
  jvm_step X.here [X.here.top, hx, hb, hdg, hmeth', hr, ret, narrow_b1]
  (try refine ⟨rfl, ?_⟩); (try refine ⟨rfl, ?_⟩)
  first | (intro acts; rw [hret _ acts rfl rfl rfl]) | rw [hret _ _ rfl rfl rfl]
  exact Steps.refl _
/-- what holds at the law's entry: the machine, the code, the tables' words (any of lw_tbl by 'hts w (by decide +kernel)'), the script of L ints xs at the cell b, what the Statement gives of the start (any of its parts by flat_of_before) -/
def lw_At (p : Program) (s : State) (m : MethodId) (meth : Method) (c : Code) (b L : Nat) (xs : Nat → Int32) : Prop :=
  p.tables.exec = Jvm.exec ∧ c.code = code ∧ meth.sig.returnType = ret ∧ c.maxLocals = 4 ∧ s.vm.findClass R_law = some m.cls ∧ (∀ w ∈ lw_tbl, w.before #[Value.ref b] s = true) ∧ va_X b L xs s s.heap ∧ b < s.heap.size ∧ meth.locks = false ∧ (Jvm.Cond.and given_1 narrow_1).before #[Value.ref b] s = true

-- THE TOP: the law's start out of the pure machine
theorem inst_all {ci : Nat} {r : vw_C} (h : vwCl[ci]? = some r) : Cond.instantiable r.1 r.2.2 ∈ TB := by
  have key : ∀ c, c < 12 → Cond.instantiable (cName c) (NS.getD c 0) ∈ TB := by
    intro c hc
    have : ∃ q ∈ NT, q.2 = c := by
      have : ∀ c, c < 12 → ∃ q ∈ NT, q.2 = c := by decide +kernel
      exact this c hc
    obtain ⟨q, hq, rfl⟩ := this
    exact (NT_ok q hq).2.2.1
  have hlt : ci < 12 := by
    have := (List.getElem?_eq_some_iff.mp h).1
    simpa [vwCl] using this
  obtain ⟨-, -, -, h4, h5⟩ := vw_all h
  rw [← h4, ← h5]
  exact key ci hlt
theorem arr_known {args : Array Value} {s : State} {ty : FieldType} (h : (Cond.arrayClass ty).before args s = true) : ∃ cA : ClassId, ArrOfT s cA ty ∧ s.vm.findClass ("[" ++ ty.toString) = some cA := by
  obtain ⟨cA, kA, comp, h1, h2, h3⟩ := Cond.arrayClass_spec h
  exact ⟨cA, fun n z => ⟨fun k h => (by cases h), kA, h2, comp, h3⟩, h1⟩
theorem PX0 (E : EV) (xs : Nat → Int32) (hx : exs E = xs) : PX E (g0 (eL E)) (I0 xs) := by
  subst hx
  have hr : ∀ a j, r32 (I0 (exs E) a j) := by
    intro a j
    unfold I0
    split
    · exact r32_toInt _
    · split
      · rcases (by omega : j = 0 ∨ j = 1 ∨ j = 2 ∨ j = 3 ∨ j = 4 ∨ j = 5 ∨ 6 ≤ j) with rfl | rfl | rfl | rfl | rfl | rfl | h
        all_goals first | (unfold r32; decide) | skip
        rw [List.getD_eq_getElem?_getD, List.getElem?_eq_none (by show 6 ≤ j; omega)]
        exact r32_0
      · exact r32_0
  refine ⟨⟨rfl, fun j _ => rfl, rfl, rfl, rfl, rfl, fun j _ => rfl, rfl, rfl⟩, fun a ha => ?_, fun a k _ => hr a k, fun a k => r32_r64 (hr a k), fun a k r ha h => ?_, fun a h1 h2 => ?_⟩
  · have ha : 5 ≤ a := ha
    show (if a = 0 then (5, eL E) else if a = 1 then (0, 12) else if a = 2 then (4, 6) else (9, 0) : Nat × Nat).1 = 9
    rw [if_neg (by omega), if_neg (by omega), if_neg (by omega)]
  · change (if a = 1 then (if k = 0 then some 2 else none) else none) = some r at h
    rw [if_neg (by omega)] at h
    cases h
  · have h2 : a < 5 := h2
    omega
theorem mq_law {s t : State} {below : List Frame} {b : Nat} {E : EV} {g1 : GG} {I1 : II} {mc ms : Nat} (hb : eBase E = s.heap.size) (h1 : mc ≤ 600000) (h2 : ms ≤ 7302250) (h : MQ below (QCc E (some (vi 1)) g1 I1) #[Value.ref b] s mc ms (eA E) t) : lw_Z below #[Value.ref b] s t := by
  obtain ⟨o, hr, he, ⟨ho, -⟩, Ls, ⟨-, hW, hsame⟩, hL⟩ := h
  refine ⟨o, hr, he, ho, ⟨_, ho⟩, hW, ?_⟩
  exact hsame.weaken (fun y hy hlt => absurd hlt (Nat.not_lt.mpr (by have := hL y hy; unfold eA at this; omega))) h1 h2
set_option maxHeartbeats 4000000 in
theorem whole_start_of (hpure : LawPure) {p : Program} {e : Env} {s : State} {m : MethodId} {below : List Frame} {meth : Method} {c : Code} (l : Launch) {b L : Nat} {xs : Nat → Int32} (hL : L ≤ 2560) (C0 : lw_At p s m meth c b L xs) : W p l e room_1 s m #[Value.ref b] below meth c s.heap [] 0 0 (lw_Z below #[Value.ref b] s) (entryFrame m ([Value.ref b] : List Value).toArray 4) := by
  obtain ⟨hx, hb, hr, hml, hown, hts, hX, hbl, hlocks, hgv⟩ := C0
  have htb : ∀ w ∈ TB, w.before #[Value.ref b] s = true := fun w hw => hts w (List.mem_filter.mp hw).1
  have hA : ∀ a : Nat, a < s.heap.size → ¬ (fun q => s.heap.size ≤ q) a := fun a h q => absurd h (Nat.not_lt.mpr q)
  have hg := flat_of_before _ hgv
  -- the classes
  have hcl : ∀ ci : Nat, ∃ q : ClassId × (Nat → Nat), ∀ r, vwCl[ci]? = some r → u_Kn s r.1 r.2.1 r.2.2 q.1 q.2 := by
    intro ci
    cases h : vwCl[ci]? with
    | none => exact ⟨(0, fun _ => 0), fun r hr => by cases hr⟩
    | some r =>
      obtain ⟨cC, iS, hk⟩ := u_known (n := r.2.2) htb (vw_all h).1 (htb _ (inst_all h))
      exact ⟨(cC, iS), fun r' hr' => by cases hr'; exact hk⟩
  obtain ⟨dd, hdd⟩ := Classical.axiomOfChoice hcl
  obtain ⟨cI, hI1, hI2⟩ := arr_known (htb _ AR_int)
  obtain ⟨cJ, hJ1, hJ2⟩ := arr_known (htb _ AR_long)
  have hover : (Cond.arrayOver (.object thingN)).before #[Value.ref b] s = true := hts _ (List.mem_of_getElem? (i := 96) (by decide +kernel))
  obtain ⟨comp, cT, kT, ho1, ho2, ho3, ho4, ho5⟩ := Cond.arrayOver_spec hover
  -- the text
  obtain ⟨adK, adV, hvkS, hvkE⟩ := vk_Sof (args := #[Value.ref b]) (s := s) (N := 1) (tm := fun _ => Term.string "AgesByMiles$Reader" 78) (len := [6]) (byt := [KL32]) (A := fun q => s.heap.size ≤ q)
    (fun i hi => by rw [show i = 0 by omega]; decide) (fun i _ => hg _ (by decide +kernel)) (fun i _ => hg _ (by decide +kernel)) (fun i _ => hg _ (by decide +kernel)) (fun i hi => by rw [show i = 0 by omega]; exact hg _ (by decide +kernel))
    (fun i hi j hj => by
      have e0 : i = 0 := by omega
      subst e0
      have hj : j < 6 := hj
      rcases (by omega : j = 0 ∨ j = 1 ∨ j = 2 ∨ j = 3 ∨ j = 4 ∨ j = 5) with rfl | rfl | rfl | rfl | rfl | rfl <;> exact hg _ (by decide +kernel))
    (fun i j hi hj hne => absurd (by omega : i = j) hne) hA
  have hev := hvkE 0 (by omega)
  have heq : (Cond.eq (Term.string "AgesByMiles$Reader" 78) (Term.string "AgesByMiles$Told" 89)).before #[Value.ref b] s = true := hg _ (by decide +kernel)
  have hev2 : (Term.string "AgesByMiles$Told" 89).eval #[Value.ref b] s none [] s = some (.ref (adK 0)) := by
    obtain ⟨y, h1, h2⟩ := Cond.eq_one heq
    cases hev.symm.trans h1
    exact h2
  -- statics
  have hZ1 : va_Z "java/lang/String" "COMPACT_STRINGS" "Z" (.int 1) (fun q => s.heap.size ≤ q) s s.heap := va_Zof (hts _ (List.mem_of_getElem? (i := 422) (by decide +kernel))) (hts _ (List.mem_of_getElem? (i := 69) (by decide +kernel))) (va_eqi (hg _ (by decide +kernel))) hA
  have hZ2 : va_Zq "jdk/internal/util/Preconditions" "SIOOBE_FORMATTER" "Ljava/util/function/BiFunction;" (fun q => s.heap.size ≤ q) s s.heap := va_Zqof (hts _ (List.mem_of_getElem? (i := 463) (by decide +kernel))) (hts _ (List.mem_of_getElem? (i := 72) (by decide +kernel))) (hg _ (by decide +kernel)) hA
  obtain ⟨fv, hfv, hZ3⟩ : ∃ fv : Value, (fv = .null ∨ ∃ t, fv = .ref t) ∧ va_Z "jdk/internal/util/Preconditions" "SIOOBE_FORMATTER" "Ljava/util/function/BiFunction;" fv (fun q => s.heap.size ≤ q) s s.heap := by
    rcases hZ2 with h | ⟨t, h⟩
    · exact ⟨.null, Or.inl rfl, h⟩
    · exact ⟨.ref t, Or.inr ⟨t, rfl⟩, h⟩
  -- the environment
  obtain ⟨E, hE⟩ : ∃ E : EV, E = ((fun ci => (dd ci).1, fun ci => (dd ci).2), ((cI, (cJ, cT)), ((s.heap.size, (b, (L, (adK 0, adV 0)))), ((fun k => if k = 0 then .ref b else if k = 1 then .ref (adK 0) else if k = 2 then .ref (adV 0) else if k = 3 then fv else .ref (s.heap.size + (k - 5))), xs)))) := ⟨_, rfl⟩
  have hEok : EVok E := by
    subst hE
    refine ⟨⟨rfl, rfl, rfl, hfv, fun k hk => ?_⟩, hbl, hL⟩
    show (if k = 0 then _ else if k = 1 then _ else if k = 2 then _ else if k = 3 then _ else _) = _
    rw [if_neg (by omega), if_neg (by omega), if_neg (by omega), if_neg (by omega)]
    rfl
  have hV : RelV E s := by
    subst hE
    refine ⟨⟨fun ci r hr => hdd ci r hr, fun k q hk => ?_⟩, va_AO.of hover, ?_, ⟨?_, ?_⟩, ?_, ?_, ?_⟩
    · match k, hk with
      | 0, hk => cases hk; exact ⟨hI1, hI2⟩
      | 1, hk => cases hk; exact ⟨hJ1, hJ2⟩
      | 2, hk => cases hk; exact ⟨fun n z => ⟨fun k h => (by cases h), kT, ho3, comp, ho4⟩, kT, comp, ho3, ho4, ho1, ho5⟩
      | k + 3, hk => simp [tys3] at hk
    · refine List.forall_mem_cons.mpr ⟨?_, List.forall_mem_cons.mpr ⟨?_, List.forall_mem_cons.mpr ⟨?_, List.forall_mem_cons.mpr ⟨?_, fun _ h => absurd h List.not_mem_nil⟩⟩⟩⟩
      · exact va_Nw.of rfl (hts _ (List.mem_of_getElem? (i := 99) (by decide +kernel)))
      · exact va_Nw.of rfl (hts _ (List.mem_of_getElem? (i := 248) (by decide +kernel)))
      · exact va_Nw.of rfl (hts _ (List.mem_of_getElem? (i := 279) (by decide +kernel)))
      · exact va_Nw.of rfl (hts _ (List.mem_of_getElem? (i := 284) (by decide +kernel)))
    · exact va_Nw.of rfl (hts _ (List.mem_of_getElem? (i := 643) (by decide +kernel)))
    · exact va_Nw.of rfl (hts _ (List.mem_of_getElem? (i := 664) (by decide +kernel)))
    · refine List.forall_mem_cons.mpr ⟨va_Nw.of rfl (hts _ (List.mem_of_getElem? (i := 1345) (by decide +kernel))), List.forall_mem_cons.mpr ⟨va_Nw.of rfl (hts _ (List.mem_of_getElem? (i := 1346) (by decide +kernel))), List.forall_mem_cons.mpr ⟨va_Nw.of rfl (hts _ (List.mem_of_getElem? (i := 1348) (by decide +kernel))), List.forall_mem_cons.mpr ⟨va_Nw.of rfl (hts _ (List.mem_of_getElem? (i := 1349) (by decide +kernel))), List.forall_mem_cons.mpr ⟨va_Nw.of rfl (hts _ (List.mem_of_getElem? (i := 1344) (by decide +kernel))), List.forall_mem_cons.mpr ⟨va_Nw.of rfl (hts _ (List.mem_of_getElem? (i := 1347) (by decide +kernel))), fun _ h => absurd h List.not_mem_nil⟩⟩⟩⟩⟩⟩
    · exact vk_R.of (A := #[Value.ref b]) (hts _ (List.mem_of_getElem? (i := 408) (by decide +kernel))) hev
    · exact vk_R.of (A := #[Value.ref b]) (hts _ (List.mem_of_getElem? (i := 501) (by decide +kernel))) hev2
  have hXX : RelX E s s.heap := by
    subst hE
    refine ⟨hX, ?_, hZ1, hZ3⟩
    refine ⟨fun i hi => ?_, fun i j hi hj _ => by omega⟩
    have e0 : i = 0 := by omega
    subst e0
    exact hvkS.1 0 (by omega)
  have F : FC E p s m #[Value.ref b] meth c 0 := ⟨hx, hb, hr, hml, hown, htb, hlocks, (fun h => absurd h (by decide +kernel)), hV, hXX, by subst hE; exact hbl, hEok⟩
  have hg0 : eL E = L ∧ exs E = xs ∧ eBase E = s.heap.size := by subst hE; exact ⟨rfl, rfl, rfl⟩
  have hRH : RelH E (g0 L) (I0 xs) s.heap := by
    refine ⟨Nat.le_refl 5, by show s.heap.size = eBase E + (5 - 5); rw [hg0.2.2]; rfl, fun k q hq => ?_, by rw [← hg0.1]; exact PX0 E xs hg0.2.1⟩
    unfold wsOf at hq
    rw [show gN (g0 L) - 5 = 0 from rfl] at hq
    cases hq
  obtain ⟨n, hn⟩ := hpure L xs hL
  obtain ⟨v1, g1, I1, ⟨hv1, hn1, hs1⟩, hw⟩ := wp_det _ _ _ _ _ _ _ _ _ hn
  subst hv1
  have hax0 : eax E 0 = .ref b := by subst hE; rfl
  have hz := wp_size _ _ _ _ _ _ _ _ _ _ _ hw
  have hW := adq E l hEok n 1000 0 0 _ _ _ _ _ g1 I1 hw p e room_1 s m #[Value.ref b] below meth c 5 0 F (by decide) (by decide) (by show gN g1 - 5 ≤ 600000; omega) (by show gS g1 - 0 ≤ 7302250; omega)
  have hWE := hW ((lg_sl [Value.ref b] ++ List.replicate (4 - (lg_sl [Value.ref b]).length) Slot.unset).toArray) s.heap [] ⟨hRH, va_S.rf, ?_, (fun v hv => by cases hv), Nat.le_refl 5, Nat.zero_le _⟩
  · rw [lg_entry_eq]
    intro T hT X
    obtain ⟨t, h1, h2⟩ := hWE T hT X
    exact ⟨t, h1, mq_law hg0.2.2 (by omega) (by omega) h2⟩
  · have := entry_LR (ax := eax E) (hEok.1.nr _) (mi := 0) (as := [vr (some 0)]) (by decide) (by intro v hv; rw [List.mem_singleton.mp hv]; trivial)
    have e1 : [vr (some 0)].map (cv (eax E)) = [Value.ref b] := by show [eax E 0] = _; rw [hax0]
    rw [e1] at this
    exact this

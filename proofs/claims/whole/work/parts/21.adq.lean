-- ADEQUACY: calls, and the whole
theorem cl_inj {m m' pc pc' : Nat} {as as' st st' : List PV} (h : cl m as pc st = cl m' as' pc' st') : m = m' ∧ as = as' ∧ pc = pc' ∧ st = st' := by
  simp only [cl, Option.some.injEq, Sum.inr.injEq, Prod.mk.injEq] at h
  exact h
section ADQ
variable {E : EV} {p : Program} {l : Launch} {e : Env} {R : Room} {s : State} {m : MethodId} {args : Array Value} {below : List Frame} {meth : Method} {c : Code} {Q : State → Prop} {mi n0 s0 : Nat}
variable {pc pc' m' d' : Nat} {ls : LL} {st st' as : List PV} {g g2 : GG} {I I2 : II} {v2 : Option PV}
theorem stat_cl {k : Nat} (hs : s_static (mOwn mi) k pc ls st g I = cl m' as pc' st') : ∃ q, MC.lookup (mOwn mi, k) = some q ∧ q.1 = 0 ∧ s_cst q.2.1 pc q.2.2 st = cl m' as pc' st' := by
  unfold s_static at hs
  cases hk : MC.lookup (mOwn mi, k) with
  | none => rw [hk] at hs; cases hs
  | some q =>
    rw [hk] at hs
    dsimp only at hs
    by_cases h0 : q.1 = 0
    · rw [if_pos h0] at hs; exact ⟨q, rfl, h0, hs⟩
    exfalso
    clear hk
    rw [if_neg h0] at hs
    by_cases h7 : q.1 = 7
    · rw [if_pos h7] at hs
      unfold s_copy at hs
      split at hs
      · split at hs <;> cases hs
      · cases hs
    rw [if_neg h7] at hs
    by_cases h8 : q.1 = 8
    · rw [if_pos h8] at hs
      unfold s_mx at hs
      split at hs
      · split at hs <;> cases hs
      · cases hs
    rw [if_neg h8] at hs
    by_cases h9 : q.1 = 9
    · rw [if_pos h9] at hs
      unfold s_mx at hs
      split at hs
      · split at hs <;> cases hs
      · cases hs
    rw [if_neg h9] at hs
    by_cases h10 : q.1 = 10
    · rw [if_pos h10] at hs
      unfold s_mxl at hs
      split at hs
      · split at hs <;> cases hs
      · cases hs
    rw [if_neg h10] at hs
    cases hs
theorem virt_cl {k : Nat} (hs : s_virt (mOwn mi) k pc ls st g I = cl m' as pc' st') : ∃ q, MC.lookup (mOwn mi, k) = some q ∧ (q.1 = 1 ∨ q.1 = 2) ∧ s_cvr q.2.1 pc q.2.2 st g = cl m' as pc' st' := by
  unfold s_virt at hs
  cases hk : MC.lookup (mOwn mi, k) with
  | none => rw [hk] at hs; cases hs
  | some q =>
    rw [hk] at hs
    dsimp only at hs
    by_cases h0 : q.1 = 1 ∨ q.1 = 2
    · rw [if_pos h0] at hs; exact ⟨q, rfl, h0, hs⟩
    · rw [if_neg h0] at hs; cases hs
theorem spec_cl {k : Nat} (hs : s_spec (mOwn mi) k pc ls st g I = cl m' as pc' st') : ∃ q, MC.lookup (mOwn mi, k) = some q ∧ (q.1 = 3 ∨ q.1 = 4 ∨ q.1 = 5) ∧ s_csp q.2.1 pc q.2.2 st g = cl m' as pc' st' := by
  unfold s_spec at hs
  cases hk : MC.lookup (mOwn mi, k) with
  | none => rw [hk] at hs; cases hs
  | some q =>
    rw [hk] at hs
    dsimp only at hs
    by_cases h6 : q.1 = 6
    · rw [if_pos h6] at hs
      unfold s_coi at hs
      split at hs
      · split at hs <;> cases hs
      · cases hs
    rw [if_neg h6] at hs
    by_cases h0 : q.1 = 3 ∨ q.1 = 4 ∨ q.1 = 5
    · rw [if_pos h0] at hs; exact ⟨q, rfl, h0, hs⟩
    · rw [if_neg h0] at hs; cases hs
theorem cst_inv {n : Nat} {tg : List (Nat × Nat)} (hs : s_cst n pc tg st = cl m' as pc' st') : ∃ x, tg = [(x, m')] ∧ n ≤ st.length ∧ ((st.drop n).map cat).sum ≤ 8 ∧ (lay as).length ≤ mMax m' ∧ as = (st.take n).reverse ∧ pc' = pc + 3 ∧ st' = st.drop n := by
  unfold s_cst at hs
  split at hs
  · rename_i x mm
    split at hs
    · rename_i h
      obtain ⟨rfl, rfl, rfl, rfl⟩ := cl_inj hs
      exact ⟨x, rfl, h.1, h.2.1, h.2.2, rfl, rfl, rfl⟩
    · cases hs
  · cases hs
theorem cvr_inv {n : Nat} {tg : List (Nat × Nat)} (hs : s_cvr n pc tg st g = cl m' as pc' st') : ∃ b, st.drop n = vr (some b) :: st' ∧ tg.lookup (gK g b).2 = some m' ∧ (gK g b).1 = 0 ∧ (st'.map cat).sum ≤ 8 ∧ (lay as).length ≤ mMax m' ∧ as = vr (some b) :: (st.take n).reverse ∧ pc' = pc + 3 := by
  unfold s_cvr at hs
  split at hs
  · rename_i b r hdr
    split at hs
    · rename_i mm hlk
      split at hs
      · rename_i h
        obtain ⟨rfl, rfl, rfl, rfl⟩ := cl_inj hs
        exact ⟨b, hdr, hlk, h.1, h.2.1, by simpa [lay] using h.2.2, rfl, rfl⟩
      · cases hs
    · cases hs
  · cases hs
theorem csp_inv {n : Nat} {tg : List (Nat × Nat)} (hs : s_csp n pc tg st g = cl m' as pc' st') : ∃ b x, st.drop n = vr (some b) :: st' ∧ tg = [(x, m')] ∧ (gK g b).1 = 0 ∧ (gK g b).2 < 12 ∧ (st'.map cat).sum ≤ 8 ∧ (lay as).length ≤ mMax m' ∧ as = vr (some b) :: (st.take n).reverse ∧ pc' = pc + 3 := by
  unfold s_csp at hs
  split at hs
  · rename_i b r hdr
    split at hs
    · rename_i x mm
      split at hs
      · rename_i h
        obtain ⟨rfl, rfl, rfl, rfl⟩ := cl_inj hs
        exact ⟨b, x, hdr, rfl, h.1, h.2.1, h.2.2.1, by simpa [lay] using h.2.2.2, rfl, rfl⟩
      · cases hs
    · cases hs
  · cases hs
theorem mc_kd {q : (Nat × Nat) × (Nat × Nat × List (Nat × Nat))} (h : MCok q) : (q.2.1 = 0 → ∃ x m, q.2.2.2 = [(x, m)] ∧ MOK m ∧ nPar (mY m) q.2.2.1 ∧ Cond.methodLink (cn q.1.1) q.1.2 (mY m) ∈ TB ∧ Cond.static (mY m) ∈ TB) ∧
    (q.2.1 = 1 → ∀ t ∈ q.2.2.2, MOK t.2 ∧ nPar (mY t.2) q.2.2.1 ∧ (t.1 < 12 ∨ t.1 = 12) ∧ (mY t.2).cls = cName t.1 ∧ Cond.methodLink (cn q.1.1) q.1.2 (mY t.2) ∈ TB ∧ Cond.instanceMethod (mY t.2) ∈ TB ∧ Cond.selects (cName t.1) (mY t.2) (mY t.2) ∈ TB) ∧
    (q.2.1 = 2 → ∃ x : MethodName, (x = ⟨thingN, "isOpen", "([I)Z"⟩ ∨ x = ⟨thingN, "worthThen", "(II[I)I"⟩) ∧ Cond.methodLink (cn q.1.1) q.1.2 x ∈ TB ∧ Cond.sameMethod x.cls thingN x.name x.desc ∈ TB ∧ nPar x q.2.2.1 ∧ ∀ t ∈ q.2.2.2, MOK t.2 ∧ t.1 < 12 ∧ Cond.selects (cName t.1) x (mY t.2) ∈ TB ∧ Cond.instanceMethod (mY t.2) ∈ TB) ∧
    (q.2.1 = 3 → ∃ x m, q.2.2.2 = [(x, m)] ∧ MOK m ∧ nPar (mY m) q.2.2.1 ∧ (mY m).name = "<init>" ∧ mRet m = none ∧ Cond.methodLink (cn q.1.1) q.1.2 (mY m) ∈ TB ∧ Cond.instanceMethod (mY m) ∈ TB) ∧
    (q.2.1 = 4 → ∃ x m, q.2.2.2 = [(x, m)] ∧ MOK m ∧ nPar (mY m) q.2.2.1 ∧ (mY m).name = "<init>" ∧ mRet m = none ∧ (q.1.1, (q.1.2, m)) ∈ NEST ∧ Cond.instanceMethod (mY m) ∈ TB) ∧
    (q.2.1 = 5 → ∃ x m, q.2.2.2 = [(x, m)] ∧ MOK m ∧ nPar (mY m) q.2.2.1 ∧ (mY m).name ≠ "<init>" ∧ Cond.methodLink (cn q.1.1) q.1.2 (mY m) ∈ TB ∧ Cond.sameMethod (mY m).cls (mY m).cls (mY m).name (mY m).desc ∈ TB ∧ Cond.superclass (cn q.1.1) (mY m).cls ∈ TB ∧ Cond.instanceMethod (mY m) ∈ TB) := by
  unfold MCok at h
  generalize q.2.1 = kd at h
  rcases h with ⟨rfl, h⟩ | ⟨rfl, h⟩ | ⟨rfl, h⟩ | ⟨rfl, h⟩ | ⟨rfl, h⟩ | ⟨rfl, h⟩ | ⟨rfl, h⟩ | ⟨rfl, h⟩ | ⟨rfl, h⟩ | ⟨rfl, h⟩ | ⟨rfl, h⟩
  all_goals exact ⟨fun q => by first | exact h | exact absurd q (by decide), fun q => by first | exact h | exact absurd q (by decide), fun q => by first | exact h | exact absurd q (by decide), fun q => by first | exact h | exact absurd q (by decide), fun q => by first | exact h | exact absurd q (by decide), fun q => by first | exact h | exact absurd q (by decide)⟩
theorem wsM_good {k : Nat} (h : MOK k) : GoodIn TB (wsM k) := tb_good (fun w hw => by
  rcases List.mem_cons.mp hw with rfl | hw
  · exact h.1
  · exact hw)
theorem np_len {y : MethodName} {n : Nat} (h : nPar y n) : ∀ sig, parseMethodDescriptor y.desc = some sig → n = sig.parameters.length := by
  intro sig hs
  unfold nPar at h
  rw [hs] at h
  exact (Option.some.inj h).symm
abbrev MetA (E : EV) (l : Launch) (m' d' : Nat) (as : List PV) (g : GG) (I : II) (v2 : Option PV) (g2 : GG) (I2 : II) : Prop := Met l (mY m') (wsM m') (rmM d' (gN g2 - gN g) (gS g2 - gS g)) (PCc E as g I) (QCc E v2 g2 I2) (gN g2 - gN g) (gS g2 - gS g) (eA E)
theorem room_ok {k : Nat} (hM : MOK k) (hRf : d' + 2 ≤ R.frames) (hRl : 40 * (d' + 2) ≤ R.locals) (mc ms : Nat) : (rmM d' mc ms).frames + 1 ≤ R.frames ∧ 8 + (mMax k + 11) + (rmM d' mc ms).locals ≤ R.locals := by
  have h := hM.2.2.2.2.2
  refine ⟨hRf, ?_⟩
  show 8 + (mMax k + 11) + 40 * (d' + 1) ≤ R.locals
  omega
theorem takes {n : Nat} {b : Nat} (hdr : st.drop n = vr (some b) :: st') : st.map (cv (eax E)) = ((st.take n).reverse.map (cv (eax E))).reverse ++ eax E b :: st'.map (cv (eax E)) := by
  rw [← List.map_reverse, List.reverse_reverse]
  have := List.take_append_drop n st
  rw [hdr] at this
  conv => lhs; rw [← this]
  rw [List.map_append, List.map_cons]
  rfl
theorem take_len {n : Nat} {b : Nat} (hdr : st.drop n = vr (some b) :: st') : ((st.take n).reverse.map (cv (eax E))).length = n := by
  have h := congrArg List.length hdr
  rw [List.length_drop, List.length_cons] at h
  rw [List.length_map, List.length_reverse, List.length_take]
  omega
theorem ok_tail {n : Nat} {b : Nat} (hdr : st.drop n = vr (some b) :: st') (hok : ∀ v ∈ st, okP v) : (∀ v ∈ st', okP v) ∧ ∀ v ∈ vr (some b) :: (st.take n).reverse, okP v := by
  refine ⟨fun v hv => hok v (List.mem_of_mem_drop (by rw [hdr]; exact List.mem_cons_of_mem _ hv)), fun v hv => ?_⟩
  rcases List.mem_cons.mp hv with rfl | hv
  · trivial
  · exact hok v (List.mem_of_mem_take (List.mem_reverse.mp hv))
theorem call_stat {k : Nat} (F : FC E p s m args meth c mi) (hd : decode (mCode mi) pc = .ok (.invokestatic k, 3)) (hs : s_static (mOwn mi) k pc ls st g I = cl m' as pc' st')
    (hMet : MOK m' → (lay as).length ≤ mMax m' → (∀ v ∈ as, okP v) → MetA E l m' d' as g I v2 g2 I2) (hRf : d' + 2 ≤ R.frames) (hRl : 40 * (d' + 2) ≤ R.locals) (hRc : gN g2 - n0 ≤ R.cells) (hRs : gS g2 - s0 ≤ R.slots) (h1 : gN g ≤ gN g2) (h2 : gS g ≤ gS g2)
    (kk : WW E p l e R s m args below meth c Q mi n0 s0 pc' ls (v2.toList ++ st') g2 I2) : WW E p l e R s m args below meth c Q mi n0 s0 pc ls st g I := by
  obtain ⟨q, hk, hq0, hs⟩ := stat_cl hs
  obtain ⟨x, htg, hnl, hcat, hlay, rfl, rfl, rfl⟩ := cst_inv hs
  obtain ⟨x', mm, htg', hM, hnp, hlink, hstat⟩ := (mc_kd (MC_ok _ (lookup_mem hk))).1 hq0
  have hmm : mm = m' := by
    have e1 : [(x, m')] = [(x', mm)] := htg.symm.trans htg'
    simp only [List.cons.injEq, Prod.mk.injEq, and_true] at e1
    exact e1.2.symm
  subst hmm
  have F' := F
  obtain ⟨hx, hb, hr, hml, hown, hts, hlk, hnm, hV, hX, hbs, hE⟩ := F
  intro lsM H locs hc
  have hn0 := hc.2.2.2.2.1
  have hs0 := hc.2.2.2.2.2
  have hokr : ∀ v ∈ st.drop q.2.1, okP v := fun v hv => hc.2.2.2.1 v (List.mem_of_mem_drop hv)
  have hoka : ∀ v ∈ (st.take q.2.1).reverse, okP v := fun v hv => hc.2.2.2.1 v (List.mem_of_mem_take (List.mem_reverse.mp hv))
  refine run_on hc h1 h2 hokr (va_runS (As := (st.take q.2.1).reverse.map (cv (eax E))) (n := q.2.1) ⟨hx, hb, hml, hown, hts⟩ (hMet hM hlay hoka)
    ⟨callB_of q.2.1 hts (wsM_good hM) rfl rfl rfl (hts _ hM.2.2.1) (hts _ hlink) ⟨hM.2.2.2.1.1, hM.2.2.2.1.2, hnp⟩ (room_ok hM hRf hRl _ _), hts _ hstat⟩ ⟨PCc_blind _ _ _ _, pre_U F' hc⟩ rfl ?_ hc.2.2.1.1.1 ?_ ?_ hd ⟨by omega, by omega⟩) kk
  · rw [List.length_map, List.length_reverse, List.length_take]; omega
  · show st.map (cv (eax E)) = _
    rw [← List.map_reverse, List.reverse_reverse, ← List.map_append, List.take_append_drop]
  · exact lv_room (by rw [cats_eq hE]; exact hcat)
theorem recv_ok {H : Heap} {locs : List Loc} {lsM : Array Slot} {b : Nat} (F : FC E p s m args meth c mi) (hc : CU E s H locs lsM (mMax mi) ls st g I n0 s0) (h0 : (gK g b).1 = 0) (h12 : (gK g b).2 < 12) : ∃ q, vwCl[(gK g b).2]? = some q ∧ cName (gK g b).2 = q.1 ∧ eax E b = .ref (eBase E + (b - 5)) ∧ ∃ cell : Cell, H[eBase E + (b - 5)]? = some cell ∧ cell.vm.isStatics = false ∧ s.vm.findClass q.1 = some cell.cls := by
  obtain ⟨hx, hb, hr, hml, hown, hts, hlk, hnm, hV, hX, hbs, hE⟩ := F
  obtain ⟨q, hq⟩ := vw_some _ h12
  obtain ⟨-, -, -, -, hcn⟩ := vw_all hq
  obtain ⟨h5, hlt⟩ := hc.1.2.2.2.own (a := b) (Or.inr ⟨h0, h12⟩)
  have he := ws_get E g I h5 hlt
  rw [cE_obj E h0] at he
  exact ⟨q, hq, hcn, hc.ax hE h5, va_recv hV.1 hc.1.2.2.1 hq he⟩
theorem call_virt {k : Nat} (F : FC E p s m args meth c mi) (hd : decode (mCode mi) pc = .ok (.invokevirtual k, 3)) (hs : s_virt (mOwn mi) k pc ls st g I = cl m' as pc' st')
    (hMet : MOK m' → (lay as).length ≤ mMax m' → (∀ v ∈ as, okP v) → MetA E l m' d' as g I v2 g2 I2) (hRf : d' + 2 ≤ R.frames) (hRl : 40 * (d' + 2) ≤ R.locals) (hRc : gN g2 - n0 ≤ R.cells) (hRs : gS g2 - s0 ≤ R.slots) (h1 : gN g ≤ gN g2) (h2 : gS g ≤ gS g2)
    (kk : WW E p l e R s m args below meth c Q mi n0 s0 pc' ls (v2.toList ++ st') g2 I2) : WW E p l e R s m args below meth c Q mi n0 s0 pc ls st g I := by
  obtain ⟨q, hk, hq0, hs⟩ := virt_cl hs
  obtain ⟨b, hdr, hlk, hb0, hcat, hlay, rfl, rfl⟩ := cvr_inv hs
  have hmc := mc_kd (MC_ok _ (lookup_mem hk))
  have hmem : ((gK g b).2, m') ∈ q.2.2 := lookup_mem hlk
  have F' := F
  obtain ⟨hx, hb, hr, hml, hown, hts, hlk2, hnm, hV, hX, hbs, hE⟩ := F
  intro lsM H locs hc
  have hn0 := hc.2.2.2.2.1
  have hs0 := hc.2.2.2.2.2
  obtain ⟨hokr, hoka⟩ := ok_tail hdr hc.2.2.2.1
  rcases hq0 with hq1 | hq2
  · obtain ⟨hM, hnp, hcls, hyc, hlink, hinst, hsel⟩ := hmc.2.1 hq1 _ hmem
    dsimp only at hM hnp hcls hyc hlink hinst hsel
    have hrecv : ∃ ba : Nat, eax E b = .ref ba ∧ ∃ cell : Cell, H[ba]? = some cell ∧ cell.vm.isStatics = false ∧ s.vm.findClass (cName (gK g b).2) = some cell.cls := by
      rcases hcls with h | h
      · obtain ⟨qq, -, hcn, hax, hr⟩ := recv_ok F' hc hb0 h
        exact ⟨_, hax, by rw [hcn]; exact hr⟩
      · have hb1 : b = 1 := by
          have hPX := hc.1.2.2.2
          rcases Nat.lt_or_ge b 5 with q | q
          · obtain ⟨⟨k0, -, k1, -, -, k2, -, k3, k4⟩, -⟩ := hPX
            rcases (by omega : b = 0 ∨ b = 1 ∨ b = 2 ∨ b = 3 ∨ b = 4) with rfl | rfl | rfl | rfl | rfl
            · rw [k0] at hb0; cases hb0
            · rfl
            · rw [k2] at hb0; cases hb0
            · omega
            · omega
          · have := hPX.2.2.2.2.2 b q (hPX.lt (by omega))
            omega
        subst hb1
        refine ⟨esa E, hE.1.2.1, ?_⟩
        rw [h]
        exact vk_recv hX.2.1 (by omega : (0 : Nat) < 1) hc.2.1
    obtain ⟨ba, hax, hrecv⟩ := hrecv
    have hcv : (vr (some b) :: (st.take q.2.1).reverse).map (cv (eax E)) = Value.ref ba :: (st.take q.2.1).reverse.map (cv (eax E)) := by rw [List.map_cons]; congr 1
    have hMt := hMet hM hlay hoka
    have hpre := pre_U (as := vr (some b) :: (st.take q.2.1).reverse) F' hc
    rw [hcv] at hpre
    refine run_on hc h1 h2 hokr (va_runV (C := cName (gK g b).2) (b := ba) (As := (st.take q.2.1).reverse.map (cv (eax E))) (n := q.2.1) ⟨hx, hb, hml, hown, hts⟩ hMt
      ⟨callB_of q.2.1 hts (wsM_good hM) rfl rfl rfl (hts _ hM.2.2.1) (hts _ hlink) ⟨hM.2.2.2.1.1, hM.2.2.2.1.2, hnp⟩ (room_ok hM hRf hRl _ _), hts _ hinst, hts _ hsel⟩ ⟨PCc_blind _ _ _ _, hrecv, hpre⟩ rfl (take_len hdr) hc.2.2.1.1.1 ?_ (lv_room (by rw [cats_eq hE]; exact hcat)) hd ⟨by omega, by omega⟩) kk
    show st.map (cv (eax E)) = _
    rw [takes hdr, hax]
  · obtain ⟨xx, hxx, hlink, hsm, hnp, hall⟩ := hmc.2.2.1 hq2
    obtain ⟨hM, h12, hsel, hinst⟩ := hall _ hmem
    dsimp only at hM h12 hsel hinst hlink hsm hnp
    obtain ⟨qq, -, hcn, hax, hrecv⟩ := recv_ok F' hc hb0 h12
    rw [← hcn] at hrecv
    have hcv : (vr (some b) :: (st.take q.2.1).reverse).map (cv (eax E)) = Value.ref (eBase E + (b - 5)) :: (st.take q.2.1).reverse.map (cv (eax E)) := by rw [List.map_cons]; congr 1
    have hMt := hMet hM hlay hoka
    have hpre := pre_U (as := vr (some b) :: (st.take q.2.1).reverse) F' hc
    rw [hcv] at hpre
    have hdecl : va_Decl s ⟨thingN, xx.name, xx.desc⟩ := by
      rcases hxx with rfl | rfl
      · exact va_Decl.abs hV.2.2.2.1.1
      · exact va_Decl.abs hV.2.2.2.1.2
    have hcode : Cond.code (mY m') (mCode m') (mMax m') (mRet m') ∈ wsM m' := List.mem_cons_self
    refine run_on hc h1 h2 hokr (va_runU (C := cName (gK g b).2) (owner := thingN) (x := xx) (bytes := mCode m') (maxL := mMax m') (ret := mRet m') (b := eBase E + (b - 5)) (As := (st.take q.2.1).reverse.map (cv (eax E))) (n := q.2.1) ⟨hx, hb, hml, hown, hts⟩ hMt
      ⟨⟨rfl, rfl, (room_ok hM hRf hRl _ _).1, (room_ok hM hRf hRl _ _).2, pay_in hts (wsM_good hM), hcode⟩, hts _ hM.1, hts _ hM.2.2.1, ⟨by decide +kernel, by decide +kernel⟩, np_len hnp, hts _ hlink, hts _ hsm, hdecl, hts _ hsel, hts _ hinst⟩ ⟨PCc_blind _ _ _ _, hrecv, hpre⟩ rfl (take_len hdr) hc.2.2.1.1.1 ?_ (lv_room (by rw [cats_eq hE]; exact hcat)) hd ⟨by omega, by omega⟩) kk
    show st.map (cv (eax E)) = _
    rw [takes hdr, hax]
theorem call_spec {k : Nat} (F : FC E p s m args meth c mi) (hd : decode (mCode mi) pc = .ok (.invokespecial k, 3)) (hs : s_spec (mOwn mi) k pc ls st g I = cl m' as pc' st')
    (hMet : MOK m' → (lay as).length ≤ mMax m' → (∀ v ∈ as, okP v) → MetA E l m' d' as g I v2 g2 I2) (hRf : d' + 2 ≤ R.frames) (hRl : 40 * (d' + 2) ≤ R.locals) (hRc : gN g2 - n0 ≤ R.cells) (hRs : gS g2 - s0 ≤ R.slots) (h1 : gN g ≤ gN g2) (h2 : gS g ≤ gS g2)
    (kk : WW E p l e R s m args below meth c Q mi n0 s0 pc' ls (v2.toList ++ st') g2 I2) : WW E p l e R s m args below meth c Q mi n0 s0 pc ls st g I := by
  obtain ⟨q, hk, hq0, hs⟩ := spec_cl hs
  obtain ⟨b, x, hdr, htg, hb0, h12, hcat, hlay, rfl, rfl⟩ := csp_inv hs
  have hmc := mc_kd (MC_ok _ (lookup_mem hk))
  have F' := F
  obtain ⟨hx, hb, hr, hml, hown, hts, hlk2, hnm, hV, hX, hbs, hE⟩ := F
  intro lsM H locs hc
  have hn0 := hc.2.2.2.2.1
  have hs0 := hc.2.2.2.2.2
  obtain ⟨hokr, hoka⟩ := ok_tail hdr hc.2.2.2.1
  obtain ⟨qq, hqq, hcn, hax, hrecv⟩ := recv_ok F' hc hb0 h12
  have hcv : (vr (some b) :: (st.take q.2.1).reverse).map (cv (eax E)) = Value.ref (eBase E + (b - 5)) :: (st.take q.2.1).reverse.map (cv (eax E)) := by rw [List.map_cons]; congr 1
  have hpre := pre_U (as := vr (some b) :: (st.take q.2.1).reverse) F' hc
  rw [hcv] at hpre
  have same : ∀ {x' mm : Nat}, q.2.2 = [(x', mm)] → mm = m' := by
    intro x' mm h
    have e1 : [(x, m')] = [(x', mm)] := htg.symm.trans h
    simp only [List.cons.injEq, Prod.mk.injEq, and_true] at e1
    exact e1.2.symm
  have hstk : st.map (cv (eax E)) = ((st.take q.2.1).reverse.map (cv (eax E))).reverse ++ .ref (eBase E + (b - 5)) :: st'.map (cv (eax E)) := by rw [takes hdr, hax]
  rcases hq0 with hq3 | hq4 | hq5
  · obtain ⟨x', mm, htg', hM, hnp, hnm2, hret, hlink, hinst⟩ := hmc.2.2.2.1 hq3
    have hmm := same htg'
    subst hmm
    dsimp only at hlink hnp
    have hMt := hMet hM hlay hoka
    have hcb := callB_of (rm := rmM d' (gN g2 - gN g) (gS g2 - gS g)) (mc := gN g2 - gN g) (ms := gS g2 - gS g) (R := R) q.2.1 hts (wsM_good hM) rfl rfl rfl (hts _ hM.2.2.1) (hts _ hlink) ⟨hM.2.2.2.1.1, hM.2.2.2.1.2, hnp⟩ (room_ok hM hRf hRl _ _)
    rw [hret] at hcb
    exact run_on hc h1 h2 hokr (va_runI (b := eBase E + (b - 5)) (As := (st.take q.2.1).reverse.map (cv (eax E))) (n := q.2.1) ⟨hx, hb, hml, hown, hts⟩ hMt
      ⟨hcb, hnm2, hts _ hinst⟩ ⟨PCc_blind _ _ _ _, hpre⟩ rfl (take_len hdr) hc.2.2.1.1.1 hstk (lv_room (by rw [cats_eq hE]; exact hcat)) hd ⟨by omega, by omega⟩) kk
  · obtain ⟨x', mm, htg', hM, hnp, hnm2, hret, hnest, hinst⟩ := hmc.2.2.2.2.1 hq4
    have hmm := same htg'
    subst hmm
    dsimp only at hnest hnp
    have hMt := hMet hM hlay hoka
    have hl4 : va_Nw (.methodLinkNest (cn (mOwn mi)) k (mY mm) "AgesByMiles") s := hV.2.2.1 (mOwn mi, (k, mm)) hnest
    have hcb : va_CN R s args (cn (mOwn mi)) k (mY mm) "AgesByMiles" (mCode mm) (mMax mm) (mRet mm) (wsM mm) (rmM d' (gN g2 - gN g) (gS g2 - gS g)) (gN g2 - gN g) (gS g2 - gS g) q.2.1 := va_cnB q.2.1 hts (wsM_good hM) rfl rfl rfl hl4 (hts _ hM.2.2.1) ⟨hM.2.2.2.1.1, hM.2.2.2.1.2, hnp⟩ (room_ok hM hRf hRl _ _)
    rw [hret] at hcb
    exact run_on hc h1 h2 hokr (va_runIN (host := "AgesByMiles") (b := eBase E + (b - 5)) (As := (st.take q.2.1).reverse.map (cv (eax E))) (n := q.2.1) ⟨hx, hb, hml, hown, hts⟩ hMt
      ⟨hcb, hnm2, hts _ hinst⟩ ⟨PCc_blind _ _ _ _, hpre⟩ rfl (take_len hdr) hc.2.2.1.1.1 hstk (lv_room (by rw [cats_eq hE]; exact hcat)) hd ⟨by omega, by omega⟩) kk
  · obtain ⟨x', mm, htg', hM, hnp, hnm2, hlink, hsm, hsup, hinst⟩ := hmc.2.2.2.2.2 hq5
    have hmm := same htg'
    subst hmm
    dsimp only at hlink hnp hsup
    have hMt := hMet hM hlay hoka
    have hcode : Cond.code (mY mm) (mCode mm) (mMax mm) (mRet mm) ∈ wsM mm := List.mem_cons_self
    exact run_on hc h1 h2 hokr (va_runSU (C := qq.1) (cC := (eD E).1 (gK g b).2) (b := eBase E + (b - 5)) (bytes := mCode mm) (maxL := mMax mm) (ret := mRet mm) (As := (st.take q.2.1).reverse.map (cv (eax E))) (n := q.2.1) (hV.1.1 _ _ hqq).2 ⟨hx, hb, hml, hown, hts⟩ hMt
      ⟨⟨rfl, rfl, (room_ok hM hRf hRl _ _).1, (room_ok hM hRf hRl _ _).2, pay_in hts (wsM_good hM), hcode⟩, hts _ hlink, hts _ hsm, hts _ hsup, hts _ hinst, hts _ hM.2.2.1, hts _ hM.1, hnm2, np_len hnp⟩ ⟨PCc_blind _ _ _ _, hrecv, hpre⟩ rfl (take_len hdr) hc.2.2.1.1.1 hstk (lv_room (by rw [cats_eq hE]; exact hcat)) hd ⟨by omega, by omega⟩) kk
theorem step_call (F : FC E p s m args meth c mi) (hs : step mi pc ls st g I = cl m' as pc' st')
    (hMet : MOK m' → (lay as).length ≤ mMax m' → (∀ v ∈ as, okP v) → MetA E l m' d' as g I v2 g2 I2) (hRf : d' + 2 ≤ R.frames) (hRl : 40 * (d' + 2) ≤ R.locals) (hRc : gN g2 - n0 ≤ R.cells) (hRs : gS g2 - s0 ≤ R.slots) (h1 : gN g ≤ gN g2) (h2 : gS g ≤ gS g2)
    (kk : WW E p l e R s m args below meth c Q mi n0 s0 pc' ls (v2.toList ++ st') g2 I2) : WW E p l e R s m args below meth c Q mi n0 s0 pc ls st g I := by
  unfold step at hs
  split at hs
  rotate_left
  · cases hs
  rename_i i len hd
  split at hs
  · exact (onlyN_cl hs).elim
  rename_i hcl
  cases i with
  | invokestatic k =>
    change (if len = 3 then s_static (mOwn mi) k pc ls st g I else none) = _ at hs
    split at hs
    · rename_i h
      subst h
      exact call_stat F hd hs hMet hRf hRl hRc hRs h1 h2 kk
    · cases hs
  | invokevirtual k =>
    change (if len = 3 then s_virt (mOwn mi) k pc ls st g I else none) = _ at hs
    split at hs
    · rename_i h
      subst h
      exact call_virt F hd hs hMet hRf hRl hRc hRs h1 h2 kk
    · cases hs
  | invokespecial k =>
    change (if len = 3 then s_spec (mOwn mi) k pc ls st g I else none) = _ at hs
    split at hs
    · rename_i h
      subst h
      exact call_spec F hd hs hMet hRf hRl hRc hRs h1 h2 kk
    · cases hs
  | ireturn =>
    change s_iret mi len st = _ at hs
    unfold s_iret at hs
    split at hs
    · split at hs <;> cases hs
    · cases hs
  | lreturn =>
    change s_lret mi len st = _ at hs
    unfold s_lret at hs
    split at hs
    · split at hs <;> cases hs
    · cases hs
  | areturn =>
    change s_aret mi len st = _ at hs
    unfold s_aret at hs
    split at hs
    · split at hs <;> cases hs
    · cases hs
  | return_ =>
    change s_vret mi len st = _ at hs
    unfold s_vret at hs
    split at hs
    · split at hs <;> cases hs
    · cases hs
  | _ => exact absurd rfl hcl
end ADQ
/-- THE PURE MACHINE IS THE MACHINE -/
theorem adq (E : EV) (l : Launch) (hE : EVok E) : ∀ (n d mi pc : Nat) (ls : LL) (st : List PV) (g : GG) (I : II) (v1 : Option PV) (g1 : GG) (I1 : II), wp n d mi pc ls st g I (fun v g' I' => v = v1 ∧ g' = g1 ∧ I' = I1) →
    ∀ (p : Program) (e : Env) (R : Room) (s : State) (m : MethodId) (args : Array Value) (below : List Frame) (meth : Method) (c : Code) (n0 s0 : Nat), FC E p s m args meth c mi → d + 1 ≤ R.frames → 40 * (d + 1) ≤ R.locals → gN g1 - n0 ≤ R.cells → gS g1 - s0 ≤ R.slots →
      WW E p l e R s m args below meth c (MQ below (QCc E v1 g1 I1) args s (gN g1 - n0) (gS g1 - s0) (eA E)) mi n0 s0 pc ls st g I := by
  intro n
  induction n with
  | zero => intro d mi pc ls st g I v1 g1 I1 hw; exact False.elim hw
  | succ n ih =>
    intro d mi pc ls st g I v1 g1 I1 hw p e R s m args below meth c n0 s0 F hRf hRl hRc hRs
    unfold wp at hw
    split at hw
    · exact False.elim hw
    · rename_i pc' ls' st' g' I' hs
      obtain ⟨⟨h1, h2⟩, hw⟩ := hw
      have hsz := wp_size _ _ _ _ _ _ _ _ _ _ _ hw
      exact step_next F (by omega) (by omega) (by omega) (by omega) h1 h2 hs (ih _ _ _ _ _ _ _ _ _ _ hw p e R s m args below meth c n0 s0 F hRf hRl hRc hRs)
    · rename_i v hs
      obtain ⟨rfl, rfl, rfl⟩ := hw
      exact step_ret F hs
    · rename_i m' as pc' st' hs
      cases d with
      | zero => exact False.elim hw
      | succ d' =>
        obtain ⟨v2, g2, I2, hw2, hwc⟩ := wp_det _ _ _ _ _ _ _ _ _ hw
        have hz1 := wp_size _ _ _ _ _ _ _ _ _ _ _ hwc
        have hz2 := wp_size _ _ _ _ _ _ _ _ _ _ _ hw2
        refine step_call (d' := d') (v2 := v2) (g2 := g2) (I2 := I2) F hs (fun hM hl hok => met_of hE hM hl hok (ih _ _ _ _ _ _ _ _ _ _ hwc)) (by omega) (by omega) (by omega) (by omega) hz1.1 hz1.2 ?_
        exact ih _ _ _ _ _ _ _ _ _ _ hw2 p e R s m args below meth c n0 s0 F hRf hRl hRc hRs

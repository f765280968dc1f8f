-- ADEQUACY, one step: rows of references, lengths, new cells, copies
theorem dflt_ok : ∀ ci, ci < 12 → ∀ k, k < NS.getD ci 0 → defaultValue (tyOf ci k) = (if isRefT (tyOf ci k) = true then .null else .int 0) := by decide +kernel
theorem cName_th {ci : Nat} (h : ci ∈ [0, 1, 2, 3, 6, 9]) : cName ci ∈ [RX0, RX1, RX2, RX3, RX6, RX10] ∧ ci < 12 := by
  simp only [List.mem_cons, List.not_mem_nil, or_false] at h
  rcases h with rfl | rfl | rfl | rfl | rfl | rfl <;> exact ⟨by decide +kernel, by decide⟩
theorem vw_some : ∀ ci, ci < 12 → ∃ r, vwCl[ci]? = some r := by
  intro ci h
  exact ⟨_, List.getElem?_eq_getElem (by simpa [vwCl] using h)⟩
section AQE
variable {E : EV} {p : Program} {l : Launch} {e : Env} {R : Room} {s : State} {m : MethodId} {args : Array Value} {below : List Frame} {meth : Method} {c : Code} {Q : State → Prop} {mi n0 s0 : Nat}
variable {pc pc' len : Nat} {ls ls' : LL} {st st' : List PV} {g g' : GG} {I I' : II}
theorem aq_aast (F : FC E p s m args meth c mi) (hd : decode (mCode mi) pc = .ok (.aastore, len)) (hs : s_aast len pc ls st g I = nx pc' ls' st' g' I') (kk : WW E p l e R s m args below meth c Q mi n0 s0 pc' ls' st' g' I') : WW E p l e R s m args below meth c Q mi n0 s0 pc ls st g I := by
  obtain ⟨hx, hb, hr, hml, hown, hts, hlk, hnm, hV, hX, hbs, hE⟩ := F
  unfold s_aast at hs
  split at hs
  · rename_i b i a r
    split at hs
    · rename_i hl
      obtain ⟨rfl, h1, h0, hlen, hb0, hbc⟩ := hl
      obtain ⟨rfl, rfl, rfl, rfl, rfl⟩ := nx_inj hs
      intro lsM H locs hc
      have hPX := hc.1.2.2.2
      have hi0 : r32 i := hc.2.2.2.1 (vi i) (by simp)
      have hok : ∀ w ∈ r, okP w := okT (okT (okT hc.2.2.2.1))
      obtain ⟨hcn, hc12⟩ := cName_th hbc
      obtain ⟨h5, hlt⟩ := hPX.own (a := a) (Or.inl (by omega))
      obtain ⟨b5, blt⟩ := hPX.own (a := b) (Or.inr ⟨hb0, hc12⟩)
      rw [List.map_cons, List.map_cons, List.map_cons]
      change W p l e R s m args below meth c H locs _ _ Q (F0 m _ lsM (eax E b :: .int (Int32.ofInt i) :: eax E a :: _))
      rw [hc.ax hE h5, hc.ax hE b5]
      have he := ws_get E g I h5 hlt
      rw [cE_ref E h1] at he
      have hbe := ws_get E g I b5 blt
      rw [cE_obj E hb0] at hbe
      have hP := hc.1.2.2.1
      obtain ⟨q, hq⟩ := vw_some _ hc12
      obtain ⟨-, -, -, -, hnm2⟩ := vw_all hq
      obtain ⟨r', hr', cellV, g1, g2, g3, -⟩ := hP (b - 5) _ hbe
      have hcls := (hV.1.1 _ _ hq).2
      obtain ⟨kA, comp, k1, k2, k3, -⟩ := (hV.1.2 2 _ rfl).2
      obtain ⟨kE, hkE, -⟩ := Vm.findClass_spec k3
      obtain ⟨c0, t1, f1, f2, f3⟩ := Cond.castable_spec (va_Nw.use (A := args) rfl (hV.2.2.2.2.1 _ hcn))
      rw [hnm2] at f1
      cases hcls.1.symm.trans f1
      cases k3.symm.trans f2
      obtain ⟨kC, hkC, -⟩ := hcls.2
      have hin := of32_in (n := (gK g a).2) hi0 h0 hlen
      refine W.aast hx hb (hP (a - 5) _ he) (fun q h => by cases h) (fun h => by cases h) k1 k2 rfl hkE ⟨fun q => hin (Or.inl q), by show _ < (arrV _ _ _).slots.size; rw [arrV_size]; exact Nat.not_le.mp fun q => hin (Or.inr q)⟩ g1 (fun q h => by rw [g3] at h; cases h) (by rw [g2]; exact hkC) (by rw [g2]; exact f3) rfl rfl hd fun H1 e1 z oq => ?_
      refine kk lsM H1 _ (hc.wr rfl rfl z ?_ (PX_put hPX h5 b5) (hc.2.1.put z oq (Nat.le_add_right _ _)) hok)
      rw [ws_set E (g := g) (g' := gput g a i.toNat (some b)) (I := I) (I' := I) h5 hlt rfl (fun _ _ => rfl) (fun b hb => gput_ne hb) (fun _ _ => rfl)]
      refine hP.set (ws_D E g I) he ?_ oq
      rw [show gK (gput g a i.toNat (some b)) a = gK g a from rfl, cE_ref E h1]
      show H1[eBase E + (a - 5)]? = some (vp_cell _ _)
      rw [e1, vp_cell_q, vp_cell_q, arrV_store, of32_clamp hi0]
      congr 2
      funext q
      by_cases hq : q = i.toNat
      · subst hq
        simp [updV, gput_at, va_rf]
      · simp [updV, gput_at, hq]
    · cases hs
  · cases hs
theorem aq_alen (F : FC E p s m args meth c mi) (hd : decode (mCode mi) pc = .ok (.arraylength, len)) (hs : s_alen len pc ls st g I = nx pc' ls' st' g' I') (kk : WW E p l e R s m args below meth c Q mi n0 s0 pc' ls' st' g' I') : WW E p l e R s m args below meth c Q mi n0 s0 pc ls st g I := by
  obtain ⟨hx, hb, hr, hml, hown, hts, hlk, hnm, hV, hX, hbs, hE⟩ := F
  unfold s_alen at hs
  split at hs
  · rename_i a r
    split at hs
    · rename_i hl
      obtain ⟨rfl, h1, h5'⟩ := hl
      obtain ⟨rfl, rfl, rfl, rfl, rfl⟩ := nx_inj hs
      intro lsM H locs hc
      have hPX := hc.1.2.2.2
      have hok : ∀ w ∈ r, okP w := okT hc.2.2.2.1
      have hle : (gK g a).2 ≤ 10000 := by
        rcases Nat.lt_or_ge a 5 with q | q
        · obtain ⟨⟨k0, -, k1, -, -, k2, -, k3, k4⟩, -⟩ := hPX
          have hL := hE.2.2
          rcases (by omega : a = 0 ∨ a = 1 ∨ a = 2 ∨ a = 3 ∨ a = 4) with rfl | rfl | rfl | rfl | rfl
          · rw [k0]; show eL E ≤ 10000; omega
          · rw [k1] at h1; simp at h1
          · rw [k2]; decide
          · omega
          · omega
        · have := hPX.2.2.2.2.2 a q (hPX.lt (by omega))
          omega
      have kw := kk lsM H locs (hc.stk (okC (v := vi (((gK g a).2 : Nat) : Int)) ⟨by omega, by omega⟩ hok))
      rw [List.map_cons] at kw
      change W p l e R s m args below meth c H locs _ _ Q (F0 m _ lsM (.int (Int32.ofInt (((gK g a).2 : Nat) : Int)) :: _)) at kw
      rw [Int32.ofInt_eq_ofNat] at kw
      rw [List.map_cons]
      change W p l e R s m args below meth c H locs _ _ Q (F0 m _ lsM (eax E a :: _))
      rcases (by omega : (1 ≤ (gK g a).1 ∧ (gK g a).1 ≤ 3) ∨ (gK g a).1 = 4 ∨ (gK g a).1 = 5) with h | h | h
      · obtain ⟨h5, hlt⟩ := hPX.own (a := a) (Or.inl h)
        rw [hc.ax hE h5]
        have he := ws_get E g I h5 hlt
        rcases (by omega : (gK g a).1 = 1 ∨ (gK g a).1 = 2 ∨ (gK g a).1 = 3) with h | h | h
        · rw [cE_int E h] at he
          exact va_alen hx hb hV.1 hc.1.2.2.1 (a - 5) 0 he (ty := .int) rfl rfl hd kw
        · rw [cE_long E h] at he
          exact va_alen hx hb hV.1 hc.1.2.2.1 (a - 5) 1 he (ty := .long) rfl rfl hd kw
        · rw [cE_ref E h] at he
          exact va_alen hx hb hV.1 hc.1.2.2.1 (a - 5) 2 he (ty := .object thingN) rfl rfl hd kw
      · have ha : a = 2 := by
          rcases Nat.lt_or_ge a 5 with q | q
          · obtain ⟨⟨k0, -, k1, -, -, k2, -, k3, k4⟩, -⟩ := hPX
            rcases (by omega : a = 0 ∨ a = 1 ∨ a = 2 ∨ a = 3 ∨ a = 4) with rfl | rfl | rfl | rfl | rfl
            · rw [k0] at h; cases h
            · rw [k1] at h; cases h
            · rfl
            · omega
            · omega
          · have := hPX.2.2.2.2.2 a q (hPX.lt (by omega))
            omega
        subst ha
        rw [hPX.1.2.2.2.2.2.1] at kw
        rw [hE.1.2.2.1]
        exact va_tlen hx hb (hX.2.1.1 0 (by omega)).2.2.2 hc.2.1 rfl hd kw
      · have ha : a = 0 := by
          rcases Nat.lt_or_ge a 5 with q | q
          · obtain ⟨⟨k0, -, k1, -, -, k2, -, k3, k4⟩, -⟩ := hPX
            rcases (by omega : a = 0 ∨ a = 1 ∨ a = 2 ∨ a = 3 ∨ a = 4) with rfl | rfl | rfl | rfl | rfl
            · rfl
            · rw [k1] at h; cases h
            · rw [k2] at h; cases h
            · omega
            · omega
          · have := hPX.2.2.2.2.2 a q (hPX.lt (by omega))
            omega
        subst ha
        rw [hPX.1.1] at kw
        rw [hE.1.1]
        exact va_slen hx hb hX.1 hbs (Nat.not_le.mpr hE.2.1) hc.2.1 hd kw
    · cases hs
  · cases hs
/-- behind a making: the relation again -/
theorem CU.mk {H H1 : Heap} {locs : List Loc} {lsM : Array Slot} {nL : Nat} (h : CU E s H locs lsM nL ls st g I n0 s0) {kd : Nat × Nat} {sl : Nat} (hk : (kd.1 = 0 ∧ kd.2 < 12) ∨ (1 ≤ kd.1 ∧ kd.1 ≤ 3 ∧ kd.2 ≤ 10000)) (hz : H1.size = H.size + 1) (ho : ∀ q, q < H.size → H1[q]? = H[q]?) (hat : va_at (eD E) vwCl (eBase E + (gN g - 5), cE E kd (fun _ => 0) (fun _ => none)) H1) (hok : ∀ v ∈ st', okP v) : CU E s H1 locs lsM nL ls st' (gnew g kd sl) (inew I (gN g)) n0 s0 := by
  obtain ⟨⟨h5, hsz, hP, hPX⟩, hS, hL, -, hn, hs⟩ := h
  refine ⟨⟨by rw [gN_new]; omega, by rw [gN_new]; omega, ?_, PX_new hPX h5 hk⟩, ⟨Nat.le_trans hS.1 (by omega), fun x h1 h2 => (ho x (Nat.lt_of_lt_of_le h1 hS.1)).trans (hS.2.1 x h1 h2), hS.2.2⟩, hL, hok, by rw [gN_new]; omega, by rw [gS_new]; omega⟩
  rw [ws_push E (g := g) (g' := gnew g kd sl) (I := I) (I' := inew I (gN g)) h5 rfl (fun b hb => by rw [gK_new, if_neg (by omega)]) (fun b hb => by rw [gR_new, if_neg (by omega)]) (fun b hb => if_neg (by omega))]
  refine (hP.kept (fun k q hq => ho _ (hP k q hq).lt)).app (fun k q hq => ?_)
  have hz : k < 1 := (List.getElem?_eq_some_iff.mp hq).1
  rw [show k = 0 by omega] at hq
  have hq := Option.some.inj hq
  rw [← hq]
  rw [gK_new, if_pos rfl, gR_new, if_pos rfl, show inew I (gN g) (gN g) = (fun _ => 0) from if_pos rfl]
  exact hat
theorem aq_new {k : Nat} (F : FC E p s m args meth c mi) (hRc : gN g' - n0 ≤ R.cells) (hRs : gS g' - s0 ≤ R.slots) (hd : decode (mCode mi) pc = .ok (.new k, len)) (hs : s_new (mOwn mi) k len pc ls st g I = nx pc' ls' st' g' I') (kk : WW E p l e R s m args below meth c Q mi n0 s0 pc' ls' st' g' I') : WW E p l e R s m args below meth c Q mi n0 s0 pc ls st g I := by
  obtain ⟨hx, hb, hr, hml, hown, hts, hlk, hnm, hV, hX, hbs, hE⟩ := F
  unfold s_new at hs
  split at hs
  · rename_i ci hk
    split at hs
    · rename_i hl
      subst hl
      obtain ⟨rfl, rfl, rfl, rfl, rfl⟩ := nx_inj hs
      intro lsM H locs hc
      obtain ⟨h12, hcl, hins, hini⟩ := NT_ok _ (lookup_mem hk)
      have h12 : ci < 12 := h12
      have hcl : Cond.classLink (cn (mOwn mi)) k (cName ci) ∈ TB := hcl
      have hins : Cond.instantiable (cName ci) (NS.getD ci 0) ∈ TB := hins
      obtain ⟨q, hq⟩ := vw_some ci h12
      obtain ⟨hlay, hty, -, hNS, hnm2⟩ := vw_all hq
      have hKn := hV.1.1 _ _ hq
      rw [gN_new] at hRc
      rw [gS_new] at hRs
      have hn0 := hc.2.2.2.2.1
      have hs0 := hc.2.2.2.2.2
      have h5 := hc.1.1
      have hfc : s.vm.findClass (cName ci) = some ((eD E).1 ci) := by rw [hnm2]; exact hKn.2.1
      refine W.newcK hx hb hown (hts _ hcl) (hts _ hins) (hts _ hini) rfl hd (by omega) (by omega) hfc rfl fun H1 kC hkC e1 z1 o1 => ?_
      have kw := kk lsM H1 locs (hc.mk (kd := (0, ci)) (sl := NS.getD ci 0) (Or.inl ⟨rfl, h12⟩) z1 o1 ?_ (okC (v := vr (some (gN g))) trivial hc.2.2.2.1))
      · rw [gN_new, gS_new, show gN g + 1 - n0 = gN g - n0 + 1 by omega, show gS g + NS.getD ci 0 - s0 = gS g - s0 + NS.getD ci 0 by omega] at kw
        rw [List.map_cons] at kw
        change W p l e R s m args below meth c H1 locs _ _ Q (F0 m _ lsM (eax E (gN g) :: _)) at kw
        rw [hc.ax hE h5, ← hc.1.2.1] at kw
        exact kw
      · rw [cE_obj E rfl]
        rw [hc.1.2.1] at e1
        refine ⟨q, hq, (u_born (tyOf ci) hts hlay hKn hkC e1 hty).to ?_⟩
        intro j hj
        rw [dflt_ok ci h12 j (by rw [hNS]; exact hj)]
        have hg := fvs_get E (ci := ci) (k := j) (fun _ => 0) (fun _ => none) (by rw [hNS]; exact hj)
        show _ = (fvs E ci (fun _ => 0) (fun _ => none)).getD j .null
        rw [List.getD_eq_getElem?_getD, hg]
        rfl
    · cases hs
  · cases hs
theorem aq_newI (F : FC E p s m args meth c mi) (hRc : gN g' - n0 ≤ R.cells) (hRs : gS g' - s0 ≤ R.slots) (hd : decode (mCode mi) pc = .ok (.newarray .int, len)) (hs : s_newa 1 len pc ls st g I = nx pc' ls' st' g' I') (kk : WW E p l e R s m args below meth c Q mi n0 s0 pc' ls' st' g' I') : WW E p l e R s m args below meth c Q mi n0 s0 pc ls st g I := by
  obtain ⟨hx, hb, hr, hml, hown, hts, hlk, hnm, hV, hX, hbs, hE⟩ := F
  unfold s_newa at hs
  split at hs
  · rename_i n r
    split at hs
    · rename_i hl
      obtain ⟨rfl, h0, hle⟩ := hl
      obtain ⟨rfl, rfl, rfl, rfl, rfl⟩ := nx_inj hs
      intro lsM H locs hc
      have hn32 : r32 n := hc.2.2.2.1 (vi n) (by simp)
      have hok : ∀ w ∈ r, okP w := okT hc.2.2.2.1
      rw [gN_new] at hRc
      rw [gS_new] at hRs
      have hn0 := hc.2.2.2.2.1
      have hs0 := hc.2.2.2.2.2
      have h5 := hc.1.1
      rw [List.map_cons]
      change W p l e R s m args below meth c H locs _ _ Q (F0 m _ lsM (.int (Int32.ofInt n) :: _))
      refine va_newaK (N := n.toNat) hx hb (atype := .int) (hts _ AR_int) rfl hd rfl (fun q => by rw [← of32_0, of32_lt hn32 r32_0] at q; omega) (of32_clamp hn32) (by show n.toNat * 4 ≤ _; omega) (by omega) (by omega) rfl fun H1 cA e1 z1 o1 hAr hNm => ?_
      have hcA : cA = eI E := by
        have h1 : s.vm.findClass ("[" ++ (FieldType.int).toString) = some (eI E) := (hV.1.2 0 _ rfl).2
        exact Option.some.inj (hNm.symm.trans h1)
      subst hcA
      have kw := kk lsM H1 locs (hc.mk (kd := (1, n.toNat)) (sl := n.toNat) (Or.inr ⟨Nat.le_of_ble_eq_true rfl, Nat.le_of_ble_eq_true rfl, by show n.toNat ≤ 10000; omega⟩) z1 o1 ?_ (okC (v := vr (some (gN g))) trivial hok))
      · rw [gN_new, gS_new, show gN g + 1 - n0 = gN g - n0 + 1 by omega, show gS g + n.toNat - s0 = gS g - s0 + n.toNat by omega] at kw
        rw [List.map_cons] at kw
        change W p l e R s m args below meth c H1 locs _ _ Q (F0 m _ lsM (eax E (gN g) :: _)) at kw
        rw [hc.ax hE h5, ← hc.1.2.1] at kw
        exact kw
      · rw [cE_int E rfl]
        show H1[eBase E + (gN g - 5)]? = some (vp_cell _ _)
        rw [← hc.1.2.1, e1, vp_cell_i]
        rfl
    · cases hs
  · cases hs
theorem aq_newJ (F : FC E p s m args meth c mi) (hRc : gN g' - n0 ≤ R.cells) (hRs : gS g' - s0 ≤ R.slots) (hd : decode (mCode mi) pc = .ok (.newarray .long, len)) (hs : s_newa 2 len pc ls st g I = nx pc' ls' st' g' I') (kk : WW E p l e R s m args below meth c Q mi n0 s0 pc' ls' st' g' I') : WW E p l e R s m args below meth c Q mi n0 s0 pc ls st g I := by
  obtain ⟨hx, hb, hr, hml, hown, hts, hlk, hnm, hV, hX, hbs, hE⟩ := F
  unfold s_newa at hs
  split at hs
  · rename_i n r
    split at hs
    · rename_i hl
      obtain ⟨rfl, h0, hle⟩ := hl
      obtain ⟨rfl, rfl, rfl, rfl, rfl⟩ := nx_inj hs
      intro lsM H locs hc
      have hn32 : r32 n := hc.2.2.2.1 (vi n) (by simp)
      have hok : ∀ w ∈ r, okP w := okT hc.2.2.2.1
      rw [gN_new] at hRc
      rw [gS_new] at hRs
      have hn0 := hc.2.2.2.2.1
      have hs0 := hc.2.2.2.2.2
      have h5 := hc.1.1
      rw [List.map_cons]
      change W p l e R s m args below meth c H locs _ _ Q (F0 m _ lsM (.int (Int32.ofInt n) :: _))
      refine va_newaK (N := n.toNat) hx hb (atype := .long) (hts _ AR_long) rfl hd rfl (fun q => by rw [← of32_0, of32_lt hn32 r32_0] at q; omega) (of32_clamp hn32) (by show n.toNat * 8 ≤ _; omega) (by omega) (by omega) rfl fun H1 cA e1 z1 o1 hAr hNm => ?_
      have hcA : cA = eJ E := by
        have h1 : s.vm.findClass ("[" ++ (FieldType.long).toString) = some (eJ E) := (hV.1.2 1 _ rfl).2
        exact Option.some.inj (hNm.symm.trans h1)
      subst hcA
      have kw := kk lsM H1 locs (hc.mk (kd := (2, n.toNat)) (sl := n.toNat) (Or.inr ⟨Nat.le_of_ble_eq_true rfl, Nat.le_of_ble_eq_true rfl, by show n.toNat ≤ 10000; omega⟩) z1 o1 ?_ (okC (v := vr (some (gN g))) trivial hok))
      · rw [gN_new, gS_new, show gN g + 1 - n0 = gN g - n0 + 1 by omega, show gS g + n.toNat - s0 = gS g - s0 + n.toNat by omega] at kw
        rw [List.map_cons] at kw
        change W p l e R s m args below meth c H1 locs _ _ Q (F0 m _ lsM (eax E (gN g) :: _)) at kw
        rw [hc.ax hE h5, ← hc.1.2.1] at kw
        exact kw
      · rw [cE_long E rfl]
        show H1[eBase E + (gN g - 5)]? = some (vp_cell _ _)
        rw [← hc.1.2.1, e1, vp_cell_l]
        rfl
    · cases hs
  · cases hs
theorem aq_anew {k : Nat} (F : FC E p s m args meth c mi) (hRc : gN g' - n0 ≤ R.cells) (hRs : gS g' - s0 ≤ R.slots) (hd : decode (mCode mi) pc = .ok (.anewarray k, len)) (hs : s_anew (mOwn mi) k len pc ls st g I = nx pc' ls' st' g' I') (kk : WW E p l e R s m args below meth c Q mi n0 s0 pc' ls' st' g' I') : WW E p l e R s m args below meth c Q mi n0 s0 pc ls st g I := by
  obtain ⟨hx, hb, hr, hml, hown, hts, hlk, hnm, hV, hX, hbs, hE⟩ := F
  unfold s_anew at hs
  split at hs
  · rename_i n r
    split at hs
    · rename_i hl
      obtain ⟨rfl, hat, h0, hle⟩ := hl
      obtain ⟨rfl, rfl, rfl, rfl, rfl⟩ := nx_inj hs
      intro lsM H locs hc
      have hn32 : r32 n := hc.2.2.2.1 (vi n) (by simp)
      have hok : ∀ w ∈ r, okP w := okT hc.2.2.2.1
      rw [gN_new] at hRc
      rw [gS_new] at hRs
      have hn0 := hc.2.2.2.2.1
      have hs0 := hc.2.2.2.2.2
      have h5 := hc.1.1
      have hcl : (Int32.ofInt n).toNatClampNeg = n.toNat := of32_clamp hn32
      rw [List.map_cons]
      change W p l e R s m args below meth c H locs _ _ Q (F0 m _ lsM (.int (Int32.ofInt n) :: _))
      refine W.anew hx hb hown (hts _ (AT_ok _ hat)) (va_AO.use hV.2.1) rfl hd rfl (fun q => by rw [← of32_0, of32_lt hn32 r32_0] at q; omega) (by rw [hcl]; omega) (by omega) (by rw [hcl]; omega) fun cA kA comp f1 f2 f3 f4 => ?_
      rw [hcl]
      have hcA : cA = eT E := by
        obtain ⟨-, -, -, -, -, h1⟩ := (hV.1.2 2 _ rfl).2
        exact Option.some.inj (f1.symm.trans h1)
      subst hcA
      generalize hH1 : H.push ({ cls := eT E, slots := Array.replicate n.toNat .null, vm := .none } : Cell) = H1
      have z1 : H1.size = H.size + 1 := by rw [← hH1, Array.size_push]
      have e1 : H1[H.size]? = some (arrV (eT E) n.toNat (fun _ => .null)) := by rw [← hH1, Array.getElem?_push_size, ← arrV_new]
      have o1 : ∀ q : Nat, q < H.size → H1[q]? = H[q]? := fun q hq => by rw [← hH1, Array.getElem?_push, if_neg (Nat.ne_of_lt hq)]
      have kw := kk lsM H1 locs (hc.mk (kd := (3, n.toNat)) (sl := n.toNat) (Or.inr ⟨Nat.le_of_ble_eq_true rfl, Nat.le_of_ble_eq_true rfl, by show n.toNat ≤ 10000; omega⟩) z1 o1 ?_ (okC (v := vr (some (gN g))) trivial hok))
      · rw [gN_new, gS_new, show gN g + 1 - n0 = gN g - n0 + 1 by omega, show gS g + n.toNat - s0 = gS g - s0 + n.toNat by omega] at kw
        rw [List.map_cons] at kw
        change W p l e R s m args below meth c H1 locs _ _ Q (F0 m _ lsM (eax E (gN g) :: _)) at kw
        rw [hc.ax hE h5, ← hc.1.2.1] at kw
        exact kw
      · rw [cE_ref E rfl]
        show H1[eBase E + (gN g - 5)]? = some (vp_cell _ _)
        rw [← hc.1.2.1, e1, vp_cell_q]
        rfl
    · cases hs
  · cases hs
theorem cats_eq (hE : EVok E) (r : List PV) : ((r.map (cv (eax E))).map fun v => v.category).sum = (r.map cat).sum := by
  rw [List.map_map]
  congr 1
  exact List.map_congr_left (fun v _ => cv_cat _ (hE.1.nr _) v)
theorem aq_copy {k : Nat} (F : FC E p s m args meth c mi) (hRf : 1 ≤ R.frames) (hRl : 40 ≤ R.locals) (hlink : Cond.methodLink (cn (mOwn mi)) k arraycopyName ∈ TB) (hd : decode (mCode mi) pc = .ok (.invokestatic k, 3)) (hs : s_copy pc ls st g I = nx pc' ls' st' g' I') (kk : WW E p l e R s m args below meth c Q mi n0 s0 pc' ls' st' g' I') : WW E p l e R s m args below meth c Q mi n0 s0 pc ls st g I := by
  obtain ⟨hx, hb, hr, hml, hown, hts, hlk, hnm, hV, hX, hbs, hE⟩ := F
  unfold s_copy at hs
  split at hs
  · rename_i n dp a sp a0 r
    split at hs
    · rename_i hl
      obtain ⟨hk0, hk1, hn0, hdp0, hsp0, hle0, hle1, hcat⟩ := hl
      obtain ⟨rfl, rfl, rfl, rfl, rfl⟩ := nx_inj hs
      intro lsM H locs hc
      have hPX := hc.1.2.2.2
      have hP := hc.1.2.2.1
      have rn : r32 n := hc.2.2.2.1 (vi n) (by simp)
      have rdp : r32 dp := hc.2.2.2.1 (vi dp) (by simp)
      have rsp : r32 sp := hc.2.2.2.1 (vi sp) (by simp)
      have hok : ∀ w ∈ r, okP w := okT (okT (okT (okT (okT hc.2.2.2.1))))
      obtain ⟨h5, hlt⟩ := hPX.own (a := a) (Or.inl (by omega))
      obtain ⟨b5, blt⟩ := hPX.own (a := a0) (Or.inl (by omega))
      have he := ws_get E g I h5 hlt
      rw [cE_int E hk1] at he
      have hbe := ws_get E g I b5 blt
      rw [cE_int E hk0] at hbe
      rw [List.map_cons, List.map_cons, List.map_cons, List.map_cons, List.map_cons]
      change W p l e R s m args below meth c H locs _ _ Q (F0 m _ lsM (.int (Int32.ofInt n) :: .int (Int32.ofInt dp) :: eax E a :: .int (Int32.ofInt sp) :: eax E a0 :: _))
      rw [hc.ax hE h5, hc.ax hE b5]
      have hc0 : H[eBase E + (a0 - 5)]? = some (vp_cell (eI E) ((gK g a0).2, .inl (fun j => Int32.ofInt (I a0 j)))) := hP (a0 - 5) _ hbe
      have hc1 : H[eBase E + (a - 5)]? = some (vp_cell (eI E) ((gK g a).2, .inl (fun j => Int32.ofInt (I a j)))) := hP (a - 5) _ he
      have neg : ∀ z : Int, r32 z → 0 ≤ z → ¬ Int32.ofInt z < 0 := fun z hz h q => by rw [← of32_0, of32_lt hz r32_0] at q; omega
      intro T hT X
      obtain ⟨-, kI, hkI, cmI, hkkI⟩ := (hV.1.2 0 _ rfl).1 0 (fun _ => .null)
      obtain ⟨vm', X', step⟩ := X.arraycopy hx hown (hts _ hlink) (hts _ AC_nat) (hts _ AC_stat) (hts _ AC_ini) (src := eBase E + (a0 - 5)) (dst := eBase E + (a - 5)) (cs := vp_cell (eI E) ((gK g a0).2, .inl (fun j => Int32.ofInt (I a0 j)))) (cd := vp_cell (eI E) ((gK g a).2, .inl (fun j => Int32.ofInt (I a j)))) (srcPos := Int32.ofInt sp) (destPos := Int32.ofInt dp) (n := Int32.ofInt n) (by rw [hT]; exact hc0) (by rw [hT]; exact hc1)
        (fun _ h => by cases h) (fun _ h => by cases h) (fun h => by cases h) (fun h => by cases h) hkI hkI hkkI hkkI (by simp) (neg sp rsp hsp0) (neg dp rdp hdp0) (neg n rn hn0)
        (by rw [of32 rsp, of32 rn]; show ¬ _ > ((arrV (eI E) (gK g a0).2 (fun j => .int (Int32.ofInt (I a0 j)))).slots.size : Int); rw [arrV_size]; omega)
        (by rw [of32 rdp, of32 rn]; show ¬ _ > ((arrV (eI E) (gK g a).2 (fun j => .int (Int32.ofInt (I a j)))).slots.size : Int); rw [arrV_size]; omega)
        (fun vm₁ _ i hi => by
          rw [of32_clamp rn] at hi
          have e : (vp_cell (eI E) ((gK g a0).2, .inl (fun j => Int32.ofInt (I a0 j)))).slots.getD ((Int32.ofInt sp).toNatClampNeg + i) .null = .int (Int32.ofInt (I a0 ((Int32.ofInt sp).toNatClampNeg + i))) := by
            show (arrV (eI E) (gK g a0).2 (fun j => .int (Int32.ofInt (I a0 j)))).slots.getD _ _ = _
            rw [Array.getD_eq_getD_getElem?, of32_clamp rsp, arrV_read _ _ (by omega)]
            rfl
          refine ⟨?_, ?_⟩
          · rw [e]
            rfl
          · rw [e]
            exact trivial)
        (g := F0 m pc lsM (.int (Int32.ofInt n) :: .int (Int32.ofInt dp) :: .ref (eBase E + (a - 5)) :: .int (Int32.ofInt sp) :: .ref (eBase E + (a0 - 5)) :: r.map (cv (eax E)))) rfl (by rw [hml, ← hc.2.2.1.1.1]) (rest := r.map (cv (eax E))) rfl (by rw [hb]; exact hd) hRf (by
          show 2 * 0 + _ + (nativeFrameWords "java/lang/System" "arraycopy" 5 + 11) ≤ _
          rw [cats_eq hE]
          have : nativeFrameWords "java/lang/System" "arraycopy" 5 = 7 := by decide +kernel
          omega)
      have e1 : copied (vp_cell (eI E) ((gK g a0).2, .inl (fun j => Int32.ofInt (I a0 j)))) (vp_cell (eI E) ((gK g a).2, .inl (fun j => Int32.ofInt (I a j)))) (Int32.ofInt sp) (Int32.ofInt dp) (Int32.ofInt n) = vp_cell (eI E) ((gK g a).2, .inl (va_cpy (fun j => Int32.ofInt (I a0 j)) (fun j => Int32.ofInt (I a j)) sp.toNat dp.toNat n.toNat)) := by
        have h4 : (Int32.ofInt sp).toNatClampNeg + (Int32.ofInt n).toNatClampNeg ≤ (gK g a0).2 := by rw [of32_clamp rsp, of32_clamp rn]; omega
        rw [← of32_clamp rsp, ← of32_clamp rdp, ← of32_clamp rn]
        exact va_copied (fun z => .int z) (eI E) (eI E) (n1 := (gK g a).2) (dp := (Int32.ofInt dp).toNatClampNeg) (fun j => Int32.ofInt (I a0 j)) (fun j => Int32.ofInt (I a j)) h4
      rw [e1] at X' step
      have hlH : eBase E + (a - 5) < H.size := (Array.getElem?_eq_some_iff.mp hc1).1
      generalize hcell : vp_cell (eI E) ((gK g a).2, .inl (va_cpy (fun j => Int32.ofInt (I a0 j)) (fun j => Int32.ofInt (I a j)) sp.toNat dp.toNat n.toNat)) = cellN at X' step
      have hheap : ((T.setVm vm').setCell (eBase E + (a - 5)) cellN).heap = H.setIfInBounds (eBase E + (a - 5)) cellN := by rw [← hT]; rfl
      have oq : ∀ q : Nat, q ≠ eBase E + (a - 5) → (H.setIfInBounds (eBase E + (a - 5)) cellN)[q]? = H[q]? := fun q hq => by simp [Array.getElem?_setIfInBounds, Ne.symm hq]
      have hz : (H.setIfInBounds (eBase E + (a - 5)) cellN).size = H.size := by simp
      obtain ⟨t, b1, b2⟩ := kk lsM _ _ (hc.wr rfl rfl hz (by
        rw [ws_set E (g := g) (g' := g) (I := I) (I' := icpy I a0 sp.toNat a dp.toNat n.toNat) h5 hlt rfl (fun _ _ => rfl) (fun _ _ => rfl) (fun b hb => if_neg hb)]
        refine hP.set (ws_D E g I) he ?_ oq
        rw [cE_int E hk1]
        show (H.setIfInBounds (eBase E + (a - 5)) cellN)[eBase E + (a - 5)]? = some (vp_cell _ _)
        rw [← hcell]
        simp only [Array.getElem?_setIfInBounds, hlH, if_true]
        congr 4
        funext j
        unfold va_cpy icpy
        rw [if_pos rfl]
        split <;> rfl) (PX_cpy hPX h5 (by omega)) ⟨by rw [hz]; exact hc.2.1.1, fun q g1 g2 => by
          rw [oq q (fun e => g2 (by rw [e]; exact Nat.le_add_right _ _))]
          exact hc.2.1.2.1 q g1 g2, fun q hq => by
          rcases List.mem_append.mp hq with h | h
          · exact hc.2.1.2.2 q h
          · obtain ⟨z, -, hz⟩ := List.mem_map.mp h
            rw [← hz]
            exact Nat.le_add_right _ _⟩ hok) _ hheap X'
      exact ⟨t, step t b1, b2⟩
    · cases hs
  · cases hs
theorem aq_mx {k : Nat} (F : FC E p s m args meth c mi) (hRf : 1 ≤ R.frames) (hRl : 40 ≤ R.locals) (hRc : gN g - n0 ≤ R.cells) (hRs : gS g - s0 ≤ R.slots) (hlink : Cond.methodLink (cn (mOwn mi)) k Lib.Math.max.name ∈ TB) (hd : decode (mCode mi) pc = .ok (.invokestatic k, 3)) (hs : s_mx max pc ls st g I = nx pc' ls' st' g' I') (kk : WW E p l e R s m args below meth c Q mi n0 s0 pc' ls' st' g' I') : WW E p l e R s m args below meth c Q mi n0 s0 pc ls st g I := by
  obtain ⟨hx, hb, hr, hml, hown, hts, hlk, hnm, hV, hX, hbs, hE⟩ := F
  unfold s_mx at hs
  split at hs
  · rename_i y x r
    split at hs
    · rename_i hl
      obtain ⟨rfl, rfl, rfl, rfl, rfl⟩ := nx_inj hs
      intro lsM H locs hc
      have hy : r32 y := hc.2.2.2.1 (vi y) (by simp)
      have hx2 : r32 x := hc.2.2.2.1 (vi x) (by simp)
      have hok : ∀ w ∈ r, okP w := okT (okT hc.2.2.2.1)
      have hm : r32 (max x y) := by unfold r32 at *; omega
      have kw := kk lsM H locs (hc.stk (okC (v := vi (max x y)) hm hok))
      refine va_mmax hx hb (by rw [hml, hc.2.2.1.1.1]) hown (hts _ hlink) (hts _ MM_max.1) (hts _ MM_ini) (hts _ MM_max.2) hRf (by rw [cats_eq hE]; omega) hRc hRs hd ?_
      have e1 : (if Int32.ofInt x < Int32.ofInt y then Int32.ofInt y else Int32.ofInt x) = Int32.ofInt (max x y) := by
        by_cases h : x < y
        · rw [if_pos ((of32_lt hx2 hy).mpr h), Int.max_eq_right (by omega)]
        · rw [if_neg (fun q => h ((of32_lt hx2 hy).mp q)), Int.max_eq_left (by omega)]
      rw [e1]
      exact kw
    · cases hs
  · cases hs
theorem aq_mn {k : Nat} (F : FC E p s m args meth c mi) (hRf : 1 ≤ R.frames) (hRl : 40 ≤ R.locals) (hRc : gN g - n0 ≤ R.cells) (hRs : gS g - s0 ≤ R.slots) (hlink : Cond.methodLink (cn (mOwn mi)) k Lib.Math.min.name ∈ TB) (hd : decode (mCode mi) pc = .ok (.invokestatic k, 3)) (hs : s_mx min pc ls st g I = nx pc' ls' st' g' I') (kk : WW E p l e R s m args below meth c Q mi n0 s0 pc' ls' st' g' I') : WW E p l e R s m args below meth c Q mi n0 s0 pc ls st g I := by
  obtain ⟨hx, hb, hr, hml, hown, hts, hlk, hnm, hV, hX, hbs, hE⟩ := F
  unfold s_mx at hs
  split at hs
  · rename_i y x r
    split at hs
    · rename_i hl
      obtain ⟨rfl, rfl, rfl, rfl, rfl⟩ := nx_inj hs
      intro lsM H locs hc
      have hy : r32 y := hc.2.2.2.1 (vi y) (by simp)
      have hx2 : r32 x := hc.2.2.2.1 (vi x) (by simp)
      have hok : ∀ w ∈ r, okP w := okT (okT hc.2.2.2.1)
      have hm : r32 (min x y) := by unfold r32 at *; omega
      have kw := kk lsM H locs (hc.stk (okC (v := vi (min x y)) hm hok))
      refine va_mmin hx hb (by rw [hml, hc.2.2.1.1.1]) hown (hts _ hlink) (hts _ MM_min.1) (hts _ MM_ini) (hts _ MM_min.2) hRf (by rw [cats_eq hE]; omega) hRc hRs hd ?_
      have e1 : (if Int32.ofInt y < Int32.ofInt x then Int32.ofInt y else Int32.ofInt x) = Int32.ofInt (min x y) := by
        by_cases h : y < x
        · rw [if_pos ((of32_lt hy hx2).mpr h), Int.min_eq_right (by omega)]
        · rw [if_neg (fun q => h ((of32_lt hy hx2).mp q)), Int.min_eq_left (by omega)]
      rw [e1]
      exact kw
    · cases hs
  · cases hs
theorem aq_mxl {k : Nat} (F : FC E p s m args meth c mi) (hRf : 1 ≤ R.frames) (hRl : 40 ≤ R.locals) (hRc : gN g - n0 ≤ R.cells) (hRs : gS g - s0 ≤ R.slots) (hlink : Cond.methodLink (cn (mOwn mi)) k Lib.MathLoose.max_long.x ∈ TB) (hd : decode (mCode mi) pc = .ok (.invokestatic k, 3)) (hs : s_mxl pc ls st g I = nx pc' ls' st' g' I') (kk : WW E p l e R s m args below meth c Q mi n0 s0 pc' ls' st' g' I') : WW E p l e R s m args below meth c Q mi n0 s0 pc ls st g I := by
  obtain ⟨hx, hb, hr, hml, hown, hts, hlk, hnm, hV, hX, hbs, hE⟩ := F
  unfold s_mxl at hs
  split at hs
  · rename_i y x r
    split at hs
    · rename_i hl
      obtain ⟨rfl, rfl, rfl, rfl, rfl⟩ := nx_inj hs
      intro lsM H locs hc
      have hy : r64 y := hc.2.2.2.1 (vl y) (by simp)
      have hx2 : r64 x := hc.2.2.2.1 (vl x) (by simp)
      have hok : ∀ w ∈ r, okP w := okT (okT hc.2.2.2.1)
      have hm : r64 (max x y) := by unfold r64 at *; omega
      have kw := kk lsM H locs (hc.stk (okC (v := vl (max x y)) hm hok))
      refine va_mmax_long hx hb (by rw [hml, hc.2.2.1.1.1]) hown (hts _ hlink) (hts _ MM_maxl.1) (hts _ MM_ini) (hts _ MM_maxl.2) hRf (by rw [cats_eq hE]; omega) hRc hRs hd ?_
      have e1 : (if Int64.ofInt y < Int64.ofInt x then Int64.ofInt x else Int64.ofInt y) = Int64.ofInt (max x y) := by
        by_cases h : y < x
        · rw [if_pos ((of64_lt hy hx2).mpr h), Int.max_eq_left (by omega)]
        · rw [if_neg (fun q => h ((of64_lt hy hx2).mp q)), Int.max_eq_right (by omega)]
      rw [e1]
      exact kw
    · cases hs
  · cases hs
end AQE

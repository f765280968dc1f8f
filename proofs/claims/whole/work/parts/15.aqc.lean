-- ADEQUACY, one step: the heap
theorem vw_all {ci : Nat} {r : vw_C} (h : vwCl[ci]? = some r) : (∀ w ∈ u_ws r.1 r.2.1 r.2.2, w ∈ TB) ∧ (∀ k, k < r.2.2 → parseFieldDescriptor (r.2.1 k).2.2.1 = some (tyOf ci k)) ∧ (∀ a, a < r.2.2 → ∀ b, b < r.2.2 → a ≠ b → (r.2.1 a).2.1 ≠ (r.2.1 b).2.1) ∧ NS.getD ci 0 = r.2.2 ∧ cName ci = r.1 := by
  match ci, h with
  | 0, h => cases h; exact ⟨lay_X0, tyX0_ok, nmX0, rfl, rfl⟩
  | 1, h => cases h; exact ⟨lay_X1, tyX1_ok, nmX1, rfl, rfl⟩
  | 2, h => cases h; exact ⟨lay_X2, tyX2_ok, nmX2, rfl, rfl⟩
  | 3, h => cases h; exact ⟨lay_X3, tyX3_ok, nmX3, rfl, rfl⟩
  | 4, h => cases h; exact ⟨lay_X4, tyX4_ok, nmX4, rfl, rfl⟩
  | 5, h => cases h; exact ⟨lay_X5, tyX5_ok, nmX5, rfl, rfl⟩
  | 6, h => cases h; exact ⟨lay_X6, tyX6_ok, nmX6, rfl, rfl⟩
  | 7, h => cases h; exact ⟨lay_X7, tyX7_ok, nmX7, rfl, rfl⟩
  | 8, h => cases h; exact ⟨lay_X9, tyX9_ok, nmX9, rfl, rfl⟩
  | 9, h => cases h; exact ⟨lay_X10, tyX10_ok, nmX10, rfl, rfl⟩
  | 10, h => cases h; exact ⟨lay_X11, tyX11_ok, nmX11, rfl, rfl⟩
  | 11, h => cases h; exact ⟨lay_X12, tyX12_ok, nmX12, rfl, rfl⟩
  | k + 12, h => simp [vwCl] at h
theorem fvs_get (E : EV) {ci k : Nat} (row : Nat → Int) (rr : Nat → Option Nat) (hk : k < NS.getD ci 0) : (fvs E ci row rr)[k]? = some (fval E ci k (row k) (rr k)) := by
  unfold fvs
  rw [List.getElem?_map, List.getElem?_range hk]
  rfl
theorem fvs_len (E : EV) (ci : Nat) (row : Nat → Int) (rr : Nat → Option Nat) : (fvs E ci row rr).length = NS.getD ci 0 := by simp [fvs]
theorem fvs_set (E : EV) {ci k : Nat} {row row' : Nat → Int} {rr rr' : Nat → Option Nat} (hk : k < NS.getD ci 0) {v : Value} (hv : fval E ci k (row' k) (rr' k) = v) (h1 : ∀ j, j ≠ k → row' j = row j) (h2 : ∀ j, j ≠ k → rr' j = rr j) : fvs E ci row' rr' = (fvs E ci row rr).set k v := by
  apply List.ext_getElem?
  intro j
  by_cases hj : j = k
  · subst hj
    rw [fvs_get E row' rr' hk, List.getElem?_set_self (by rw [fvs_len]; exact hk), hv]
  · rw [List.getElem?_set_ne (fun q => hj q.symm)]
    by_cases hl : j < NS.getD ci 0
    · rw [fvs_get E row' rr' hl, fvs_get E row rr hl, h1 j hj, h2 j hj]
    · rw [List.getElem?_eq_none (by rw [fvs_len]; omega), List.getElem?_eq_none (by rw [fvs_len]; omega)]
theorem cE_obj (E : EV) {kd : Nat × Nat} (h : kd.1 = 0) (row : Nat → Int) (rr : Nat → Option Nat) : cE E kd row rr = .inr (kd.2, fvs E kd.2 row rr) := by unfold cE; rw [if_pos h]
theorem cE_int (E : EV) {kd : Nat × Nat} (h : kd.1 = 1) (row : Nat → Int) (rr : Nat → Option Nat) : cE E kd row rr = .inl (eI E, kd.2, .inl (fun j => Int32.ofInt (row j))) := by unfold cE; rw [if_neg (by omega), if_pos h]
theorem cE_long (E : EV) {kd : Nat × Nat} (h : kd.1 = 2) (row : Nat → Int) (rr : Nat → Option Nat) : cE E kd row rr = .inl (eJ E, kd.2, .inr (.inl (fun j => Int64.ofInt (row j)))) := by unfold cE; rw [if_neg (by omega), if_neg (by omega), if_pos h]
theorem cE_ref (E : EV) {kd : Nat × Nat} (h : kd.1 = 3) (row : Nat → Int) (rr : Nat → Option Nat) : cE E kd row rr = .inl (eT E, kd.2, .inr (.inr (.inr (.inr (fun j => (rr j).map (fun k => eBase E + (k - 5))))))) := by unfold cE; rw [if_neg (by omega), if_neg (by omega), if_neg (by omega)]
theorem up_ne {I : II} {a b k : Nat} {v : Int} (h : b ≠ a) : up I a k v b = I b := if_neg h
theorem up_at {I : II} {a k j : Nat} {v : Int} : up I a k v a j = if j = k then v else I a j := by unfold up; rw [if_pos rfl]
theorem gput_ne {g : GG} {a b k : Nat} {r : Option Nat} (h : b ≠ a) : gR (gput g a k r) b = gR g b := by funext j; show (if b = a then _ else g.2.1 b) j = _; rw [if_neg h]; rfl
theorem gput_at {g : GG} {a k j : Nat} {r : Option Nat} : gR (gput g a k r) a j = if j = k then r else gR g a j := by show (if a = a then _ else g.2.1 a) j = _; rw [if_pos rfl]; rfl
section AQC
variable {E : EV} {p : Program} {l : Launch} {e : Env} {R : Room} {s : State} {m : MethodId} {args : Array Value} {below : List Frame} {meth : Method} {c : Code} {Q : State → Prop} {mi n0 s0 : Nat}
variable {pc pc' len : Nat} {ls ls' : LL} {st st' : List PV} {g g' : GG} {I I' : II}
theorem CU.ax {H : Heap} {locs : List Loc} {lsM : Array Slot} {nL : Nat} (h : CU E s H locs lsM nL ls st g I n0 s0) (hE : EVok E) {a : Nat} (ha : 5 ≤ a) : eax E a = .ref (eBase E + (a - 5)) := hE.1.2.2.2.2 a (by omega)
theorem aq_getf {k : Nat} (F : FC E p s m args meth c mi) (hd : decode (mCode mi) pc = .ok (.getfield k, len)) (hs : s_getf (mOwn mi) k len pc ls st g I = nx pc' ls' st' g' I') (kk : WW E p l e R s m args below meth c Q mi n0 s0 pc' ls' st' g' I') : WW E p l e R s m args below meth c Q mi n0 s0 pc ls st g I := by
  obtain ⟨hx, hb, hr, hml, hown, hts, hlk, hnm, hV, hX, hbs, hE⟩ := F
  unfold s_getf at hs
  split at hs
  · rename_i j ty cs a r hk
    split at hs
    · rename_i hl
      obtain ⟨rfl, hk0, hcs⟩ := hl
      obtain ⟨rfl, rfl, rfl, rfl, rfl⟩ := nx_inj hs
      intro lsM H locs hc
      have hPX := hc.1.2.2.2
      have hok : ∀ w ∈ r, okP w := okT hc.2.2.2.1
      rcases FT_ok _ (lookup_mem hk) with ⟨h12, hf⟩ | ⟨ref, hf⟩
      · have h12 : cs = [12] := h12
        subst h12
        have hcl : (gK g a).2 = 12 := List.mem_singleton.mp hcs
        have ha1 : a = 1 := by
          rcases Nat.lt_or_ge a 5 with q | q
          · obtain ⟨⟨k0, -, k1, -, -, k2, -, k3, k4⟩, -⟩ := hPX
            rcases (by omega : a = 0 ∨ a = 1 ∨ a = 2 ∨ a = 3 ∨ a = 4) with rfl | rfl | rfl | rfl | rfl
            · rw [k0] at hk0; cases hk0
            · rfl
            · rw [k2] at hk0; cases hk0
            · omega
            · omega
          · have := hPX.2.2.2.2.2 a q (hPX.lt (by omega))
            omega
        subst ha1
        have hsS := (hX.2.1.1 0 (by omega))
        rw [List.map_cons]
        change W p l e R s m args below meth c H locs _ _ Q (F0 m _ lsM (eax E 1 :: _))
        rw [hE.1.2.1]
        rcases hf with ⟨hj, hty, hlink⟩ | ⟨hj, hty, hlink⟩
        · have hj : j = 0 := hj
          have hty : ty = 22 := hty
          subst hj; subst hty
          have k2 := kk lsM H locs (hc.stk (okC (v := vr (gR g 1 0)) trivial hok))
          rw [List.map_cons, if_pos rfl, hPX.1.2.2.2.1] at k2
          change W p l e R s m args below meth c H locs _ _ Q (F0 m _ lsM (eax E 2 :: _)) at k2
          rw [hE.1.2.2.1] at k2
          exact vk_getf hx hb hsS.2.2.1 hc.2.1 hown (hts _ hlink) (fun _ h => h) hd k2
        · have hj : j = 1 := hj
          have hty : ty = 20 := hty
          subst hj; subst hty
          have k2 := kk lsM H locs (hc.stk (okC (v := vi (I 1 1)) (hPX.2.2.1 1 1 (by rw [hPX.1.2.2.1]; decide)) hok))
          rw [List.map_cons, if_neg (by decide), hPX.1.2.2.2.2.1] at k2
          exact vk_getf hx hb hsS.2.1 hc.2.1 hown (hts _ hlink) (fun _ h => h) hd k2
      · obtain ⟨q, hq, hci, hkn, hlink, hsame, href, -⟩ := hf _ hcs
        obtain ⟨hlay, -, -, hNS, -⟩ := vw_all hq
        obtain ⟨h5, hlt⟩ := hPX.own (a := a) (Or.inr ⟨hk0, hci⟩)
        rw [List.map_cons]
        change W p l e R s m args below meth c H locs _ _ Q (F0 m _ lsM (eax E a :: _))
        rw [hc.ax hE h5]
        have he := ws_get E g I h5 hlt
        rw [cE_obj E hk0] at he
        refine va_get hx hb hts hlay hown hV.1 hc.1.2.2.1 (a - 5) he hq j hkn (hts _ hlink) ?_ (v := fval E (gK g a).2 j (I a j) (gR g a j)) (fvs_get E _ _ (by rw [hNS]; exact hkn)) hd ?_
        · intro x hxx
          rcases hsame with h | h
          · have h : ref = (q.2.1 j).1 := h
            rw [h]; exact hxx
          · exact u_same (hts _ h) x hxx
        · have href : isRefT (tyOf (gK g a).2 j) = decide (ty % 10 = 2) := href
          by_cases ht : ty % 10 = 2
          · have k2 := kk lsM H locs (hc.stk (by rw [if_pos ht]; exact okC (v := vr (gR g a j)) trivial hok))
            rw [List.map_cons, if_pos ht] at k2
            unfold fval
            rw [href, decide_eq_true ht, if_pos rfl]
            exact k2
          · have k2 := kk lsM H locs (hc.stk (by rw [if_neg ht]; exact okC (v := vi (I a j)) (hPX.2.2.1 a j (by omega)) hok))
            rw [List.map_cons, if_neg ht] at k2
            unfold fval
            rw [href, decide_eq_false ht, if_neg (by decide)]
            exact k2
    · cases hs
  · cases hs
/-- behind a write: the relation again -/
theorem CU.wr {H H1 : Heap} {locs locs1 : List Loc} {lsM : Array Slot} {nL : Nat} (h : CU E s H locs lsM nL ls st g I n0 s0) (hn : gN g' = gN g) (hS' : gS g' = gS g) (hz : H1.size = H.size) (hP : va_P (eD E) vwCl (wsOf E g' I') H1) (hPX : PX E g' I') (hS : va_S (eA E) s.heap H1 locs1) (hok : ∀ v ∈ st', okP v) : CU E s H1 locs1 lsM nL ls st' g' I' n0 s0 :=
  ⟨⟨by rw [hn]; exact h.1.1, by rw [hz, hn]; exact h.1.2.1, hP, hPX⟩, hS, h.2.2.1, hok, by rw [hn]; exact h.2.2.2.2.1, by rw [hS']; exact h.2.2.2.2.2⟩
end AQC

-- ADEQUACY, one step: writes
section AQD
variable {E : EV} {p : Program} {l : Launch} {e : Env} {R : Room} {s : State} {m : MethodId} {args : Array Value} {below : List Frame} {meth : Method} {c : Code} {Q : State → Prop} {mi n0 s0 : Nat}
variable {pc pc' len : Nat} {ls ls' : LL} {st st' : List PV} {g g' : GG} {I I' : II}
theorem pz_put (F : FC E p s m args meth c mi) {H : Heap} {locs : List Loc} {lsM : Array Slot} (hc : CU E s H locs lsM (mMax mi) ls st g I n0 s0) {a j k ty : Nat} {q : vw_C} {ref : String} {v : Value} {rest : List Value}
    (hk0 : (gK g a).1 = 0) (h5 : 5 ≤ a) (hlt : a < gN g) (hq : vwCl[(gK g a).2]? = some q) (hj : j < q.2.2) (hlink : Cond.fieldLink (cn (mOwn mi)) k ref (q.2.1 j).2.1 (q.2.1 j).2.2.1 ∈ TB) (hsame : ref = (q.2.1 j).1 ∨ Cond.sameField ref (q.2.1 j).1 (q.2.1 j).2.1 (q.2.1 j).2.2.1 ∈ TB)
    (hnf : ty < 10 → (q.2.1 j).2.2.2 = false) (hf : 10 ≤ ty → ty < 20 → (q.2.1 j).2.2.2 = true ∧ (q.2.1 j).1 = cn (mOwn mi)) (h20 : ty < 20) (hin : 10 ≤ ty → (mY mi).name = "<init>")
    (hn : narrow (tyOf (gK g a).2 j) v = v) (hfit : fits (tyOf (gK g a).2 j) v = true)
    (hgn : gN g' = gN g) (hgs : gS g' = gS g) (hgk : ∀ b, gK g' b = gK g b) (hgr : ∀ b, b ≠ a → gR g' b = gR g b) (hgi : ∀ b, b ≠ a → I' b = I b) (hset : fvs E (gK g a).2 (I' a) (gR g' a) = (fvs E (gK g a).2 (I a) (gR g a)).set j v) (hPX : PX E g' I') (hok : ∀ w ∈ st', okP w)
    (hd : decode (mCode mi) pc = .ok (.putfield k, 3)) (kk : ∀ (H1 : Heap) (locs1 : List Loc), CU E s H1 locs1 lsM (mMax mi) ls st' g' I' n0 s0 → W p l e R s m args below meth c H1 locs1 (gN g - n0) (gS g - s0) Q (F0 m (pc + 3) lsM rest)) :
    W p l e R s m args below meth c H locs (gN g - n0) (gS g - s0) Q (F0 m pc lsM (v :: .ref (eBase E + (a - 5)) :: rest)) := by
  obtain ⟨hx, hb, hr, hml, hown, hts, hlk, hnm, hV, hX, hbs, hE⟩ := F
  obtain ⟨hlay, hty, hnms, hNS, -⟩ := vw_all hq
  have he := ws_get E g I h5 hlt
  rw [cE_obj E hk0] at he
  have hP := hc.1.2.2.1
  have hD := ws_D E g I
  have hap := va_apart (own := cn (mOwn mi)) hts hlay (tyOf (gK g a).2) hty hnms hV.1 hq
  obtain ⟨r, h1, cell, q1, q2, q3, q4⟩ := hP (a - 5) _ he
  have hrq : r = q := Option.some.inj (h1.symm.trans hq)
  subst hrq
  obtain ⟨hSl, hfc, kC, hkC, hkind⟩ := hV.1.1 _ _ hq
  obtain ⟨cf, kf, fi, f, hi, hsl⟩ := hSl j hj
  have hlay1 := hts _ (hlay _ (u_in_lay hj))
  have hst := (u_facts hfc hkC (u_lays hts hlay hj) hi).1
  have hsame' : ∀ x, s.fieldFound? (r.2.1 j).1 (r.2.1 j).2.1 (r.2.1 j).2.2.1 = some x → s.fieldFound? ref (r.2.1 j).2.1 (r.2.1 j).2.2.1 = some x := by
    intro x hxx
    rcases hsame with h | h
    · rw [h]; exact hxx
    · exact u_same (hts _ h) x hxx
  have fin : ∀ (H' : Heap), H'[eBase E + (a - 5)]? = some (cell.setSlot f.slot v) → H'.size = H.size → (∀ q, q ≠ eBase E + (a - 5) → H'[q]? = H[q]?) → W p l e R s m args below meth c H' (locs ++ [⟨eBase E + (a - 5), f.slot⟩]) (gN g - n0) (gS g - s0) Q (F0 m (pc + 3) lsM rest) := by
    intro H' e1 e2 e3
    rw [hsl] at e1
    refine kk H' _ (hc.wr hgn hgs e2 ?_ hPX (hc.2.1.put e2 e3 (Nat.le_add_right _ _)) hok)
    rw [ws_set E (g := g) (g' := g') (I := I) (I' := I') h5 hlt hgn (fun b _ => hgk b) hgr hgi]
    refine hP.set hD he ?_ e3
    rw [hgk a, cE_obj E hk0, hset]
    have hlen : j < (fvs E (gK g a).2 (I a) (gR g a)).length := by rw [fvs_len, hNS]; exact hj
    exact ⟨r, hq, t_OB.to (V := updV (vp_V (fvs E (gK g a).2 (I a) (gR g a))) j v) ⟨_, e1, q2, q3, t_set q4 hap hj v⟩ (fun i _ => vp_updV_set hlen v i)⟩
  rcases Nat.lt_or_ge ty 10 with h10 | h10
  · unfold u_lay at hlay1
    rw [if_neg (by rw [hnf h10]; decide)] at hlay1
    have h6 := u_store hfc hkC hkind hlay1 hi (hty j hj) hn hfit
    exact W.putK hx hb (f := f) ⟨hown, hts _ hlink, ⟨_, _, _, hsame' _ hi⟩, hst⟩ (by rw [q2]; exact h6) q1 q3 (by rw [hsl]; exact k2_hasslot (q4 j hj)) rfl rfl hd fin
  · obtain ⟨hf1, hf2⟩ := hf h10 h20
    unfold u_lay at hlay1
    rw [if_pos hf1] at hlay1
    have hcf : m.cls = cf := by
      obtain ⟨_, _, c', _, _, _, -, -, hf', -, -, -, hown2, -⟩ := Cond.laysFinal_spec hlay1
      have e1 : c' = cf := by have := hi.symm.trans hf'; simp at this; exact this.1.symm
      rw [hf2] at hown2
      rw [← e1]; exact Option.some.inj (hown.symm.trans hown2)
    have h6 := u_fits hfc hkC hkind (Or.inr hlay1) hi (hty j hj) hn hfit
    exact W.putFinK hx hb hown (hts _ hlink) (hsame' _ hi) hst hcf ((hnm (hin h10)).trans (hin h10)) (by rw [q2]; exact h6) q1 q3 (by rw [hsl]; exact k2_hasslot (q4 j hj)) rfl rfl hd fin
theorem aq_putf {k : Nat} (F : FC E p s m args meth c mi) (hd : decode (mCode mi) pc = .ok (.putfield k, len)) (hs : s_putf mi (mOwn mi) k len pc ls st g I = nx pc' ls' st' g' I') (kk : WW E p l e R s m args below meth c Q mi n0 s0 pc' ls' st' g' I') : WW E p l e R s m args below meth c Q mi n0 s0 pc ls st g I := by
  have hE : EVok E := F.2.2.2.2.2.2.2.2.2.2.2
  unfold s_putf at hs
  split at hs
  · rename_i j ty cs x a r hk
    split at hs
    · rename_i hl
      obtain ⟨rfl, hk0, hcs, h20, hin, hxt⟩ := hl
      obtain ⟨rfl, rfl, rfl, rfl, rfl⟩ := nx_inj hs
      intro lsM H locs hc
      have hPX := hc.1.2.2.2
      have hx0 : r32 x := hc.2.2.2.1 (vi x) (by simp)
      have hok : ∀ w ∈ r, okP w := okT (okT hc.2.2.2.1)
      rcases FT_ok _ (lookup_mem hk) with ⟨-, ⟨-, h, -⟩ | ⟨-, h, -⟩⟩ | ⟨ref, hf⟩
      · have h : ty = 22 := h
        omega
      · have h : ty = 20 := h
        omega
      · obtain ⟨q, hq, hci, hkn, hlink, hsame, href, hnf, hfi, ht0, ht1⟩ := hf _ hcs
        obtain ⟨-, -, -, hNS, -⟩ := vw_all hq
        obtain ⟨h5, hlt⟩ := hPX.own (a := a) (Or.inr ⟨hk0, hci⟩)
        have ht0 : ty % 10 = 0 → tyOf (gK g a).2 j = .int := ht0
        have ht1 : ty % 10 = 1 → tyOf (gK g a).2 j = .boolean := ht1
        have href : isRefT (tyOf (gK g a).2 j) = decide (ty % 10 = 2) := href
        rw [List.map_cons, List.map_cons]
        change W p l e R s m args below meth c H locs _ _ Q (F0 m _ lsM (.int (Int32.ofInt x) :: eax E a :: _))
        rw [hc.ax hE h5]
        have hnfit : narrow (tyOf (gK g a).2 j) (.int (Int32.ofInt x)) = .int (Int32.ofInt x) ∧ fits (tyOf (gK g a).2 j) (.int (Int32.ofInt x)) = true := by
          rcases hxt with h | ⟨h, h2⟩
          · rw [ht0 h]; exact ⟨rfl, rfl⟩
          · rw [ht1 h]
            rcases h2 with rfl | rfl <;> exact ⟨by decide +kernel, by decide +kernel⟩
        have hPX' : PX E g (up I a j x) := PX_up hPX h5 (r32_r64 hx0) (fun _ => hx0)
        refine pz_put (g' := g) (I' := up I a j x) F hc hk0 h5 hlt hq hkn hlink hsame hnf hfi h20 hin hnfit.1 hnfit.2 rfl rfl (fun _ => rfl) (fun _ _ => rfl) (fun b hb => up_ne hb) ?_ hPX' hok hd (fun H1 locs1 hc1 => kk lsM H1 locs1 hc1)
        refine fvs_set E (by rw [hNS]; exact hkn) ?_ (fun i hi => by rw [up_at, if_neg hi]) (fun _ _ => rfl)
        rw [up_at, if_pos rfl]
        unfold fval
        rw [href, decide_eq_false (by omega), if_neg (by decide)]
    · cases hs
  · rename_i j ty cs x a r hk
    split at hs
    · rename_i hl
      obtain ⟨rfl, hk0, hcs, h20, hin, hxt, hx5⟩ := hl
      obtain ⟨rfl, rfl, rfl, rfl, rfl⟩ := nx_inj hs
      intro lsM H locs hc
      have hPX := hc.1.2.2.2
      have hok : ∀ w ∈ r, okP w := okT (okT hc.2.2.2.1)
      rcases FT_ok _ (lookup_mem hk) with ⟨-, ⟨-, h, -⟩ | ⟨-, h, -⟩⟩ | ⟨ref, hf⟩
      · have h : ty = 22 := h
        omega
      · have h : ty = 20 := h
        omega
      · obtain ⟨q, hq, hci, hkn, hlink, hsame, href, hnf, hfi, -, -⟩ := hf _ hcs
        obtain ⟨-, -, -, hNS, -⟩ := vw_all hq
        obtain ⟨h5, hlt⟩ := hPX.own (a := a) (Or.inr ⟨hk0, hci⟩)
        have href : isRefT (tyOf (gK g a).2 j) = decide (ty % 10 = 2) := href
        rw [List.map_cons, List.map_cons]
        change W p l e R s m args below meth c H locs _ _ Q (F0 m _ lsM (eax E x :: eax E a :: _))
        rw [hc.ax hE h5, hc.ax hE hx5]
        rw [decide_eq_true hxt] at href
        have hnfit : narrow (tyOf (gK g a).2 j) (.ref (eBase E + (x - 5))) = .ref (eBase E + (x - 5)) ∧ fits (tyOf (gK g a).2 j) (.ref (eBase E + (x - 5))) = true := by
          generalize tyOf (gK g a).2 j = ty0 at href
          cases ty0 <;> first | (exact ⟨rfl, rfl⟩) | (cases href)
        have hPX' : PX E (gput g a j (some x)) I := PX_put hPX h5 hx5
        refine pz_put (g' := gput g a j (some x)) (I' := I) F hc hk0 h5 hlt hq hkn hlink hsame hnf hfi h20 hin hnfit.1 hnfit.2 rfl rfl (fun _ => rfl) (fun b hb => gput_ne hb) (fun _ _ => rfl) ?_ hPX' hok hd (fun H1 locs1 hc1 => kk lsM H1 locs1 hc1)
        refine fvs_set E (by rw [hNS]; exact hkn) ?_ (fun _ _ => rfl) (fun i hi => by rw [gput_at, if_neg hi])
        rw [gput_at, if_pos rfl]
        unfold fval
        rw [href, if_pos rfl]
        exact hc.ax hE hx5
    · cases hs
  · cases hs
theorem aq_iald (F : FC E p s m args meth c mi) (hd : decode (mCode mi) pc = .ok (.iaload, len)) (hs : s_iald len pc ls st g I = nx pc' ls' st' g' I') (kk : WW E p l e R s m args below meth c Q mi n0 s0 pc' ls' st' g' I') : WW E p l e R s m args below meth c Q mi n0 s0 pc ls st g I := by
  obtain ⟨hx, hb, hr, hml, hown, hts, hlk, hnm, hV, hX, hbs, hE⟩ := F
  unfold s_iald at hs
  split at hs
  · rename_i i a r
    split at hs
    · rename_i hl
      obtain ⟨rfl, hkd, h0, hlen⟩ := hl
      obtain ⟨rfl, rfl, rfl, rfl, rfl⟩ := nx_inj hs
      intro lsM H locs hc
      have hPX := hc.1.2.2.2
      have hi0 : r32 i := hc.2.2.2.1 (vi i) (by simp)
      have hok : ∀ w ∈ r, okP w := okT (okT hc.2.2.2.1)
      have kw := kk lsM H locs (hc.stk (okC (v := vi (I a i.toNat)) (hPX.2.2.1 a _ (by omega)) hok))
      rw [List.map_cons, List.map_cons]
      change W p l e R s m args below meth c H locs _ _ Q (F0 m _ lsM (.int (Int32.ofInt i) :: eax E a :: _))
      rcases hkd with h1 | h5
      · obtain ⟨h5, hlt⟩ := hPX.own (a := a) (Or.inl (by omega))
        rw [hc.ax hE h5]
        have he := ws_get E g I h5 hlt
        rw [cE_int E h1] at he
        refine va_iald hx hb hV.1 hc.1.2.2.1 (a - 5) 0 he rfl (of32_in hi0 h0 hlen) hd ?_
        rw [of32_clamp hi0]
        exact kw
      · have ha : a = 0 := by
          rcases Nat.lt_or_ge a 5 with q | q
          · obtain ⟨⟨k0, -, k1, -, -, k2, -, k3, k4⟩, -⟩ := hPX
            rcases (by omega : a = 0 ∨ a = 1 ∨ a = 2 ∨ a = 3 ∨ a = 4) with rfl | rfl | rfl | rfl | rfl
            · rfl
            · rw [k1] at h5; cases h5
            · rw [k2] at h5; cases h5
            · omega
            · omega
          · have := hPX.2.2.2.2.2 a q (hPX.lt (by omega))
            omega
        subst ha
        rw [hPX.1.1] at hlen
        have hlen : i < (eL E : Int) := hlen
        rw [hE.1.1]
        refine va_sld hx hb hX.1 hbs (Nat.not_le.mpr hE.2.1) hc.2.1 (of32_in hi0 h0 hlen) hd ?_
        rw [of32_clamp hi0]
        rw [hPX.1.2.1 _ (by omega)] at kw
        rw [List.map_cons] at kw
        change W p l e R s m args below meth c H locs _ _ Q (F0 m _ lsM (.int (Int32.ofInt (exs E i.toNat).toInt) :: _)) at kw
        rw [Int32.ofInt_toInt] at kw
        exact kw
    · cases hs
  · cases hs
theorem aq_lald (F : FC E p s m args meth c mi) (hd : decode (mCode mi) pc = .ok (.laload, len)) (hs : s_lald len pc ls st g I = nx pc' ls' st' g' I') (kk : WW E p l e R s m args below meth c Q mi n0 s0 pc' ls' st' g' I') : WW E p l e R s m args below meth c Q mi n0 s0 pc ls st g I := by
  obtain ⟨hx, hb, hr, hml, hown, hts, hlk, hnm, hV, hX, hbs, hE⟩ := F
  unfold s_lald at hs
  split at hs
  · rename_i i a r
    split at hs
    · rename_i hl
      obtain ⟨rfl, h1, h0, hlen⟩ := hl
      obtain ⟨rfl, rfl, rfl, rfl, rfl⟩ := nx_inj hs
      intro lsM H locs hc
      have hPX := hc.1.2.2.2
      have hi0 : r32 i := hc.2.2.2.1 (vi i) (by simp)
      have hok : ∀ w ∈ r, okP w := okT (okT hc.2.2.2.1)
      have k2 := kk lsM H locs (hc.stk (okC (v := vl (I a i.toNat)) (hPX.2.2.2.1 a _) hok))
      rw [List.map_cons, List.map_cons]
      change W p l e R s m args below meth c H locs _ _ Q (F0 m _ lsM (.int (Int32.ofInt i) :: eax E a :: _))
      obtain ⟨h5, hlt⟩ := hPX.own (a := a) (Or.inl (by omega))
      rw [hc.ax hE h5]
      have he := ws_get E g I h5 hlt
      rw [cE_long E h1] at he
      refine va_lald hx hb hV.1 hc.1.2.2.1 (a - 5) 1 he rfl (of32_in hi0 h0 hlen) hd ?_
      rw [of32_clamp hi0]
      exact k2
    · cases hs
  · cases hs
theorem aq_bald (F : FC E p s m args meth c mi) (hd : decode (mCode mi) pc = .ok (.baload, len)) (hs : s_bald len pc ls st g I = nx pc' ls' st' g' I') (kk : WW E p l e R s m args below meth c Q mi n0 s0 pc' ls' st' g' I') : WW E p l e R s m args below meth c Q mi n0 s0 pc ls st g I := by
  obtain ⟨hx, hb, hr, hml, hown, hts, hlk, hnm, hV, hX, hbs, hE⟩ := F
  unfold s_bald at hs
  split at hs
  · rename_i i a r
    split at hs
    · rename_i hl
      obtain ⟨rfl, h4, h0, hlen⟩ := hl
      obtain ⟨rfl, rfl, rfl, rfl, rfl⟩ := nx_inj hs
      intro lsM H locs hc
      have hPX := hc.1.2.2.2
      have hi0 : r32 i := hc.2.2.2.1 (vi i) (by simp)
      have hok : ∀ w ∈ r, okP w := okT (okT hc.2.2.2.1)
      have kw := kk lsM H locs (hc.stk (okC (v := vi (I a i.toNat)) (hPX.2.2.1 a _ (by omega)) hok))
      rw [List.map_cons, List.map_cons]
      change W p l e R s m args below meth c H locs _ _ Q (F0 m _ lsM (.int (Int32.ofInt i) :: eax E a :: _))
      have ha : a = 2 := by
        rcases Nat.lt_or_ge a 5 with q | q
        · obtain ⟨⟨k0, -, k1, -, -, k2, -, k3, k4⟩, -⟩ := hPX
          rcases (by omega : a = 0 ∨ a = 1 ∨ a = 2 ∨ a = 3 ∨ a = 4) with rfl | rfl | rfl | rfl | rfl
          · rw [k0] at h4; cases h4
          · rw [k1] at h4; cases h4
          · rfl
          · omega
          · omega
        · have := hPX.2.2.2.2.2 a q (hPX.lt (by omega))
          omega
      subst ha
      rw [hPX.1.2.2.2.2.2.1] at hlen
      have hlen : i < ((6 : Nat) : Int) := hlen
      rw [hE.1.2.2.1]
      refine va_tb hx hb (hX.2.1.1 0 (by omega)).2.2.2 hc.2.1 (of32_in hi0 h0 hlen) (v := .int (Int32.ofInt (I 2 i.toNat))) ?_ hd kw
      rw [of32_clamp hi0, hPX.1.2.2.2.2.2.2.1 _ (by omega)]
      have : ∀ j, j < 6 → Value.int ((([KL32] : List (List Int32)).getD 0 []).getD j 0) = Value.int (Int32.ofInt (KL.getD j 0)) := by decide +kernel
      exact this _ (by omega)
    · cases hs
  · cases hs
theorem rf_eq {x : Option Nat} (hE : EVok E) (h : ∀ r, x = some r → 5 ≤ r) : va_rf (x.map (fun k => eBase E + (k - 5))) = rfv (eax E) x := by
  cases x with
  | none => rfl
  | some r => exact (hE.1.2.2.2.2 r (by have := h r rfl; omega)).symm
theorem aq_aald (F : FC E p s m args meth c mi) (hd : decode (mCode mi) pc = .ok (.aaload, len)) (hs : s_aald len pc ls st g I = nx pc' ls' st' g' I') (kk : WW E p l e R s m args below meth c Q mi n0 s0 pc' ls' st' g' I') : WW E p l e R s m args below meth c Q mi n0 s0 pc ls st g I := by
  obtain ⟨hx, hb, hr, hml, hown, hts, hlk, hnm, hV, hX, hbs, hE⟩ := F
  unfold s_aald at hs
  split at hs
  · rename_i i a r
    split at hs
    · rename_i hl
      obtain ⟨rfl, h1, h0, hlen⟩ := hl
      obtain ⟨rfl, rfl, rfl, rfl, rfl⟩ := nx_inj hs
      intro lsM H locs hc
      have hPX := hc.1.2.2.2
      have hi0 : r32 i := hc.2.2.2.1 (vi i) (by simp)
      have hok : ∀ w ∈ r, okP w := okT (okT hc.2.2.2.1)
      have k2 := kk lsM H locs (hc.stk (okC (v := vr (gR g a i.toNat)) trivial hok))
      rw [List.map_cons, List.map_cons]
      change W p l e R s m args below meth c H locs _ _ Q (F0 m _ lsM (.int (Int32.ofInt i) :: eax E a :: _))
      obtain ⟨h5, hlt⟩ := hPX.own (a := a) (Or.inl (by omega))
      rw [hc.ax hE h5]
      have he := ws_get E g I h5 hlt
      rw [cE_ref E h1] at he
      refine va_aldq hx hb hV.1 hc.1.2.2.1 (a - 5) 2 he rfl (of32_in hi0 h0 hlen) hd ?_
      rw [of32_clamp hi0, rf_eq hE (fun r hr => hPX.2.2.2.2.1 a _ r h5 hr)]
      exact k2
    · cases hs
  · cases hs
theorem aq_iast (F : FC E p s m args meth c mi) (hd : decode (mCode mi) pc = .ok (.iastore, len)) (hs : s_iast len pc ls st g I = nx pc' ls' st' g' I') (kk : WW E p l e R s m args below meth c Q mi n0 s0 pc' ls' st' g' I') : WW E p l e R s m args below meth c Q mi n0 s0 pc ls st g I := by
  obtain ⟨hx, hb, hr, hml, hown, hts, hlk, hnm, hV, hX, hbs, hE⟩ := F
  unfold s_iast at hs
  split at hs
  · rename_i x i a r
    split at hs
    · rename_i hl
      obtain ⟨rfl, h1, h0, hlen⟩ := hl
      obtain ⟨rfl, rfl, rfl, rfl, rfl⟩ := nx_inj hs
      intro lsM H locs hc
      have hPX := hc.1.2.2.2
      have hx0 : r32 x := hc.2.2.2.1 (vi x) (by simp)
      have hi0 : r32 i := hc.2.2.2.1 (vi i) (by simp)
      have hok : ∀ w ∈ r, okP w := okT (okT (okT hc.2.2.2.1))
      rw [List.map_cons, List.map_cons, List.map_cons]
      change W p l e R s m args below meth c H locs _ _ Q (F0 m _ lsM (.int (Int32.ofInt x) :: .int (Int32.ofInt i) :: eax E a :: _))
      obtain ⟨h5, hlt⟩ := hPX.own (a := a) (Or.inl (by omega))
      rw [hc.ax hE h5]
      have he := ws_get E g I h5 hlt
      rw [cE_int E h1] at he
      have hin := of32_in (n := (gK g a).2) hi0 h0 hlen
      refine W.iast hx hb (hc.1.2.2.1 (a - 5) _ he) ((hV.1.2 0 _ rfl).1 (gK g a).2 (fun j => .int (Int32.ofInt (I a j)))) (fun q => by cases q) (by show ¬ (_ ∨ (arrV _ _ _).slots.size ≤ _); rw [arrV_size]; exact hin) rfl rfl hd fun H1 e1 z oq => ?_
      refine kk lsM H1 _ (hc.wr rfl rfl z ?_ (PX_up hPX h5 (r32_r64 hx0) (fun _ => hx0)) (hc.2.1.put z oq (Nat.le_add_right _ _)) hok)
      rw [ws_set E (g := g) (g' := g) (I := I) (I' := up I a i.toNat x) h5 hlt rfl (fun _ _ => rfl) (fun _ _ => rfl) (fun b hb => up_ne hb)]
      refine hc.1.2.2.1.set (ws_D E g I) he ?_ oq
      rw [cE_int E h1]
      show H1[eBase E + (a - 5)]? = some (vp_cell _ _)
      rw [e1, vp_cell_i, vp_cell_i, arrV_store, of32_clamp hi0]
      congr 2
      funext q
      by_cases hq : q = i.toNat
      · subst hq
        simp [updV, up_at]
      · simp [updV, up_at, hq]
    · cases hs
  · cases hs
theorem aq_last (F : FC E p s m args meth c mi) (hd : decode (mCode mi) pc = .ok (.lastore, len)) (hs : s_last len pc ls st g I = nx pc' ls' st' g' I') (kk : WW E p l e R s m args below meth c Q mi n0 s0 pc' ls' st' g' I') : WW E p l e R s m args below meth c Q mi n0 s0 pc ls st g I := by
  obtain ⟨hx, hb, hr, hml, hown, hts, hlk, hnm, hV, hX, hbs, hE⟩ := F
  unfold s_last at hs
  split at hs
  · rename_i x i a r
    split at hs
    · rename_i hl
      obtain ⟨rfl, h1, h0, hlen⟩ := hl
      obtain ⟨rfl, rfl, rfl, rfl, rfl⟩ := nx_inj hs
      intro lsM H locs hc
      have hPX := hc.1.2.2.2
      have hx0 : r64 x := hc.2.2.2.1 (vl x) (by simp)
      have hi0 : r32 i := hc.2.2.2.1 (vi i) (by simp)
      have hok : ∀ w ∈ r, okP w := okT (okT (okT hc.2.2.2.1))
      rw [List.map_cons, List.map_cons, List.map_cons]
      change W p l e R s m args below meth c H locs _ _ Q (F0 m _ lsM (.long (Int64.ofInt x) :: .int (Int32.ofInt i) :: eax E a :: _))
      obtain ⟨h5, hlt⟩ := hPX.own (a := a) (Or.inl (by omega))
      rw [hc.ax hE h5]
      have he := ws_get E g I h5 hlt
      rw [cE_long E h1] at he
      have hin := of32_in (n := (gK g a).2) hi0 h0 hlen
      refine W.last hx hb (hc.1.2.2.1 (a - 5) _ he) ((hV.1.2 1 _ rfl).1 (gK g a).2 (fun j => .long (Int64.ofInt (I a j)))) (fun q => by cases q) (by show ¬ (_ ∨ (arrV _ _ _).slots.size ≤ _); rw [arrV_size]; exact hin) rfl rfl hd fun H1 e1 z oq => ?_
      refine kk lsM H1 _ (hc.wr rfl rfl z ?_ (PX_up hPX h5 hx0 (fun h => absurd h1 h)) (hc.2.1.put z oq (Nat.le_add_right _ _)) hok)
      rw [ws_set E (g := g) (g' := g) (I := I) (I' := up I a i.toNat x) h5 hlt rfl (fun _ _ => rfl) (fun _ _ => rfl) (fun b hb => up_ne hb)]
      refine hc.1.2.2.1.set (ws_D E g I) he ?_ oq
      rw [cE_long E h1]
      show H1[eBase E + (a - 5)]? = some (vp_cell _ _)
      rw [e1, vp_cell_l, vp_cell_l, arrV_store, of32_clamp hi0]
      congr 2
      funext q
      by_cases hq : q = i.toNat
      · subst hq
        simp [updV, up_at]
      · simp [updV, up_at, hq]
    · cases hs
  · cases hs
end AQD

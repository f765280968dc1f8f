-- ADEQUACY: a step that goes on, whatever its instruction
theorem nx_no {pc' : Nat} {ls' : LL} {st' : List PV} {g' : GG} {I' : II} (h : (none : RS) = nx pc' ls' st' g' I') : False := by cases h
theorem rt_no {v : Option PV} {pc' : Nat} {ls' : LL} {st' : List PV} {g' : GG} {I' : II} (h : rt v = nx pc' ls' st' g' I') : False := by cases h
theorem i8_of {n : Int} (h1 : -128 ≤ n) (h2 : n < 128) : (Int8.ofInt n).toInt32 = Int32.ofInt n := by
  rw [← Int32.toInt_inj, Int8.toInt_toInt32, of32 ⟨by omega, by omega⟩, Int8.toInt_ofInt_of_le (by omega) (by omega)]
theorem i16_of {n : Int} (h1 : -32768 ≤ n) (h2 : n < 32768) : (Int16.ofInt n).toInt32 = Int32.ofInt n := by
  rw [← Int32.toInt_inj, Int16.toInt_toInt32, of32 ⟨by omega, by omega⟩, Int16.toInt_ofInt_of_le (by omega) (by omega)]
section AQG
variable {E : EV} {p : Program} {l : Launch} {e : Env} {R : Room} {s : State} {m : MethodId} {args : Array Value} {below : List Frame} {meth : Method} {c : Code} {Q : State → Prop} {mi n0 s0 : Nat}
variable {pc pc' : Nat} {ls ls' : LL} {st st' : List PV} {g g' : GG} {I I' : II}
theorem iret_nx {mi len : Nat} (hs : s_iret mi len st = nx pc' ls' st' g' I') : False := by
  unfold s_iret at hs
  split at hs
  · split at hs <;> cases hs
  · cases hs
theorem lret_nx {mi len : Nat} (hs : s_lret mi len st = nx pc' ls' st' g' I') : False := by
  unfold s_lret at hs
  split at hs
  · split at hs <;> cases hs
  · cases hs
theorem aret_nx {mi len : Nat} (hs : s_aret mi len st = nx pc' ls' st' g' I') : False := by
  unfold s_aret at hs
  split at hs
  · split at hs <;> cases hs
  · cases hs
theorem vret_nx {mi len : Nat} (hs : s_vret mi len st = nx pc' ls' st' g' I') : False := by
  unfold s_vret at hs
  split at hs
  · split at hs <;> cases hs
  · cases hs
set_option maxHeartbeats 4000000 in
theorem step_next (F : FC E p s m args meth c mi) (hRf : 1 ≤ R.frames) (hRl : 40 ≤ R.locals) (hRc : gN g' - n0 ≤ R.cells) (hRs : gS g' - s0 ≤ R.slots) (hg1 : gN g ≤ gN g') (hg2 : gS g ≤ gS g') (hs : step mi pc ls st g I = nx pc' ls' st' g' I') (kk : WW E p l e R s m args below meth c Q mi n0 s0 pc' ls' st' g' I') : WW E p l e R s m args below meth c Q mi n0 s0 pc ls st g I := by
  have hx : p.tables.exec = Jvm.exec := F.1
  have hb : c.code = mCode mi := F.2.1
  have hE : EVok E := F.2.2.2.2.2.2.2.2.2.2.2
  unfold step at hs
  split at hs
  rotate_left
  · cases hs
  rename_i i len hd
  replace hs : stepI mi i len pc ls st g I = nx pc' ls' st' g' I' := by
    split at hs
    · exact onlyN_nx hs
    · exact hs
  cases i with
  | iconst n =>
    change (if len = 1 ∧ -1 ≤ n ∧ n ≤ 5 then nx (pc + 1) ls (vi n :: st) g I else none) = _ at hs
    split at hs
    · rename_i h
      obtain ⟨rfl, h1, h2⟩ := h
      obtain ⟨rfl, rfl, rfl, rfl, rfl⟩ := nx_inj hs
      exact aq_push (v := vi n) ⟨by omega, by omega⟩ kk (fun rest lsM H locs cells slots k => lv_iconst hx hb hd rfl k)
    · cases hs
  | bipush n =>
    change (if len = 2 ∧ -128 ≤ n ∧ n < 128 then nx (pc + 2) ls (vi n :: st) g I else none) = _ at hs
    split at hs
    · rename_i h
      obtain ⟨rfl, h1, h2⟩ := h
      obtain ⟨rfl, rfl, rfl, rfl, rfl⟩ := nx_inj hs
      exact aq_push (v := vi n) ⟨by omega, by omega⟩ kk (fun rest lsM H locs cells slots k => lv_bipush hx hb hd (i8_of h1 h2) k)
    · cases hs
  | sipush n =>
    change (if len = 3 ∧ -32768 ≤ n ∧ n < 32768 then nx (pc + 3) ls (vi n :: st) g I else none) = _ at hs
    split at hs
    · rename_i h
      obtain ⟨rfl, h1, h2⟩ := h
      obtain ⟨rfl, rfl, rfl, rfl, rfl⟩ := nx_inj hs
      exact aq_push (v := vi n) ⟨by omega, by omega⟩ kk (fun rest lsM H locs cells slots k => lv_sipush hx hb hd (i16_of h1 h2) k)
    · cases hs
  | lconst n =>
    change (if len = 1 then nx (pc + 1) ls (vl ((n : Nat) : Int) :: st) g I else none) = _ at hs
    split at hs
    · rename_i h
      subst h
      obtain ⟨rfl, rfl, rfl, rfl, rfl⟩ := nx_inj hs
      have hn : (n : Nat) < 2 := n.isLt
      exact aq_push (v := vl ((n : Nat) : Int)) ⟨by omega, by omega⟩ kk (fun rest lsM H locs cells slots k => lv_lconst hx hb hd Int64.ofInt_eq_ofNat.symm k)
    · cases hs
  | ldc k => exact aq_ldc F hd hs kk
  | ldc_w k => exact aq_ldcw F hd hs kk
  | ldc2_w k => exact aq_ldc2 F hd hs kk
  | iload_n k => exact aq_ild (k := (k : Nat)) hs (fun h x rest lsM H locs cells slots hl kw => by subst h; exact lv_iload_n hx hb hd rfl hl kw) kk
  | iload k => exact aq_ild hs (fun h x rest lsM H locs cells slots hl kw => by subst h; exact lv_iload hx hb hd hl kw) kk
  | lload_n k => exact aq_lld (k := (k : Nat)) hs (fun h x rest lsM H locs cells slots hl kw => by subst h; exact lv_lload_n hx hb hd rfl hl kw) kk
  | lload k => exact aq_lld hs (fun h x rest lsM H locs cells slots hl kw => by subst h; exact lv_lload hx hb hd hl kw) kk
  | aload_n k => exact aq_ald (k := (k : Nat)) hE hs (fun h x rest lsM H locs cells slots hl kw => by subst h; exact lv_aload_n hx hb hd rfl hl kw) (fun h rest lsM H locs cells slots hl kw => by subst h; exact lv_aload_nN hx hb hd rfl hl kw) kk
  | aload k => exact aq_ald hE hs (fun h x rest lsM H locs cells slots hl kw => by subst h; exact lv_aload hx hb hd hl kw) (fun h rest lsM H locs cells slots hl kw => by subst h; exact lv_aloadN hx hb hd hl kw) kk
  | istore_n k => exact aq_ist (k := (k : Nat)) hE hs (fun h x nL lv rest lsM H locs cells slots h1 h2 kw => by subst h; exact lv_istore_n hx hb hd rfl h1 h2 rfl kw) kk
  | istore k => exact aq_ist hE hs (fun h x nL lv rest lsM H locs cells slots h1 h2 kw => by subst h; exact lv_istore hx hb hd h1 h2 rfl kw) kk
  | lstore_n k => exact aq_lst (k := (k : Nat)) hE hs (fun h x nL lv rest lsM H locs cells slots h1 h2 kw => by subst h; exact lv_lstore_n hx hb hd rfl h1 h2 rfl kw) kk
  | lstore k => exact aq_lst hE hs (fun h x nL lv rest lsM H locs cells slots h1 h2 kw => by subst h; exact lv_lstore hx hb hd h1 h2 rfl kw) kk
  | astore_n k => exact aq_ast (k := (k : Nat)) hE hs (fun h x nL lv rest lsM H locs cells slots h1 h2 kw => by subst h; exact lv_astore_n hx hb hd rfl h1 h2 rfl kw) (fun h nL lv rest lsM H locs cells slots h1 h2 kw => by subst h; exact lv_astore_nN hx hb hd rfl h1 h2 rfl kw) kk
  | astore k => exact aq_ast hE hs (fun h x nL lv rest lsM H locs cells slots h1 h2 kw => by subst h; exact lv_astore hx hb hd h1 h2 rfl kw) (fun h nL lv rest lsM H locs cells slots h1 h2 kw => by subst h; exact lv_astoreN hx hb hd h1 h2 rfl kw) kk
  | iinc k n => exact aq_iinc hE hs (fun h x v nL q lv rest lsM H locs cells slots h1 h2 h3 h4 kw => by subst h; exact lv_iinc hx hb hd h1 h2 h3 h4 rfl kw) kk
  | iadd => exact aq_i2 (F := fun x y => x + y) hs (fun h x y rest lsM H locs cells slots kw => by subst h; exact lv_iadd hx hb hd kw) kk
  | isub => exact aq_i2 (F := fun x y => x - y) hs (fun h x y rest lsM H locs cells slots kw => by subst h; exact lv_isub hx hb hd kw) kk
  | imul => exact aq_i2 (F := fun x y => x * y) hs (fun h x y rest lsM H locs cells slots kw => by subst h; exact lv_imul hx hb hd kw) kk
  | iand => exact aq_i2 (F := fun x y => x &&& y) hs (fun h x y rest lsM H locs cells slots kw => by subst h; exact lv_iand hx hb hd kw) kk
  | idiv => exact aq_id (F := fun x y => x / y) hs (fun h x y hne rest lsM H locs cells slots kw => by subst h; exact lv_idiv hx hb hd hne kw) kk
  | irem => exact aq_id (F := fun x y => x - x / y * y) hs (fun h x y hne rest lsM H locs cells slots kw => by subst h; exact lv_irem hx hb hd hne kw) kk
  | ineg => exact aq_i1 (F := fun x => -x) hs (fun h x rest lsM H locs cells slots kw => by subst h; exact lv_ineg hx hb hd kw) kk
  | ishl => exact aq_i2 (F := fun x y => x <<< (y &&& 31)) hs (fun h x y rest lsM H locs cells slots kw => by subst h; exact lv_ishl hx hb hd kw) kk
  | ishr => exact aq_i2 (F := fun x y => x >>> (y &&& 31)) hs (fun h x y rest lsM H locs cells slots kw => by subst h; exact lv_ishr hx hb hd kw) kk
  | iushr => exact aq_i2 (F := fun x y => (x.toUInt32 >>> (y.toUInt32 &&& Int32.toUInt32 31)).toInt32) hs (fun h x y rest lsM H locs cells slots kw => by subst h; exact lv_iushr hx hb hd rfl kw) kk
  | i2b => exact aq_i1 (F := fun x => x.toInt8.toInt32) hs (fun h x rest lsM H locs cells slots kw => by subst h; exact lv_i2b hx hb hd rfl kw) kk
  | i2c => exact aq_i1 (F := fun x => (x.toUInt32 % 65536).toInt32) hs (fun h x rest lsM H locs cells slots kw => by subst h; exact lv_i2c hx hb hd rfl kw) kk
  | ladd => exact aq_l2 (F := fun x y => x + y) hs (fun h x y rest lsM H locs cells slots kw => by subst h; exact lv_ladd hx hb hd kw) kk
  | lsub => exact aq_l2 (F := fun x y => x - y) hs (fun h x y rest lsM H locs cells slots kw => by subst h; exact lv_lsub hx hb hd kw) kk
  | lmul => exact aq_l2 (F := fun x y => x * y) hs (fun h x y rest lsM H locs cells slots kw => by subst h; exact lv_lmul hx hb hd kw) kk
  | land => exact aq_l2 (F := fun x y => x &&& y) hs (fun h x y rest lsM H locs cells slots kw => by subst h; exact lv_land hx hb hd kw) kk
  | lor => exact aq_l2 (F := fun x y => x ||| y) hs (fun h x y rest lsM H locs cells slots kw => by subst h; exact lv_lor hx hb hd kw) kk
  | ldiv => exact aq_ldv (F := fun x y => x / y) hs (fun h x y hne rest lsM H locs cells slots kw => by subst h; exact lv_ldiv hx hb hd hne kw) kk
  | lrem => exact aq_ldv (F := fun x y => x - x / y * y) hs (fun h x y hne rest lsM H locs cells slots kw => by subst h; exact lv_lrem hx hb hd hne kw) kk
  | lshl => exact aq_lsh (F := fun x y => x <<< (y.toInt64 &&& 63)) hs (fun h x y rest lsM H locs cells slots kw => by subst h; exact lv_lshl hx hb hd rfl kw) kk
  | lshr => exact aq_lsh (F := fun x y => x >>> (y.toInt64 &&& 63)) hs (fun h x y rest lsM H locs cells slots kw => by subst h; exact lv_lshr hx hb hd rfl kw) kk
  | lushr => exact aq_lsh (F := fun x y => (x.toUInt64 >>> (y.toInt64.toUInt64 &&& Int64.toUInt64 63)).toInt64) hs (fun h x y rest lsM H locs cells slots kw => by subst h; exact lv_lushr hx hb hd rfl kw) kk
  | lcmp => exact aq_lcmp hs (fun h x y rest lsM H locs cells slots kw => by subst h; exact W.lcmp hx hb hd kw) kk
  | i2l => exact aq_i2l hs (fun h x v hv rest lsM H locs cells slots kw => by subst h; exact lv_i2l hx hb hd hv kw) kk
  | l2i => exact aq_l2i hs (fun h x v hv rest lsM H locs cells slots kw => by subst h; exact lv_l2i hx hb hd hv kw) kk
  | ifCond cd off => exact aq_if hx hb hd hs kk
  | if_icmp cd off => exact aq_icmp hx hb hd hs kk
  | goto off =>
    change (if len = 3 then s_go off pc ls st g I else none) = _ at hs
    split at hs
    · rename_i h
      subst h
      exact aq_goto hx hb hd hs kk
    · cases hs
  | tableswitch df lo hi offs => exact aq_tsw hx hb hd hs kk
  | lookupswitch df ps => exact aq_lsw hx hb hd hs kk
  | dup => exact aq_dup hE hx hb hd hs kk
  | dup2 => exact aq_dup2 hE hx hb hd hs kk
  | pop => exact aq_pop hE hx hb hd hs kk
  | getfield k => exact aq_getf F hd hs kk
  | putfield k => exact aq_putf F hd hs kk
  | getstatic k => exact aq_gets F hd hs kk
  | iaload => exact aq_iald F hd hs kk
  | baload => exact aq_bald F hd hs kk
  | laload => exact aq_lald F hd hs kk
  | aaload => exact aq_aald F hd hs kk
  | iastore => exact aq_iast F hd hs kk
  | lastore => exact aq_last F hd hs kk
  | aastore => exact aq_aast F hd hs kk
  | arraylength => exact aq_alen F hd hs kk
  | new k => exact aq_new F hRc hRs hd hs kk
  | newarray at_ =>
    cases at_ with
    | int => exact aq_newI F hRc hRs hd hs kk
    | long => exact aq_newJ F hRc hRs hd hs kk
    | _ => exact (nx_no hs).elim
  | anewarray k => exact aq_anew F hRc hRs hd hs kk
  | invokestatic k =>
    change (if len = 3 then s_static (mOwn mi) k pc ls st g I else none) = _ at hs
    split at hs
    · rename_i h
      subst h
      exact aq_stat F hRf hRl (by omega) (by omega) hd hs kk
    · cases hs
  | invokevirtual k =>
    change (if len = 3 then s_virt (mOwn mi) k pc ls st g I else none) = _ at hs
    split at hs
    · exact (aq_virt hs).elim
    · cases hs
  | invokespecial k =>
    change (if len = 3 then s_spec (mOwn mi) k pc ls st g I else none) = _ at hs
    split at hs
    · rename_i h
      subst h
      exact aq_spec F hRf hRl hd hs kk
    · cases hs
  | ireturn => exact (iret_nx hs).elim
  | lreturn => exact (lret_nx hs).elim
  | areturn => exact (aret_nx hs).elim
  | return_ => exact (vret_nx hs).elim
  | _ => exact (nx_no hs).elim
end AQG

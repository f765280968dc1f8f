-- ADEQUACY, one step: branches, constants
section AQB
variable {E : EV} {p : Program} {l : Launch} {e : Env} {R : Room} {s : State} {m : MethodId} {args : Array Value} {below : List Frame} {meth : Method} {c : Code} {Q : State → Prop} {mi n0 s0 : Nat}
variable {pc pc' len : Nat} {ls ls' : LL} {st st' : List PV} {g g' : GG} {I I' : II}
theorem go_inv {off : Int} (hs : s_go off pc ls st g I = nx pc' ls' st' g' I') : (pc : Int) + off = (pc' : Int) ∧ ls = ls' ∧ st = st' ∧ g = g' ∧ I = I' := by
  unfold s_go at hs
  split at hs
  · rename_i h
    obtain ⟨h1, h2⟩ := nx_inj hs
    exact ⟨by omega, h2⟩
  · cases hs
theorem okT {v : PV} (h : ∀ w ∈ v :: st, okP w) : ∀ w ∈ st, okP w := fun w hw => h w (List.mem_cons_of_mem _ hw)
theorem okC {v : PV} (hv : okP v) (h : ∀ w ∈ st, okP w) : ∀ w ∈ v :: st, okP w := by
  intro w hw
  rcases List.mem_cons.mp hw with rfl | hw
  · exact hv
  · exact h w hw
theorem aq_if {cd : Jvm.ClassFile.Cond} {off : Int} (hx : p.tables.exec = Jvm.exec) (hb : c.code = mCode mi) (hd : decode (mCode mi) pc = .ok (.ifCond cd off, len)) (hs : s_if cd off len pc ls st g I = nx pc' ls' st' g' I') (k : WW E p l e R s m args below meth c Q mi n0 s0 pc' ls' st' g' I') : WW E p l e R s m args below meth c Q mi n0 s0 pc ls st g I := by
  unfold s_if at hs
  split at hs
  · rename_i a r
    split at hs
    · rename_i hl
      obtain ⟨rfl, h0⟩ := hl
      intro lsM H locs hc
      have ha : r32 a := hc.2.2.2.1 (vi a) (by simp)
      have hr : ∀ w ∈ r, okP w := okT hc.2.2.2.1
      have ht : (pc : Int) + off = ((((pc : Int) + off).toNat : Nat) : Int) := by omega
      split at hs
      · rename_i hcmp
        obtain ⟨rfl, rfl, rfl, rfl, rfl⟩ := nx_inj hs
        have kk := k lsM H locs (hc.stk hr)
        cases cd <;> simp only [cmpB, decide_eq_true_eq] at hcmp
        · exact lv_if_eq hx hb hd ht (fun _ => kk) (fun q => absurd ((of32_eq ha r32_0).mpr hcmp) q)
        · exact lv_if_ne hx hb hd ht (fun _ => kk) (fun q => absurd ((of32_eq ha r32_0).mp q) hcmp)
        · exact lv_if_lt hx hb hd ht (fun _ => kk) (fun q => absurd ((of32_lt ha r32_0).mpr hcmp) q)
        · exact lv_if_ge hx hb hd ht (fun _ => kk) (fun q => absurd ((of32_le r32_0 ha).mpr hcmp) q)
        · exact lv_if_gt hx hb hd ht (fun _ => kk) (fun q => absurd ((of32_lt r32_0 ha).mpr hcmp) q)
        · exact lv_if_le hx hb hd ht (fun _ => kk) (fun q => absurd ((of32_le ha r32_0).mpr hcmp) q)
      · rename_i hcmp
        obtain ⟨rfl, rfl, rfl, rfl, rfl⟩ := nx_inj hs
        have kk := k lsM H locs (hc.stk hr)
        cases cd <;> simp only [cmpB, decide_eq_true_eq, ne_eq, Decidable.not_not] at hcmp
        · exact lv_if_eq hx hb hd ht (fun q => absurd ((of32_eq ha r32_0).mp q) hcmp) (fun _ => kk)
        · exact lv_if_ne hx hb hd ht (fun q => absurd ((of32_eq ha r32_0).mpr hcmp) q) (fun _ => kk)
        · exact lv_if_lt hx hb hd ht (fun q => absurd ((of32_lt ha r32_0).mp q) hcmp) (fun _ => kk)
        · exact lv_if_ge hx hb hd ht (fun q => absurd ((of32_le r32_0 ha).mp q) hcmp) (fun _ => kk)
        · exact lv_if_gt hx hb hd ht (fun q => absurd ((of32_lt r32_0 ha).mp q) hcmp) (fun _ => kk)
        · exact lv_if_le hx hb hd ht (fun q => absurd ((of32_le ha r32_0).mp q) hcmp) (fun _ => kk)
    · cases hs
  · cases hs
theorem aq_icmp {cd : Jvm.ClassFile.Cond} {off : Int} (hx : p.tables.exec = Jvm.exec) (hb : c.code = mCode mi) (hd : decode (mCode mi) pc = .ok (.if_icmp cd off, len)) (hs : s_icmp cd off len pc ls st g I = nx pc' ls' st' g' I') (k : WW E p l e R s m args below meth c Q mi n0 s0 pc' ls' st' g' I') : WW E p l e R s m args below meth c Q mi n0 s0 pc ls st g I := by
  unfold s_icmp at hs
  split at hs
  · rename_i b a r
    split at hs
    · rename_i hl
      obtain ⟨rfl, h0⟩ := hl
      intro lsM H locs hc
      have hbb : r32 b := hc.2.2.2.1 (vi b) (by simp)
      have ha : r32 a := hc.2.2.2.1 (vi a) (by simp)
      have hr : ∀ w ∈ r, okP w := okT (okT hc.2.2.2.1)
      have ht : (pc : Int) + off = ((((pc : Int) + off).toNat : Nat) : Int) := by omega
      split at hs
      · rename_i hcmp
        obtain ⟨rfl, rfl, rfl, rfl, rfl⟩ := nx_inj hs
        have kk := k lsM H locs (hc.stk hr)
        cases cd <;> simp only [cmpB, decide_eq_true_eq] at hcmp
        · exact lv_icmp_eq hx hb hd ht (fun _ => kk) (fun q => absurd ((of32_eq ha hbb).mpr hcmp) q)
        · exact lv_icmp_ne hx hb hd ht (fun _ => kk) (fun q => absurd ((of32_eq ha hbb).mp q) hcmp)
        · exact lv_icmp_lt hx hb hd ht (fun _ => kk) (fun q => absurd ((of32_lt ha hbb).mpr hcmp) q)
        · exact lv_icmp_ge hx hb hd ht (fun _ => kk) (fun q => absurd ((of32_le hbb ha).mpr hcmp) q)
        · exact lv_icmp_gt hx hb hd ht (fun _ => kk) (fun q => absurd ((of32_lt hbb ha).mpr hcmp) q)
        · exact lv_icmp_le hx hb hd ht (fun _ => kk) (fun q => absurd ((of32_le ha hbb).mpr hcmp) q)
      · rename_i hcmp
        obtain ⟨rfl, rfl, rfl, rfl, rfl⟩ := nx_inj hs
        have kk := k lsM H locs (hc.stk hr)
        cases cd <;> simp only [cmpB, decide_eq_true_eq, ne_eq, Decidable.not_not] at hcmp
        · exact lv_icmp_eq hx hb hd ht (fun q => absurd ((of32_eq ha hbb).mp q) hcmp) (fun _ => kk)
        · exact lv_icmp_ne hx hb hd ht (fun q => absurd ((of32_eq ha hbb).mpr hcmp) q) (fun _ => kk)
        · exact lv_icmp_lt hx hb hd ht (fun q => absurd ((of32_lt ha hbb).mp q) hcmp) (fun _ => kk)
        · exact lv_icmp_ge hx hb hd ht (fun q => absurd ((of32_le hbb ha).mp q) hcmp) (fun _ => kk)
        · exact lv_icmp_gt hx hb hd ht (fun q => absurd ((of32_lt hbb ha).mp q) hcmp) (fun _ => kk)
        · exact lv_icmp_le hx hb hd ht (fun q => absurd ((of32_le ha hbb).mp q) hcmp) (fun _ => kk)
    · cases hs
  · cases hs
theorem aq_goto {off : Int} (hx : p.tables.exec = Jvm.exec) (hb : c.code = mCode mi) (hd : decode (mCode mi) pc = .ok (.goto off, 3)) (hs : s_go off pc ls st g I = nx pc' ls' st' g' I') (k : WW E p l e R s m args below meth c Q mi n0 s0 pc' ls' st' g' I') : WW E p l e R s m args below meth c Q mi n0 s0 pc ls st g I := by
  obtain ⟨ht, rfl, rfl, rfl, rfl⟩ := go_inv hs
  intro lsM H locs hc
  exact lv_goto hx hb hd ht (k lsM H locs hc)
theorem aq_tsw {df lo hi : Int} {offs : Array Int} (hx : p.tables.exec = Jvm.exec) (hb : c.code = mCode mi) (hd : decode (mCode mi) pc = .ok (.tableswitch df lo hi offs, len)) (hs : s_tsw df lo hi offs pc ls st g I = nx pc' ls' st' g' I') (k : WW E p l e R s m args below meth c Q mi n0 s0 pc' ls' st' g' I') : WW E p l e R s m args below meth c Q mi n0 s0 pc ls st g I := by
  unfold s_tsw at hs
  split at hs
  · rename_i x r
    intro lsM H locs hc
    have ha : r32 x := hc.2.2.2.1 (vi x) (by simp)
    have hr : ∀ w ∈ r, okP w := okT hc.2.2.2.1
    split at hs
    · rename_i ho
      obtain ⟨ht, rfl, rfl, rfl, rfl⟩ := go_inv hs
      exact lv_tableOut hx hb hd (by rw [of32 ha]; exact ho) ht (k lsM H locs (hc.stk hr))
    · rename_i ho
      split at hs
      · rename_i off hoff
        obtain ⟨ht, rfl, rfl, rfl, rfl⟩ := go_inv hs
        exact lv_tableIn hx hb hd (by rw [of32 ha]; exact fun q => ho (Or.inl q)) (by rw [of32 ha]; exact fun q => ho (Or.inr q)) (by rw [of32 ha]; exact hoff) ht (k lsM H locs (hc.stk hr))
      · cases hs
  · cases hs
theorem aq_lsw {df : Int} {ps : Array (Int × Int)} (hx : p.tables.exec = Jvm.exec) (hb : c.code = mCode mi) (hd : decode (mCode mi) pc = .ok (.lookupswitch df ps, len)) (hs : s_lsw df ps pc ls st g I = nx pc' ls' st' g' I') (k : WW E p l e R s m args below meth c Q mi n0 s0 pc' ls' st' g' I') : WW E p l e R s m args below meth c Q mi n0 s0 pc ls st g I := by
  unfold s_lsw at hs
  split at hs
  · rename_i x r
    intro lsM H locs hc
    have ha : r32 x := hc.2.2.2.1 (vi x) (by simp)
    have hr : ∀ w ∈ r, okP w := okT hc.2.2.2.1
    split at hs
    · rename_i ho
      obtain ⟨ht, rfl, rfl, rfl, rfl⟩ := go_inv hs
      exact lv_lookup hx hb hd ho (by rw [of32 ha]) ht (k lsM H locs (hc.stk hr))
    · cases hs
  · cases hs
theorem aq_dup (hE : EVok E) (hx : p.tables.exec = Jvm.exec) (hb : c.code = mCode mi) (hd : decode (mCode mi) pc = .ok (.dup, len)) (hs : s_dup len pc ls st g I = nx pc' ls' st' g' I') (k : WW E p l e R s m args below meth c Q mi n0 s0 pc' ls' st' g' I') : WW E p l e R s m args below meth c Q mi n0 s0 pc ls st g I := by
  unfold s_dup at hs
  split at hs
  · rename_i v r
    split at hs
    · rename_i hl
      obtain ⟨rfl, h1⟩ := hl
      obtain ⟨rfl, rfl, rfl, rfl, rfl⟩ := nx_inj hs
      intro lsM H locs hc
      exact lv_dup hx hb hd ((cv_cat _ (hE.1.nr _) v).trans h1) (k lsM H locs (hc.stk (okC (hc.2.2.2.1 v (by simp)) hc.2.2.2.1)))
    · cases hs
  · cases hs
theorem aq_pop (hE : EVok E) (hx : p.tables.exec = Jvm.exec) (hb : c.code = mCode mi) (hd : decode (mCode mi) pc = .ok (.pop, len)) (hs : s_pop len pc ls st g I = nx pc' ls' st' g' I') (k : WW E p l e R s m args below meth c Q mi n0 s0 pc' ls' st' g' I') : WW E p l e R s m args below meth c Q mi n0 s0 pc ls st g I := by
  unfold s_pop at hs
  split at hs
  · rename_i v r
    split at hs
    · rename_i hl
      obtain ⟨rfl, h1⟩ := hl
      obtain ⟨rfl, rfl, rfl, rfl, rfl⟩ := nx_inj hs
      intro lsM H locs hc
      exact lv_pop hx hb hd ((cv_cat _ (hE.1.nr _) v).trans h1) (k lsM H locs (hc.stk (okT hc.2.2.2.1)))
    · cases hs
  · cases hs
theorem aq_dup2 (hE : EVok E) (hx : p.tables.exec = Jvm.exec) (hb : c.code = mCode mi) (hd : decode (mCode mi) pc = .ok (.dup2, len)) (hs : s_dup2 len pc ls st g I = nx pc' ls' st' g' I') (k : WW E p l e R s m args below meth c Q mi n0 s0 pc' ls' st' g' I') : WW E p l e R s m args below meth c Q mi n0 s0 pc ls st g I := by
  unfold s_dup2 at hs
  split at hs
  · rename_i v w r
    split at hs
    · rename_i hl
      obtain ⟨rfl, h1, h2⟩ := hl
      obtain ⟨rfl, rfl, rfl, rfl, rfl⟩ := nx_inj hs
      intro lsM H locs hc
      exact lv_dup2_11 hx hb hd ((cv_cat _ (hE.1.nr _) v).trans h1) ((cv_cat _ (hE.1.nr _) w).trans h2) (k lsM H locs (hc.stk (okC (hc.2.2.2.1 v (by simp)) (okC (hc.2.2.2.1 w (by simp)) hc.2.2.2.1))))
    · cases hs
  · cases hs
theorem lookup_mem {α β : Type} [BEq α] [LawfulBEq α] {k : α} {v : β} : ∀ {l : List (α × β)}, l.lookup k = some v → (k, v) ∈ l
  | [], h => by cases h
  | (a, b) :: l, h => by
    rw [List.lookup_cons] at h
    split at h
    · rename_i hk
      cases h
      have : k = a := by simpa using hk
      rw [this]
      exact List.mem_cons_self
    · exact List.mem_cons_of_mem _ (lookup_mem h)
theorem aq_ldc {k : Nat} (F : FC E p s m args meth c mi) (hd : decode (mCode mi) pc = .ok (.ldc k, len)) (hs : s_ldc 2 (mOwn mi) k len pc ls st g I = nx pc' ls' st' g' I') (kk : WW E p l e R s m args below meth c Q mi n0 s0 pc' ls' st' g' I') : WW E p l e R s m args below meth c Q mi n0 s0 pc ls st g I := by
  obtain ⟨hx, hb, hr, hml, hown, hts, hlk, hnm, hV, hX, hbs, hE⟩ := F
  unfold s_ldc at hs
  split at hs
  · rename_i v hk
    split at hs
    · rename_i hl
      subst hl
      obtain ⟨rfl, rfl, rfl, rfl, rfl⟩ := nx_inj hs
      rcases CT_ok _ (lookup_mem hk) with ⟨-, h1, h2⟩ | ⟨h, -⟩ | ⟨h, -⟩
      · intro lsM H locs hc
        exact lv_ldc hx hb hown (hts _ h2) hd (kk lsM H locs (hc.stk (okC h1 hc.2.2.2.1)))
      · cases h
      · cases h
    · cases hs
  · rename_i v hk
    split at hs
    · rename_i hl
      obtain ⟨rfl, -⟩ := hl
      obtain ⟨rfl, rfl, rfl, rfl, rfl⟩ := nx_inj hs
      rcases CT_ok _ (lookup_mem hk) with ⟨h, -⟩ | ⟨-, h1⟩ | ⟨h, -⟩
      · cases h
      · intro lsM H locs hc
        have kk2 := kk lsM H locs (hc.stk (okC (v := vr (some 1)) trivial hc.2.2.2.1))
        rw [List.map_cons] at kk2
        change W p l e R s m args below meth c H locs _ _ Q (F0 m _ lsM (eax E 1 :: _)) at kk2
        rw [hE.1.2.1] at kk2
        obtain ⟨-, -, -, -, -, v7, v9⟩ := hV
        rcases h1 with ⟨h1, h2⟩ | ⟨h1, h2⟩
        · have h1 : cn (mOwn mi) = RX7 := h1
          have h2 : k = 78 := h2
          subst h2
          rw [h1] at hown
          exact va_ldcS hx hb hown v7 hd kk2
        · have h1 : cn (mOwn mi) = RX9 := h1
          have h2 : k = 89 := h2
          subst h2
          rw [h1] at hown
          exact va_ldcS hx hb hown v9 hd kk2
      · cases h
    · cases hs
  · cases hs
theorem aq_ldcw {k : Nat} (F : FC E p s m args meth c mi) (hd : decode (mCode mi) pc = .ok (.ldc_w k, len)) (hs : s_ldc 3 (mOwn mi) k len pc ls st g I = nx pc' ls' st' g' I') (kk : WW E p l e R s m args below meth c Q mi n0 s0 pc' ls' st' g' I') : WW E p l e R s m args below meth c Q mi n0 s0 pc ls st g I := by
  obtain ⟨hx, hb, hr, hml, hown, hts, hlk, hnm, hV, hX, hbs, hE⟩ := F
  unfold s_ldc at hs
  split at hs
  · rename_i v hk
    split at hs
    · rename_i hl
      subst hl
      obtain ⟨rfl, rfl, rfl, rfl, rfl⟩ := nx_inj hs
      rcases CT_ok _ (lookup_mem hk) with ⟨-, h1, h2⟩ | ⟨h, -⟩ | ⟨h, -⟩
      · intro lsM H locs hc
        exact lv_ldcw hx hb hown (hts _ h2) hd (kk lsM H locs (hc.stk (okC h1 hc.2.2.2.1)))
      · cases h
      · cases h
    · cases hs
  · split at hs
    · rename_i hl
      exact absurd hl.2 (by decide)
    · cases hs
  · cases hs
theorem aq_ldc2 {k : Nat} (F : FC E p s m args meth c mi) (hd : decode (mCode mi) pc = .ok (.ldc2_w k, len)) (hs : s_ldc2 (mOwn mi) k len pc ls st g I = nx pc' ls' st' g' I') (kk : WW E p l e R s m args below meth c Q mi n0 s0 pc' ls' st' g' I') : WW E p l e R s m args below meth c Q mi n0 s0 pc ls st g I := by
  obtain ⟨hx, hb, hr, hml, hown, hts, hlk, hnm, hV, hX, hbs, hE⟩ := F
  unfold s_ldc2 at hs
  split at hs
  · rename_i v hk
    split at hs
    · rename_i hl
      subst hl
      obtain ⟨rfl, rfl, rfl, rfl, rfl⟩ := nx_inj hs
      rcases CT_ok _ (lookup_mem hk) with ⟨h, -⟩ | ⟨h, -⟩ | ⟨-, h1, h2⟩
      · cases h
      · cases h
      · intro lsM H locs hc
        exact lv_ldc2 hx hb hown (hts _ h2) hd (kk lsM H locs (hc.stk (okC h1 hc.2.2.2.1)))
    · cases hs
  · cases hs
theorem aq_gets {k : Nat} (F : FC E p s m args meth c mi) (hd : decode (mCode mi) pc = .ok (.getstatic k, len)) (hs : s_gets (mOwn mi) k len pc ls st g I = nx pc' ls' st' g' I') (kk : WW E p l e R s m args below meth c Q mi n0 s0 pc' ls' st' g' I') : WW E p l e R s m args below meth c Q mi n0 s0 pc ls st g I := by
  obtain ⟨hx, hb, hr, hml, hown, hts, hlk, hnm, hV, hX, hbs, hE⟩ := F
  unfold s_gets at hs
  split at hs
  · rename_i hk
    split at hs
    · rename_i hl
      subst hl
      obtain ⟨rfl, rfl, rfl, rfl, rfl⟩ := nx_inj hs
      have h1 := lookup_mem hk
      simp only [ST, List.mem_cons, Prod.mk.injEq, List.not_mem_nil, or_false] at h1
      rcases h1 with ⟨⟨h1, h2⟩, -⟩ | ⟨-, h⟩
      · intro lsM H locs hc
        subst h2
        rw [h1] at hown
        exact va_gets hx hb hX.2.2.1 hc.2.1 hown (hts _ ST_ok0) (fun _ h => h) hd (kk lsM H locs (hc.stk (okC (v := vi 1) ⟨by omega, by omega⟩ hc.2.2.2.1)))
      · cases h
    · cases hs
  · rename_i hk
    split at hs
    · rename_i hl
      subst hl
      obtain ⟨rfl, rfl, rfl, rfl, rfl⟩ := nx_inj hs
      have h1 := lookup_mem hk
      simp only [ST, List.mem_cons, Prod.mk.injEq, List.not_mem_nil, or_false] at h1
      rcases h1 with ⟨-, h⟩ | ⟨⟨h1, h2⟩, -⟩
      · cases h
      · intro lsM H locs hc
        subst h2
        rw [h1] at hown
        exact va_gets hx hb hX.2.2.2 hc.2.1 hown (hts _ ST_ok1) (fun _ h => h) hd (kk lsM H locs (hc.stk (okC (v := vr (some 3)) trivial hc.2.2.2.1)))
    · cases hs
  · cases hs
end AQB

-- ADEQUACY: calls of the VM's own (Object's constructor, arraycopy, Math)
section AQF
variable {E : EV} {p : Program} {l : Launch} {e : Env} {R : Room} {s : State} {m : MethodId} {args : Array Value} {below : List Frame} {meth : Method} {c : Code} {Q : State → Prop} {mi n0 s0 : Nat}
variable {pc pc' len : Nat} {ls ls' : LL} {st st' : List PV} {g g' : GG} {I I' : II}
theorem cst_nx {n : Nat} {tg : List (Nat × Nat)} (hs : s_cst n pc tg st = nx pc' ls' st' g' I') : False := by
  unfold s_cst at hs
  split at hs
  · split at hs
    · cases hs
    · cases hs
  · cases hs
theorem cvr_nx {n : Nat} {tg : List (Nat × Nat)} (hs : s_cvr n pc tg st g = nx pc' ls' st' g' I') : False := by
  unfold s_cvr at hs
  split at hs
  · split at hs
    · split at hs
      · cases hs
      · cases hs
    · cases hs
  · cases hs
theorem csp_nx {n : Nat} {tg : List (Nat × Nat)} (hs : s_csp n pc tg st g = nx pc' ls' st' g' I') : False := by
  unfold s_csp at hs
  split at hs
  · split at hs
    · split at hs
      · cases hs
      · cases hs
    · cases hs
  · cases hs
theorem mc_link {q : (Nat × Nat) × (Nat × Nat × List (Nat × Nat))} (h : MCok q) : (q.2.1 = 6 → q.2.2.1 = 0 ∧ Cond.methodLink (cn q.1.1) q.1.2 objectInit ∈ TB) ∧ (q.2.1 = 7 → Cond.methodLink (cn q.1.1) q.1.2 arraycopyName ∈ TB) ∧ (q.2.1 = 8 → Cond.methodLink (cn q.1.1) q.1.2 Lib.Math.max.name ∈ TB) ∧ (q.2.1 = 9 → Cond.methodLink (cn q.1.1) q.1.2 Lib.Math.min.name ∈ TB) ∧ (q.2.1 = 10 → Cond.methodLink (cn q.1.1) q.1.2 Lib.MathLoose.max_long.x ∈ TB) := by
  unfold MCok at h
  generalize q.2.1 = kd at h
  rcases h with ⟨rfl, h⟩ | ⟨rfl, h⟩ | ⟨rfl, h⟩ | ⟨rfl, h⟩ | ⟨rfl, h⟩ | ⟨rfl, h⟩ | ⟨rfl, h⟩ | ⟨rfl, h⟩ | ⟨rfl, h⟩ | ⟨rfl, h⟩ | ⟨rfl, h⟩
  all_goals exact ⟨fun q => by first | exact h | exact absurd q (by decide), fun q => by first | exact h | exact absurd q (by decide), fun q => by first | exact h | exact absurd q (by decide), fun q => by first | exact h | exact absurd q (by decide), fun q => by first | exact h | exact absurd q (by decide)⟩
theorem aq_stat {k : Nat} (F : FC E p s m args meth c mi) (hRf : 1 ≤ R.frames) (hRl : 40 ≤ R.locals) (hRc : gN g - n0 ≤ R.cells) (hRs : gS g - s0 ≤ R.slots) (hd : decode (mCode mi) pc = .ok (.invokestatic k, 3)) (hs : s_static (mOwn mi) k pc ls st g I = nx pc' ls' st' g' I') (kk : WW E p l e R s m args below meth c Q mi n0 s0 pc' ls' st' g' I') : WW E p l e R s m args below meth c Q mi n0 s0 pc ls st g I := by
  unfold s_static at hs
  cases hk : MC.lookup (mOwn mi, k) with
  | none => rw [hk] at hs; cases hs
  | some q =>
    rw [hk] at hs
    have hm := mc_link (MC_ok _ (lookup_mem hk))
    clear hk
    dsimp only at hs hm
    by_cases h0 : q.1 = 0
    · rw [if_pos h0] at hs; exact (cst_nx hs).elim
    rw [if_neg h0] at hs
    by_cases h7 : q.1 = 7
    · rw [if_pos h7] at hs; exact aq_copy F hRf hRl (hm.2.1 h7) hd hs kk
    rw [if_neg h7] at hs
    by_cases h8 : q.1 = 8
    · rw [if_pos h8] at hs; exact aq_mx F hRf hRl hRc hRs (hm.2.2.1 h8) hd hs kk
    rw [if_neg h8] at hs
    by_cases h9 : q.1 = 9
    · rw [if_pos h9] at hs; exact aq_mn F hRf hRl hRc hRs (hm.2.2.2.1 h9) hd hs kk
    rw [if_neg h9] at hs
    by_cases h10 : q.1 = 10
    · rw [if_pos h10] at hs; exact aq_mxl F hRf hRl hRc hRs (hm.2.2.2.2 h10) hd hs kk
    rw [if_neg h10] at hs
    cases hs
theorem aq_virt {k : Nat} (hs : s_virt (mOwn mi) k pc ls st g I = nx pc' ls' st' g' I') : False := by
  unfold s_virt at hs
  cases hk : MC.lookup (mOwn mi, k) with
  | none => rw [hk] at hs; cases hs
  | some q =>
    rw [hk] at hs
    clear hk
    dsimp only at hs
    by_cases h0 : q.1 = 1 ∨ q.1 = 2
    · rw [if_pos h0] at hs; exact cvr_nx hs
    · rw [if_neg h0] at hs; cases hs
theorem aq_spec {k : Nat} (F : FC E p s m args meth c mi) (hRf : 1 ≤ R.frames) (hRl : 40 ≤ R.locals) (hd : decode (mCode mi) pc = .ok (.invokespecial k, 3)) (hs : s_spec (mOwn mi) k pc ls st g I = nx pc' ls' st' g' I') (kk : WW E p l e R s m args below meth c Q mi n0 s0 pc' ls' st' g' I') : WW E p l e R s m args below meth c Q mi n0 s0 pc ls st g I := by
  unfold s_spec at hs
  cases hk : MC.lookup (mOwn mi, k) with
  | none => rw [hk] at hs; cases hs
  | some q =>
    rw [hk] at hs
    have hm := mc_link (MC_ok _ (lookup_mem hk))
    clear hk
    dsimp only at hs hm
    by_cases h6 : q.1 = 6
    · rw [if_pos h6] at hs
      obtain ⟨hx, hb, hr, hml, hown, hts, hlk, hnm, hV, hX, hbs, hE⟩ := F
      unfold s_coi at hs
      split at hs
      · rename_i b r
        split at hs
        · rename_i hl
          obtain ⟨hb0, hb1, hcat⟩ := hl
          obtain ⟨rfl, rfl, rfl, rfl, rfl⟩ := nx_inj hs
          intro lsM H locs hc
          have kw := kk lsM H locs (hc.stk (okT hc.2.2.2.1))
          obtain ⟨h5, hlt⟩ := hc.1.2.2.2.own (a := b) (Or.inr ⟨hb0, hb1⟩)
          rw [List.map_cons]
          change W p l e R s m args below meth c H locs _ _ Q (F0 m _ lsM (eax E b :: _))
          rw [hc.ax hE h5]
          refine W.objInit hx hb hown (hts _ (hm.1 h6).2) (hts _ OI_ok) (hts _ OI_code) rfl (by show lsM.size = _; rw [hml, hc.2.2.1.1.1]) rfl hd hRf ?_ kw
          show 2 * 0 + _ + 12 ≤ _
          rw [cats_eq hE]
          omega
        · cases hs
      · cases hs
    · rw [if_neg h6] at hs
      by_cases h0 : q.1 = 3 ∨ q.1 = 4 ∨ q.1 = 5
      · rw [if_pos h0] at hs; exact (csp_nx hs).elim
      · rw [if_neg h0] at hs; cases hs
end AQF

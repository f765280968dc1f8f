-- ROWS: the heap, calls, returns (general)
section ROWH
variable {d m pc k tgt : Nat} {cc : ByteArray} {ls ls' : LL} {st : List PV} {g : GG} {I : II} {Q : QQ}
theorem kd_eq {kd : Nat × Nat} {ci : Nat} : (kd.1 = 0 ∧ kd.2 ∈ [ci]) ↔ kd = (0, ci) := by
  obtain ⟨a, b⟩ := kd
  simp
theorem R_getI {a j ty : Nat} {cs : List Nat} (hm : mCode m = cc) (hd : decode cc pc = .ok (.getfield k, 3)) (hf : FT.lookup (mOwn m, k) = some (j, ty, cs)) (ht : ty % 10 ≠ 2) : WP d m pc ls (vr (some a) :: st) g I Q = (((gK g a).1 = 0 ∧ (gK g a).2 ∈ cs) ∧ WP d m (pc + 3) ls (vi (I a j) :: st) g I Q) := by
  refine and_if (fun h => WP_nx (step_nm hm hd ?_)) (fun h => WP_no (step_zm hm hd ?_))
  · show s_getf (mOwn m) k 3 pc ls (vr (some a) :: st) g I = _
    unfold s_getf
    rw [hf]
    dsimp only
    rw [if_pos ⟨rfl, h⟩, if_neg ht]
  · show s_getf (mOwn m) k 3 pc ls (vr (some a) :: st) g I = _
    unfold s_getf
    rw [hf]
    dsimp only
    rw [if_neg (fun q => h q.2)]
theorem R_getR {a j ty : Nat} {cs : List Nat} (hm : mCode m = cc) (hd : decode cc pc = .ok (.getfield k, 3)) (hf : FT.lookup (mOwn m, k) = some (j, ty, cs)) (ht : ty % 10 = 2) : WP d m pc ls (vr (some a) :: st) g I Q = (((gK g a).1 = 0 ∧ (gK g a).2 ∈ cs) ∧ WP d m (pc + 3) ls (vr (gR g a j) :: st) g I Q) := by
  refine and_if (fun h => WP_nx (step_nm hm hd ?_)) (fun h => WP_no (step_zm hm hd ?_))
  · show s_getf (mOwn m) k 3 pc ls (vr (some a) :: st) g I = _
    unfold s_getf
    rw [hf]
    dsimp only
    rw [if_pos ⟨rfl, h⟩, if_pos ht]
  · show s_getf (mOwn m) k 3 pc ls (vr (some a) :: st) g I = _
    unfold s_getf
    rw [hf]
    dsimp only
    rw [if_neg (fun q => h q.2)]
theorem G1I {a j ty ci : Nat} (hm : mCode m = cc) (hd : decode cc pc = .ok (.getfield k, 3)) (hf : FT.lookup (mOwn m, k) = some (j, ty, [ci])) (ht : ty % 10 ≠ 2) : WP d m pc ls (vr (some a) :: st) g I Q = (gK g a = (0, ci) ∧ WP d m (pc + 3) ls (vi (I a j) :: st) g I Q) := by rw [R_getI hm hd hf ht, kd_eq]
theorem G1R {a j ty ci : Nat} (hm : mCode m = cc) (hd : decode cc pc = .ok (.getfield k, 3)) (hf : FT.lookup (mOwn m, k) = some (j, ty, [ci])) (ht : ty % 10 = 2) : WP d m pc ls (vr (some a) :: st) g I Q = (gK g a = (0, ci) ∧ WP d m (pc + 3) ls (vr (gR g a j) :: st) g I Q) := by rw [R_getR hm hd hf ht, kd_eq]
theorem GTI {a j ty : Nat} (hm : mCode m = cc) (hd : decode cc pc = .ok (.getfield k, 3)) (hf : FT.lookup (mOwn m, k) = some (j, ty, [0, 1, 2, 3, 6, 9])) (ht : ty % 10 ≠ 2) : WP d m pc ls (vr (some a) :: st) g I Q = (isTh g a ∧ WP d m (pc + 3) ls (vi (I a j) :: st) g I Q) := R_getI hm hd hf ht
theorem R_putI {a j ty : Nat} {cs : List Nat} {x : Int} (hm : mCode m = cc) (hd : decode cc pc = .ok (.putfield k, 3)) (hf : FT.lookup (mOwn m, k) = some (j, ty, cs)) (ht : ty % 10 = 0) (h20 : ty < 20) (hi : 10 ≤ ty → (mY m).name = "<init>") : WP d m pc ls (vi x :: vr (some a) :: st) g I Q = (((gK g a).1 = 0 ∧ (gK g a).2 ∈ cs) ∧ WP d m (pc + 3) ls st g (up I a j x) Q) := by
  refine and_if (fun h => WP_nx (step_nm hm hd ?_)) (fun h => WP_no (step_zm hm hd ?_))
  · show s_putf m (mOwn m) k 3 pc ls (vi x :: vr (some a) :: st) g I = _
    unfold s_putf
    rw [hf]
    dsimp only
    rw [if_pos ⟨rfl, h.1, h.2, h20, hi, Or.inl ht⟩]
  · show s_putf m (mOwn m) k 3 pc ls (vi x :: vr (some a) :: st) g I = _
    unfold s_putf
    rw [hf]
    dsimp only
    rw [if_neg (fun q => h ⟨q.2.1, q.2.2.1⟩)]
theorem R_putZ {a j ty : Nat} {cs : List Nat} {x : Int} (hm : mCode m = cc) (hd : decode cc pc = .ok (.putfield k, 3)) (hf : FT.lookup (mOwn m, k) = some (j, ty, cs)) (ht : ty % 10 = 1) (h20 : ty < 20) (hi : 10 ≤ ty → (mY m).name = "<init>") : WP d m pc ls (vi x :: vr (some a) :: st) g I Q = (((gK g a).1 = 0 ∧ (gK g a).2 ∈ cs) ∧ ((x = 0 ∨ x = 1) ∧ WP d m (pc + 3) ls st g (up I a j x) Q)) := by
  refine and_if (fun h => and_if (fun h2 => WP_nx (step_nm hm hd ?_)) (fun h2 => WP_no (step_zm hm hd ?_))) (fun h => WP_no (step_zm hm hd ?_))
  · show s_putf m (mOwn m) k 3 pc ls (vi x :: vr (some a) :: st) g I = _
    unfold s_putf
    rw [hf]
    dsimp only
    rw [if_pos ⟨rfl, h.1, h.2, h20, hi, Or.inr ⟨ht, h2⟩⟩]
  · show s_putf m (mOwn m) k 3 pc ls (vi x :: vr (some a) :: st) g I = _
    unfold s_putf
    rw [hf]
    dsimp only
    rw [if_neg (fun q => by
      rcases q.2.2.2.2.2 with q | q
      · omega
      · exact h2 q.2)]
  · show s_putf m (mOwn m) k 3 pc ls (vi x :: vr (some a) :: st) g I = _
    unfold s_putf
    rw [hf]
    dsimp only
    rw [if_neg (fun q => h ⟨q.2.1, q.2.2.1⟩)]
theorem R_putR {a b j ty : Nat} {cs : List Nat} (hm : mCode m = cc) (hd : decode cc pc = .ok (.putfield k, 3)) (hf : FT.lookup (mOwn m, k) = some (j, ty, cs)) (ht : ty % 10 = 2) (h20 : ty < 20) (hi : 10 ≤ ty → (mY m).name = "<init>") : WP d m pc ls (vr (some b) :: vr (some a) :: st) g I Q = (((gK g a).1 = 0 ∧ (gK g a).2 ∈ cs) ∧ (5 ≤ b ∧ WP d m (pc + 3) ls st (gput g a j (some b)) I Q)) := by
  refine and_if (fun h => and_if (fun h2 => WP_next (step_nm hm hd ?_) (Nat.le_refl _) (Nat.le_refl _)) (fun h2 => WP_no (step_zm hm hd ?_))) (fun h => WP_no (step_zm hm hd ?_))
  · show s_putf m (mOwn m) k 3 pc ls (vr (some b) :: vr (some a) :: st) g I = _
    unfold s_putf
    rw [hf]
    dsimp only
    rw [if_pos ⟨rfl, h.1, h.2, h20, hi, ht, h2⟩]
  · show s_putf m (mOwn m) k 3 pc ls (vr (some b) :: vr (some a) :: st) g I = _
    unfold s_putf
    rw [hf]
    dsimp only
    rw [if_neg (fun q => h2 q.2.2.2.2.2.2)]
  · show s_putf m (mOwn m) k 3 pc ls (vr (some b) :: vr (some a) :: st) g I = _
    unfold s_putf
    rw [hf]
    dsimp only
    rw [if_neg (fun q => h ⟨q.2.1, q.2.2.1⟩)]
theorem P1I {a j ty ci : Nat} {x : Int} (hm : mCode m = cc) (hd : decode cc pc = .ok (.putfield k, 3)) (hf : FT.lookup (mOwn m, k) = some (j, ty, [ci])) (ht : ty % 10 = 0) (h20 : ty < 20) (hi : 10 ≤ ty → (mY m).name = "<init>") : WP d m pc ls (vi x :: vr (some a) :: st) g I Q = (gK g a = (0, ci) ∧ WP d m (pc + 3) ls st g (up I a j x) Q) := by rw [R_putI hm hd hf ht h20 hi, kd_eq]
theorem P1Z {a j ty ci : Nat} {x : Int} (hm : mCode m = cc) (hd : decode cc pc = .ok (.putfield k, 3)) (hf : FT.lookup (mOwn m, k) = some (j, ty, [ci])) (ht : ty % 10 = 1) (h20 : ty < 20) (hi : 10 ≤ ty → (mY m).name = "<init>") : WP d m pc ls (vi x :: vr (some a) :: st) g I Q = (gK g a = (0, ci) ∧ ((x = 0 ∨ x = 1) ∧ WP d m (pc + 3) ls st g (up I a j x) Q)) := by rw [R_putZ hm hd hf ht h20 hi, kd_eq]
theorem P1R {a b j ty ci : Nat} (hm : mCode m = cc) (hd : decode cc pc = .ok (.putfield k, 3)) (hf : FT.lookup (mOwn m, k) = some (j, ty, [ci])) (ht : ty % 10 = 2) (h20 : ty < 20) (hi : 10 ≤ ty → (mY m).name = "<init>") : WP d m pc ls (vr (some b) :: vr (some a) :: st) g I Q = (gK g a = (0, ci) ∧ (5 ≤ b ∧ WP d m (pc + 3) ls st (gput g a j (some b)) I Q)) := by rw [R_putR hm hd hf ht h20 hi, kd_eq]
theorem PTI {a j ty : Nat} {x : Int} (hm : mCode m = cc) (hd : decode cc pc = .ok (.putfield k, 3)) (hf : FT.lookup (mOwn m, k) = some (j, ty, [0, 1, 2, 3, 6, 9])) (ht : ty % 10 = 0) (h20 : ty < 20) (hi : 10 ≤ ty → (mY m).name = "<init>") : WP d m pc ls (vi x :: vr (some a) :: st) g I Q = (isTh g a ∧ WP d m (pc + 3) ls st g (up I a j x) Q) := R_putI hm hd hf ht h20 hi
theorem R_gets0 (hm : mCode m = cc) (hd : decode cc pc = .ok (.getstatic k, 3)) (hf : ST.lookup (mOwn m, k) = some 0) : WP d m pc ls st g I Q = WP d m (pc + 3) ls (vi 1 :: st) g I Q := WP_nx (step_nm hm hd (by show s_gets _ _ _ _ _ _ _ _ = _; unfold s_gets; rw [hf]; rfl))
theorem R_gets1 (hm : mCode m = cc) (hd : decode cc pc = .ok (.getstatic k, 3)) (hf : ST.lookup (mOwn m, k) = some 1) : WP d m pc ls st g I Q = WP d m (pc + 3) ls (vr (some 3) :: st) g I Q := WP_nx (step_nm hm hd (by show s_gets _ _ _ _ _ _ _ _ = _; unfold s_gets; rw [hf]; rfl))
theorem R_iaload {a : Nat} {i : Int} (hm : mCode m = cc) (hd : decode cc pc = .ok (.iaload, 1)) : WP d m pc ls (vi i :: vr (some a) :: st) g I Q = ((((gK g a).1 = 1 ∨ (gK g a).1 = 5) ∧ 0 ≤ i ∧ i < (gK g a).2) ∧ WP d m (pc + 1) ls (vi (I a i.toNat) :: st) g I Q) := and_if (fun h => WP_nx (step_nm hm hd (if_pos ⟨rfl, h⟩))) (fun h => WP_no (step_zm hm hd (if_neg (fun q => h q.2))))
theorem R_baload {a : Nat} {i : Int} (hm : mCode m = cc) (hd : decode cc pc = .ok (.baload, 1)) : WP d m pc ls (vi i :: vr (some a) :: st) g I Q = (((gK g a).1 = 4 ∧ 0 ≤ i ∧ i < (gK g a).2) ∧ WP d m (pc + 1) ls (vi (I a i.toNat) :: st) g I Q) := and_if (fun h => WP_nx (step_nm hm hd (if_pos ⟨rfl, h⟩))) (fun h => WP_no (step_zm hm hd (if_neg (fun q => h q.2))))
theorem R_laload {a : Nat} {i : Int} (hm : mCode m = cc) (hd : decode cc pc = .ok (.laload, 1)) : WP d m pc ls (vi i :: vr (some a) :: st) g I Q = (((gK g a).1 = 2 ∧ 0 ≤ i ∧ i < (gK g a).2) ∧ WP d m (pc + 1) ls (vl (I a i.toNat) :: st) g I Q) := and_if (fun h => WP_nx (step_nm hm hd (if_pos ⟨rfl, h⟩))) (fun h => WP_no (step_zm hm hd (if_neg (fun q => h q.2))))
theorem R_aaload {a : Nat} {i : Int} (hm : mCode m = cc) (hd : decode cc pc = .ok (.aaload, 1)) : WP d m pc ls (vi i :: vr (some a) :: st) g I Q = (((gK g a).1 = 3 ∧ 0 ≤ i ∧ i < (gK g a).2) ∧ WP d m (pc + 1) ls (vr (gR g a i.toNat) :: st) g I Q) := and_if (fun h => WP_nx (step_nm hm hd (if_pos ⟨rfl, h⟩))) (fun h => WP_no (step_zm hm hd (if_neg (fun q => h q.2))))
theorem R_iastore {a : Nat} {i x : Int} (hm : mCode m = cc) (hd : decode cc pc = .ok (.iastore, 1)) : WP d m pc ls (vi x :: vi i :: vr (some a) :: st) g I Q = (((gK g a).1 = 1 ∧ 0 ≤ i ∧ i < (gK g a).2) ∧ WP d m (pc + 1) ls st g (up I a i.toNat x) Q) := and_if (fun h => WP_nx (step_nm hm hd (if_pos ⟨rfl, h⟩))) (fun h => WP_no (step_zm hm hd (if_neg (fun q => h q.2))))
theorem R_lastore {a : Nat} {i x : Int} (hm : mCode m = cc) (hd : decode cc pc = .ok (.lastore, 1)) : WP d m pc ls (vl x :: vi i :: vr (some a) :: st) g I Q = (((gK g a).1 = 2 ∧ 0 ≤ i ∧ i < (gK g a).2) ∧ WP d m (pc + 1) ls st g (up I a i.toNat x) Q) := and_if (fun h => WP_nx (step_nm hm hd (if_pos ⟨rfl, h⟩))) (fun h => WP_no (step_zm hm hd (if_neg (fun q => h q.2))))
theorem R_aastore {a b : Nat} {i : Int} (hm : mCode m = cc) (hd : decode cc pc = .ok (.aastore, 1)) : WP d m pc ls (vr (some b) :: vi i :: vr (some a) :: st) g I Q = (((gK g a).1 = 3 ∧ 0 ≤ i ∧ i < (gK g a).2 ∧ (gK g b).1 = 0 ∧ (gK g b).2 ∈ [0, 1, 2, 3, 6, 9]) ∧ WP d m (pc + 1) ls st (gput g a i.toNat (some b)) I Q) := and_if (fun h => WP_next (step_nm hm hd (if_pos ⟨rfl, h⟩)) (Nat.le_refl _) (Nat.le_refl _)) (fun h => WP_no (step_zm hm hd (if_neg (fun q => h q.2))))
theorem R_alen {a : Nat} (hm : mCode m = cc) (hd : decode cc pc = .ok (.arraylength, 1)) : WP d m pc ls (vr (some a) :: st) g I Q = ((1 ≤ (gK g a).1 ∧ (gK g a).1 ≤ 5) ∧ WP d m (pc + 1) ls (vi ((gK g a).2 : Nat) :: st) g I Q) := and_if (fun h => WP_nx (step_nm hm hd (if_pos ⟨rfl, h⟩))) (fun h => WP_no (step_zm hm hd (if_neg (fun q => h q.2))))
theorem R_new {ci N : Nat} (hm : mCode m = cc) (hd : decode cc pc = .ok (.new k, 3)) (hn : NT.lookup (mOwn m, k) = some ci) (hN : NS.getD ci 0 = N) : WP d m pc ls st g I Q = WP d m (pc + 3) ls (vr (some (gN g)) :: st) (gnew g (0, ci) N) (inew I (gN g)) Q := WP_next (step_nm hm hd (by show s_new _ _ _ _ _ _ _ _ = _; unfold s_new; rw [hn]; dsimp only; rw [hN]; rfl)) (Nat.le_succ _) (Nat.le_add_right _ _)
theorem R_newI {n : Int} (hm : mCode m = cc) (hd : decode cc pc = .ok (.newarray .int, 2)) : WP d m pc ls (vi n :: st) g I Q = ((0 ≤ n ∧ n ≤ 10000) ∧ WP d m (pc + 2) ls (vr (some (gN g)) :: st) (gnew g (1, n.toNat) n.toNat) (inew I (gN g)) Q) := and_if (fun h => WP_next (step_nm hm hd (if_pos ⟨rfl, h⟩)) (Nat.le_succ _) (Nat.le_add_right _ _)) (fun h => WP_no (step_zm hm hd (if_neg (fun q => h q.2))))
theorem R_newJ {n : Int} (hm : mCode m = cc) (hd : decode cc pc = .ok (.newarray .long, 2)) : WP d m pc ls (vi n :: st) g I Q = ((0 ≤ n ∧ n ≤ 10000) ∧ WP d m (pc + 2) ls (vr (some (gN g)) :: st) (gnew g (2, n.toNat) n.toNat) (inew I (gN g)) Q) := and_if (fun h => WP_next (step_nm hm hd (if_pos ⟨rfl, h⟩)) (Nat.le_succ _) (Nat.le_add_right _ _)) (fun h => WP_no (step_zm hm hd (if_neg (fun q => h q.2))))
theorem R_anew {n : Int} (hm : mCode m = cc) (hd : decode cc pc = .ok (.anewarray k, 3)) (ha : (mOwn m, k) ∈ AT) : WP d m pc ls (vi n :: st) g I Q = ((0 ≤ n ∧ n ≤ 10000) ∧ WP d m (pc + 3) ls (vr (some (gN g)) :: st) (gnew g (3, n.toNat) n.toNat) (inew I (gN g)) Q) := and_if (fun h => WP_next (step_nm hm hd (if_pos ⟨rfl, ha, h⟩)) (Nat.le_succ _) (Nat.le_add_right _ _)) (fun h => WP_no (step_zm hm hd (if_neg (fun q => h q.2.2))))
-- calls
theorem C_stat {n m' x : Nat} {ls' : LL} {st' : List PV} (hm : mCode m = cc) (hd : decode cc pc = .ok (.invokestatic k, 3)) (hc : MC.lookup (mOwn m, k) = some (0, n, [(x, m')])) (h1 : n ≤ st.length ∧ ((st.drop n).map cat).sum ≤ 8 ∧ (lay (st.take n).reverse).length ≤ mMax m') (hl : entryL m' (st.take n).reverse = ls') (hs : st.drop n = st') : WP (d + 1) m pc ls st g I Q = WP d m' 0 ls' [] g I (fun v g' I' => WP (d + 1) m (pc + 3) ls (v.toList ++ st') g' I' Q) := by
  subst hl
  subst hs
  refine WP_cl (step_om hm hd (by show (2 : Nat) ≠ 0; decide) ?_)
  show s_static (mOwn m) k pc ls st g I = _
  unfold s_static
  rw [hc]
  dsimp only
  rw [if_pos rfl]
  exact if_pos h1
theorem C_virt {n m' ci b : Nat} {ls' : LL} {st' : List PV} (hm : mCode m = cc) (hd : decode cc pc = .ok (.invokevirtual k, 3)) (hc : MC.lookup (mOwn m, k) = some (1, n, [(ci, m')])) (hs : st.drop n = vr (some b) :: st') (h1 : (st'.map cat).sum ≤ 8 ∧ (lay (st.take n).reverse).length + 1 ≤ mMax m') (hl : entryL m' (vr (some b) :: (st.take n).reverse) = ls') : WP (d + 1) m pc ls st g I Q = (gK g b = (0, ci) ∧ WP d m' 0 ls' [] g I (fun v g' I' => WP (d + 1) m (pc + 3) ls (v.toList ++ st') g' I' Q)) := by
  subst hl
  refine and_if (fun h => WP_cl (step_om hm hd (by show (2 : Nat) ≠ 0; decide) ?_)) (fun h => WP_no (step_zm hm hd ?_))
  · show s_virt (mOwn m) k pc ls st g I = _
    unfold s_virt
    rw [hc]
    dsimp only
    rw [if_pos (Or.inl rfl)]
    unfold s_cvr
    rw [hs]
    dsimp only
    rw [h]
    dsimp only [List.lookup]
    rw [show (ci == ci) = true by simp]
    dsimp only
    exact if_pos ⟨rfl, h1⟩
  · show s_virt (mOwn m) k pc ls st g I = _
    unfold s_virt
    rw [hc]
    dsimp only
    rw [if_pos (Or.inl rfl)]
    unfold s_cvr
    rw [hs]
    dsimp only [List.lookup]
    cases hb : (gK g b).2 == ci with
    | false => rfl
    | true =>
      dsimp only
      rw [if_neg]
      intro q
      apply h
      have : (gK g b).2 = ci := by simpa using hb
      exact Prod.ext q.1 this
theorem C_abs {n b : Nat} {tg : List (Nat × Nat)} {as st' : List PV} (hm : mCode m = cc) (hd : decode cc pc = .ok (.invokevirtual k, 3)) (hc : MC.lookup (mOwn m, k) = some (2, n, tg)) (hs : st.drop n = vr (some b) :: st') (ha : (st.take n).reverse = as) (h1 : (st'.map cat).sum ≤ 8) (h2 : ∀ q ∈ tg, (lay as).length + 1 ≤ mMax q.2) : WP (d + 1) m pc ls st g I Q = ((gK g b).1 = 0 ∧ WPv d tg b as g I (fun v g' I' => WP (d + 1) m (pc + 3) ls (v.toList ++ st') g' I' Q)) := by
  subst ha
  have key : ∀ r : RS, s_cvr n pc tg st g = r → stepI m (.invokevirtual k) 3 pc ls st g I = r := by
    intro r hr
    show s_virt (mOwn m) k pc ls st g I = _
    unfold s_virt
    rw [hc]
    dsimp only
    rw [if_pos (Or.inr rfl)]
    exact hr
  refine and_if (fun h => ?_) (fun h => WP_no (step_zm hm hd (key _ ?_)))
  · cases hlk : tg.lookup (gK g b).2 with
    | none =>
      rw [WP_no (step_zm hm hd (key _ (by unfold s_cvr; rw [hs]; dsimp only; rw [hlk])))]
      refine propext ⟨False.elim, ?_⟩
      rintro ⟨mm, h3, -⟩
      rw [hlk] at h3
      cases h3
    | some mm =>
      rw [WP_cl (step_om hm hd (by show (2 : Nat) ≠ 0; decide) (key _ (by unfold s_cvr; rw [hs]; dsimp only; rw [hlk]; exact if_pos ⟨h, h1, h2 _ (lookup_mem hlk)⟩)))]
      refine propext ⟨fun q => ⟨mm, hlk, q⟩, ?_⟩
      rintro ⟨m3, h3, h4⟩
      rw [hlk] at h3
      cases h3
      exact h4
  · unfold s_cvr
    rw [hs]
    dsimp only
    cases hlk : tg.lookup (gK g b).2 with
    | none => rfl
    | some mm => exact if_neg (fun q => h q.1)
theorem C_spec {kd n m' x b : Nat} {ls' : LL} {st' : List PV} (hm : mCode m = cc) (hd : decode cc pc = .ok (.invokespecial k, 3)) (hc : MC.lookup (mOwn m, k) = some (kd, n, [(x, m')])) (hkd : kd = 3 ∨ kd = 4 ∨ kd = 5) (hs : st.drop n = vr (some b) :: st') (h1 : (st'.map cat).sum ≤ 8 ∧ (lay (st.take n).reverse).length + 1 ≤ mMax m') (hl : entryL m' (vr (some b) :: (st.take n).reverse) = ls') : WP (d + 1) m pc ls st g I Q = (((gK g b).1 = 0 ∧ (gK g b).2 < 12) ∧ WP d m' 0 ls' [] g I (fun v g' I' => WP (d + 1) m (pc + 3) ls (v.toList ++ st') g' I' Q)) := by
  subst hl
  have key : ∀ r : RS, s_csp n pc [(x, m')] st g = r → stepI m (.invokespecial k) 3 pc ls st g I = r := by
    intro r hr
    show s_spec (mOwn m) k pc ls st g I = _
    unfold s_spec
    rw [hc]
    dsimp only
    rw [if_neg (by omega), if_pos hkd]
    exact hr
  refine and_if (fun h => WP_cl (step_om hm hd (by show (2 : Nat) ≠ 0; decide) (key _ ?_))) (fun h => WP_no (step_zm hm hd (key _ ?_)))
  · unfold s_csp
    rw [hs]
    exact if_pos ⟨h.1, h.2, h1⟩
  · unfold s_csp
    rw [hs]
    exact if_neg (fun q => h ⟨q.1, q.2.1⟩)
theorem C_obj {b n : Nat} (hm : mCode m = cc) (hd : decode cc pc = .ok (.invokespecial k, 3)) (hc : MC.lookup (mOwn m, k) = some (6, n, [])) (h1 : (st.map cat).sum ≤ 8) : WP d m pc ls (vr (some b) :: st) g I Q = (((gK g b).1 = 0 ∧ (gK g b).2 < 12) ∧ WP d m (pc + 3) ls st g I Q) := by
  have key : ∀ r : RS, s_coi pc ls (vr (some b) :: st) g I = r → stepI m (.invokespecial k) 3 pc ls (vr (some b) :: st) g I = r := by
    intro r hr
    show s_spec (mOwn m) k pc ls (vr (some b) :: st) g I = _
    unfold s_spec
    rw [hc]
    dsimp only
    rw [if_pos rfl]
    exact hr
  exact and_if (fun h => WP_nx (step_nm hm hd (key _ (if_pos ⟨h.1, h.2, h1⟩)))) (fun h => WP_no (step_zm hm hd (key _ (if_neg (fun q => h ⟨q.1, q.2.1⟩)))))
theorem C_copy {a a0 : Nat} {n dp sp : Int} {tg : List (Nat × Nat)} {np : Nat} (hm : mCode m = cc) (hd : decode cc pc = .ok (.invokestatic k, 3)) (hc : MC.lookup (mOwn m, k) = some (7, np, tg)) (h1 : (st.map cat).sum ≤ 8) : WP d m pc ls (vi n :: vi dp :: vr (some a) :: vi sp :: vr (some a0) :: st) g I Q = (((gK g a0).1 = 1 ∧ (gK g a).1 = 1 ∧ 0 ≤ n ∧ 0 ≤ dp ∧ 0 ≤ sp ∧ sp + n ≤ (gK g a0).2 ∧ dp + n ≤ (gK g a).2) ∧ WP d m (pc + 3) ls st g (icpy I a0 sp.toNat a dp.toNat n.toNat) Q) := by
  have key : ∀ r : RS, s_copy pc ls (vi n :: vi dp :: vr (some a) :: vi sp :: vr (some a0) :: st) g I = r → stepI m (.invokestatic k) 3 pc ls (vi n :: vi dp :: vr (some a) :: vi sp :: vr (some a0) :: st) g I = r := by
    intro r hr
    show s_static (mOwn m) k pc ls _ g I = _
    unfold s_static
    rw [hc]
    dsimp only
    rw [if_neg (by decide), if_pos rfl]
    exact hr
  exact and_if (fun h => WP_nx (step_nm hm hd (key _ (if_pos ⟨h.1, h.2.1, h.2.2.1, h.2.2.2.1, h.2.2.2.2.1, h.2.2.2.2.2.1, h.2.2.2.2.2.2, h1⟩)))) (fun h => WP_no (step_zm hm hd (key _ (if_neg (fun q => h ⟨q.1, q.2.1, q.2.2.1, q.2.2.2.1, q.2.2.2.2.1, q.2.2.2.2.2.1, q.2.2.2.2.2.2.1⟩)))))
theorem C_max {x y : Int} {tg : List (Nat × Nat)} {np : Nat} (hm : mCode m = cc) (hd : decode cc pc = .ok (.invokestatic k, 3)) (hc : MC.lookup (mOwn m, k) = some (8, np, tg)) (h1 : (st.map cat).sum ≤ 8) : WP d m pc ls (vi y :: vi x :: st) g I Q = WP d m (pc + 3) ls (vi (max x y) :: st) g I Q := WP_nx (step_nm hm hd (by
  show s_static (mOwn m) k pc ls _ g I = _
  unfold s_static
  rw [hc]
  dsimp only
  rw [if_neg (by decide), if_neg (by decide), if_pos rfl]
  exact if_pos h1))
theorem C_min {x y : Int} {tg : List (Nat × Nat)} {np : Nat} (hm : mCode m = cc) (hd : decode cc pc = .ok (.invokestatic k, 3)) (hc : MC.lookup (mOwn m, k) = some (9, np, tg)) (h1 : (st.map cat).sum ≤ 8) : WP d m pc ls (vi y :: vi x :: st) g I Q = WP d m (pc + 3) ls (vi (min x y) :: st) g I Q := WP_nx (step_nm hm hd (by
  show s_static (mOwn m) k pc ls _ g I = _
  unfold s_static
  rw [hc]
  dsimp only
  rw [if_neg (by decide), if_neg (by decide), if_neg (by decide), if_pos rfl]
  exact if_pos h1))
theorem C_maxl {x y : Int} {tg : List (Nat × Nat)} {np : Nat} (hm : mCode m = cc) (hd : decode cc pc = .ok (.invokestatic k, 3)) (hc : MC.lookup (mOwn m, k) = some (10, np, tg)) (h1 : (st.map cat).sum ≤ 8) : WP d m pc ls (vl y :: vl x :: st) g I Q = WP d m (pc + 3) ls (vl (max x y) :: st) g I Q := WP_nx (step_nm hm hd (by
  show s_static (mOwn m) k pc ls _ g I = _
  unfold s_static
  rw [hc]
  dsimp only
  rw [if_neg (by decide), if_neg (by decide), if_neg (by decide), if_neg (by decide), if_pos rfl]
  exact if_pos h1))
-- returns
theorem E_int {x : Int} (hm : mCode m = cc) (hd : decode cc pc = .ok (.ireturn, 1)) (hr : mRet m = some .int) : WP d m pc ls [vi x] g I Q = Q (some (vi x)) g I := WP_rt (step_om hm hd (by decide) (if_pos ⟨rfl, by unfold retB; rw [hr]⟩))
theorem E_gen {x : Int} {P : Prop} [Decidable P] (hm : mCode m = cc) (hd : decode cc pc = .ok (.ireturn, 1)) (hr : retB m x = decide P) : WP d m pc ls [vi x] g I Q = (P ∧ Q (some (vi x)) g I) := and_if (fun h => WP_rt (step_om hm hd (by decide) (if_pos ⟨rfl, by rw [hr]; exact decide_eq_true h⟩))) (fun h => WP_no (step_zm hm hd (if_neg (fun q => h (of_decide_eq_true (hr ▸ q.2))))))
theorem E_bool {x : Int} (hm : mCode m = cc) (hd : decode cc pc = .ok (.ireturn, 1)) (hr : mRet m = some .boolean) : WP d m pc ls [vi x] g I Q = ((x = 0 ∨ x = 1) ∧ Q (some (vi x)) g I) := E_gen hm hd (by unfold retB; rw [hr])
theorem E_char {x : Int} (hm : mCode m = cc) (hd : decode cc pc = .ok (.ireturn, 1)) (hr : mRet m = some .char) : WP d m pc ls [vi x] g I Q = ((0 ≤ x ∧ x < 65536) ∧ Q (some (vi x)) g I) := E_gen hm hd (by unfold retB; rw [hr])
theorem E_byte {x : Int} (hm : mCode m = cc) (hd : decode cc pc = .ok (.ireturn, 1)) (hr : mRet m = some .byte) : WP d m pc ls [vi x] g I Q = ((-128 ≤ x ∧ x < 128) ∧ Q (some (vi x)) g I) := E_gen hm hd (by unfold retB; rw [hr])
theorem E_long {x : Int} (hm : mCode m = cc) (hd : decode cc pc = .ok (.lreturn, 1)) (hr : mRet m = some .long) : WP d m pc ls [vl x] g I Q = Q (some (vl x)) g I := WP_rt (step_om hm hd (by decide) (if_pos ⟨rfl, hr⟩))
theorem E_ref {x : Nat} (hm : mCode m = cc) (hd : decode cc pc = .ok (.areturn, 1)) (hr : retA m = true) : WP d m pc ls [vr (some x)] g I Q = Q (some (vr (some x))) g I := WP_rt (step_om hm hd (by decide) (if_pos ⟨rfl, hr⟩))
theorem E_void (hm : mCode m = cc) (hd : decode cc pc = .ok (.return_, 1)) (hr : mRet m = none) : WP d m pc ls [] g I Q = Q none g I := WP_rt (step_om hm hd (by decide) (if_pos ⟨rfl, hr⟩))
end ROWH

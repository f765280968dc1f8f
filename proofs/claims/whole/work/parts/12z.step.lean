-- THE PURE MACHINE'S STEP
abbrev NX : Type := Nat × (LL × (List PV × (GG × II)))
abbrev RS : Type := Option (NX ⊕ (Option PV ⊕ (Nat × (List PV × (Nat × List PV)))))
abbrev nx (pc : Nat) (ls : LL) (st : List PV) (g : GG) (I : II) : RS := some (.inl (pc, (ls, (st, (g, I)))))
abbrev rt (v : Option PV) : RS := some (.inr (.inl v))
abbrev cl (m : Nat) (as : List PV) (pc : Nat) (st : List PV) : RS := some (.inr (.inr (m, (as, (pc, st)))))
-- helpers of the step
def s_ild (L len k pc : Nat) (ls : LL) (st : List PV) (g : GG) (I : II) : RS := match ls[k]? with
  | some (some (.inl x)) => if len = L then nx (pc + L) ls (vi x :: st) g I else none
  | _ => none
def s_lld (L len k pc : Nat) (ls : LL) (st : List PV) (g : GG) (I : II) : RS := match ls[k]? with
  | some (some (.inr (.inl x))) => if len = L then nx (pc + L) ls (vl x :: st) g I else none
  | _ => none
def s_ald (L len k pc : Nat) (ls : LL) (st : List PV) (g : GG) (I : II) : RS := match ls[k]? with
  | some (some (.inr (.inr x))) => if len = L then nx (pc + L) ls (vr x :: st) g I else none
  | _ => none
def s_ist (L len k pc : Nat) (ls : LL) (st : List PV) (g : GG) (I : II) : RS := match st with
  | .inl x :: r => if len = L ∧ k < ls.length then nx (pc + L) (sto ls k (vi x)) r g I else none
  | _ => none
def s_lst (L len k pc : Nat) (ls : LL) (st : List PV) (g : GG) (I : II) : RS := match st with
  | .inr (.inl x) :: r => if len = L ∧ k + 1 < ls.length then nx (pc + L) (sto2 ls k (vl x)) r g I else none
  | _ => none
def s_ast (L len k pc : Nat) (ls : LL) (st : List PV) (g : GG) (I : II) : RS := match st with
  | .inr (.inr (some x)) :: r => if len = L ∧ k < ls.length then nx (pc + L) (sto ls k (vr (some x))) r g I else none
  | _ => none
def s_iinc (len k : Nat) (n : Int) (pc : Nat) (ls : LL) (st : List PV) (g : GG) (I : II) : RS := match ls[k]? with
  | some (some (.inl x)) => if len = 3 then nx (pc + 3) (sto ls k (vi (i2 (· + ·) x n))) st g I else none
  | _ => none
def s_i1 (f : Int → Int) (len pc : Nat) (ls : LL) (st : List PV) (g : GG) (I : II) : RS := match st with
  | .inl a :: r => if len = 1 then nx (pc + 1) ls (vi (f a) :: r) g I else none
  | _ => none
def s_i2 (f : Int → Int → Int) (len pc : Nat) (ls : LL) (st : List PV) (g : GG) (I : II) : RS := match st with
  | .inl b :: .inl a :: r => if len = 1 then nx (pc + 1) ls (vi (f a b) :: r) g I else none
  | _ => none
def s_id (f : Int → Int → Int) (len pc : Nat) (ls : LL) (st : List PV) (g : GG) (I : II) : RS := match st with
  | .inl b :: .inl a :: r => if len = 1 ∧ b ≠ 0 then nx (pc + 1) ls (vi (f a b) :: r) g I else none
  | _ => none
def s_l2 (f : Int → Int → Int) (len pc : Nat) (ls : LL) (st : List PV) (g : GG) (I : II) : RS := match st with
  | .inr (.inl b) :: .inr (.inl a) :: r => if len = 1 then nx (pc + 1) ls (vl (f a b) :: r) g I else none
  | _ => none
def s_ldv (f : Int → Int → Int) (len pc : Nat) (ls : LL) (st : List PV) (g : GG) (I : II) : RS := match st with
  | .inr (.inl b) :: .inr (.inl a) :: r => if len = 1 ∧ b ≠ 0 then nx (pc + 1) ls (vl (f a b) :: r) g I else none
  | _ => none
def s_lsh (f : Int → Int → Int) (len pc : Nat) (ls : LL) (st : List PV) (g : GG) (I : II) : RS := match st with
  | .inl b :: .inr (.inl a) :: r => if len = 1 then nx (pc + 1) ls (vl (f a b) :: r) g I else none
  | _ => none
def s_lcmp (len pc : Nat) (ls : LL) (st : List PV) (g : GG) (I : II) : RS := match st with
  | .inr (.inl b) :: .inr (.inl a) :: r => if len = 1 then nx (pc + 1) ls (vi (lcm3 a b) :: r) g I else none
  | _ => none
def s_i2l (len pc : Nat) (ls : LL) (st : List PV) (g : GG) (I : II) : RS := match st with
  | .inl a :: r => if len = 1 then nx (pc + 1) ls (vl a :: r) g I else none
  | _ => none
def s_l2i (len pc : Nat) (ls : LL) (st : List PV) (g : GG) (I : II) : RS := match st with
  | .inr (.inl a) :: r => if len = 1 then nx (pc + 1) ls (vi (w32 a) :: r) g I else none
  | _ => none
def s_go (off : Int) (pc : Nat) (ls : LL) (st : List PV) (g : GG) (I : II) : RS := if 0 ≤ (pc : Int) + off then nx ((pc : Int) + off).toNat ls st g I else none
def s_if (c : Jvm.ClassFile.Cond) (off : Int) (len pc : Nat) (ls : LL) (st : List PV) (g : GG) (I : II) : RS := match st with
  | .inl a :: r => if len = 3 ∧ 0 ≤ (pc : Int) + off then (if cmpB c a 0 = true then nx ((pc : Int) + off).toNat ls r g I else nx (pc + 3) ls r g I) else none
  | _ => none
def s_icmp (c : Jvm.ClassFile.Cond) (off : Int) (len pc : Nat) (ls : LL) (st : List PV) (g : GG) (I : II) : RS := match st with
  | .inl b :: .inl a :: r => if len = 3 ∧ 0 ≤ (pc : Int) + off then (if cmpB c a b = true then nx ((pc : Int) + off).toNat ls r g I else nx (pc + 3) ls r g I) else none
  | _ => none
def s_tsw (df lo hi : Int) (offs : Array Int) (pc : Nat) (ls : LL) (st : List PV) (g : GG) (I : II) : RS := match st with
  | .inl x :: r => if x < lo ∨ hi < x then s_go df pc ls r g I else (match offs[(x - lo).toNat]? with
    | some off => s_go off pc ls r g I
    | none => none)
  | _ => none
def s_lsw (df : Int) (ps : Array (Int × Int)) (pc : Nat) (ls : LL) (st : List PV) (g : GG) (I : II) : RS := match st with
  | .inl x :: r => if (ps.toList.zip (ps.toList.drop 1)).all (fun (a, next) => a.1 < next.1) = true then s_go (Op.lookupswitch.offset ps.toList df x) pc ls r g I else none
  | _ => none
def s_dup (len pc : Nat) (ls : LL) (st : List PV) (g : GG) (I : II) : RS := match st with
  | v :: r => if len = 1 ∧ cat v = 1 then nx (pc + 1) ls (v :: v :: r) g I else none
  | _ => none
def s_dup2 (len pc : Nat) (ls : LL) (st : List PV) (g : GG) (I : II) : RS := match st with
  | v :: w :: r => if len = 1 ∧ cat v = 1 ∧ cat w = 1 then nx (pc + 1) ls (v :: w :: v :: w :: r) g I else none
  | _ => none
def s_pop (len pc : Nat) (ls : LL) (st : List PV) (g : GG) (I : II) : RS := match st with
  | v :: r => if len = 1 ∧ cat v = 1 then nx (pc + 1) ls r g I else none
  | _ => none
def s_ldc (L own k len pc : Nat) (ls : LL) (st : List PV) (g : GG) (I : II) : RS := match CT.lookup (own, k) with
  | some (0, v) => if len = L then nx (pc + L) ls (vi v :: st) g I else none
  | some (1, _) => if len = L ∧ L = 2 then nx (pc + L) ls (vr (some 1) :: st) g I else none
  | _ => none
def s_ldc2 (own k len pc : Nat) (ls : LL) (st : List PV) (g : GG) (I : II) : RS := match CT.lookup (own, k) with
  | some (2, v) => if len = 3 then nx (pc + 3) ls (vl v :: st) g I else none
  | _ => none
def s_getf (own k len pc : Nat) (ls : LL) (st : List PV) (g : GG) (I : II) : RS := match FT.lookup (own, k), st with
  | some (j, ty, cs), .inr (.inr (some a)) :: r => if len = 3 ∧ (gK g a).1 = 0 ∧ (gK g a).2 ∈ cs then nx (pc + 3) ls ((if ty % 10 = 2 then vr (gR g a j) else vi (I a j)) :: r) g I else none
  | _, _ => none
def s_putf (m own k len pc : Nat) (ls : LL) (st : List PV) (g : GG) (I : II) : RS := match FT.lookup (own, k), st with
  | some (j, ty, cs), .inl x :: .inr (.inr (some a)) :: r => if len = 3 ∧ (gK g a).1 = 0 ∧ (gK g a).2 ∈ cs ∧ ty < 20 ∧ (10 ≤ ty → (mY m).name = "<init>") ∧ (ty % 10 = 0 ∨ (ty % 10 = 1 ∧ (x = 0 ∨ x = 1))) then nx (pc + 3) ls r g (up I a j x) else none
  | some (j, ty, cs), .inr (.inr (some x)) :: .inr (.inr (some a)) :: r => if len = 3 ∧ (gK g a).1 = 0 ∧ (gK g a).2 ∈ cs ∧ ty < 20 ∧ (10 ≤ ty → (mY m).name = "<init>") ∧ ty % 10 = 2 ∧ 5 ≤ x then nx (pc + 3) ls r (gput g a j (some x)) I else none
  | _, _ => none
def s_gets (own k len pc : Nat) (ls : LL) (st : List PV) (g : GG) (I : II) : RS := match ST.lookup (own, k) with
  | some 0 => if len = 3 then nx (pc + 3) ls (vi 1 :: st) g I else none
  | some 1 => if len = 3 then nx (pc + 3) ls (vr (some 3) :: st) g I else none
  | _ => none
def s_iald (len pc : Nat) (ls : LL) (st : List PV) (g : GG) (I : II) : RS := match st with
  | .inl i :: .inr (.inr (some a)) :: r => if len = 1 ∧ ((gK g a).1 = 1 ∨ (gK g a).1 = 5) ∧ 0 ≤ i ∧ i < (gK g a).2 then nx (pc + 1) ls (vi (I a i.toNat) :: r) g I else none
  | _ => none
def s_bald (len pc : Nat) (ls : LL) (st : List PV) (g : GG) (I : II) : RS := match st with
  | .inl i :: .inr (.inr (some a)) :: r => if len = 1 ∧ (gK g a).1 = 4 ∧ 0 ≤ i ∧ i < (gK g a).2 then nx (pc + 1) ls (vi (I a i.toNat) :: r) g I else none
  | _ => none
def s_lald (len pc : Nat) (ls : LL) (st : List PV) (g : GG) (I : II) : RS := match st with
  | .inl i :: .inr (.inr (some a)) :: r => if len = 1 ∧ (gK g a).1 = 2 ∧ 0 ≤ i ∧ i < (gK g a).2 then nx (pc + 1) ls (vl (I a i.toNat) :: r) g I else none
  | _ => none
def s_aald (len pc : Nat) (ls : LL) (st : List PV) (g : GG) (I : II) : RS := match st with
  | .inl i :: .inr (.inr (some a)) :: r => if len = 1 ∧ (gK g a).1 = 3 ∧ 0 ≤ i ∧ i < (gK g a).2 then nx (pc + 1) ls (vr (gR g a i.toNat) :: r) g I else none
  | _ => none
def s_iast (len pc : Nat) (ls : LL) (st : List PV) (g : GG) (I : II) : RS := match st with
  | .inl x :: .inl i :: .inr (.inr (some a)) :: r => if len = 1 ∧ (gK g a).1 = 1 ∧ 0 ≤ i ∧ i < (gK g a).2 then nx (pc + 1) ls r g (up I a i.toNat x) else none
  | _ => none
def s_last (len pc : Nat) (ls : LL) (st : List PV) (g : GG) (I : II) : RS := match st with
  | .inr (.inl x) :: .inl i :: .inr (.inr (some a)) :: r => if len = 1 ∧ (gK g a).1 = 2 ∧ 0 ≤ i ∧ i < (gK g a).2 then nx (pc + 1) ls r g (up I a i.toNat x) else none
  | _ => none
def s_aast (len pc : Nat) (ls : LL) (st : List PV) (g : GG) (I : II) : RS := match st with
  | .inr (.inr (some b)) :: .inl i :: .inr (.inr (some a)) :: r => if len = 1 ∧ (gK g a).1 = 3 ∧ 0 ≤ i ∧ i < (gK g a).2 ∧ (gK g b).1 = 0 ∧ (gK g b).2 ∈ [0, 1, 2, 3, 6, 9] then nx (pc + 1) ls r (gput g a i.toNat (some b)) I else none
  | _ => none
def s_alen (len pc : Nat) (ls : LL) (st : List PV) (g : GG) (I : II) : RS := match st with
  | .inr (.inr (some a)) :: r => if len = 1 ∧ 1 ≤ (gK g a).1 ∧ (gK g a).1 ≤ 5 then nx (pc + 1) ls (vi ((gK g a).2 : Nat) :: r) g I else none
  | _ => none
def s_new (own k len pc : Nat) (ls : LL) (st : List PV) (g : GG) (I : II) : RS := match NT.lookup (own, k) with
  | some ci => if len = 3 then nx (pc + 3) ls (vr (some (gN g)) :: st) (gnew g (0, ci) (NS.getD ci 0)) (inew I (gN g)) else none
  | _ => none
def s_newa (ty len pc : Nat) (ls : LL) (st : List PV) (g : GG) (I : II) : RS := match st with
  | .inl n :: r => if len = 2 ∧ 0 ≤ n ∧ n ≤ 10000 then nx (pc + 2) ls (vr (some (gN g)) :: r) (gnew g (ty, n.toNat) n.toNat) (inew I (gN g)) else none
  | _ => none
def s_anew (own k len pc : Nat) (ls : LL) (st : List PV) (g : GG) (I : II) : RS := match st with
  | .inl n :: r => if len = 3 ∧ (own, k) ∈ AT ∧ 0 ≤ n ∧ n ≤ 10000 then nx (pc + 3) ls (vr (some (gN g)) :: r) (gnew g (3, n.toNat) n.toNat) (inew I (gN g)) else none
  | _ => none
def s_copy (pc : Nat) (ls : LL) (st : List PV) (g : GG) (I : II) : RS := match st with
  | .inl n :: .inl dp :: .inr (.inr (some a)) :: .inl sp :: .inr (.inr (some a0)) :: r => if (gK g a0).1 = 1 ∧ (gK g a).1 = 1 ∧ 0 ≤ n ∧ 0 ≤ dp ∧ 0 ≤ sp ∧ sp + n ≤ (gK g a0).2 ∧ dp + n ≤ (gK g a).2 ∧ (r.map cat).sum ≤ 8 then nx (pc + 3) ls r g (icpy I a0 sp.toNat a dp.toNat n.toNat) else none
  | _ => none
def s_mx (f : Int → Int → Int) (pc : Nat) (ls : LL) (st : List PV) (g : GG) (I : II) : RS := match st with
  | .inl y :: .inl x :: r => if (r.map cat).sum ≤ 8 then nx (pc + 3) ls (vi (f x y) :: r) g I else none
  | _ => none
def s_mxl (pc : Nat) (ls : LL) (st : List PV) (g : GG) (I : II) : RS := match st with
  | .inr (.inl y) :: .inr (.inl x) :: r => if (r.map cat).sum ≤ 8 then nx (pc + 3) ls (vl (max x y) :: r) g I else none
  | _ => none
def s_cst (n pc : Nat) (tg : List (Nat × Nat)) (st : List PV) : RS := match tg with
  | [(_, m)] => if n ≤ st.length ∧ ((st.drop n).map cat).sum ≤ 8 ∧ (lay (st.take n).reverse).length ≤ mMax m then cl m (st.take n).reverse (pc + 3) (st.drop n) else none
  | _ => none
def s_cvr (n pc : Nat) (tg : List (Nat × Nat)) (st : List PV) (g : GG) : RS := match st.drop n with
  | .inr (.inr (some b)) :: r => (match tg.lookup (gK g b).2 with
    | some m => if (gK g b).1 = 0 ∧ (r.map cat).sum ≤ 8 ∧ (lay (st.take n).reverse).length + 1 ≤ mMax m then cl m (vr (some b) :: (st.take n).reverse) (pc + 3) r else none
    | none => none)
  | _ => none
def s_csp (n pc : Nat) (tg : List (Nat × Nat)) (st : List PV) (g : GG) : RS := match st.drop n with
  | .inr (.inr (some b)) :: r => (match tg with
    | [(_, m)] => if (gK g b).1 = 0 ∧ (gK g b).2 < 12 ∧ (r.map cat).sum ≤ 8 ∧ (lay (st.take n).reverse).length + 1 ≤ mMax m then cl m (vr (some b) :: (st.take n).reverse) (pc + 3) r else none
    | _ => none)
  | _ => none
def s_coi (pc : Nat) (ls : LL) (st : List PV) (g : GG) (I : II) : RS := match st with
  | .inr (.inr (some b)) :: r => if (gK g b).1 = 0 ∧ (gK g b).2 < 12 ∧ (r.map cat).sum ≤ 8 then nx (pc + 3) ls r g I else none
  | _ => none
def s_static (own k pc : Nat) (ls : LL) (st : List PV) (g : GG) (I : II) : RS := match MC.lookup (own, k) with
  | some q => if q.1 = 0 then s_cst q.2.1 pc q.2.2 st else if q.1 = 7 then s_copy pc ls st g I else if q.1 = 8 then s_mx max pc ls st g I else if q.1 = 9 then s_mx min pc ls st g I else if q.1 = 10 then s_mxl pc ls st g I else none
  | none => none
def s_virt (own k pc : Nat) (ls : LL) (st : List PV) (g : GG) (I : II) : RS := match MC.lookup (own, k) with
  | some q => if q.1 = 1 ∨ q.1 = 2 then s_cvr q.2.1 pc q.2.2 st g else none
  | none => none
def s_spec (own k pc : Nat) (ls : LL) (st : List PV) (g : GG) (I : II) : RS := match MC.lookup (own, k) with
  | some q => if q.1 = 6 then s_coi pc ls st g I else if q.1 = 3 ∨ q.1 = 4 ∨ q.1 = 5 then s_csp q.2.1 pc q.2.2 st g else none
  | none => none
def retB (m : Nat) (x : Int) : Bool := match mRet m with
  | some .int => true
  | some .boolean => decide (x = 0 ∨ x = 1)
  | some .char => decide (0 ≤ x ∧ x < 65536)
  | some .byte => decide (-128 ≤ x ∧ x < 128)
  | _ => false
def s_iret (m len : Nat) (st : List PV) : RS := match st with
  | [.inl x] => if len = 1 ∧ retB m x = true then rt (some (vi x)) else none
  | _ => none
def s_lret (m len : Nat) (st : List PV) : RS := match st with
  | [.inr (.inl x)] => if len = 1 ∧ mRet m = some .long then rt (some (vl x)) else none
  | _ => none
def retA (m : Nat) : Bool := match mRet m with
  | some (.object _) => true
  | _ => false
def s_aret (m len : Nat) (st : List PV) : RS := match st with
  | [.inr (.inr (some x))] => if len = 1 ∧ retA m = true then rt (some (vr (some x))) else none
  | _ => none
def s_vret (m len : Nat) (st : List PV) : RS := match st with
  | [] => if len = 1 ∧ mRet m = none then rt none else none
  | _ => none
def stepI (m : Nat) (i : Instr) (len pc : Nat) (ls : LL) (st : List PV) (g : GG) (I : II) : RS := match i with
  | .iconst n => if len = 1 ∧ -1 ≤ n ∧ n ≤ 5 then nx (pc + 1) ls (vi n :: st) g I else none
  | .bipush n => if len = 2 ∧ -128 ≤ n ∧ n < 128 then nx (pc + 2) ls (vi n :: st) g I else none
  | .sipush n => if len = 3 ∧ -32768 ≤ n ∧ n < 32768 then nx (pc + 3) ls (vi n :: st) g I else none
  | .lconst n => if len = 1 then nx (pc + 1) ls (vl ((n : Nat) : Int) :: st) g I else none
  | .ldc k => s_ldc 2 (mOwn m) k len pc ls st g I
  | .ldc_w k => s_ldc 3 (mOwn m) k len pc ls st g I
  | .ldc2_w k => s_ldc2 (mOwn m) k len pc ls st g I
  | .iload_n k => s_ild 1 len k pc ls st g I
  | .iload k => s_ild 2 len k pc ls st g I
  | .lload_n k => s_lld 1 len k pc ls st g I
  | .lload k => s_lld 2 len k pc ls st g I
  | .aload_n k => s_ald 1 len k pc ls st g I
  | .aload k => s_ald 2 len k pc ls st g I
  | .istore_n k => s_ist 1 len k pc ls st g I
  | .istore k => s_ist 2 len k pc ls st g I
  | .lstore_n k => s_lst 1 len k pc ls st g I
  | .lstore k => s_lst 2 len k pc ls st g I
  | .astore_n k => s_ast 1 len k pc ls st g I
  | .astore k => s_ast 2 len k pc ls st g I
  | .iinc k n => s_iinc len k n pc ls st g I
  | .iadd => s_i2 (i2 (· + ·)) len pc ls st g I
  | .isub => s_i2 (i2 (· - ·)) len pc ls st g I
  | .imul => s_i2 (i2 (· * ·)) len pc ls st g I
  | .iand => s_i2 (i2 (· &&& ·)) len pc ls st g I
  | .idiv => s_id (i2 (· / ·)) len pc ls st g I
  | .irem => s_id (i2 (fun x y => x - x / y * y)) len pc ls st g I
  | .ineg => s_i1 (i1 (fun x => -x)) len pc ls st g I
  | .ishl => s_i2 (i2 (fun x y => x <<< (y &&& 31))) len pc ls st g I
  | .ishr => s_i2 (i2 (fun x y => x >>> (y &&& 31))) len pc ls st g I
  | .iushr => s_i2 (i2 (fun x y => (x.toUInt32 >>> (y.toUInt32 &&& Int32.toUInt32 31)).toInt32)) len pc ls st g I
  | .i2b => s_i1 (i1 (fun x => x.toInt8.toInt32)) len pc ls st g I
  | .i2c => s_i1 (i1 (fun x => (x.toUInt32 % 65536).toInt32)) len pc ls st g I
  | .ladd => s_l2 (l2 (· + ·)) len pc ls st g I
  | .lsub => s_l2 (l2 (· - ·)) len pc ls st g I
  | .lmul => s_l2 (l2 (· * ·)) len pc ls st g I
  | .land => s_l2 (l2 (· &&& ·)) len pc ls st g I
  | .lor => s_l2 (l2 (· ||| ·)) len pc ls st g I
  | .ldiv => s_ldv (l2 (· / ·)) len pc ls st g I
  | .lrem => s_ldv (l2 (fun x y => x - x / y * y)) len pc ls st g I
  | .lshl => s_lsh (l3 (fun x y => x <<< (y.toInt64 &&& 63))) len pc ls st g I
  | .lshr => s_lsh (l3 (fun x y => x >>> (y.toInt64 &&& 63))) len pc ls st g I
  | .lushr => s_lsh (l3 (fun x y => (x.toUInt64 >>> (y.toInt64.toUInt64 &&& Int64.toUInt64 63)).toInt64)) len pc ls st g I
  | .lcmp => s_lcmp len pc ls st g I
  | .i2l => s_i2l len pc ls st g I
  | .l2i => s_l2i len pc ls st g I
  | .ifCond c off => s_if c off len pc ls st g I
  | .if_icmp c off => s_icmp c off len pc ls st g I
  | .goto off => if len = 3 then s_go off pc ls st g I else none
  | .tableswitch df lo hi offs => s_tsw df lo hi offs pc ls st g I
  | .lookupswitch df ps => s_lsw df ps pc ls st g I
  | .dup => s_dup len pc ls st g I
  | .dup2 => s_dup2 len pc ls st g I
  | .pop => s_pop len pc ls st g I
  | .getfield k => s_getf (mOwn m) k len pc ls st g I
  | .putfield k => s_putf m (mOwn m) k len pc ls st g I
  | .getstatic k => s_gets (mOwn m) k len pc ls st g I
  | .iaload => s_iald len pc ls st g I
  | .baload => s_bald len pc ls st g I
  | .laload => s_lald len pc ls st g I
  | .aaload => s_aald len pc ls st g I
  | .iastore => s_iast len pc ls st g I
  | .lastore => s_last len pc ls st g I
  | .aastore => s_aast len pc ls st g I
  | .arraylength => s_alen len pc ls st g I
  | .new k => s_new (mOwn m) k len pc ls st g I
  | .newarray .int => s_newa 1 len pc ls st g I
  | .newarray .long => s_newa 2 len pc ls st g I
  | .anewarray k => s_anew (mOwn m) k len pc ls st g I
  | .invokestatic k => if len = 3 then s_static (mOwn m) k pc ls st g I else none
  | .invokevirtual k => if len = 3 then s_virt (mOwn m) k pc ls st g I else none
  | .invokespecial k => if len = 3 then s_spec (mOwn m) k pc ls st g I else none
  | .ireturn => s_iret m len st
  | .lreturn => s_lret m len st
  | .areturn => s_aret m len st
  | .return_ => s_vret m len st
  | _ => none
def onlyN (r : RS) : RS := match r with
  | some (.inl x) => some (.inl x)
  | _ => none
def iCls (i : Instr) : Nat := match i with
  | .ireturn => 1
  | .lreturn => 1
  | .areturn => 1
  | .return_ => 1
  | .invokestatic _ => 2
  | .invokevirtual _ => 2
  | .invokespecial _ => 2
  | _ => 0
def step (m pc : Nat) (ls : LL) (st : List PV) (g : GG) (I : II) : RS := match decode (mCode m) pc with
  | .ok (i, len) => if iCls i = 0 then onlyN (stepI m i len pc ls st g I) else stepI m i len pc ls st g I
  | .error _ => none
theorem onlyN_nx {r : RS} {pc' : Nat} {ls' : LL} {st' : List PV} {g' : GG} {I' : II} (h : onlyN r = nx pc' ls' st' g' I') : r = nx pc' ls' st' g' I' := by
  unfold onlyN at h
  split at h
  · exact h
  · cases h
theorem onlyN_rt {r : RS} {v : Option PV} (h : onlyN r = rt v) : False := by
  unfold onlyN at h
  split at h <;> cases h
theorem onlyN_cl {r : RS} {m pc : Nat} {as st : List PV} (h : onlyN r = cl m as pc st) : False := by
  unfold onlyN at h
  split at h <;> cases h
theorem step_nx {m pc len pc' : Nat} {i : Instr} {ls ls' : LL} {st st' : List PV} {g g' : GG} {I I' : II} (hd : decode (mCode m) pc = .ok (i, len)) (h : stepI m i len pc ls st g I = nx pc' ls' st' g' I') : step m pc ls st g I = nx pc' ls' st' g' I' := by
  unfold step
  rw [hd]
  dsimp only
  rw [h]
  split <;> rfl
theorem step_oth {m pc len : Nat} {i : Instr} {ls : LL} {st : List PV} {g : GG} {I : II} {r : RS} (hd : decode (mCode m) pc = .ok (i, len)) (hc : iCls i ≠ 0) (h : stepI m i len pc ls st g I = r) : step m pc ls st g I = r := by
  unfold step
  rw [hd]
  dsimp only
  rw [if_neg hc, h]
theorem step_none {m pc len : Nat} {i : Instr} {ls : LL} {st : List PV} {g : GG} {I : II} (hd : decode (mCode m) pc = .ok (i, len)) (h : stepI m i len pc ls st g I = none) : step m pc ls st g I = none := by
  unfold step
  rw [hd]
  dsimp only
  rw [h]
  split <;> rfl
abbrev QQ : Type := Option PV → GG → II → Prop
def wp : Nat → Nat → Nat → Nat → LL → List PV → GG → II → QQ → Prop
  | 0, _, _, _, _, _, _, _, _ => False
  | n + 1, d, m, pc, ls, st, g, I, Q => match step m pc ls st g I with
    | none => False
    | some (.inl (pc', (ls', (st', (g', I'))))) => (gN g ≤ gN g' ∧ gS g ≤ gS g') ∧ wp n d m pc' ls' st' g' I' Q
    | some (.inr (.inl v)) => Q v g I
    | some (.inr (.inr (m', (as, (pc', st'))))) => match d with
      | 0 => False
      | d' + 1 => wp n d' m' 0 (entryL m' as) [] g I (fun v g' I' => wp n (d' + 1) m pc' ls (v.toList ++ st') g' I' Q)
def WP (d m pc : Nat) (ls : LL) (st : List PV) (g : GG) (I : II) (Q : QQ) : Prop := ∃ n, wp n d m pc ls st g I Q
theorem wp_mono : ∀ (n d m pc : Nat) (ls : LL) (st : List PV) (g : GG) (I : II) (Q Q' : QQ), (∀ v g I, Q v g I → Q' v g I) → wp n d m pc ls st g I Q → wp n d m pc ls st g I Q' := by
  intro n
  induction n with
  | zero => intro d m pc ls st g I Q Q' h hw; exact hw
  | succ n ih =>
    intro d m pc ls st g I Q Q' h hw
    unfold wp at hw ⊢
    split
    · rename_i hs; rw [hs] at hw; exact hw
    · rename_i pc' ls' st' g' I' hs
      rw [hs] at hw
      exact ⟨hw.1, ih _ _ _ _ _ _ _ _ _ h hw.2⟩
    · rename_i v hs
      rw [hs] at hw
      exact h _ _ _ hw
    · rename_i m' as pc' st' hs
      rw [hs] at hw
      cases d with
      | zero => exact hw
      | succ d' => exact ih _ _ _ _ _ _ _ _ _ (fun v g I hq => ih _ _ _ _ _ _ _ _ _ h hq) hw
theorem wp_succ : ∀ (n d m pc : Nat) (ls : LL) (st : List PV) (g : GG) (I : II) (Q : QQ), wp n d m pc ls st g I Q → wp (n + 1) d m pc ls st g I Q := by
  intro n
  induction n with
  | zero => intro d m pc ls st g I Q hw; exact False.elim hw
  | succ n ih =>
    intro d m pc ls st g I Q hw
    unfold wp at hw ⊢
    split
    · rename_i hs; rw [hs] at hw; exact hw
    · rename_i pc' ls' st' g' I' hs
      rw [hs] at hw
      exact ⟨hw.1, ih _ _ _ _ _ _ _ _ hw.2⟩
    · rename_i v hs
      rw [hs] at hw
      exact hw
    · rename_i m' as pc' st' hs
      rw [hs] at hw
      cases d with
      | zero => exact hw
      | succ d' => exact wp_mono _ _ _ _ _ _ _ _ _ _ (fun v g I hq => ih _ _ _ _ _ _ _ _ hq) (ih _ _ _ _ _ _ _ _ hw)
theorem wp_le {n n' d m pc : Nat} {ls : LL} {st : List PV} {g : GG} {I : II} {Q : QQ} (h : n ≤ n') (hw : wp n d m pc ls st g I Q) : wp n' d m pc ls st g I Q := by
  induction h with
  | refl => exact hw
  | step _ ih => exact wp_succ _ _ _ _ _ _ _ _ _ ih
theorem wp_deep : ∀ (n d m pc : Nat) (ls : LL) (st : List PV) (g : GG) (I : II) (Q : QQ), wp n d m pc ls st g I Q → wp n (d + 1) m pc ls st g I Q := by
  intro n
  induction n with
  | zero => intro d m pc ls st g I Q hw; exact hw
  | succ n ih =>
    intro d m pc ls st g I Q hw
    unfold wp at hw ⊢
    split
    · rename_i hs; rw [hs] at hw; exact hw
    · rename_i pc' ls' st' g' I' hs
      rw [hs] at hw
      exact ⟨hw.1, ih _ _ _ _ _ _ _ _ hw.2⟩
    · rename_i v hs
      rw [hs] at hw
      exact hw
    · rename_i m' as pc' st' hs
      rw [hs] at hw
      cases d with
      | zero => exact False.elim hw
      | succ d' => exact wp_mono _ _ _ _ _ _ _ _ _ _ (fun v g I hq => ih _ _ _ _ _ _ _ _ hq) (ih _ _ _ _ _ _ _ _ hw)
theorem wp_det : ∀ (n d m pc : Nat) (ls : LL) (st : List PV) (g : GG) (I : II) (Q : QQ), wp n d m pc ls st g I Q → ∃ v g' I', Q v g' I' ∧ wp n d m pc ls st g I (fun v1 g1 I1 => v1 = v ∧ g1 = g' ∧ I1 = I') := by
  intro n
  induction n with
  | zero => intro d m pc ls st g I Q hw; exact False.elim hw
  | succ n ih =>
    intro d m pc ls st g I Q hw
    unfold wp at hw
    split at hw
    · exact False.elim hw
    · rename_i pc' ls' st' g' I' hs
      obtain ⟨v, g1, I1, h1, h2⟩ := ih _ _ _ _ _ _ _ _ hw.2
      refine ⟨v, g1, I1, h1, ?_⟩
      unfold wp; rw [hs]
      exact ⟨hw.1, h2⟩
    · rename_i v hs
      refine ⟨v, g, I, hw, ?_⟩
      unfold wp; rw [hs]
      exact ⟨rfl, rfl, rfl⟩
    · rename_i m' as pc' st' hs
      cases d with
      | zero => exact False.elim hw
      | succ d' =>
        obtain ⟨v, g1, I1, h1, h2⟩ := ih _ _ _ _ _ _ _ _ hw
        obtain ⟨v2, g2, I2, h3, h4⟩ := ih _ _ _ _ _ _ _ _ h1
        refine ⟨v2, g2, I2, h3, ?_⟩
        unfold wp; rw [hs]
        refine wp_mono _ _ _ _ _ _ _ _ _ _ ?_ h2
        rintro v g I ⟨rfl, rfl, rfl⟩
        exact h4
theorem wp_size : ∀ (n d m pc : Nat) (ls : LL) (st : List PV) (g : GG) (I : II) (v : Option PV) (g' : GG) (I' : II), wp n d m pc ls st g I (fun v1 g1 I1 => v1 = v ∧ g1 = g' ∧ I1 = I') → gN g ≤ gN g' ∧ gS g ≤ gS g' := by
  intro n
  induction n with
  | zero => intro d m pc ls st g I v g' I' hw; exact False.elim hw
  | succ n ih =>
    intro d m pc ls st g I v g1 I1 hw
    unfold wp at hw
    split at hw
    · exact False.elim hw
    · have h2 := ih _ _ _ _ _ _ _ _ _ _ hw.2
      exact ⟨Nat.le_trans hw.1.1 h2.1, Nat.le_trans hw.1.2 h2.2⟩
    · obtain ⟨-, rfl, -⟩ := hw
      exact ⟨Nat.le_refl _, Nat.le_refl _⟩
    · rename_i m' as pc' st' hs
      cases d with
      | zero => exact False.elim hw
      | succ d' =>
        obtain ⟨v2, g2, I2, h1, h2⟩ := wp_det _ _ _ _ _ _ _ _ _ hw
        have a1 := ih _ _ _ _ _ _ _ _ _ _ h2
        have a2 := ih _ _ _ _ _ _ _ _ _ _ h1
        exact ⟨Nat.le_trans a1.1 a2.1, Nat.le_trans a1.2 a2.2⟩
theorem WP_conseq {d m pc : Nat} {ls : LL} {st : List PV} {g : GG} {I : II} {Q Q' : QQ} (hw : WP d m pc ls st g I Q) (h : ∀ v g I, Q v g I → Q' v g I) : WP d m pc ls st g I Q' := by
  obtain ⟨n, hn⟩ := hw
  exact ⟨n, wp_mono _ _ _ _ _ _ _ _ _ _ h hn⟩
theorem WP_deep {d m pc : Nat} {ls : LL} {st : List PV} {g : GG} {I : II} {Q : QQ} {k : Nat} (h : k ≤ d) (hw : WP k m pc ls st g I Q) : WP d m pc ls st g I Q := by
  obtain ⟨n, hn⟩ := hw
  refine ⟨n, ?_⟩
  induction h with
  | refl => exact hn
  | step _ ih => exact wp_deep _ _ _ _ _ _ _ _ _ ih
theorem WP_next {d m pc pc' : Nat} {ls ls' : LL} {st st' : List PV} {g g' : GG} {I I' : II} {Q : QQ} (hs : step m pc ls st g I = nx pc' ls' st' g' I') (h1 : gN g ≤ gN g') (h2 : gS g ≤ gS g') : WP d m pc ls st g I Q = WP d m pc' ls' st' g' I' Q := by
  apply propext
  constructor
  · rintro ⟨n, hn⟩
    cases n with
    | zero => exact False.elim hn
    | succ n =>
      unfold wp at hn
      rw [hs] at hn
      exact ⟨n, hn.2⟩
  · rintro ⟨n, hn⟩
    refine ⟨n + 1, ?_⟩
    unfold wp
    rw [hs]
    exact ⟨⟨h1, h2⟩, hn⟩
theorem WP_nx {d m pc pc' : Nat} {ls ls' : LL} {st st' : List PV} {g : GG} {I I' : II} {Q : QQ} (hs : step m pc ls st g I = nx pc' ls' st' g I') : WP d m pc ls st g I Q = WP d m pc' ls' st' g I' Q := WP_next hs (Nat.le_refl _) (Nat.le_refl _)
theorem WP_no {d m pc : Nat} {ls : LL} {st : List PV} {g : GG} {I : II} {Q : QQ} (hs : step m pc ls st g I = none) : WP d m pc ls st g I Q = False := by
  apply propext
  constructor
  · rintro ⟨n, hn⟩
    cases n with
    | zero => exact hn
    | succ n =>
      unfold wp at hn
      rw [hs] at hn
      exact hn
  · exact False.elim
theorem WP_rt {d m pc : Nat} {ls : LL} {st : List PV} {g : GG} {I : II} {Q : QQ} {v : Option PV} (hs : step m pc ls st g I = rt v) : WP d m pc ls st g I Q = Q v g I := by
  apply propext
  constructor
  · rintro ⟨n, hn⟩
    cases n with
    | zero => exact False.elim hn
    | succ n =>
      unfold wp at hn
      rw [hs] at hn
      exact hn
  · intro hq
    refine ⟨1, ?_⟩
    unfold wp
    rw [hs]
    exact hq
theorem WP_cl {d m pc pc' m' : Nat} {ls : LL} {st st' as : List PV} {g : GG} {I : II} {Q : QQ} (hs : step m pc ls st g I = cl m' as pc' st') : WP (d + 1) m pc ls st g I Q = WP d m' 0 (entryL m' as) [] g I (fun v g' I' => WP (d + 1) m pc' ls (v.toList ++ st') g' I' Q) := by
  apply propext
  constructor
  · rintro ⟨n, hn⟩
    cases n with
    | zero => exact False.elim hn
    | succ n =>
      unfold wp at hn
      rw [hs] at hn
      exact ⟨n, wp_mono _ _ _ _ _ _ _ _ _ _ (fun v g I h => ⟨n, h⟩) hn⟩
  · rintro ⟨n, hn⟩
    obtain ⟨v, g', I', ⟨k, hk⟩, h2⟩ := wp_det _ _ _ _ _ _ _ _ _ hn
    refine ⟨max n k + 1, ?_⟩
    unfold wp
    rw [hs]
    refine wp_mono _ _ _ _ _ _ _ _ _ _ ?_ (wp_le (Nat.le_max_left n k) h2)
    rintro v g I ⟨rfl, rfl, rfl⟩
    exact wp_le (Nat.le_max_right n k) hk

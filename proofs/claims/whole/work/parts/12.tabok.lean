-- the tables hold: by program (wip/whole/tabok.py)
def cn (k : Nat) : String := CN.getD k ""
def MOK (m : Nat) : Prop := Cond.code (mY m) (mCode m) (mMax m) (mRet m) ∈ TB ∧ plainName (mY m).cls = true ∧ Cond.initialized (mY m).cls ∈ TB ∧ ((mY m).cls ≠ "java/lang/invoke/MethodHandle" ∧ (mY m).cls ≠ "java/lang/invoke/VarHandle") ∧ (mY m).cls = cn (mOwn m) ∧ mMax m ≤ 21
def FTok (q : (Nat × Nat) × (Nat × Nat × List Nat)) : Prop :=
  (q.2.2.2 = [12] ∧ ((q.2.1 = 0 ∧ q.2.2.1 = 22 ∧ Cond.fieldLink (cn q.1.1) q.1.2 "java/lang/String" "value" "[B" ∈ TB) ∨ (q.2.1 = 1 ∧ q.2.2.1 = 20 ∧ Cond.fieldLink (cn q.1.1) q.1.2 "java/lang/String" "coder" "B" ∈ TB))) ∨
  ∃ ref : String, ∀ ci ∈ q.2.2.2, ∃ r : vw_C, vwCl[ci]? = some r ∧ ci < 12 ∧ q.2.1 < r.2.2 ∧ Cond.fieldLink (cn q.1.1) q.1.2 ref (r.2.1 q.2.1).2.1 (r.2.1 q.2.1).2.2.1 ∈ TB ∧ (ref = (r.2.1 q.2.1).1 ∨ Cond.sameField ref (r.2.1 q.2.1).1 (r.2.1 q.2.1).2.1 (r.2.1 q.2.1).2.2.1 ∈ TB) ∧
    isRefT (tyOf ci q.2.1) = decide (q.2.2.1 % 10 = 2) ∧ (q.2.2.1 < 10 → (r.2.1 q.2.1).2.2.2 = false) ∧ (10 ≤ q.2.2.1 → q.2.2.1 < 20 → (r.2.1 q.2.1).2.2.2 = true ∧ (r.2.1 q.2.1).1 = cn q.1.1) ∧ (q.2.2.1 % 10 = 0 → tyOf ci q.2.1 = .int) ∧ (q.2.2.1 % 10 = 1 → tyOf ci q.2.1 = .boolean)
def nPar (y : MethodName) (n : Nat) : Prop := (parseMethodDescriptor y.desc).map (fun d => d.parameters.length) = some n
def cName (ci : Nat) : String := (vwCl.getD ci ("java/lang/String", TX0, 0)).1
def MCok (q : (Nat × Nat) × (Nat × Nat × List (Nat × Nat))) : Prop :=
  (q.2.1 = 0 ∧ ∃ x m, q.2.2.2 = [(x, m)] ∧ MOK m ∧ nPar (mY m) q.2.2.1 ∧ Cond.methodLink (cn q.1.1) q.1.2 (mY m) ∈ TB ∧ Cond.static (mY m) ∈ TB) ∨
  (q.2.1 = 1 ∧ ∀ t ∈ q.2.2.2, MOK t.2 ∧ nPar (mY t.2) q.2.2.1 ∧ (t.1 < 12 ∨ t.1 = 12) ∧ (mY t.2).cls = cName t.1 ∧ Cond.methodLink (cn q.1.1) q.1.2 (mY t.2) ∈ TB ∧ Cond.instanceMethod (mY t.2) ∈ TB ∧ Cond.selects (cName t.1) (mY t.2) (mY t.2) ∈ TB) ∨
  (q.2.1 = 2 ∧ ∃ x : MethodName, (x = ⟨thingN, "isOpen", "([I)Z"⟩ ∨ x = ⟨thingN, "worthThen", "(II[I)I"⟩) ∧ Cond.methodLink (cn q.1.1) q.1.2 x ∈ TB ∧ Cond.sameMethod x.cls thingN x.name x.desc ∈ TB ∧ nPar x q.2.2.1 ∧ ∀ t ∈ q.2.2.2, MOK t.2 ∧ t.1 < 12 ∧ Cond.selects (cName t.1) x (mY t.2) ∈ TB ∧ Cond.instanceMethod (mY t.2) ∈ TB) ∨
  (q.2.1 = 3 ∧ ∃ x m, q.2.2.2 = [(x, m)] ∧ MOK m ∧ nPar (mY m) q.2.2.1 ∧ (mY m).name = "<init>" ∧ mRet m = none ∧ Cond.methodLink (cn q.1.1) q.1.2 (mY m) ∈ TB ∧ Cond.instanceMethod (mY m) ∈ TB) ∨
  (q.2.1 = 4 ∧ ∃ x m, q.2.2.2 = [(x, m)] ∧ MOK m ∧ nPar (mY m) q.2.2.1 ∧ (mY m).name = "<init>" ∧ mRet m = none ∧ (q.1.1, (q.1.2, m)) ∈ NEST ∧ Cond.instanceMethod (mY m) ∈ TB) ∨
  (q.2.1 = 5 ∧ ∃ x m, q.2.2.2 = [(x, m)] ∧ MOK m ∧ nPar (mY m) q.2.2.1 ∧ (mY m).name ≠ "<init>" ∧ Cond.methodLink (cn q.1.1) q.1.2 (mY m) ∈ TB ∧ Cond.sameMethod (mY m).cls (mY m).cls (mY m).name (mY m).desc ∈ TB ∧ Cond.superclass (cn q.1.1) (mY m).cls ∈ TB ∧ Cond.instanceMethod (mY m) ∈ TB) ∨
  (q.2.1 = 6 ∧ q.2.2.1 = 0 ∧ Cond.methodLink (cn q.1.1) q.1.2 objectInit ∈ TB) ∨
  (q.2.1 = 7 ∧ Cond.methodLink (cn q.1.1) q.1.2 arraycopyName ∈ TB) ∨
  (q.2.1 = 8 ∧ Cond.methodLink (cn q.1.1) q.1.2 Lib.Math.max.name ∈ TB) ∨
  (q.2.1 = 9 ∧ Cond.methodLink (cn q.1.1) q.1.2 Lib.Math.min.name ∈ TB) ∨
  (q.2.1 = 10 ∧ Cond.methodLink (cn q.1.1) q.1.2 Lib.MathLoose.max_long.x ∈ TB)
def CTok (q : (Nat × Nat) × (Nat × Int)) : Prop := (q.2.1 = 0 ∧ r32 q.2.2 ∧ Cond.constant (cn q.1.1) q.1.2 (Int32.ofInt q.2.2) ∈ TB) ∨ (q.2.1 = 1 ∧ ((cn q.1.1 = RX7 ∧ q.1.2 = 78) ∨ (cn q.1.1 = RX9 ∧ q.1.2 = 89))) ∨ (q.2.1 = 2 ∧ r64 q.2.2 ∧ Cond.constantLong (cn q.1.1) q.1.2 (Int64.ofInt q.2.2) ∈ TB)
def NTok (q : (Nat × Nat) × Nat) : Prop := q.2 < 12 ∧ Cond.classLink (cn q.1.1) q.1.2 (cName q.2) ∈ TB ∧ Cond.instantiable (cName q.2) (NS.getD q.2 0) ∈ TB ∧ Cond.initialized (cName q.2) ∈ TB
set_option maxRecDepth 100000 in
theorem mok_1 : MOK 1 := ⟨tb_at 530 rfl rfl, by decide +kernel, tb_at 74 (by decide +kernel) rfl, by decide +kernel, rfl, by decide +kernel⟩
set_option maxRecDepth 100000 in
theorem mok_2 : MOK 2 := ⟨tb_at 668 rfl rfl, by decide +kernel, tb_at 74 (by decide +kernel) rfl, by decide +kernel, rfl, by decide +kernel⟩
set_option maxRecDepth 100000 in
theorem mok_3 : MOK 3 := ⟨tb_at 647 rfl rfl, by decide +kernel, tb_at 74 (by decide +kernel) rfl, by decide +kernel, rfl, by decide +kernel⟩
set_option maxRecDepth 100000 in
theorem mok_4 : MOK 4 := ⟨tb_at 543 rfl rfl, by decide +kernel, tb_at 75 (by decide +kernel) rfl, by decide +kernel, rfl, by decide +kernel⟩
set_option maxRecDepth 100000 in
theorem mok_5 : MOK 5 := ⟨tb_at 651 rfl rfl, by decide +kernel, tb_at 75 (by decide +kernel) rfl, by decide +kernel, rfl, by decide +kernel⟩
set_option maxRecDepth 100000 in
theorem mok_6 : MOK 6 := ⟨tb_at 567 rfl rfl, by decide +kernel, tb_at 77 (by decide +kernel) rfl, by decide +kernel, rfl, by decide +kernel⟩
set_option maxRecDepth 100000 in
theorem mok_7 : MOK 7 := ⟨tb_at 674 rfl rfl, by decide +kernel, tb_at 77 (by decide +kernel) rfl, by decide +kernel, rfl, by decide +kernel⟩
set_option maxRecDepth 100000 in
theorem mok_8 : MOK 8 := ⟨tb_at 579 rfl rfl, by decide +kernel, tb_at 78 (by decide +kernel) rfl, by decide +kernel, rfl, by decide +kernel⟩
set_option maxRecDepth 100000 in
theorem mok_9 : MOK 9 := ⟨tb_at 678 rfl rfl, by decide +kernel, tb_at 78 (by decide +kernel) rfl, by decide +kernel, rfl, by decide +kernel⟩
set_option maxRecDepth 100000 in
theorem mok_10 : MOK 10 := ⟨tb_at 101 rfl rfl, by decide +kernel, tb_at 61 (by decide +kernel) rfl, by decide +kernel, rfl, by decide +kernel⟩
set_option maxRecDepth 100000 in
theorem mok_11 : MOK 11 := ⟨tb_at 706 rfl rfl, by decide +kernel, tb_at 61 (by decide +kernel) rfl, by decide +kernel, rfl, by decide +kernel⟩
set_option maxRecDepth 100000 in
theorem mok_12 : MOK 12 := ⟨tb_at 373 rfl rfl, by decide +kernel, tb_at 61 (by decide +kernel) rfl, by decide +kernel, rfl, by decide +kernel⟩
set_option maxRecDepth 100000 in
theorem mok_13 : MOK 13 := ⟨tb_at 628 rfl rfl, by decide +kernel, tb_at 61 (by decide +kernel) rfl, by decide +kernel, rfl, by decide +kernel⟩
set_option maxRecDepth 100000 in
theorem mok_14 : MOK 14 := ⟨tb_at 633 rfl rfl, by decide +kernel, tb_at 61 (by decide +kernel) rfl, by decide +kernel, rfl, by decide +kernel⟩
set_option maxRecDepth 100000 in
theorem mok_15 : MOK 15 := ⟨tb_at 641 rfl rfl, by decide +kernel, tb_at 61 (by decide +kernel) rfl, by decide +kernel, rfl, by decide +kernel⟩
set_option maxRecDepth 100000 in
theorem mok_16 : MOK 16 := ⟨tb_at 662 rfl rfl, by decide +kernel, tb_at 61 (by decide +kernel) rfl, by decide +kernel, rfl, by decide +kernel⟩
set_option maxRecDepth 100000 in
theorem mok_17 : MOK 17 := ⟨tb_at 911 rfl rfl, by decide +kernel, tb_at 61 (by decide +kernel) rfl, by decide +kernel, rfl, by decide +kernel⟩
set_option maxRecDepth 100000 in
theorem mok_18 : MOK 18 := ⟨tb_at 281 rfl rfl, by decide +kernel, tb_at 65 (by decide +kernel) rfl, by decide +kernel, rfl, by decide +kernel⟩
set_option maxRecDepth 100000 in
theorem mok_19 : MOK 19 := ⟨tb_at 726 rfl rfl, by decide +kernel, tb_at 65 (by decide +kernel) rfl, by decide +kernel, rfl, by decide +kernel⟩
set_option maxRecDepth 100000 in
theorem mok_20 : MOK 20 := ⟨tb_at 738 rfl rfl, by decide +kernel, tb_at 65 (by decide +kernel) rfl, by decide +kernel, rfl, by decide +kernel⟩
set_option maxRecDepth 100000 in
theorem mok_21 : MOK 21 := ⟨tb_at 742 rfl rfl, by decide +kernel, tb_at 65 (by decide +kernel) rfl, by decide +kernel, rfl, by decide +kernel⟩
set_option maxRecDepth 100000 in
theorem mok_22 : MOK 22 := ⟨tb_at 748 rfl rfl, by decide +kernel, tb_at 65 (by decide +kernel) rfl, by decide +kernel, rfl, by decide +kernel⟩
set_option maxRecDepth 100000 in
theorem mok_23 : MOK 23 := ⟨tb_at 754 rfl rfl, by decide +kernel, tb_at 65 (by decide +kernel) rfl, by decide +kernel, rfl, by decide +kernel⟩
set_option maxRecDepth 100000 in
theorem mok_24 : MOK 24 := ⟨tb_at 731 rfl rfl, by decide +kernel, tb_at 65 (by decide +kernel) rfl, by decide +kernel, rfl, by decide +kernel⟩
set_option maxRecDepth 100000 in
theorem mok_25 : MOK 25 := ⟨tb_at 874 rfl rfl, by decide +kernel, tb_at 65 (by decide +kernel) rfl, by decide +kernel, rfl, by decide +kernel⟩
set_option maxRecDepth 100000 in
theorem mok_26 : MOK 26 := ⟨tb_at 762 rfl rfl, by decide +kernel, tb_at 65 (by decide +kernel) rfl, by decide +kernel, rfl, by decide +kernel⟩
set_option maxRecDepth 100000 in
theorem mok_27 : MOK 27 := ⟨tb_at 784 rfl rfl, by decide +kernel, tb_at 65 (by decide +kernel) rfl, by decide +kernel, rfl, by decide +kernel⟩
set_option maxRecDepth 100000 in
theorem mok_28 : MOK 28 := ⟨tb_at 766 rfl rfl, by decide +kernel, tb_at 65 (by decide +kernel) rfl, by decide +kernel, rfl, by decide +kernel⟩
set_option maxRecDepth 100000 in
theorem mok_29 : MOK 29 := ⟨tb_at 776 rfl rfl, by decide +kernel, tb_at 65 (by decide +kernel) rfl, by decide +kernel, rfl, by decide +kernel⟩
set_option maxRecDepth 100000 in
theorem mok_30 : MOK 30 := ⟨tb_at 771 rfl rfl, by decide +kernel, tb_at 65 (by decide +kernel) rfl, by decide +kernel, rfl, by decide +kernel⟩
set_option maxRecDepth 100000 in
theorem mok_31 : MOK 31 := ⟨tb_at 870 rfl rfl, by decide +kernel, tb_at 65 (by decide +kernel) rfl, by decide +kernel, rfl, by decide +kernel⟩
set_option maxRecDepth 100000 in
theorem mok_32 : MOK 32 := ⟨tb_at 889 rfl rfl, by decide +kernel, tb_at 65 (by decide +kernel) rfl, by decide +kernel, rfl, by decide +kernel⟩
set_option maxRecDepth 100000 in
theorem mok_33 : MOK 33 := ⟨tb_at 894 rfl rfl, by decide +kernel, tb_at 65 (by decide +kernel) rfl, by decide +kernel, rfl, by decide +kernel⟩
set_option maxRecDepth 100000 in
theorem mok_34 : MOK 34 := ⟨tb_at 130 rfl rfl, by decide +kernel, tb_at 63 (by decide +kernel) rfl, by decide +kernel, rfl, by decide +kernel⟩
set_option maxRecDepth 100000 in
theorem mok_35 : MOK 35 := ⟨tb_at 671 rfl rfl, by decide +kernel, tb_at 63 (by decide +kernel) rfl, by decide +kernel, rfl, by decide +kernel⟩
set_option maxRecDepth 100000 in
theorem mok_36 : MOK 36 := ⟨tb_at 654 rfl rfl, by decide +kernel, tb_at 63 (by decide +kernel) rfl, by decide +kernel, rfl, by decide +kernel⟩
set_option maxRecDepth 100000 in
theorem mok_37 : MOK 37 := ⟨tb_at 250 rfl rfl, by decide +kernel, tb_at 64 (by decide +kernel) rfl, by decide +kernel, rfl, by decide +kernel⟩
set_option maxRecDepth 100000 in
theorem mok_38 : MOK 38 := ⟨tb_at 378 rfl rfl, by decide +kernel, tb_at 64 (by decide +kernel) rfl, by decide +kernel, rfl, by decide +kernel⟩
set_option maxRecDepth 100000 in
theorem mok_39 : MOK 39 := ⟨tb_at 383 rfl rfl, by decide +kernel, tb_at 64 (by decide +kernel) rfl, by decide +kernel, rfl, by decide +kernel⟩
set_option maxRecDepth 100000 in
theorem mok_40 : MOK 40 := ⟨tb_at 399 rfl rfl, by decide +kernel, tb_at 64 (by decide +kernel) rfl, by decide +kernel, rfl, by decide +kernel⟩
set_option maxRecDepth 100000 in
theorem mok_41 : MOK 41 := ⟨tb_at 407 rfl rfl, by decide +kernel, tb_at 64 (by decide +kernel) rfl, by decide +kernel, rfl, by decide +kernel⟩
set_option maxRecDepth 100000 in
theorem mok_42 : MOK 42 := ⟨tb_at 403 rfl rfl, by decide +kernel, tb_at 64 (by decide +kernel) rfl, by decide +kernel, rfl, by decide +kernel⟩
set_option maxRecDepth 100000 in
theorem mok_43 : MOK 43 := ⟨tb_at 387 rfl rfl, by decide +kernel, tb_at 64 (by decide +kernel) rfl, by decide +kernel, rfl, by decide +kernel⟩
set_option maxRecDepth 100000 in
theorem mok_44 : MOK 44 := ⟨tb_at 391 rfl rfl, by decide +kernel, tb_at 64 (by decide +kernel) rfl, by decide +kernel, rfl, by decide +kernel⟩
set_option maxRecDepth 100000 in
theorem mok_45 : MOK 45 := ⟨tb_at 395 rfl rfl, by decide +kernel, tb_at 64 (by decide +kernel) rfl, by decide +kernel, rfl, by decide +kernel⟩
set_option maxRecDepth 100000 in
theorem mok_46 : MOK 46 := ⟨tb_at 133 rfl rfl, by decide +kernel, tb_at 62 (by decide +kernel) rfl, by decide +kernel, rfl, by decide +kernel⟩
set_option maxRecDepth 100000 in
theorem mok_47 : MOK 47 := ⟨tb_at 93 rfl rfl, by decide +kernel, tb_at 60 (by decide +kernel) rfl, by decide +kernel, rfl, by decide +kernel⟩
set_option maxRecDepth 100000 in
theorem mok_48 : MOK 48 := ⟨tb_at 360 rfl rfl, by decide +kernel, tb_at 60 (by decide +kernel) rfl, by decide +kernel, rfl, by decide +kernel⟩
set_option maxRecDepth 100000 in
theorem mok_49 : MOK 49 := ⟨tb_at 500 rfl rfl, by decide +kernel, tb_at 60 (by decide +kernel) rfl, by decide +kernel, rfl, by decide +kernel⟩
set_option maxRecDepth 100000 in
theorem mok_50 : MOK 50 := ⟨tb_at 525 rfl rfl, by decide +kernel, tb_at 60 (by decide +kernel) rfl, by decide +kernel, rfl, by decide +kernel⟩
set_option maxRecDepth 100000 in
theorem mok_51 : MOK 51 := ⟨tb_at 178 rfl rfl, by decide +kernel, tb_at 60 (by decide +kernel) rfl, by decide +kernel, rfl, by decide +kernel⟩
set_option maxRecDepth 100000 in
theorem mok_52 : MOK 52 := ⟨tb_at 808 rfl rfl, by decide +kernel, tb_at 60 (by decide +kernel) rfl, by decide +kernel, rfl, by decide +kernel⟩
set_option maxRecDepth 100000 in
theorem mok_53 : MOK 53 := ⟨tb_at 594 rfl rfl, by decide +kernel, tb_at 60 (by decide +kernel) rfl, by decide +kernel, rfl, by decide +kernel⟩
set_option maxRecDepth 100000 in
theorem mok_54 : MOK 54 := ⟨tb_at 590 rfl rfl, by decide +kernel, tb_at 60 (by decide +kernel) rfl, by decide +kernel, rfl, by decide +kernel⟩
set_option maxRecDepth 100000 in
theorem mok_55 : MOK 55 := ⟨tb_at 496 rfl rfl, by decide +kernel, tb_at 60 (by decide +kernel) rfl, by decide +kernel, rfl, by decide +kernel⟩
set_option maxRecDepth 100000 in
theorem mok_56 : MOK 56 := ⟨tb_at 173 rfl rfl, by decide +kernel, tb_at 60 (by decide +kernel) rfl, by decide +kernel, rfl, by decide +kernel⟩
set_option maxRecDepth 100000 in
theorem mok_57 : MOK 57 := ⟨tb_at 598 rfl rfl, by decide +kernel, tb_at 60 (by decide +kernel) rfl, by decide +kernel, rfl, by decide +kernel⟩
set_option maxRecDepth 100000 in
theorem mok_58 : MOK 58 := ⟨tb_at 603 rfl rfl, by decide +kernel, tb_at 60 (by decide +kernel) rfl, by decide +kernel, rfl, by decide +kernel⟩
set_option maxRecDepth 100000 in
theorem mok_59 : MOK 59 := ⟨tb_at 363 rfl rfl, by decide +kernel, tb_at 60 (by decide +kernel) rfl, by decide +kernel, rfl, by decide +kernel⟩
set_option maxRecDepth 100000 in
theorem mok_60 : MOK 60 := ⟨tb_at 555 rfl rfl, by decide +kernel, tb_at 76 (by decide +kernel) rfl, by decide +kernel, rfl, by decide +kernel⟩
set_option maxRecDepth 100000 in
theorem mok_61 : MOK 61 := ⟨tb_at 684 rfl rfl, by decide +kernel, tb_at 76 (by decide +kernel) rfl, by decide +kernel, rfl, by decide +kernel⟩
set_option maxRecDepth 100000 in
theorem mok_62 : MOK 62 := ⟨tb_at 85 rfl rfl, by decide +kernel, tb_at 59 (by decide +kernel) rfl, by decide +kernel, rfl, by decide +kernel⟩
set_option maxRecDepth 100000 in
theorem mok_63 : MOK 63 := ⟨tb_at 348 rfl rfl, by decide +kernel, tb_at 59 (by decide +kernel) rfl, by decide +kernel, rfl, by decide +kernel⟩
set_option maxRecDepth 100000 in
theorem mok_64 : MOK 64 := ⟨tb_at 356 rfl rfl, by decide +kernel, tb_at 59 (by decide +kernel) rfl, by decide +kernel, rfl, by decide +kernel⟩
set_option maxRecDepth 100000 in
theorem mok_65 : MOK 65 := ⟨tb_at 608 rfl rfl, by decide +kernel, tb_at 59 (by decide +kernel) rfl, by decide +kernel, rfl, by decide +kernel⟩
set_option maxRecDepth 100000 in
theorem mok_66 : MOK 66 := ⟨tb_at 615 rfl rfl, by decide +kernel, tb_at 59 (by decide +kernel) rfl, by decide +kernel, rfl, by decide +kernel⟩
set_option maxRecDepth 100000 in
theorem mok_67 : MOK 67 := ⟨tb_at 620 rfl rfl, by decide +kernel, tb_at 59 (by decide +kernel) rfl, by decide +kernel, rfl, by decide +kernel⟩
set_option maxRecDepth 100000 in
theorem mok_68 : MOK 68 := ⟨tb_at 624 rfl rfl, by decide +kernel, tb_at 59 (by decide +kernel) rfl, by decide +kernel, rfl, by decide +kernel⟩
set_option maxRecDepth 100000 in
theorem mok_69 : MOK 69 := ⟨tb_at 637 rfl rfl, by decide +kernel, tb_at 59 (by decide +kernel) rfl, by decide +kernel, rfl, by decide +kernel⟩
set_option maxRecDepth 100000 in
theorem mok_70 : MOK 70 := ⟨tb_at 689 rfl rfl, by decide +kernel, tb_at 59 (by decide +kernel) rfl, by decide +kernel, rfl, by decide +kernel⟩
set_option maxRecDepth 100000 in
theorem mok_71 : MOK 71 := ⟨tb_at 694 rfl rfl, by decide +kernel, tb_at 59 (by decide +kernel) rfl, by decide +kernel, rfl, by decide +kernel⟩
set_option maxRecDepth 100000 in
theorem mok_72 : MOK 72 := ⟨tb_at 698 rfl rfl, by decide +kernel, tb_at 59 (by decide +kernel) rfl, by decide +kernel, rfl, by decide +kernel⟩
set_option maxRecDepth 100000 in
theorem mok_73 : MOK 73 := ⟨tb_at 702 rfl rfl, by decide +kernel, tb_at 59 (by decide +kernel) rfl, by decide +kernel, rfl, by decide +kernel⟩
set_option maxRecDepth 100000 in
theorem mok_74 : MOK 74 := ⟨tb_at 713 rfl rfl, by decide +kernel, tb_at 59 (by decide +kernel) rfl, by decide +kernel, rfl, by decide +kernel⟩
set_option maxRecDepth 100000 in
theorem mok_75 : MOK 75 := ⟨tb_at 722 rfl rfl, by decide +kernel, tb_at 59 (by decide +kernel) rfl, by decide +kernel, rfl, by decide +kernel⟩
set_option maxRecDepth 100000 in
theorem mok_76 : MOK 76 := ⟨tb_at 758 rfl rfl, by decide +kernel, tb_at 59 (by decide +kernel) rfl, by decide +kernel, rfl, by decide +kernel⟩
set_option maxRecDepth 100000 in
theorem mok_77 : MOK 77 := ⟨tb_at 780 rfl rfl, by decide +kernel, tb_at 59 (by decide +kernel) rfl, by decide +kernel, rfl, by decide +kernel⟩
set_option maxRecDepth 100000 in
theorem mok_78 : MOK 78 := ⟨tb_at 788 rfl rfl, by decide +kernel, tb_at 59 (by decide +kernel) rfl, by decide +kernel, rfl, by decide +kernel⟩
set_option maxRecDepth 100000 in
theorem mok_79 : MOK 79 := ⟨tb_at 792 rfl rfl, by decide +kernel, tb_at 59 (by decide +kernel) rfl, by decide +kernel, rfl, by decide +kernel⟩
set_option maxRecDepth 100000 in
theorem mok_80 : MOK 80 := ⟨tb_at 822 rfl rfl, by decide +kernel, tb_at 59 (by decide +kernel) rfl, by decide +kernel, rfl, by decide +kernel⟩
set_option maxRecDepth 100000 in
theorem mok_81 : MOK 81 := ⟨tb_at 826 rfl rfl, by decide +kernel, tb_at 59 (by decide +kernel) rfl, by decide +kernel, rfl, by decide +kernel⟩
set_option maxRecDepth 100000 in
theorem mok_82 : MOK 82 := ⟨tb_at 831 rfl rfl, by decide +kernel, tb_at 59 (by decide +kernel) rfl, by decide +kernel, rfl, by decide +kernel⟩
set_option maxRecDepth 100000 in
theorem mok_83 : MOK 83 := ⟨tb_at 836 rfl rfl, by decide +kernel, tb_at 59 (by decide +kernel) rfl, by decide +kernel, rfl, by decide +kernel⟩
set_option maxRecDepth 100000 in
theorem mok_84 : MOK 84 := ⟨tb_at 840 rfl rfl, by decide +kernel, tb_at 59 (by decide +kernel) rfl, by decide +kernel, rfl, by decide +kernel⟩
set_option maxRecDepth 100000 in
theorem mok_85 : MOK 85 := ⟨tb_at 848 rfl rfl, by decide +kernel, tb_at 59 (by decide +kernel) rfl, by decide +kernel, rfl, by decide +kernel⟩
set_option maxRecDepth 100000 in
theorem mok_86 : MOK 86 := ⟨tb_at 862 rfl rfl, by decide +kernel, tb_at 59 (by decide +kernel) rfl, by decide +kernel, rfl, by decide +kernel⟩
set_option maxRecDepth 100000 in
theorem mok_87 : MOK 87 := ⟨tb_at 866 rfl rfl, by decide +kernel, tb_at 59 (by decide +kernel) rfl, by decide +kernel, rfl, by decide +kernel⟩
set_option maxRecDepth 100000 in
theorem mok_88 : MOK 88 := ⟨tb_at 881 rfl rfl, by decide +kernel, tb_at 59 (by decide +kernel) rfl, by decide +kernel, rfl, by decide +kernel⟩
set_option maxRecDepth 100000 in
theorem mok_89 : MOK 89 := ⟨tb_at 885 rfl rfl, by decide +kernel, tb_at 59 (by decide +kernel) rfl, by decide +kernel, rfl, by decide +kernel⟩
set_option maxRecDepth 100000 in
theorem mok_90 : MOK 90 := ⟨tb_at 899 rfl rfl, by decide +kernel, tb_at 59 (by decide +kernel) rfl, by decide +kernel, rfl, by decide +kernel⟩
set_option maxRecDepth 100000 in
theorem mok_91 : MOK 91 := ⟨tb_at 903 rfl rfl, by decide +kernel, tb_at 59 (by decide +kernel) rfl, by decide +kernel, rfl, by decide +kernel⟩
set_option maxRecDepth 100000 in
theorem mok_92 : MOK 92 := ⟨tb_at 907 rfl rfl, by decide +kernel, tb_at 59 (by decide +kernel) rfl, by decide +kernel, rfl, by decide +kernel⟩
set_option maxRecDepth 100000 in
theorem mok_93 : MOK 93 := ⟨tb_at 352 rfl rfl, by decide +kernel, tb_at 59 (by decide +kernel) rfl, by decide +kernel, rfl, by decide +kernel⟩
set_option maxRecDepth 100000 in
theorem mok_94 : MOK 94 := ⟨tb_at 796 rfl rfl, by decide +kernel, tb_at 59 (by decide +kernel) rfl, by decide +kernel, rfl, by decide +kernel⟩
set_option maxRecDepth 100000 in
theorem mok_95 : MOK 95 := ⟨tb_at 717 rfl rfl, by decide +kernel, tb_at 59 (by decide +kernel) rfl, by decide +kernel, rfl, by decide +kernel⟩
set_option maxRecDepth 100000 in
theorem mok_96 : MOK 96 := ⟨tb_at 801 rfl rfl, by decide +kernel, tb_at 59 (by decide +kernel) rfl, by decide +kernel, rfl, by decide +kernel⟩
set_option maxRecDepth 100000 in
theorem mok_97 : MOK 97 := ⟨tb_at 812 rfl rfl, by decide +kernel, tb_at 59 (by decide +kernel) rfl, by decide +kernel, rfl, by decide +kernel⟩
set_option maxRecDepth 100000 in
theorem mok_98 : MOK 98 := ⟨tb_at 818 rfl rfl, by decide +kernel, tb_at 59 (by decide +kernel) rfl, by decide +kernel, rfl, by decide +kernel⟩
set_option maxRecDepth 100000 in
theorem mok_99 : MOK 99 := ⟨tb_at 844 rfl rfl, by decide +kernel, tb_at 59 (by decide +kernel) rfl, by decide +kernel, rfl, by decide +kernel⟩
set_option maxRecDepth 100000 in
theorem mok_100 : MOK 100 := ⟨tb_at 858 rfl rfl, by decide +kernel, tb_at 59 (by decide +kernel) rfl, by decide +kernel, rfl, by decide +kernel⟩
set_option maxRecDepth 100000 in
theorem mok_101 : MOK 101 := ⟨tb_at 916 rfl rfl, by decide +kernel, tb_at 66 (by decide +kernel) rfl, by decide +kernel, rfl, by decide +kernel⟩
set_option maxRecDepth 100000 in
theorem mok_102 : MOK 102 := ⟨tb_at 1076 rfl rfl, by decide +kernel, tb_at 66 (by decide +kernel) rfl, by decide +kernel, rfl, by decide +kernel⟩
set_option maxRecDepth 100000 in
theorem mok_103 : MOK 103 := ⟨tb_at 1265 rfl rfl, by decide +kernel, tb_at 66 (by decide +kernel) rfl, by decide +kernel, rfl, by decide +kernel⟩
set_option maxRecDepth 100000 in
theorem mok_104 : MOK 104 := ⟨tb_at 1100 rfl rfl, by decide +kernel, tb_at 66 (by decide +kernel) rfl, by decide +kernel, rfl, by decide +kernel⟩
set_option maxRecDepth 100000 in
theorem mok_105 : MOK 105 := ⟨tb_at 1072 rfl rfl, by decide +kernel, tb_at 66 (by decide +kernel) rfl, by decide +kernel, rfl, by decide +kernel⟩
set_option maxRecDepth 100000 in
theorem mok_106 : MOK 106 := ⟨tb_at 1139 rfl rfl, by decide +kernel, tb_at 66 (by decide +kernel) rfl, by decide +kernel, rfl, by decide +kernel⟩
set_option maxRecDepth 100000 in
theorem mok_107 : MOK 107 := ⟨tb_at 1143 rfl rfl, by decide +kernel, tb_at 66 (by decide +kernel) rfl, by decide +kernel, rfl, by decide +kernel⟩
set_option maxRecDepth 100000 in
theorem mok_108 : MOK 108 := ⟨tb_at 1151 rfl rfl, by decide +kernel, tb_at 66 (by decide +kernel) rfl, by decide +kernel, rfl, by decide +kernel⟩
set_option maxRecDepth 100000 in
theorem mok_109 : MOK 109 := ⟨tb_at 1156 rfl rfl, by decide +kernel, tb_at 66 (by decide +kernel) rfl, by decide +kernel, rfl, by decide +kernel⟩
set_option maxRecDepth 100000 in
theorem mok_110 : MOK 110 := ⟨tb_at 1069 rfl rfl, by decide +kernel, tb_at 66 (by decide +kernel) rfl, by decide +kernel, rfl, by decide +kernel⟩
set_option maxRecDepth 100000 in
theorem mok_111 : MOK 111 := ⟨tb_at 1089 rfl rfl, by decide +kernel, tb_at 66 (by decide +kernel) rfl, by decide +kernel, rfl, by decide +kernel⟩
set_option maxRecDepth 100000 in
theorem mok_112 : MOK 112 := ⟨tb_at 1104 rfl rfl, by decide +kernel, tb_at 66 (by decide +kernel) rfl, by decide +kernel, rfl, by decide +kernel⟩
set_option maxRecDepth 100000 in
theorem mok_113 : MOK 113 := ⟨tb_at 1097 rfl rfl, by decide +kernel, tb_at 66 (by decide +kernel) rfl, by decide +kernel, rfl, by decide +kernel⟩
set_option maxRecDepth 100000 in
theorem mok_114 : MOK 114 := ⟨tb_at 1111 rfl rfl, by decide +kernel, tb_at 66 (by decide +kernel) rfl, by decide +kernel, rfl, by decide +kernel⟩
set_option maxRecDepth 100000 in
theorem mok_115 : MOK 115 := ⟨tb_at 1093 rfl rfl, by decide +kernel, tb_at 66 (by decide +kernel) rfl, by decide +kernel, rfl, by decide +kernel⟩
set_option maxRecDepth 100000 in
theorem mok_116 : MOK 116 := ⟨tb_at 1108 rfl rfl, by decide +kernel, tb_at 66 (by decide +kernel) rfl, by decide +kernel, rfl, by decide +kernel⟩
set_option maxRecDepth 100000 in
theorem mok_117 : MOK 117 := ⟨tb_at 1085 rfl rfl, by decide +kernel, tb_at 66 (by decide +kernel) rfl, by decide +kernel, rfl, by decide +kernel⟩
set_option maxRecDepth 100000 in
theorem mok_118 : MOK 118 := ⟨tb_at 1131 rfl rfl, by decide +kernel, tb_at 66 (by decide +kernel) rfl, by decide +kernel, rfl, by decide +kernel⟩
set_option maxRecDepth 100000 in
theorem mok_119 : MOK 119 := ⟨tb_at 1135 rfl rfl, by decide +kernel, tb_at 66 (by decide +kernel) rfl, by decide +kernel, rfl, by decide +kernel⟩
set_option maxRecDepth 100000 in
theorem mok_120 : MOK 120 := ⟨tb_at 1127 rfl rfl, by decide +kernel, tb_at 66 (by decide +kernel) rfl, by decide +kernel, rfl, by decide +kernel⟩
set_option maxRecDepth 100000 in
theorem mok_121 : MOK 121 := ⟨tb_at 1081 rfl rfl, by decide +kernel, tb_at 66 (by decide +kernel) rfl, by decide +kernel, rfl, by decide +kernel⟩
set_option maxRecDepth 100000 in
theorem mok_122 : MOK 122 := ⟨tb_at 1119 rfl rfl, by decide +kernel, tb_at 66 (by decide +kernel) rfl, by decide +kernel, rfl, by decide +kernel⟩
set_option maxRecDepth 100000 in
theorem mok_123 : MOK 123 := ⟨tb_at 1123 rfl rfl, by decide +kernel, tb_at 66 (by decide +kernel) rfl, by decide +kernel, rfl, by decide +kernel⟩
set_option maxRecDepth 100000 in
theorem mok_124 : MOK 124 := ⟨tb_at 1115 rfl rfl, by decide +kernel, tb_at 66 (by decide +kernel) rfl, by decide +kernel, rfl, by decide +kernel⟩
set_option maxRecDepth 100000 in
theorem mok_125 : MOK 125 := ⟨tb_at 1147 rfl rfl, by decide +kernel, tb_at 66 (by decide +kernel) rfl, by decide +kernel, rfl, by decide +kernel⟩
set_option maxRecDepth 100000 in
theorem mok_126 : MOK 126 := ⟨tb_at 1192 rfl rfl, by decide +kernel, tb_at 66 (by decide +kernel) rfl, by decide +kernel, rfl, by decide +kernel⟩
set_option maxRecDepth 100000 in
theorem mok_127 : MOK 127 := ⟨tb_at 1188 rfl rfl, by decide +kernel, tb_at 66 (by decide +kernel) rfl, by decide +kernel, rfl, by decide +kernel⟩
set_option maxRecDepth 100000 in
theorem mok_128 : MOK 128 := ⟨tb_at 1184 rfl rfl, by decide +kernel, tb_at 66 (by decide +kernel) rfl, by decide +kernel, rfl, by decide +kernel⟩
set_option maxRecDepth 100000 in
theorem mok_129 : MOK 129 := ⟨tb_at 1196 rfl rfl, by decide +kernel, tb_at 66 (by decide +kernel) rfl, by decide +kernel, rfl, by decide +kernel⟩
set_option maxRecDepth 100000 in
theorem mok_130 : MOK 130 := ⟨tb_at 1216 rfl rfl, by decide +kernel, tb_at 66 (by decide +kernel) rfl, by decide +kernel, rfl, by decide +kernel⟩
set_option maxRecDepth 100000 in
theorem mok_131 : MOK 131 := ⟨tb_at 1172 rfl rfl, by decide +kernel, tb_at 66 (by decide +kernel) rfl, by decide +kernel, rfl, by decide +kernel⟩
set_option maxRecDepth 100000 in
theorem mok_132 : MOK 132 := ⟨tb_at 1176 rfl rfl, by decide +kernel, tb_at 66 (by decide +kernel) rfl, by decide +kernel, rfl, by decide +kernel⟩
set_option maxRecDepth 100000 in
theorem mok_133 : MOK 133 := ⟨tb_at 1160 rfl rfl, by decide +kernel, tb_at 66 (by decide +kernel) rfl, by decide +kernel, rfl, by decide +kernel⟩
set_option maxRecDepth 100000 in
theorem mok_134 : MOK 134 := ⟨tb_at 1164 rfl rfl, by decide +kernel, tb_at 66 (by decide +kernel) rfl, by decide +kernel, rfl, by decide +kernel⟩
set_option maxRecDepth 100000 in
theorem mok_135 : MOK 135 := ⟨tb_at 1168 rfl rfl, by decide +kernel, tb_at 66 (by decide +kernel) rfl, by decide +kernel, rfl, by decide +kernel⟩
set_option maxRecDepth 100000 in
theorem mok_136 : MOK 136 := ⟨tb_at 1180 rfl rfl, by decide +kernel, tb_at 66 (by decide +kernel) rfl, by decide +kernel, rfl, by decide +kernel⟩
set_option maxRecDepth 100000 in
theorem mok_137 : MOK 137 := ⟨tb_at 1200 rfl rfl, by decide +kernel, tb_at 66 (by decide +kernel) rfl, by decide +kernel, rfl, by decide +kernel⟩
set_option maxRecDepth 100000 in
theorem mok_138 : MOK 138 := ⟨tb_at 1204 rfl rfl, by decide +kernel, tb_at 66 (by decide +kernel) rfl, by decide +kernel, rfl, by decide +kernel⟩
set_option maxRecDepth 100000 in
theorem mok_139 : MOK 139 := ⟨tb_at 1208 rfl rfl, by decide +kernel, tb_at 66 (by decide +kernel) rfl, by decide +kernel, rfl, by decide +kernel⟩
set_option maxRecDepth 100000 in
theorem mok_140 : MOK 140 := ⟨tb_at 1212 rfl rfl, by decide +kernel, tb_at 66 (by decide +kernel) rfl, by decide +kernel, rfl, by decide +kernel⟩
set_option maxRecDepth 100000 in
theorem mok_141 : MOK 141 := ⟨tb_at 1220 rfl rfl, by decide +kernel, tb_at 66 (by decide +kernel) rfl, by decide +kernel, rfl, by decide +kernel⟩
set_option maxRecDepth 100000 in
theorem mok_142 : MOK 142 := ⟨tb_at 1233 rfl rfl, by decide +kernel, tb_at 66 (by decide +kernel) rfl, by decide +kernel, rfl, by decide +kernel⟩
set_option maxRecDepth 100000 in
theorem mok_143 : MOK 143 := ⟨tb_at 1241 rfl rfl, by decide +kernel, tb_at 66 (by decide +kernel) rfl, by decide +kernel, rfl, by decide +kernel⟩
set_option maxRecDepth 100000 in
theorem mok_144 : MOK 144 := ⟨tb_at 1237 rfl rfl, by decide +kernel, tb_at 66 (by decide +kernel) rfl, by decide +kernel, rfl, by decide +kernel⟩
set_option maxRecDepth 100000 in
theorem mok_145 : MOK 145 := ⟨tb_at 1229 rfl rfl, by decide +kernel, tb_at 66 (by decide +kernel) rfl, by decide +kernel, rfl, by decide +kernel⟩
set_option maxRecDepth 100000 in
theorem mok_146 : MOK 146 := ⟨tb_at 1225 rfl rfl, by decide +kernel, tb_at 66 (by decide +kernel) rfl, by decide +kernel, rfl, by decide +kernel⟩
set_option maxRecDepth 100000 in
theorem mok_147 : MOK 147 := ⟨tb_at 1249 rfl rfl, by decide +kernel, tb_at 66 (by decide +kernel) rfl, by decide +kernel, rfl, by decide +kernel⟩
set_option maxRecDepth 100000 in
theorem mok_148 : MOK 148 := ⟨tb_at 1245 rfl rfl, by decide +kernel, tb_at 66 (by decide +kernel) rfl, by decide +kernel, rfl, by decide +kernel⟩
set_option maxRecDepth 100000 in
theorem mok_149 : MOK 149 := ⟨tb_at 1253 rfl rfl, by decide +kernel, tb_at 66 (by decide +kernel) rfl, by decide +kernel, rfl, by decide +kernel⟩
set_option maxRecDepth 100000 in
theorem mok_150 : MOK 150 := ⟨tb_at 1257 rfl rfl, by decide +kernel, tb_at 66 (by decide +kernel) rfl, by decide +kernel, rfl, by decide +kernel⟩
set_option maxRecDepth 100000 in
theorem mok_151 : MOK 151 := ⟨tb_at 1270 rfl rfl, by decide +kernel, tb_at 66 (by decide +kernel) rfl, by decide +kernel, rfl, by decide +kernel⟩
set_option maxRecDepth 100000 in
theorem mok_152 : MOK 152 := ⟨tb_at 1274 rfl rfl, by decide +kernel, tb_at 66 (by decide +kernel) rfl, by decide +kernel, rfl, by decide +kernel⟩
set_option maxRecDepth 100000 in
theorem mok_153 : MOK 153 := ⟨tb_at 1277 rfl rfl, by decide +kernel, tb_at 66 (by decide +kernel) rfl, by decide +kernel, rfl, by decide +kernel⟩
set_option maxRecDepth 100000 in
theorem mok_154 : MOK 154 := ⟨tb_at 1261 rfl rfl, by decide +kernel, tb_at 66 (by decide +kernel) rfl, by decide +kernel, rfl, by decide +kernel⟩
set_option maxRecDepth 100000 in
theorem mok_155 : MOK 155 := ⟨tb_at 1281 rfl rfl, by decide +kernel, tb_at 66 (by decide +kernel) rfl, by decide +kernel, rfl, by decide +kernel⟩
set_option maxRecDepth 100000 in
theorem mok_156 : MOK 156 := ⟨tb_at 1285 rfl rfl, by decide +kernel, tb_at 66 (by decide +kernel) rfl, by decide +kernel, rfl, by decide +kernel⟩
set_option maxRecDepth 100000 in
theorem mok_157 : MOK 157 := ⟨tb_at 1289 rfl rfl, by decide +kernel, tb_at 66 (by decide +kernel) rfl, by decide +kernel, rfl, by decide +kernel⟩
set_option maxRecDepth 100000 in
theorem mok_158 : MOK 158 := ⟨tb_at 1293 rfl rfl, by decide +kernel, tb_at 66 (by decide +kernel) rfl, by decide +kernel, rfl, by decide +kernel⟩
set_option maxRecDepth 100000 in
theorem mok_159 : MOK 159 := ⟨tb_at 1297 rfl rfl, by decide +kernel, tb_at 66 (by decide +kernel) rfl, by decide +kernel, rfl, by decide +kernel⟩
set_option maxRecDepth 100000 in
theorem mok_160 : MOK 160 := ⟨tb_at 1304 rfl rfl, by decide +kernel, tb_at 66 (by decide +kernel) rfl, by decide +kernel, rfl, by decide +kernel⟩
set_option maxRecDepth 100000 in
theorem mok_161 : MOK 161 := ⟨tb_at 1308 rfl rfl, by decide +kernel, tb_at 66 (by decide +kernel) rfl, by decide +kernel, rfl, by decide +kernel⟩
set_option maxRecDepth 100000 in
theorem mok_162 : MOK 162 := ⟨tb_at 1301 rfl rfl, by decide +kernel, tb_at 66 (by decide +kernel) rfl, by decide +kernel, rfl, by decide +kernel⟩
set_option maxRecDepth 100000 in
theorem mok_163 : MOK 163 := ⟨tb_at 1312 rfl rfl, by decide +kernel, tb_at 66 (by decide +kernel) rfl, by decide +kernel, rfl, by decide +kernel⟩
set_option maxRecDepth 100000 in
theorem mok_164 : MOK 164 := ⟨tb_at 1316 rfl rfl, by decide +kernel, tb_at 66 (by decide +kernel) rfl, by decide +kernel, rfl, by decide +kernel⟩
set_option maxRecDepth 100000 in
theorem mok_165 : MOK 165 := ⟨tb_at 1323 rfl rfl, by decide +kernel, tb_at 66 (by decide +kernel) rfl, by decide +kernel, rfl, by decide +kernel⟩
set_option maxRecDepth 100000 in
theorem mok_166 : MOK 166 := ⟨tb_at 1327 rfl rfl, by decide +kernel, tb_at 66 (by decide +kernel) rfl, by decide +kernel, rfl, by decide +kernel⟩
set_option maxRecDepth 100000 in
theorem mok_167 : MOK 167 := ⟨tb_at 1331 rfl rfl, by decide +kernel, tb_at 66 (by decide +kernel) rfl, by decide +kernel, rfl, by decide +kernel⟩
set_option maxRecDepth 100000 in
theorem mok_168 : MOK 168 := ⟨tb_at 1335 rfl rfl, by decide +kernel, tb_at 66 (by decide +kernel) rfl, by decide +kernel, rfl, by decide +kernel⟩
set_option maxRecDepth 100000 in
theorem mok_169 : MOK 169 := ⟨tb_at 1339 rfl rfl, by decide +kernel, tb_at 66 (by decide +kernel) rfl, by decide +kernel, rfl, by decide +kernel⟩
set_option maxRecDepth 100000 in
theorem mok_170 : MOK 170 := ⟨tb_at 426 rfl rfl, by decide +kernel, tb_at 69 (by decide +kernel) rfl, by decide +kernel, rfl, by decide +kernel⟩
set_option maxRecDepth 100000 in
theorem mok_171 : MOK 171 := ⟨tb_at 505 rfl rfl, by decide +kernel, tb_at 69 (by decide +kernel) rfl, by decide +kernel, rfl, by decide +kernel⟩
set_option maxRecDepth 100000 in
theorem mok_172 : MOK 172 := ⟨tb_at 412 rfl rfl, by decide +kernel, tb_at 69 (by decide +kernel) rfl, by decide +kernel, rfl, by decide +kernel⟩
set_option maxRecDepth 100000 in
theorem mok_173 : MOK 173 := ⟨tb_at 416 rfl rfl, by decide +kernel, tb_at 69 (by decide +kernel) rfl, by decide +kernel, rfl, by decide +kernel⟩
set_option maxRecDepth 100000 in
theorem mok_174 : MOK 174 := ⟨tb_at 430 rfl rfl, by decide +kernel, tb_at 69 (by decide +kernel) rfl, by decide +kernel, rfl, by decide +kernel⟩
set_option maxRecDepth 100000 in
theorem mok_175 : MOK 175 := ⟨tb_at 420 rfl rfl, by decide +kernel, tb_at 69 (by decide +kernel) rfl, by decide +kernel, rfl, by decide +kernel⟩
set_option maxRecDepth 100000 in
theorem mok_176 : MOK 176 := ⟨tb_at 511 rfl rfl, by decide +kernel, tb_at 69 (by decide +kernel) rfl, by decide +kernel, rfl, by decide +kernel⟩
set_option maxRecDepth 100000 in
theorem mok_177 : MOK 177 := ⟨tb_at 508 rfl rfl, by decide +kernel, tb_at 70 (by decide +kernel) rfl, by decide +kernel, rfl, by decide +kernel⟩
set_option maxRecDepth 100000 in
theorem mok_178 : MOK 178 := ⟨tb_at 436 rfl rfl, by decide +kernel, tb_at 70 (by decide +kernel) rfl, by decide +kernel, rfl, by decide +kernel⟩
set_option maxRecDepth 100000 in
theorem mok_179 : MOK 179 := ⟨tb_at 433 rfl rfl, by decide +kernel, tb_at 70 (by decide +kernel) rfl, by decide +kernel, rfl, by decide +kernel⟩
set_option maxRecDepth 100000 in
theorem mok_180 : MOK 180 := ⟨tb_at 443 rfl rfl, by decide +kernel, tb_at 70 (by decide +kernel) rfl, by decide +kernel, rfl, by decide +kernel⟩
set_option maxRecDepth 100000 in
theorem mok_181 : MOK 181 := ⟨tb_at 514 rfl rfl, by decide +kernel, tb_at 72 (by decide +kernel) rfl, by decide +kernel, rfl, by decide +kernel⟩
set_option maxRecDepth 100000 in
theorem mok_182 : MOK 182 := ⟨tb_at 804 rfl rfl, by decide +kernel, tb_at 79 (by decide +kernel) rfl, by decide +kernel, rfl, by decide +kernel⟩
set_option maxRecDepth 100000 in
theorem mok_183 : MOK 183 := ⟨tb_at 709 rfl rfl, by decide +kernel, tb_at 79 (by decide +kernel) rfl, by decide +kernel, rfl, by decide +kernel⟩
set_option maxRecDepth 100000 in
theorem mok_184 : MOK 184 := ⟨tb_at 851 rfl rfl, by decide +kernel, tb_at 80 (by decide +kernel) rfl, by decide +kernel, rfl, by decide +kernel⟩
theorem ft_0 : FTok ((4, 9), (0, 0, [4])) := Or.inr ⟨"AgesByMiles$Life", List.forall_mem_cons.mpr ⟨⟨_, rfl, by decide, by decide, tb_at 103 (by decide +kernel) rfl, Or.inl (by decide +kernel), by decide +kernel, fun h => by first | rfl | exact absurd h (by decide), fun h h2 => by first | exact ⟨rfl, by decide +kernel⟩ | exact absurd h (by decide) | exact absurd h2 (by decide), fun h => by first | rfl | exact absurd h (by decide), fun h => by first | rfl | exact absurd h (by decide)⟩, fun _ h => absurd h List.not_mem_nil⟩⟩
theorem ft_1 : FTok ((5, 62), (0, 0, [4])) := Or.inr ⟨"AgesByMiles$Life", List.forall_mem_cons.mpr ⟨⟨_, rfl, by decide, by decide, tb_at 104 (by decide +kernel) rfl, Or.inl (by decide +kernel), by decide +kernel, fun h => by first | rfl | exact absurd h (by decide), fun h h2 => by first | exact ⟨rfl, by decide +kernel⟩ | exact absurd h (by decide) | exact absurd h2 (by decide), fun h => by first | rfl | exact absurd h (by decide), fun h => by first | rfl | exact absurd h (by decide)⟩, fun _ h => absurd h List.not_mem_nil⟩⟩
theorem ft_2 : FTok ((9, 120), (0, 0, [4])) := Or.inr ⟨"AgesByMiles$Life", List.forall_mem_cons.mpr ⟨⟨_, rfl, by decide, by decide, tb_at 105 (by decide +kernel) rfl, Or.inl (by decide +kernel), by decide +kernel, fun h => by first | rfl | exact absurd h (by decide), fun h h2 => by first | exact ⟨rfl, by decide +kernel⟩ | exact absurd h (by decide) | exact absurd h2 (by decide), fun h => by first | rfl | exact absurd h (by decide), fun h => by first | rfl | exact absurd h (by decide)⟩, fun _ h => absurd h List.not_mem_nil⟩⟩
theorem ft_3 : FTok ((11, 143), (0, 0, [4])) := Or.inr ⟨"AgesByMiles$Life", List.forall_mem_cons.mpr ⟨⟨_, rfl, by decide, by decide, tb_at 106 (by decide +kernel) rfl, Or.inl (by decide +kernel), by decide +kernel, fun h => by first | rfl | exact absurd h (by decide), fun h h2 => by first | exact ⟨rfl, by decide +kernel⟩ | exact absurd h (by decide) | exact absurd h2 (by decide), fun h => by first | rfl | exact absurd h (by decide), fun h => by first | rfl | exact absurd h (by decide)⟩, fun _ h => absurd h List.not_mem_nil⟩⟩
theorem ft_4 : FTok ((4, 15), (1, 0, [4])) := Or.inr ⟨"AgesByMiles$Life", List.forall_mem_cons.mpr ⟨⟨_, rfl, by decide, by decide, tb_at 107 (by decide +kernel) rfl, Or.inl (by decide +kernel), by decide +kernel, fun h => by first | rfl | exact absurd h (by decide), fun h h2 => by first | exact ⟨rfl, by decide +kernel⟩ | exact absurd h (by decide) | exact absurd h2 (by decide), fun h => by first | rfl | exact absurd h (by decide), fun h => by first | rfl | exact absurd h (by decide)⟩, fun _ h => absurd h List.not_mem_nil⟩⟩
theorem ft_5 : FTok ((5, 73), (1, 0, [4])) := Or.inr ⟨"AgesByMiles$Life", List.forall_mem_cons.mpr ⟨⟨_, rfl, by decide, by decide, tb_at 108 (by decide +kernel) rfl, Or.inl (by decide +kernel), by decide +kernel, fun h => by first | rfl | exact absurd h (by decide), fun h h2 => by first | exact ⟨rfl, by decide +kernel⟩ | exact absurd h (by decide) | exact absurd h2 (by decide), fun h => by first | rfl | exact absurd h (by decide), fun h => by first | rfl | exact absurd h (by decide)⟩, fun _ h => absurd h List.not_mem_nil⟩⟩
theorem ft_6 : FTok ((11, 129), (1, 0, [4])) := Or.inr ⟨"AgesByMiles$Life", List.forall_mem_cons.mpr ⟨⟨_, rfl, by decide, by decide, tb_at 109 (by decide +kernel) rfl, Or.inl (by decide +kernel), by decide +kernel, fun h => by first | rfl | exact absurd h (by decide), fun h h2 => by first | exact ⟨rfl, by decide +kernel⟩ | exact absurd h (by decide) | exact absurd h2 (by decide), fun h => by first | rfl | exact absurd h (by decide), fun h => by first | rfl | exact absurd h (by decide)⟩, fun _ h => absurd h List.not_mem_nil⟩⟩
theorem ft_7 : FTok ((4, 18), (2, 0, [4])) := Or.inr ⟨"AgesByMiles$Life", List.forall_mem_cons.mpr ⟨⟨_, rfl, by decide, by decide, tb_at 110 (by decide +kernel) rfl, Or.inl (by decide +kernel), by decide +kernel, fun h => by first | rfl | exact absurd h (by decide), fun h h2 => by first | exact ⟨rfl, by decide +kernel⟩ | exact absurd h (by decide) | exact absurd h2 (by decide), fun h => by first | rfl | exact absurd h (by decide), fun h => by first | rfl | exact absurd h (by decide)⟩, fun _ h => absurd h List.not_mem_nil⟩⟩
theorem ft_8 : FTok ((5, 118), (2, 0, [4])) := Or.inr ⟨"AgesByMiles$Life", List.forall_mem_cons.mpr ⟨⟨_, rfl, by decide, by decide, tb_at 111 (by decide +kernel) rfl, Or.inl (by decide +kernel), by decide +kernel, fun h => by first | rfl | exact absurd h (by decide), fun h h2 => by first | exact ⟨rfl, by decide +kernel⟩ | exact absurd h (by decide) | exact absurd h2 (by decide), fun h => by first | rfl | exact absurd h (by decide), fun h => by first | rfl | exact absurd h (by decide)⟩, fun _ h => absurd h List.not_mem_nil⟩⟩
theorem ft_9 : FTok ((11, 146), (2, 0, [4])) := Or.inr ⟨"AgesByMiles$Life", List.forall_mem_cons.mpr ⟨⟨_, rfl, by decide, by decide, tb_at 112 (by decide +kernel) rfl, Or.inl (by decide +kernel), by decide +kernel, fun h => by first | rfl | exact absurd h (by decide), fun h h2 => by first | exact ⟨rfl, by decide +kernel⟩ | exact absurd h (by decide) | exact absurd h2 (by decide), fun h => by first | rfl | exact absurd h (by decide), fun h => by first | rfl | exact absurd h (by decide)⟩, fun _ h => absurd h List.not_mem_nil⟩⟩
theorem ft_10 : FTok ((4, 21), (3, 12, [4])) := Or.inr ⟨"AgesByMiles$Life", List.forall_mem_cons.mpr ⟨⟨_, rfl, by decide, by decide, tb_at 113 (by decide +kernel) rfl, Or.inl (by decide +kernel), by decide +kernel, fun h => by first | rfl | exact absurd h (by decide), fun h h2 => by first | exact ⟨rfl, by decide +kernel⟩ | exact absurd h (by decide) | exact absurd h2 (by decide), fun h => by first | rfl | exact absurd h (by decide), fun h => by first | rfl | exact absurd h (by decide)⟩, fun _ h => absurd h List.not_mem_nil⟩⟩
theorem ft_11 : FTok ((5, 92), (3, 22, [4])) := Or.inr ⟨"AgesByMiles$Life", List.forall_mem_cons.mpr ⟨⟨_, rfl, by decide, by decide, tb_at 114 (by decide +kernel) rfl, Or.inl (by decide +kernel), by decide +kernel, fun h => by first | rfl | exact absurd h (by decide), fun h h2 => by first | exact ⟨rfl, by decide +kernel⟩ | exact absurd h (by decide) | exact absurd h2 (by decide), fun h => by first | rfl | exact absurd h (by decide), fun h => by first | rfl | exact absurd h (by decide)⟩, fun _ h => absurd h List.not_mem_nil⟩⟩
theorem ft_12 : FTok ((11, 113), (3, 22, [4])) := Or.inr ⟨"AgesByMiles$Life", List.forall_mem_cons.mpr ⟨⟨_, rfl, by decide, by decide, tb_at 115 (by decide +kernel) rfl, Or.inl (by decide +kernel), by decide +kernel, fun h => by first | rfl | exact absurd h (by decide), fun h h2 => by first | exact ⟨rfl, by decide +kernel⟩ | exact absurd h (by decide) | exact absurd h2 (by decide), fun h => by first | rfl | exact absurd h (by decide), fun h => by first | rfl | exact absurd h (by decide)⟩, fun _ h => absurd h List.not_mem_nil⟩⟩
theorem ft_13 : FTok ((8, 7), (0, 10, [0, 1, 2, 3, 6, 9])) := Or.inr ⟨"AgesByMiles$Thing", List.forall_mem_cons.mpr ⟨⟨_, rfl, by decide, by decide, tb_at 135 (by decide +kernel) rfl, Or.inl (by decide +kernel), by decide +kernel, fun h => by first | rfl | exact absurd h (by decide), fun h h2 => by first | exact ⟨rfl, by decide +kernel⟩ | exact absurd h (by decide) | exact absurd h2 (by decide), fun h => by first | rfl | exact absurd h (by decide), fun h => by first | rfl | exact absurd h (by decide)⟩, List.forall_mem_cons.mpr ⟨⟨_, rfl, by decide, by decide, tb_at 135 (by decide +kernel) rfl, Or.inl (by decide +kernel), by decide +kernel, fun h => by first | rfl | exact absurd h (by decide), fun h h2 => by first | exact ⟨rfl, by decide +kernel⟩ | exact absurd h (by decide) | exact absurd h2 (by decide), fun h => by first | rfl | exact absurd h (by decide), fun h => by first | rfl | exact absurd h (by decide)⟩, List.forall_mem_cons.mpr ⟨⟨_, rfl, by decide, by decide, tb_at 135 (by decide +kernel) rfl, Or.inl (by decide +kernel), by decide +kernel, fun h => by first | rfl | exact absurd h (by decide), fun h h2 => by first | exact ⟨rfl, by decide +kernel⟩ | exact absurd h (by decide) | exact absurd h2 (by decide), fun h => by first | rfl | exact absurd h (by decide), fun h => by first | rfl | exact absurd h (by decide)⟩, List.forall_mem_cons.mpr ⟨⟨_, rfl, by decide, by decide, tb_at 135 (by decide +kernel) rfl, Or.inl (by decide +kernel), by decide +kernel, fun h => by first | rfl | exact absurd h (by decide), fun h h2 => by first | exact ⟨rfl, by decide +kernel⟩ | exact absurd h (by decide) | exact absurd h2 (by decide), fun h => by first | rfl | exact absurd h (by decide), fun h => by first | rfl | exact absurd h (by decide)⟩, List.forall_mem_cons.mpr ⟨⟨_, rfl, by decide, by decide, tb_at 135 (by decide +kernel) rfl, Or.inl (by decide +kernel), by decide +kernel, fun h => by first | rfl | exact absurd h (by decide), fun h h2 => by first | exact ⟨rfl, by decide +kernel⟩ | exact absurd h (by decide) | exact absurd h2 (by decide), fun h => by first | rfl | exact absurd h (by decide), fun h => by first | rfl | exact absurd h (by decide)⟩, List.forall_mem_cons.mpr ⟨⟨_, rfl, by decide, by decide, tb_at 135 (by decide +kernel) rfl, Or.inl (by decide +kernel), by decide +kernel, fun h => by first | rfl | exact absurd h (by decide), fun h h2 => by first | exact ⟨rfl, by decide +kernel⟩ | exact absurd h (by decide) | exact absurd h2 (by decide), fun h => by first | rfl | exact absurd h (by decide), fun h => by first | rfl | exact absurd h (by decide)⟩, fun _ h => absurd h List.not_mem_nil⟩⟩⟩⟩⟩⟩⟩
theorem ft_14 : FTok ((11, 95), (0, 20, [0, 1, 2, 3, 6, 9])) := Or.inr ⟨"AgesByMiles$Thing", List.forall_mem_cons.mpr ⟨⟨_, rfl, by decide, by decide, tb_at 136 (by decide +kernel) rfl, Or.inl (by decide +kernel), by decide +kernel, fun h => by first | rfl | exact absurd h (by decide), fun h h2 => by first | exact ⟨rfl, by decide +kernel⟩ | exact absurd h (by decide) | exact absurd h2 (by decide), fun h => by first | rfl | exact absurd h (by decide), fun h => by first | rfl | exact absurd h (by decide)⟩, List.forall_mem_cons.mpr ⟨⟨_, rfl, by decide, by decide, tb_at 136 (by decide +kernel) rfl, Or.inl (by decide +kernel), by decide +kernel, fun h => by first | rfl | exact absurd h (by decide), fun h h2 => by first | exact ⟨rfl, by decide +kernel⟩ | exact absurd h (by decide) | exact absurd h2 (by decide), fun h => by first | rfl | exact absurd h (by decide), fun h => by first | rfl | exact absurd h (by decide)⟩, List.forall_mem_cons.mpr ⟨⟨_, rfl, by decide, by decide, tb_at 136 (by decide +kernel) rfl, Or.inl (by decide +kernel), by decide +kernel, fun h => by first | rfl | exact absurd h (by decide), fun h h2 => by first | exact ⟨rfl, by decide +kernel⟩ | exact absurd h (by decide) | exact absurd h2 (by decide), fun h => by first | rfl | exact absurd h (by decide), fun h => by first | rfl | exact absurd h (by decide)⟩, List.forall_mem_cons.mpr ⟨⟨_, rfl, by decide, by decide, tb_at 136 (by decide +kernel) rfl, Or.inl (by decide +kernel), by decide +kernel, fun h => by first | rfl | exact absurd h (by decide), fun h h2 => by first | exact ⟨rfl, by decide +kernel⟩ | exact absurd h (by decide) | exact absurd h2 (by decide), fun h => by first | rfl | exact absurd h (by decide), fun h => by first | rfl | exact absurd h (by decide)⟩, List.forall_mem_cons.mpr ⟨⟨_, rfl, by decide, by decide, tb_at 136 (by decide +kernel) rfl, Or.inl (by decide +kernel), by decide +kernel, fun h => by first | rfl | exact absurd h (by decide), fun h h2 => by first | exact ⟨rfl, by decide +kernel⟩ | exact absurd h (by decide) | exact absurd h2 (by decide), fun h => by first | rfl | exact absurd h (by decide), fun h => by first | rfl | exact absurd h (by decide)⟩, List.forall_mem_cons.mpr ⟨⟨_, rfl, by decide, by decide, tb_at 136 (by decide +kernel) rfl, Or.inl (by decide +kernel), by decide +kernel, fun h => by first | rfl | exact absurd h (by decide), fun h h2 => by first | exact ⟨rfl, by decide +kernel⟩ | exact absurd h (by decide) | exact absurd h2 (by decide), fun h => by first | rfl | exact absurd h (by decide), fun h => by first | rfl | exact absurd h (by decide)⟩, fun _ h => absurd h List.not_mem_nil⟩⟩⟩⟩⟩⟩⟩
theorem ft_15 : FTok ((8, 13), (1, 10, [0, 1, 2, 3, 6, 9])) := Or.inr ⟨"AgesByMiles$Thing", List.forall_mem_cons.mpr ⟨⟨_, rfl, by decide, by decide, tb_at 137 (by decide +kernel) rfl, Or.inl (by decide +kernel), by decide +kernel, fun h => by first | rfl | exact absurd h (by decide), fun h h2 => by first | exact ⟨rfl, by decide +kernel⟩ | exact absurd h (by decide) | exact absurd h2 (by decide), fun h => by first | rfl | exact absurd h (by decide), fun h => by first | rfl | exact absurd h (by decide)⟩, List.forall_mem_cons.mpr ⟨⟨_, rfl, by decide, by decide, tb_at 137 (by decide +kernel) rfl, Or.inl (by decide +kernel), by decide +kernel, fun h => by first | rfl | exact absurd h (by decide), fun h h2 => by first | exact ⟨rfl, by decide +kernel⟩ | exact absurd h (by decide) | exact absurd h2 (by decide), fun h => by first | rfl | exact absurd h (by decide), fun h => by first | rfl | exact absurd h (by decide)⟩, List.forall_mem_cons.mpr ⟨⟨_, rfl, by decide, by decide, tb_at 137 (by decide +kernel) rfl, Or.inl (by decide +kernel), by decide +kernel, fun h => by first | rfl | exact absurd h (by decide), fun h h2 => by first | exact ⟨rfl, by decide +kernel⟩ | exact absurd h (by decide) | exact absurd h2 (by decide), fun h => by first | rfl | exact absurd h (by decide), fun h => by first | rfl | exact absurd h (by decide)⟩, List.forall_mem_cons.mpr ⟨⟨_, rfl, by decide, by decide, tb_at 137 (by decide +kernel) rfl, Or.inl (by decide +kernel), by decide +kernel, fun h => by first | rfl | exact absurd h (by decide), fun h h2 => by first | exact ⟨rfl, by decide +kernel⟩ | exact absurd h (by decide) | exact absurd h2 (by decide), fun h => by first | rfl | exact absurd h (by decide), fun h => by first | rfl | exact absurd h (by decide)⟩, List.forall_mem_cons.mpr ⟨⟨_, rfl, by decide, by decide, tb_at 137 (by decide +kernel) rfl, Or.inl (by decide +kernel), by decide +kernel, fun h => by first | rfl | exact absurd h (by decide), fun h h2 => by first | exact ⟨rfl, by decide +kernel⟩ | exact absurd h (by decide) | exact absurd h2 (by decide), fun h => by first | rfl | exact absurd h (by decide), fun h => by first | rfl | exact absurd h (by decide)⟩, List.forall_mem_cons.mpr ⟨⟨_, rfl, by decide, by decide, tb_at 137 (by decide +kernel) rfl, Or.inl (by decide +kernel), by decide +kernel, fun h => by first | rfl | exact absurd h (by decide), fun h h2 => by first | exact ⟨rfl, by decide +kernel⟩ | exact absurd h (by decide) | exact absurd h2 (by decide), fun h => by first | rfl | exact absurd h (by decide), fun h => by first | rfl | exact absurd h (by decide)⟩, fun _ h => absurd h List.not_mem_nil⟩⟩⟩⟩⟩⟩⟩
theorem ft_16 : FTok ((6, 13), (1, 20, [0, 1, 2, 3, 6, 9])) := Or.inr ⟨"AgesByMiles$Once", List.forall_mem_cons.mpr ⟨⟨_, rfl, by decide, by decide, tb_at 138 (by decide +kernel) rfl, Or.inr (tb_at 139 (by decide +kernel) rfl), by decide +kernel, fun h => by first | rfl | exact absurd h (by decide), fun h h2 => by first | exact ⟨rfl, by decide +kernel⟩ | exact absurd h (by decide) | exact absurd h2 (by decide), fun h => by first | rfl | exact absurd h (by decide), fun h => by first | rfl | exact absurd h (by decide)⟩, List.forall_mem_cons.mpr ⟨⟨_, rfl, by decide, by decide, tb_at 138 (by decide +kernel) rfl, Or.inr (tb_at 139 (by decide +kernel) rfl), by decide +kernel, fun h => by first | rfl | exact absurd h (by decide), fun h h2 => by first | exact ⟨rfl, by decide +kernel⟩ | exact absurd h (by decide) | exact absurd h2 (by decide), fun h => by first | rfl | exact absurd h (by decide), fun h => by first | rfl | exact absurd h (by decide)⟩, List.forall_mem_cons.mpr ⟨⟨_, rfl, by decide, by decide, tb_at 138 (by decide +kernel) rfl, Or.inr (tb_at 139 (by decide +kernel) rfl), by decide +kernel, fun h => by first | rfl | exact absurd h (by decide), fun h h2 => by first | exact ⟨rfl, by decide +kernel⟩ | exact absurd h (by decide) | exact absurd h2 (by decide), fun h => by first | rfl | exact absurd h (by decide), fun h => by first | rfl | exact absurd h (by decide)⟩, List.forall_mem_cons.mpr ⟨⟨_, rfl, by decide, by decide, tb_at 138 (by decide +kernel) rfl, Or.inr (tb_at 139 (by decide +kernel) rfl), by decide +kernel, fun h => by first | rfl | exact absurd h (by decide), fun h h2 => by first | exact ⟨rfl, by decide +kernel⟩ | exact absurd h (by decide) | exact absurd h2 (by decide), fun h => by first | rfl | exact absurd h (by decide), fun h => by first | rfl | exact absurd h (by decide)⟩, List.forall_mem_cons.mpr ⟨⟨_, rfl, by decide, by decide, tb_at 138 (by decide +kernel) rfl, Or.inr (tb_at 139 (by decide +kernel) rfl), by decide +kernel, fun h => by first | rfl | exact absurd h (by decide), fun h h2 => by first | exact ⟨rfl, by decide +kernel⟩ | exact absurd h (by decide) | exact absurd h2 (by decide), fun h => by first | rfl | exact absurd h (by decide), fun h => by first | rfl | exact absurd h (by decide)⟩, List.forall_mem_cons.mpr ⟨⟨_, rfl, by decide, by decide, tb_at 138 (by decide +kernel) rfl, Or.inr (tb_at 139 (by decide +kernel) rfl), by decide +kernel, fun h => by first | rfl | exact absurd h (by decide), fun h h2 => by first | exact ⟨rfl, by decide +kernel⟩ | exact absurd h (by decide) | exact absurd h2 (by decide), fun h => by first | rfl | exact absurd h (by decide), fun h => by first | rfl | exact absurd h (by decide)⟩, fun _ h => absurd h List.not_mem_nil⟩⟩⟩⟩⟩⟩⟩
theorem ft_17 : FTok ((0, 13), (1, 20, [0, 1, 2, 3, 6, 9])) := Or.inr ⟨"AgesByMiles$Again", List.forall_mem_cons.mpr ⟨⟨_, rfl, by decide, by decide, tb_at 140 (by decide +kernel) rfl, Or.inr (tb_at 141 (by decide +kernel) rfl), by decide +kernel, fun h => by first | rfl | exact absurd h (by decide), fun h h2 => by first | exact ⟨rfl, by decide +kernel⟩ | exact absurd h (by decide) | exact absurd h2 (by decide), fun h => by first | rfl | exact absurd h (by decide), fun h => by first | rfl | exact absurd h (by decide)⟩, List.forall_mem_cons.mpr ⟨⟨_, rfl, by decide, by decide, tb_at 140 (by decide +kernel) rfl, Or.inr (tb_at 141 (by decide +kernel) rfl), by decide +kernel, fun h => by first | rfl | exact absurd h (by decide), fun h h2 => by first | exact ⟨rfl, by decide +kernel⟩ | exact absurd h (by decide) | exact absurd h2 (by decide), fun h => by first | rfl | exact absurd h (by decide), fun h => by first | rfl | exact absurd h (by decide)⟩, List.forall_mem_cons.mpr ⟨⟨_, rfl, by decide, by decide, tb_at 140 (by decide +kernel) rfl, Or.inr (tb_at 141 (by decide +kernel) rfl), by decide +kernel, fun h => by first | rfl | exact absurd h (by decide), fun h h2 => by first | exact ⟨rfl, by decide +kernel⟩ | exact absurd h (by decide) | exact absurd h2 (by decide), fun h => by first | rfl | exact absurd h (by decide), fun h => by first | rfl | exact absurd h (by decide)⟩, List.forall_mem_cons.mpr ⟨⟨_, rfl, by decide, by decide, tb_at 140 (by decide +kernel) rfl, Or.inr (tb_at 141 (by decide +kernel) rfl), by decide +kernel, fun h => by first | rfl | exact absurd h (by decide), fun h h2 => by first | exact ⟨rfl, by decide +kernel⟩ | exact absurd h (by decide) | exact absurd h2 (by decide), fun h => by first | rfl | exact absurd h (by decide), fun h => by first | rfl | exact absurd h (by decide)⟩, List.forall_mem_cons.mpr ⟨⟨_, rfl, by decide, by decide, tb_at 140 (by decide +kernel) rfl, Or.inr (tb_at 141 (by decide +kernel) rfl), by decide +kernel, fun h => by first | rfl | exact absurd h (by decide), fun h h2 => by first | exact ⟨rfl, by decide +kernel⟩ | exact absurd h (by decide) | exact absurd h2 (by decide), fun h => by first | rfl | exact absurd h (by decide), fun h => by first | rfl | exact absurd h (by decide)⟩, List.forall_mem_cons.mpr ⟨⟨_, rfl, by decide, by decide, tb_at 140 (by decide +kernel) rfl, Or.inr (tb_at 141 (by decide +kernel) rfl), by decide +kernel, fun h => by first | rfl | exact absurd h (by decide), fun h h2 => by first | exact ⟨rfl, by decide +kernel⟩ | exact absurd h (by decide) | exact absurd h2 (by decide), fun h => by first | rfl | exact absurd h (by decide), fun h => by first | rfl | exact absurd h (by decide)⟩, fun _ h => absurd h List.not_mem_nil⟩⟩⟩⟩⟩⟩⟩
theorem ft_18 : FTok ((8, 16), (2, 10, [0, 1, 2, 3, 6, 9])) := Or.inr ⟨"AgesByMiles$Thing", List.forall_mem_cons.mpr ⟨⟨_, rfl, by decide, by decide, tb_at 142 (by decide +kernel) rfl, Or.inl (by decide +kernel), by decide +kernel, fun h => by first | rfl | exact absurd h (by decide), fun h h2 => by first | exact ⟨rfl, by decide +kernel⟩ | exact absurd h (by decide) | exact absurd h2 (by decide), fun h => by first | rfl | exact absurd h (by decide), fun h => by first | rfl | exact absurd h (by decide)⟩, List.forall_mem_cons.mpr ⟨⟨_, rfl, by decide, by decide, tb_at 142 (by decide +kernel) rfl, Or.inl (by decide +kernel), by decide +kernel, fun h => by first | rfl | exact absurd h (by decide), fun h h2 => by first | exact ⟨rfl, by decide +kernel⟩ | exact absurd h (by decide) | exact absurd h2 (by decide), fun h => by first | rfl | exact absurd h (by decide), fun h => by first | rfl | exact absurd h (by decide)⟩, List.forall_mem_cons.mpr ⟨⟨_, rfl, by decide, by decide, tb_at 142 (by decide +kernel) rfl, Or.inl (by decide +kernel), by decide +kernel, fun h => by first | rfl | exact absurd h (by decide), fun h h2 => by first | exact ⟨rfl, by decide +kernel⟩ | exact absurd h (by decide) | exact absurd h2 (by decide), fun h => by first | rfl | exact absurd h (by decide), fun h => by first | rfl | exact absurd h (by decide)⟩, List.forall_mem_cons.mpr ⟨⟨_, rfl, by decide, by decide, tb_at 142 (by decide +kernel) rfl, Or.inl (by decide +kernel), by decide +kernel, fun h => by first | rfl | exact absurd h (by decide), fun h h2 => by first | exact ⟨rfl, by decide +kernel⟩ | exact absurd h (by decide) | exact absurd h2 (by decide), fun h => by first | rfl | exact absurd h (by decide), fun h => by first | rfl | exact absurd h (by decide)⟩, List.forall_mem_cons.mpr ⟨⟨_, rfl, by decide, by decide, tb_at 142 (by decide +kernel) rfl, Or.inl (by decide +kernel), by decide +kernel, fun h => by first | rfl | exact absurd h (by decide), fun h h2 => by first | exact ⟨rfl, by decide +kernel⟩ | exact absurd h (by decide) | exact absurd h2 (by decide), fun h => by first | rfl | exact absurd h (by decide), fun h => by first | rfl | exact absurd h (by decide)⟩, List.forall_mem_cons.mpr ⟨⟨_, rfl, by decide, by decide, tb_at 142 (by decide +kernel) rfl, Or.inl (by decide +kernel), by decide +kernel, fun h => by first | rfl | exact absurd h (by decide), fun h h2 => by first | exact ⟨rfl, by decide +kernel⟩ | exact absurd h (by decide) | exact absurd h2 (by decide), fun h => by first | rfl | exact absurd h (by decide), fun h => by first | rfl | exact absurd h (by decide)⟩, fun _ h => absurd h List.not_mem_nil⟩⟩⟩⟩⟩⟩⟩
theorem ft_19 : FTok ((5, 87), (2, 20, [0, 1, 2, 3, 6, 9])) := Or.inr ⟨"AgesByMiles$Thing", List.forall_mem_cons.mpr ⟨⟨_, rfl, by decide, by decide, tb_at 143 (by decide +kernel) rfl, Or.inl (by decide +kernel), by decide +kernel, fun h => by first | rfl | exact absurd h (by decide), fun h h2 => by first | exact ⟨rfl, by decide +kernel⟩ | exact absurd h (by decide) | exact absurd h2 (by decide), fun h => by first | rfl | exact absurd h (by decide), fun h => by first | rfl | exact absurd h (by decide)⟩, List.forall_mem_cons.mpr ⟨⟨_, rfl, by decide, by decide, tb_at 143 (by decide +kernel) rfl, Or.inl (by decide +kernel), by decide +kernel, fun h => by first | rfl | exact absurd h (by decide), fun h h2 => by first | exact ⟨rfl, by decide +kernel⟩ | exact absurd h (by decide) | exact absurd h2 (by decide), fun h => by first | rfl | exact absurd h (by decide), fun h => by first | rfl | exact absurd h (by decide)⟩, List.forall_mem_cons.mpr ⟨⟨_, rfl, by decide, by decide, tb_at 143 (by decide +kernel) rfl, Or.inl (by decide +kernel), by decide +kernel, fun h => by first | rfl | exact absurd h (by decide), fun h h2 => by first | exact ⟨rfl, by decide +kernel⟩ | exact absurd h (by decide) | exact absurd h2 (by decide), fun h => by first | rfl | exact absurd h (by decide), fun h => by first | rfl | exact absurd h (by decide)⟩, List.forall_mem_cons.mpr ⟨⟨_, rfl, by decide, by decide, tb_at 143 (by decide +kernel) rfl, Or.inl (by decide +kernel), by decide +kernel, fun h => by first | rfl | exact absurd h (by decide), fun h h2 => by first | exact ⟨rfl, by decide +kernel⟩ | exact absurd h (by decide) | exact absurd h2 (by decide), fun h => by first | rfl | exact absurd h (by decide), fun h => by first | rfl | exact absurd h (by decide)⟩, List.forall_mem_cons.mpr ⟨⟨_, rfl, by decide, by decide, tb_at 143 (by decide +kernel) rfl, Or.inl (by decide +kernel), by decide +kernel, fun h => by first | rfl | exact absurd h (by decide), fun h h2 => by first | exact ⟨rfl, by decide +kernel⟩ | exact absurd h (by decide) | exact absurd h2 (by decide), fun h => by first | rfl | exact absurd h (by decide), fun h => by first | rfl | exact absurd h (by decide)⟩, List.forall_mem_cons.mpr ⟨⟨_, rfl, by decide, by decide, tb_at 143 (by decide +kernel) rfl, Or.inl (by decide +kernel), by decide +kernel, fun h => by first | rfl | exact absurd h (by decide), fun h h2 => by first | exact ⟨rfl, by decide +kernel⟩ | exact absurd h (by decide) | exact absurd h2 (by decide), fun h => by first | rfl | exact absurd h (by decide), fun h => by first | rfl | exact absurd h (by decide)⟩, fun _ h => absurd h List.not_mem_nil⟩⟩⟩⟩⟩⟩⟩
theorem ft_20 : FTok ((11, 100), (2, 20, [0, 1, 2, 3, 6, 9])) := Or.inr ⟨"AgesByMiles$Thing", List.forall_mem_cons.mpr ⟨⟨_, rfl, by decide, by decide, tb_at 144 (by decide +kernel) rfl, Or.inl (by decide +kernel), by decide +kernel, fun h => by first | rfl | exact absurd h (by decide), fun h h2 => by first | exact ⟨rfl, by decide +kernel⟩ | exact absurd h (by decide) | exact absurd h2 (by decide), fun h => by first | rfl | exact absurd h (by decide), fun h => by first | rfl | exact absurd h (by decide)⟩, List.forall_mem_cons.mpr ⟨⟨_, rfl, by decide, by decide, tb_at 144 (by decide +kernel) rfl, Or.inl (by decide +kernel), by decide +kernel, fun h => by first | rfl | exact absurd h (by decide), fun h h2 => by first | exact ⟨rfl, by decide +kernel⟩ | exact absurd h (by decide) | exact absurd h2 (by decide), fun h => by first | rfl | exact absurd h (by decide), fun h => by first | rfl | exact absurd h (by decide)⟩, List.forall_mem_cons.mpr ⟨⟨_, rfl, by decide, by decide, tb_at 144 (by decide +kernel) rfl, Or.inl (by decide +kernel), by decide +kernel, fun h => by first | rfl | exact absurd h (by decide), fun h h2 => by first | exact ⟨rfl, by decide +kernel⟩ | exact absurd h (by decide) | exact absurd h2 (by decide), fun h => by first | rfl | exact absurd h (by decide), fun h => by first | rfl | exact absurd h (by decide)⟩, List.forall_mem_cons.mpr ⟨⟨_, rfl, by decide, by decide, tb_at 144 (by decide +kernel) rfl, Or.inl (by decide +kernel), by decide +kernel, fun h => by first | rfl | exact absurd h (by decide), fun h h2 => by first | exact ⟨rfl, by decide +kernel⟩ | exact absurd h (by decide) | exact absurd h2 (by decide), fun h => by first | rfl | exact absurd h (by decide), fun h => by first | rfl | exact absurd h (by decide)⟩, List.forall_mem_cons.mpr ⟨⟨_, rfl, by decide, by decide, tb_at 144 (by decide +kernel) rfl, Or.inl (by decide +kernel), by decide +kernel, fun h => by first | rfl | exact absurd h (by decide), fun h h2 => by first | exact ⟨rfl, by decide +kernel⟩ | exact absurd h (by decide) | exact absurd h2 (by decide), fun h => by first | rfl | exact absurd h (by decide), fun h => by first | rfl | exact absurd h (by decide)⟩, List.forall_mem_cons.mpr ⟨⟨_, rfl, by decide, by decide, tb_at 144 (by decide +kernel) rfl, Or.inl (by decide +kernel), by decide +kernel, fun h => by first | rfl | exact absurd h (by decide), fun h h2 => by first | exact ⟨rfl, by decide +kernel⟩ | exact absurd h (by decide) | exact absurd h2 (by decide), fun h => by first | rfl | exact absurd h (by decide), fun h => by first | rfl | exact absurd h (by decide)⟩, fun _ h => absurd h List.not_mem_nil⟩⟩⟩⟩⟩⟩⟩
theorem ft_21 : FTok ((4, 50), (2, 20, [0, 1, 2, 3, 6, 9])) := Or.inr ⟨"AgesByMiles$Thing", List.forall_mem_cons.mpr ⟨⟨_, rfl, by decide, by decide, tb_at 145 (by decide +kernel) rfl, Or.inl (by decide +kernel), by decide +kernel, fun h => by first | rfl | exact absurd h (by decide), fun h h2 => by first | exact ⟨rfl, by decide +kernel⟩ | exact absurd h (by decide) | exact absurd h2 (by decide), fun h => by first | rfl | exact absurd h (by decide), fun h => by first | rfl | exact absurd h (by decide)⟩, List.forall_mem_cons.mpr ⟨⟨_, rfl, by decide, by decide, tb_at 145 (by decide +kernel) rfl, Or.inl (by decide +kernel), by decide +kernel, fun h => by first | rfl | exact absurd h (by decide), fun h h2 => by first | exact ⟨rfl, by decide +kernel⟩ | exact absurd h (by decide) | exact absurd h2 (by decide), fun h => by first | rfl | exact absurd h (by decide), fun h => by first | rfl | exact absurd h (by decide)⟩, List.forall_mem_cons.mpr ⟨⟨_, rfl, by decide, by decide, tb_at 145 (by decide +kernel) rfl, Or.inl (by decide +kernel), by decide +kernel, fun h => by first | rfl | exact absurd h (by decide), fun h h2 => by first | exact ⟨rfl, by decide +kernel⟩ | exact absurd h (by decide) | exact absurd h2 (by decide), fun h => by first | rfl | exact absurd h (by decide), fun h => by first | rfl | exact absurd h (by decide)⟩, List.forall_mem_cons.mpr ⟨⟨_, rfl, by decide, by decide, tb_at 145 (by decide +kernel) rfl, Or.inl (by decide +kernel), by decide +kernel, fun h => by first | rfl | exact absurd h (by decide), fun h h2 => by first | exact ⟨rfl, by decide +kernel⟩ | exact absurd h (by decide) | exact absurd h2 (by decide), fun h => by first | rfl | exact absurd h (by decide), fun h => by first | rfl | exact absurd h (by decide)⟩, List.forall_mem_cons.mpr ⟨⟨_, rfl, by decide, by decide, tb_at 145 (by decide +kernel) rfl, Or.inl (by decide +kernel), by decide +kernel, fun h => by first | rfl | exact absurd h (by decide), fun h h2 => by first | exact ⟨rfl, by decide +kernel⟩ | exact absurd h (by decide) | exact absurd h2 (by decide), fun h => by first | rfl | exact absurd h (by decide), fun h => by first | rfl | exact absurd h (by decide)⟩, List.forall_mem_cons.mpr ⟨⟨_, rfl, by decide, by decide, tb_at 145 (by decide +kernel) rfl, Or.inl (by decide +kernel), by decide +kernel, fun h => by first | rfl | exact absurd h (by decide), fun h h2 => by first | exact ⟨rfl, by decide +kernel⟩ | exact absurd h (by decide) | exact absurd h2 (by decide), fun h => by first | rfl | exact absurd h (by decide), fun h => by first | rfl | exact absurd h (by decide)⟩, fun _ h => absurd h List.not_mem_nil⟩⟩⟩⟩⟩⟩⟩
theorem ft_22 : FTok ((9, 131), (2, 20, [0, 1, 2, 3, 6, 9])) := Or.inr ⟨"AgesByMiles$Thing", List.forall_mem_cons.mpr ⟨⟨_, rfl, by decide, by decide, tb_at 146 (by decide +kernel) rfl, Or.inl (by decide +kernel), by decide +kernel, fun h => by first | rfl | exact absurd h (by decide), fun h h2 => by first | exact ⟨rfl, by decide +kernel⟩ | exact absurd h (by decide) | exact absurd h2 (by decide), fun h => by first | rfl | exact absurd h (by decide), fun h => by first | rfl | exact absurd h (by decide)⟩, List.forall_mem_cons.mpr ⟨⟨_, rfl, by decide, by decide, tb_at 146 (by decide +kernel) rfl, Or.inl (by decide +kernel), by decide +kernel, fun h => by first | rfl | exact absurd h (by decide), fun h h2 => by first | exact ⟨rfl, by decide +kernel⟩ | exact absurd h (by decide) | exact absurd h2 (by decide), fun h => by first | rfl | exact absurd h (by decide), fun h => by first | rfl | exact absurd h (by decide)⟩, List.forall_mem_cons.mpr ⟨⟨_, rfl, by decide, by decide, tb_at 146 (by decide +kernel) rfl, Or.inl (by decide +kernel), by decide +kernel, fun h => by first | rfl | exact absurd h (by decide), fun h h2 => by first | exact ⟨rfl, by decide +kernel⟩ | exact absurd h (by decide) | exact absurd h2 (by decide), fun h => by first | rfl | exact absurd h (by decide), fun h => by first | rfl | exact absurd h (by decide)⟩, List.forall_mem_cons.mpr ⟨⟨_, rfl, by decide, by decide, tb_at 146 (by decide +kernel) rfl, Or.inl (by decide +kernel), by decide +kernel, fun h => by first | rfl | exact absurd h (by decide), fun h h2 => by first | exact ⟨rfl, by decide +kernel⟩ | exact absurd h (by decide) | exact absurd h2 (by decide), fun h => by first | rfl | exact absurd h (by decide), fun h => by first | rfl | exact absurd h (by decide)⟩, List.forall_mem_cons.mpr ⟨⟨_, rfl, by decide, by decide, tb_at 146 (by decide +kernel) rfl, Or.inl (by decide +kernel), by decide +kernel, fun h => by first | rfl | exact absurd h (by decide), fun h h2 => by first | exact ⟨rfl, by decide +kernel⟩ | exact absurd h (by decide) | exact absurd h2 (by decide), fun h => by first | rfl | exact absurd h (by decide), fun h => by first | rfl | exact absurd h (by decide)⟩, List.forall_mem_cons.mpr ⟨⟨_, rfl, by decide, by decide, tb_at 146 (by decide +kernel) rfl, Or.inl (by decide +kernel), by decide +kernel, fun h => by first | rfl | exact absurd h (by decide), fun h h2 => by first | exact ⟨rfl, by decide +kernel⟩ | exact absurd h (by decide) | exact absurd h2 (by decide), fun h => by first | rfl | exact absurd h (by decide), fun h => by first | rfl | exact absurd h (by decide)⟩, fun _ h => absurd h List.not_mem_nil⟩⟩⟩⟩⟩⟩⟩
theorem ft_23 : FTok ((8, 19), (3, 10, [0, 1, 2, 3, 6, 9])) := Or.inr ⟨"AgesByMiles$Thing", List.forall_mem_cons.mpr ⟨⟨_, rfl, by decide, by decide, tb_at 147 (by decide +kernel) rfl, Or.inl (by decide +kernel), by decide +kernel, fun h => by first | rfl | exact absurd h (by decide), fun h h2 => by first | exact ⟨rfl, by decide +kernel⟩ | exact absurd h (by decide) | exact absurd h2 (by decide), fun h => by first | rfl | exact absurd h (by decide), fun h => by first | rfl | exact absurd h (by decide)⟩, List.forall_mem_cons.mpr ⟨⟨_, rfl, by decide, by decide, tb_at 147 (by decide +kernel) rfl, Or.inl (by decide +kernel), by decide +kernel, fun h => by first | rfl | exact absurd h (by decide), fun h h2 => by first | exact ⟨rfl, by decide +kernel⟩ | exact absurd h (by decide) | exact absurd h2 (by decide), fun h => by first | rfl | exact absurd h (by decide), fun h => by first | rfl | exact absurd h (by decide)⟩, List.forall_mem_cons.mpr ⟨⟨_, rfl, by decide, by decide, tb_at 147 (by decide +kernel) rfl, Or.inl (by decide +kernel), by decide +kernel, fun h => by first | rfl | exact absurd h (by decide), fun h h2 => by first | exact ⟨rfl, by decide +kernel⟩ | exact absurd h (by decide) | exact absurd h2 (by decide), fun h => by first | rfl | exact absurd h (by decide), fun h => by first | rfl | exact absurd h (by decide)⟩, List.forall_mem_cons.mpr ⟨⟨_, rfl, by decide, by decide, tb_at 147 (by decide +kernel) rfl, Or.inl (by decide +kernel), by decide +kernel, fun h => by first | rfl | exact absurd h (by decide), fun h h2 => by first | exact ⟨rfl, by decide +kernel⟩ | exact absurd h (by decide) | exact absurd h2 (by decide), fun h => by first | rfl | exact absurd h (by decide), fun h => by first | rfl | exact absurd h (by decide)⟩, List.forall_mem_cons.mpr ⟨⟨_, rfl, by decide, by decide, tb_at 147 (by decide +kernel) rfl, Or.inl (by decide +kernel), by decide +kernel, fun h => by first | rfl | exact absurd h (by decide), fun h h2 => by first | exact ⟨rfl, by decide +kernel⟩ | exact absurd h (by decide) | exact absurd h2 (by decide), fun h => by first | rfl | exact absurd h (by decide), fun h => by first | rfl | exact absurd h (by decide)⟩, List.forall_mem_cons.mpr ⟨⟨_, rfl, by decide, by decide, tb_at 147 (by decide +kernel) rfl, Or.inl (by decide +kernel), by decide +kernel, fun h => by first | rfl | exact absurd h (by decide), fun h h2 => by first | exact ⟨rfl, by decide +kernel⟩ | exact absurd h (by decide) | exact absurd h2 (by decide), fun h => by first | rfl | exact absurd h (by decide), fun h => by first | rfl | exact absurd h (by decide)⟩, fun _ h => absurd h List.not_mem_nil⟩⟩⟩⟩⟩⟩⟩
theorem ft_24 : FTok ((6, 7), (3, 20, [0, 1, 2, 3, 6, 9])) := Or.inr ⟨"AgesByMiles$Once", List.forall_mem_cons.mpr ⟨⟨_, rfl, by decide, by decide, tb_at 148 (by decide +kernel) rfl, Or.inr (tb_at 149 (by decide +kernel) rfl), by decide +kernel, fun h => by first | rfl | exact absurd h (by decide), fun h h2 => by first | exact ⟨rfl, by decide +kernel⟩ | exact absurd h (by decide) | exact absurd h2 (by decide), fun h => by first | rfl | exact absurd h (by decide), fun h => by first | rfl | exact absurd h (by decide)⟩, List.forall_mem_cons.mpr ⟨⟨_, rfl, by decide, by decide, tb_at 148 (by decide +kernel) rfl, Or.inr (tb_at 149 (by decide +kernel) rfl), by decide +kernel, fun h => by first | rfl | exact absurd h (by decide), fun h h2 => by first | exact ⟨rfl, by decide +kernel⟩ | exact absurd h (by decide) | exact absurd h2 (by decide), fun h => by first | rfl | exact absurd h (by decide), fun h => by first | rfl | exact absurd h (by decide)⟩, List.forall_mem_cons.mpr ⟨⟨_, rfl, by decide, by decide, tb_at 148 (by decide +kernel) rfl, Or.inr (tb_at 149 (by decide +kernel) rfl), by decide +kernel, fun h => by first | rfl | exact absurd h (by decide), fun h h2 => by first | exact ⟨rfl, by decide +kernel⟩ | exact absurd h (by decide) | exact absurd h2 (by decide), fun h => by first | rfl | exact absurd h (by decide), fun h => by first | rfl | exact absurd h (by decide)⟩, List.forall_mem_cons.mpr ⟨⟨_, rfl, by decide, by decide, tb_at 148 (by decide +kernel) rfl, Or.inr (tb_at 149 (by decide +kernel) rfl), by decide +kernel, fun h => by first | rfl | exact absurd h (by decide), fun h h2 => by first | exact ⟨rfl, by decide +kernel⟩ | exact absurd h (by decide) | exact absurd h2 (by decide), fun h => by first | rfl | exact absurd h (by decide), fun h => by first | rfl | exact absurd h (by decide)⟩, List.forall_mem_cons.mpr ⟨⟨_, rfl, by decide, by decide, tb_at 148 (by decide +kernel) rfl, Or.inr (tb_at 149 (by decide +kernel) rfl), by decide +kernel, fun h => by first | rfl | exact absurd h (by decide), fun h h2 => by first | exact ⟨rfl, by decide +kernel⟩ | exact absurd h (by decide) | exact absurd h2 (by decide), fun h => by first | rfl | exact absurd h (by decide), fun h => by first | rfl | exact absurd h (by decide)⟩, List.forall_mem_cons.mpr ⟨⟨_, rfl, by decide, by decide, tb_at 148 (by decide +kernel) rfl, Or.inr (tb_at 149 (by decide +kernel) rfl), by decide +kernel, fun h => by first | rfl | exact absurd h (by decide), fun h h2 => by first | exact ⟨rfl, by decide +kernel⟩ | exact absurd h (by decide) | exact absurd h2 (by decide), fun h => by first | rfl | exact absurd h (by decide), fun h => by first | rfl | exact absurd h (by decide)⟩, fun _ h => absurd h List.not_mem_nil⟩⟩⟩⟩⟩⟩⟩
theorem ft_25 : FTok ((0, 7), (3, 20, [0, 1, 2, 3, 6, 9])) := Or.inr ⟨"AgesByMiles$Again", List.forall_mem_cons.mpr ⟨⟨_, rfl, by decide, by decide, tb_at 150 (by decide +kernel) rfl, Or.inr (tb_at 151 (by decide +kernel) rfl), by decide +kernel, fun h => by first | rfl | exact absurd h (by decide), fun h h2 => by first | exact ⟨rfl, by decide +kernel⟩ | exact absurd h (by decide) | exact absurd h2 (by decide), fun h => by first | rfl | exact absurd h (by decide), fun h => by first | rfl | exact absurd h (by decide)⟩, List.forall_mem_cons.mpr ⟨⟨_, rfl, by decide, by decide, tb_at 150 (by decide +kernel) rfl, Or.inr (tb_at 151 (by decide +kernel) rfl), by decide +kernel, fun h => by first | rfl | exact absurd h (by decide), fun h h2 => by first | exact ⟨rfl, by decide +kernel⟩ | exact absurd h (by decide) | exact absurd h2 (by decide), fun h => by first | rfl | exact absurd h (by decide), fun h => by first | rfl | exact absurd h (by decide)⟩, List.forall_mem_cons.mpr ⟨⟨_, rfl, by decide, by decide, tb_at 150 (by decide +kernel) rfl, Or.inr (tb_at 151 (by decide +kernel) rfl), by decide +kernel, fun h => by first | rfl | exact absurd h (by decide), fun h h2 => by first | exact ⟨rfl, by decide +kernel⟩ | exact absurd h (by decide) | exact absurd h2 (by decide), fun h => by first | rfl | exact absurd h (by decide), fun h => by first | rfl | exact absurd h (by decide)⟩, List.forall_mem_cons.mpr ⟨⟨_, rfl, by decide, by decide, tb_at 150 (by decide +kernel) rfl, Or.inr (tb_at 151 (by decide +kernel) rfl), by decide +kernel, fun h => by first | rfl | exact absurd h (by decide), fun h h2 => by first | exact ⟨rfl, by decide +kernel⟩ | exact absurd h (by decide) | exact absurd h2 (by decide), fun h => by first | rfl | exact absurd h (by decide), fun h => by first | rfl | exact absurd h (by decide)⟩, List.forall_mem_cons.mpr ⟨⟨_, rfl, by decide, by decide, tb_at 150 (by decide +kernel) rfl, Or.inr (tb_at 151 (by decide +kernel) rfl), by decide +kernel, fun h => by first | rfl | exact absurd h (by decide), fun h h2 => by first | exact ⟨rfl, by decide +kernel⟩ | exact absurd h (by decide) | exact absurd h2 (by decide), fun h => by first | rfl | exact absurd h (by decide), fun h => by first | rfl | exact absurd h (by decide)⟩, List.forall_mem_cons.mpr ⟨⟨_, rfl, by decide, by decide, tb_at 150 (by decide +kernel) rfl, Or.inr (tb_at 151 (by decide +kernel) rfl), by decide +kernel, fun h => by first | rfl | exact absurd h (by decide), fun h h2 => by first | exact ⟨rfl, by decide +kernel⟩ | exact absurd h (by decide) | exact absurd h2 (by decide), fun h => by first | rfl | exact absurd h (by decide), fun h => by first | rfl | exact absurd h (by decide)⟩, fun _ h => absurd h List.not_mem_nil⟩⟩⟩⟩⟩⟩⟩
theorem ft_26 : FTok ((11, 103), (3, 20, [0, 1, 2, 3, 6, 9])) := Or.inr ⟨"AgesByMiles$Thing", List.forall_mem_cons.mpr ⟨⟨_, rfl, by decide, by decide, tb_at 152 (by decide +kernel) rfl, Or.inl (by decide +kernel), by decide +kernel, fun h => by first | rfl | exact absurd h (by decide), fun h h2 => by first | exact ⟨rfl, by decide +kernel⟩ | exact absurd h (by decide) | exact absurd h2 (by decide), fun h => by first | rfl | exact absurd h (by decide), fun h => by first | rfl | exact absurd h (by decide)⟩, List.forall_mem_cons.mpr ⟨⟨_, rfl, by decide, by decide, tb_at 152 (by decide +kernel) rfl, Or.inl (by decide +kernel), by decide +kernel, fun h => by first | rfl | exact absurd h (by decide), fun h h2 => by first | exact ⟨rfl, by decide +kernel⟩ | exact absurd h (by decide) | exact absurd h2 (by decide), fun h => by first | rfl | exact absurd h (by decide), fun h => by first | rfl | exact absurd h (by decide)⟩, List.forall_mem_cons.mpr ⟨⟨_, rfl, by decide, by decide, tb_at 152 (by decide +kernel) rfl, Or.inl (by decide +kernel), by decide +kernel, fun h => by first | rfl | exact absurd h (by decide), fun h h2 => by first | exact ⟨rfl, by decide +kernel⟩ | exact absurd h (by decide) | exact absurd h2 (by decide), fun h => by first | rfl | exact absurd h (by decide), fun h => by first | rfl | exact absurd h (by decide)⟩, List.forall_mem_cons.mpr ⟨⟨_, rfl, by decide, by decide, tb_at 152 (by decide +kernel) rfl, Or.inl (by decide +kernel), by decide +kernel, fun h => by first | rfl | exact absurd h (by decide), fun h h2 => by first | exact ⟨rfl, by decide +kernel⟩ | exact absurd h (by decide) | exact absurd h2 (by decide), fun h => by first | rfl | exact absurd h (by decide), fun h => by first | rfl | exact absurd h (by decide)⟩, List.forall_mem_cons.mpr ⟨⟨_, rfl, by decide, by decide, tb_at 152 (by decide +kernel) rfl, Or.inl (by decide +kernel), by decide +kernel, fun h => by first | rfl | exact absurd h (by decide), fun h h2 => by first | exact ⟨rfl, by decide +kernel⟩ | exact absurd h (by decide) | exact absurd h2 (by decide), fun h => by first | rfl | exact absurd h (by decide), fun h => by first | rfl | exact absurd h (by decide)⟩, List.forall_mem_cons.mpr ⟨⟨_, rfl, by decide, by decide, tb_at 152 (by decide +kernel) rfl, Or.inl (by decide +kernel), by decide +kernel, fun h => by first | rfl | exact absurd h (by decide), fun h h2 => by first | exact ⟨rfl, by decide +kernel⟩ | exact absurd h (by decide) | exact absurd h2 (by decide), fun h => by first | rfl | exact absurd h (by decide), fun h => by first | rfl | exact absurd h (by decide)⟩, fun _ h => absurd h List.not_mem_nil⟩⟩⟩⟩⟩⟩⟩
theorem ft_27 : FTok ((8, 22), (4, 10, [0, 1, 2, 3, 6, 9])) := Or.inr ⟨"AgesByMiles$Thing", List.forall_mem_cons.mpr ⟨⟨_, rfl, by decide, by decide, tb_at 153 (by decide +kernel) rfl, Or.inl (by decide +kernel), by decide +kernel, fun h => by first | rfl | exact absurd h (by decide), fun h h2 => by first | exact ⟨rfl, by decide +kernel⟩ | exact absurd h (by decide) | exact absurd h2 (by decide), fun h => by first | rfl | exact absurd h (by decide), fun h => by first | rfl | exact absurd h (by decide)⟩, List.forall_mem_cons.mpr ⟨⟨_, rfl, by decide, by decide, tb_at 153 (by decide +kernel) rfl, Or.inl (by decide +kernel), by decide +kernel, fun h => by first | rfl | exact absurd h (by decide), fun h h2 => by first | exact ⟨rfl, by decide +kernel⟩ | exact absurd h (by decide) | exact absurd h2 (by decide), fun h => by first | rfl | exact absurd h (by decide), fun h => by first | rfl | exact absurd h (by decide)⟩, List.forall_mem_cons.mpr ⟨⟨_, rfl, by decide, by decide, tb_at 153 (by decide +kernel) rfl, Or.inl (by decide +kernel), by decide +kernel, fun h => by first | rfl | exact absurd h (by decide), fun h h2 => by first | exact ⟨rfl, by decide +kernel⟩ | exact absurd h (by decide) | exact absurd h2 (by decide), fun h => by first | rfl | exact absurd h (by decide), fun h => by first | rfl | exact absurd h (by decide)⟩, List.forall_mem_cons.mpr ⟨⟨_, rfl, by decide, by decide, tb_at 153 (by decide +kernel) rfl, Or.inl (by decide +kernel), by decide +kernel, fun h => by first | rfl | exact absurd h (by decide), fun h h2 => by first | exact ⟨rfl, by decide +kernel⟩ | exact absurd h (by decide) | exact absurd h2 (by decide), fun h => by first | rfl | exact absurd h (by decide), fun h => by first | rfl | exact absurd h (by decide)⟩, List.forall_mem_cons.mpr ⟨⟨_, rfl, by decide, by decide, tb_at 153 (by decide +kernel) rfl, Or.inl (by decide +kernel), by decide +kernel, fun h => by first | rfl | exact absurd h (by decide), fun h h2 => by first | exact ⟨rfl, by decide +kernel⟩ | exact absurd h (by decide) | exact absurd h2 (by decide), fun h => by first | rfl | exact absurd h (by decide), fun h => by first | rfl | exact absurd h (by decide)⟩, List.forall_mem_cons.mpr ⟨⟨_, rfl, by decide, by decide, tb_at 153 (by decide +kernel) rfl, Or.inl (by decide +kernel), by decide +kernel, fun h => by first | rfl | exact absurd h (by decide), fun h h2 => by first | exact ⟨rfl, by decide +kernel⟩ | exact absurd h (by decide) | exact absurd h2 (by decide), fun h => by first | rfl | exact absurd h (by decide), fun h => by first | rfl | exact absurd h (by decide)⟩, fun _ h => absurd h List.not_mem_nil⟩⟩⟩⟩⟩⟩⟩
theorem ft_28 : FTok ((1, 11), (4, 20, [0, 1, 2, 3, 6, 9])) := Or.inr ⟨"AgesByMiles$Behind", List.forall_mem_cons.mpr ⟨⟨_, rfl, by decide, by decide, tb_at 154 (by decide +kernel) rfl, Or.inr (tb_at 155 (by decide +kernel) rfl), by decide +kernel, fun h => by first | rfl | exact absurd h (by decide), fun h h2 => by first | exact ⟨rfl, by decide +kernel⟩ | exact absurd h (by decide) | exact absurd h2 (by decide), fun h => by first | rfl | exact absurd h (by decide), fun h => by first | rfl | exact absurd h (by decide)⟩, List.forall_mem_cons.mpr ⟨⟨_, rfl, by decide, by decide, tb_at 154 (by decide +kernel) rfl, Or.inr (tb_at 155 (by decide +kernel) rfl), by decide +kernel, fun h => by first | rfl | exact absurd h (by decide), fun h h2 => by first | exact ⟨rfl, by decide +kernel⟩ | exact absurd h (by decide) | exact absurd h2 (by decide), fun h => by first | rfl | exact absurd h (by decide), fun h => by first | rfl | exact absurd h (by decide)⟩, List.forall_mem_cons.mpr ⟨⟨_, rfl, by decide, by decide, tb_at 154 (by decide +kernel) rfl, Or.inr (tb_at 155 (by decide +kernel) rfl), by decide +kernel, fun h => by first | rfl | exact absurd h (by decide), fun h h2 => by first | exact ⟨rfl, by decide +kernel⟩ | exact absurd h (by decide) | exact absurd h2 (by decide), fun h => by first | rfl | exact absurd h (by decide), fun h => by first | rfl | exact absurd h (by decide)⟩, List.forall_mem_cons.mpr ⟨⟨_, rfl, by decide, by decide, tb_at 154 (by decide +kernel) rfl, Or.inr (tb_at 155 (by decide +kernel) rfl), by decide +kernel, fun h => by first | rfl | exact absurd h (by decide), fun h h2 => by first | exact ⟨rfl, by decide +kernel⟩ | exact absurd h (by decide) | exact absurd h2 (by decide), fun h => by first | rfl | exact absurd h (by decide), fun h => by first | rfl | exact absurd h (by decide)⟩, List.forall_mem_cons.mpr ⟨⟨_, rfl, by decide, by decide, tb_at 154 (by decide +kernel) rfl, Or.inr (tb_at 155 (by decide +kernel) rfl), by decide +kernel, fun h => by first | rfl | exact absurd h (by decide), fun h h2 => by first | exact ⟨rfl, by decide +kernel⟩ | exact absurd h (by decide) | exact absurd h2 (by decide), fun h => by first | rfl | exact absurd h (by decide), fun h => by first | rfl | exact absurd h (by decide)⟩, List.forall_mem_cons.mpr ⟨⟨_, rfl, by decide, by decide, tb_at 154 (by decide +kernel) rfl, Or.inr (tb_at 155 (by decide +kernel) rfl), by decide +kernel, fun h => by first | rfl | exact absurd h (by decide), fun h h2 => by first | exact ⟨rfl, by decide +kernel⟩ | exact absurd h (by decide) | exact absurd h2 (by decide), fun h => by first | rfl | exact absurd h (by decide), fun h => by first | rfl | exact absurd h (by decide)⟩, fun _ h => absurd h List.not_mem_nil⟩⟩⟩⟩⟩⟩⟩
theorem ft_29 : FTok ((10, 11), (4, 20, [0, 1, 2, 3, 6, 9])) := Or.inr ⟨"AgesByMiles$Young", List.forall_mem_cons.mpr ⟨⟨_, rfl, by decide, by decide, tb_at 156 (by decide +kernel) rfl, Or.inr (tb_at 157 (by decide +kernel) rfl), by decide +kernel, fun h => by first | rfl | exact absurd h (by decide), fun h h2 => by first | exact ⟨rfl, by decide +kernel⟩ | exact absurd h (by decide) | exact absurd h2 (by decide), fun h => by first | rfl | exact absurd h (by decide), fun h => by first | rfl | exact absurd h (by decide)⟩, List.forall_mem_cons.mpr ⟨⟨_, rfl, by decide, by decide, tb_at 156 (by decide +kernel) rfl, Or.inr (tb_at 157 (by decide +kernel) rfl), by decide +kernel, fun h => by first | rfl | exact absurd h (by decide), fun h h2 => by first | exact ⟨rfl, by decide +kernel⟩ | exact absurd h (by decide) | exact absurd h2 (by decide), fun h => by first | rfl | exact absurd h (by decide), fun h => by first | rfl | exact absurd h (by decide)⟩, List.forall_mem_cons.mpr ⟨⟨_, rfl, by decide, by decide, tb_at 156 (by decide +kernel) rfl, Or.inr (tb_at 157 (by decide +kernel) rfl), by decide +kernel, fun h => by first | rfl | exact absurd h (by decide), fun h h2 => by first | exact ⟨rfl, by decide +kernel⟩ | exact absurd h (by decide) | exact absurd h2 (by decide), fun h => by first | rfl | exact absurd h (by decide), fun h => by first | rfl | exact absurd h (by decide)⟩, List.forall_mem_cons.mpr ⟨⟨_, rfl, by decide, by decide, tb_at 156 (by decide +kernel) rfl, Or.inr (tb_at 157 (by decide +kernel) rfl), by decide +kernel, fun h => by first | rfl | exact absurd h (by decide), fun h h2 => by first | exact ⟨rfl, by decide +kernel⟩ | exact absurd h (by decide) | exact absurd h2 (by decide), fun h => by first | rfl | exact absurd h (by decide), fun h => by first | rfl | exact absurd h (by decide)⟩, List.forall_mem_cons.mpr ⟨⟨_, rfl, by decide, by decide, tb_at 156 (by decide +kernel) rfl, Or.inr (tb_at 157 (by decide +kernel) rfl), by decide +kernel, fun h => by first | rfl | exact absurd h (by decide), fun h h2 => by first | exact ⟨rfl, by decide +kernel⟩ | exact absurd h (by decide) | exact absurd h2 (by decide), fun h => by first | rfl | exact absurd h (by decide), fun h => by first | rfl | exact absurd h (by decide)⟩, List.forall_mem_cons.mpr ⟨⟨_, rfl, by decide, by decide, tb_at 156 (by decide +kernel) rfl, Or.inr (tb_at 157 (by decide +kernel) rfl), by decide +kernel, fun h => by first | rfl | exact absurd h (by decide), fun h h2 => by first | exact ⟨rfl, by decide +kernel⟩ | exact absurd h (by decide) | exact absurd h2 (by decide), fun h => by first | rfl | exact absurd h (by decide), fun h => by first | rfl | exact absurd h (by decide)⟩, fun _ h => absurd h List.not_mem_nil⟩⟩⟩⟩⟩⟩⟩
theorem ft_30 : FTok ((11, 106), (4, 20, [0, 1, 2, 3, 6, 9])) := Or.inr ⟨"AgesByMiles$Thing", List.forall_mem_cons.mpr ⟨⟨_, rfl, by decide, by decide, tb_at 158 (by decide +kernel) rfl, Or.inl (by decide +kernel), by decide +kernel, fun h => by first | rfl | exact absurd h (by decide), fun h h2 => by first | exact ⟨rfl, by decide +kernel⟩ | exact absurd h (by decide) | exact absurd h2 (by decide), fun h => by first | rfl | exact absurd h (by decide), fun h => by first | rfl | exact absurd h (by decide)⟩, List.forall_mem_cons.mpr ⟨⟨_, rfl, by decide, by decide, tb_at 158 (by decide +kernel) rfl, Or.inl (by decide +kernel), by decide +kernel, fun h => by first | rfl | exact absurd h (by decide), fun h h2 => by first | exact ⟨rfl, by decide +kernel⟩ | exact absurd h (by decide) | exact absurd h2 (by decide), fun h => by first | rfl | exact absurd h (by decide), fun h => by first | rfl | exact absurd h (by decide)⟩, List.forall_mem_cons.mpr ⟨⟨_, rfl, by decide, by decide, tb_at 158 (by decide +kernel) rfl, Or.inl (by decide +kernel), by decide +kernel, fun h => by first | rfl | exact absurd h (by decide), fun h h2 => by first | exact ⟨rfl, by decide +kernel⟩ | exact absurd h (by decide) | exact absurd h2 (by decide), fun h => by first | rfl | exact absurd h (by decide), fun h => by first | rfl | exact absurd h (by decide)⟩, List.forall_mem_cons.mpr ⟨⟨_, rfl, by decide, by decide, tb_at 158 (by decide +kernel) rfl, Or.inl (by decide +kernel), by decide +kernel, fun h => by first | rfl | exact absurd h (by decide), fun h h2 => by first | exact ⟨rfl, by decide +kernel⟩ | exact absurd h (by decide) | exact absurd h2 (by decide), fun h => by first | rfl | exact absurd h (by decide), fun h => by first | rfl | exact absurd h (by decide)⟩, List.forall_mem_cons.mpr ⟨⟨_, rfl, by decide, by decide, tb_at 158 (by decide +kernel) rfl, Or.inl (by decide +kernel), by decide +kernel, fun h => by first | rfl | exact absurd h (by decide), fun h h2 => by first | exact ⟨rfl, by decide +kernel⟩ | exact absurd h (by decide) | exact absurd h2 (by decide), fun h => by first | rfl | exact absurd h (by decide), fun h => by first | rfl | exact absurd h (by decide)⟩, List.forall_mem_cons.mpr ⟨⟨_, rfl, by decide, by decide, tb_at 158 (by decide +kernel) rfl, Or.inl (by decide +kernel), by decide +kernel, fun h => by first | rfl | exact absurd h (by decide), fun h h2 => by first | exact ⟨rfl, by decide +kernel⟩ | exact absurd h (by decide) | exact absurd h2 (by decide), fun h => by first | rfl | exact absurd h (by decide), fun h => by first | rfl | exact absurd h (by decide)⟩, fun _ h => absurd h List.not_mem_nil⟩⟩⟩⟩⟩⟩⟩
theorem ft_31 : FTok ((9, 9), (0, 0, [8])) := Or.inr ⟨"AgesByMiles$Told", List.forall_mem_cons.mpr ⟨⟨_, rfl, by decide, by decide, tb_at 179 (by decide +kernel) rfl, Or.inl (by decide +kernel), by decide +kernel, fun h => by first | rfl | exact absurd h (by decide), fun h h2 => by first | exact ⟨rfl, by decide +kernel⟩ | exact absurd h (by decide) | exact absurd h2 (by decide), fun h => by first | rfl | exact absurd h (by decide), fun h => by first | rfl | exact absurd h (by decide)⟩, fun _ h => absurd h List.not_mem_nil⟩⟩
theorem ft_32 : FTok ((5, 59), (0, 0, [8])) := Or.inr ⟨"AgesByMiles$Told", List.forall_mem_cons.mpr ⟨⟨_, rfl, by decide, by decide, tb_at 180 (by decide +kernel) rfl, Or.inl (by decide +kernel), by decide +kernel, fun h => by first | rfl | exact absurd h (by decide), fun h h2 => by first | exact ⟨rfl, by decide +kernel⟩ | exact absurd h (by decide) | exact absurd h2 (by decide), fun h => by first | rfl | exact absurd h (by decide), fun h => by first | rfl | exact absurd h (by decide)⟩, fun _ h => absurd h List.not_mem_nil⟩⟩
theorem ft_33 : FTok ((11, 221), (0, 0, [8])) := Or.inr ⟨"AgesByMiles$Told", List.forall_mem_cons.mpr ⟨⟨_, rfl, by decide, by decide, tb_at 181 (by decide +kernel) rfl, Or.inl (by decide +kernel), by decide +kernel, fun h => by first | rfl | exact absurd h (by decide), fun h h2 => by first | exact ⟨rfl, by decide +kernel⟩ | exact absurd h (by decide) | exact absurd h2 (by decide), fun h => by first | rfl | exact absurd h (by decide), fun h => by first | rfl | exact absurd h (by decide)⟩, fun _ h => absurd h List.not_mem_nil⟩⟩
theorem ft_34 : FTok ((9, 15), (1, 0, [8])) := Or.inr ⟨"AgesByMiles$Told", List.forall_mem_cons.mpr ⟨⟨_, rfl, by decide, by decide, tb_at 182 (by decide +kernel) rfl, Or.inl (by decide +kernel), by decide +kernel, fun h => by first | rfl | exact absurd h (by decide), fun h h2 => by first | exact ⟨rfl, by decide +kernel⟩ | exact absurd h (by decide) | exact absurd h2 (by decide), fun h => by first | rfl | exact absurd h (by decide), fun h => by first | rfl | exact absurd h (by decide)⟩, fun _ h => absurd h List.not_mem_nil⟩⟩
theorem ft_35 : FTok ((11, 243), (1, 0, [8])) := Or.inr ⟨"AgesByMiles$Told", List.forall_mem_cons.mpr ⟨⟨_, rfl, by decide, by decide, tb_at 183 (by decide +kernel) rfl, Or.inl (by decide +kernel), by decide +kernel, fun h => by first | rfl | exact absurd h (by decide), fun h h2 => by first | exact ⟨rfl, by decide +kernel⟩ | exact absurd h (by decide) | exact absurd h2 (by decide), fun h => by first | rfl | exact absurd h (by decide), fun h => by first | rfl | exact absurd h (by decide)⟩, fun _ h => absurd h List.not_mem_nil⟩⟩
theorem ft_36 : FTok ((9, 18), (2, 12, [8])) := Or.inr ⟨"AgesByMiles$Told", List.forall_mem_cons.mpr ⟨⟨_, rfl, by decide, by decide, tb_at 184 (by decide +kernel) rfl, Or.inl (by decide +kernel), by decide +kernel, fun h => by first | rfl | exact absurd h (by decide), fun h h2 => by first | exact ⟨rfl, by decide +kernel⟩ | exact absurd h (by decide) | exact absurd h2 (by decide), fun h => by first | rfl | exact absurd h (by decide), fun h => by first | rfl | exact absurd h (by decide)⟩, fun _ h => absurd h List.not_mem_nil⟩⟩
theorem ft_37 : FTok ((9, 22), (3, 12, [8])) := Or.inr ⟨"AgesByMiles$Told", List.forall_mem_cons.mpr ⟨⟨_, rfl, by decide, by decide, tb_at 185 (by decide +kernel) rfl, Or.inl (by decide +kernel), by decide +kernel, fun h => by first | rfl | exact absurd h (by decide), fun h h2 => by first | exact ⟨rfl, by decide +kernel⟩ | exact absurd h (by decide) | exact absurd h2 (by decide), fun h => by first | rfl | exact absurd h (by decide), fun h => by first | rfl | exact absurd h (by decide)⟩, fun _ h => absurd h List.not_mem_nil⟩⟩
theorem ft_38 : FTok ((9, 25), (4, 0, [8])) := Or.inr ⟨"AgesByMiles$Told", List.forall_mem_cons.mpr ⟨⟨_, rfl, by decide, by decide, tb_at 186 (by decide +kernel) rfl, Or.inl (by decide +kernel), by decide +kernel, fun h => by first | rfl | exact absurd h (by decide), fun h h2 => by first | exact ⟨rfl, by decide +kernel⟩ | exact absurd h (by decide) | exact absurd h2 (by decide), fun h => by first | rfl | exact absurd h (by decide), fun h => by first | rfl | exact absurd h (by decide)⟩, fun _ h => absurd h List.not_mem_nil⟩⟩
theorem ft_39 : FTok ((5, 80), (4, 0, [8])) := Or.inr ⟨"AgesByMiles$Told", List.forall_mem_cons.mpr ⟨⟨_, rfl, by decide, by decide, tb_at 187 (by decide +kernel) rfl, Or.inl (by decide +kernel), by decide +kernel, fun h => by first | rfl | exact absurd h (by decide), fun h h2 => by first | exact ⟨rfl, by decide +kernel⟩ | exact absurd h (by decide) | exact absurd h2 (by decide), fun h => by first | rfl | exact absurd h (by decide), fun h => by first | rfl | exact absurd h (by decide)⟩, fun _ h => absurd h List.not_mem_nil⟩⟩
theorem ft_40 : FTok ((11, 246), (4, 0, [8])) := Or.inr ⟨"AgesByMiles$Told", List.forall_mem_cons.mpr ⟨⟨_, rfl, by decide, by decide, tb_at 188 (by decide +kernel) rfl, Or.inl (by decide +kernel), by decide +kernel, fun h => by first | rfl | exact absurd h (by decide), fun h h2 => by first | exact ⟨rfl, by decide +kernel⟩ | exact absurd h (by decide) | exact absurd h2 (by decide), fun h => by first | rfl | exact absurd h (by decide), fun h => by first | rfl | exact absurd h (by decide)⟩, fun _ h => absurd h List.not_mem_nil⟩⟩
theorem ft_41 : FTok ((9, 30), (5, 12, [8])) := Or.inr ⟨"AgesByMiles$Told", List.forall_mem_cons.mpr ⟨⟨_, rfl, by decide, by decide, tb_at 189 (by decide +kernel) rfl, Or.inl (by decide +kernel), by decide +kernel, fun h => by first | rfl | exact absurd h (by decide), fun h h2 => by first | exact ⟨rfl, by decide +kernel⟩ | exact absurd h (by decide) | exact absurd h2 (by decide), fun h => by first | rfl | exact absurd h (by decide), fun h => by first | rfl | exact absurd h (by decide)⟩, fun _ h => absurd h List.not_mem_nil⟩⟩
theorem ft_42 : FTok ((5, 83), (5, 22, [8])) := Or.inr ⟨"AgesByMiles$Told", List.forall_mem_cons.mpr ⟨⟨_, rfl, by decide, by decide, tb_at 190 (by decide +kernel) rfl, Or.inl (by decide +kernel), by decide +kernel, fun h => by first | rfl | exact absurd h (by decide), fun h h2 => by first | exact ⟨rfl, by decide +kernel⟩ | exact absurd h (by decide) | exact absurd h2 (by decide), fun h => by first | rfl | exact absurd h (by decide), fun h => by first | rfl | exact absurd h (by decide)⟩, fun _ h => absurd h List.not_mem_nil⟩⟩
theorem ft_43 : FTok ((11, 91), (5, 22, [8])) := Or.inr ⟨"AgesByMiles$Told", List.forall_mem_cons.mpr ⟨⟨_, rfl, by decide, by decide, tb_at 191 (by decide +kernel) rfl, Or.inl (by decide +kernel), by decide +kernel, fun h => by first | rfl | exact absurd h (by decide), fun h h2 => by first | exact ⟨rfl, by decide +kernel⟩ | exact absurd h (by decide) | exact absurd h2 (by decide), fun h => by first | rfl | exact absurd h (by decide), fun h => by first | rfl | exact absurd h (by decide)⟩, fun _ h => absurd h List.not_mem_nil⟩⟩
theorem ft_44 : FTok ((4, 46), (5, 22, [8])) := Or.inr ⟨"AgesByMiles$Told", List.forall_mem_cons.mpr ⟨⟨_, rfl, by decide, by decide, tb_at 192 (by decide +kernel) rfl, Or.inl (by decide +kernel), by decide +kernel, fun h => by first | rfl | exact absurd h (by decide), fun h h2 => by first | exact ⟨rfl, by decide +kernel⟩ | exact absurd h (by decide) | exact absurd h2 (by decide), fun h => by first | rfl | exact absurd h (by decide), fun h => by first | rfl | exact absurd h (by decide)⟩, fun _ h => absurd h List.not_mem_nil⟩⟩
theorem ft_45 : FTok ((9, 34), (6, 12, [8])) := Or.inr ⟨"AgesByMiles$Told", List.forall_mem_cons.mpr ⟨⟨_, rfl, by decide, by decide, tb_at 193 (by decide +kernel) rfl, Or.inl (by decide +kernel), by decide +kernel, fun h => by first | rfl | exact absurd h (by decide), fun h h2 => by first | exact ⟨rfl, by decide +kernel⟩ | exact absurd h (by decide) | exact absurd h2 (by decide), fun h => by first | rfl | exact absurd h (by decide), fun h => by first | rfl | exact absurd h (by decide)⟩, fun _ h => absurd h List.not_mem_nil⟩⟩
theorem ft_46 : FTok ((5, 32), (6, 22, [8])) := Or.inr ⟨"AgesByMiles$Told", List.forall_mem_cons.mpr ⟨⟨_, rfl, by decide, by decide, tb_at 194 (by decide +kernel) rfl, Or.inl (by decide +kernel), by decide +kernel, fun h => by first | rfl | exact absurd h (by decide), fun h h2 => by first | exact ⟨rfl, by decide +kernel⟩ | exact absurd h (by decide) | exact absurd h2 (by decide), fun h => by first | rfl | exact absurd h (by decide), fun h => by first | rfl | exact absurd h (by decide)⟩, fun _ h => absurd h List.not_mem_nil⟩⟩
theorem ft_47 : FTok ((4, 43), (6, 22, [8])) := Or.inr ⟨"AgesByMiles$Told", List.forall_mem_cons.mpr ⟨⟨_, rfl, by decide, by decide, tb_at 195 (by decide +kernel) rfl, Or.inl (by decide +kernel), by decide +kernel, fun h => by first | rfl | exact absurd h (by decide), fun h h2 => by first | exact ⟨rfl, by decide +kernel⟩ | exact absurd h (by decide) | exact absurd h2 (by decide), fun h => by first | rfl | exact absurd h (by decide), fun h => by first | rfl | exact absurd h (by decide)⟩, fun _ h => absurd h List.not_mem_nil⟩⟩
theorem ft_48 : FTok ((11, 118), (6, 22, [8])) := Or.inr ⟨"AgesByMiles$Told", List.forall_mem_cons.mpr ⟨⟨_, rfl, by decide, by decide, tb_at 196 (by decide +kernel) rfl, Or.inl (by decide +kernel), by decide +kernel, fun h => by first | rfl | exact absurd h (by decide), fun h h2 => by first | exact ⟨rfl, by decide +kernel⟩ | exact absurd h (by decide) | exact absurd h2 (by decide), fun h => by first | rfl | exact absurd h (by decide), fun h => by first | rfl | exact absurd h (by decide)⟩, fun _ h => absurd h List.not_mem_nil⟩⟩
theorem ft_49 : FTok ((9, 37), (7, 0, [8])) := Or.inr ⟨"AgesByMiles$Told", List.forall_mem_cons.mpr ⟨⟨_, rfl, by decide, by decide, tb_at 197 (by decide +kernel) rfl, Or.inl (by decide +kernel), by decide +kernel, fun h => by first | rfl | exact absurd h (by decide), fun h h2 => by first | exact ⟨rfl, by decide +kernel⟩ | exact absurd h (by decide) | exact absurd h2 (by decide), fun h => by first | rfl | exact absurd h (by decide), fun h => by first | rfl | exact absurd h (by decide)⟩, fun _ h => absurd h List.not_mem_nil⟩⟩
theorem ft_50 : FTok ((5, 103), (7, 0, [8])) := Or.inr ⟨"AgesByMiles$Told", List.forall_mem_cons.mpr ⟨⟨_, rfl, by decide, by decide, tb_at 198 (by decide +kernel) rfl, Or.inl (by decide +kernel), by decide +kernel, fun h => by first | rfl | exact absurd h (by decide), fun h h2 => by first | exact ⟨rfl, by decide +kernel⟩ | exact absurd h (by decide) | exact absurd h2 (by decide), fun h => by first | rfl | exact absurd h (by decide), fun h => by first | rfl | exact absurd h (by decide)⟩, fun _ h => absurd h List.not_mem_nil⟩⟩
theorem ft_51 : FTok ((11, 155), (7, 0, [8])) := Or.inr ⟨"AgesByMiles$Told", List.forall_mem_cons.mpr ⟨⟨_, rfl, by decide, by decide, tb_at 199 (by decide +kernel) rfl, Or.inl (by decide +kernel), by decide +kernel, fun h => by first | rfl | exact absurd h (by decide), fun h h2 => by first | exact ⟨rfl, by decide +kernel⟩ | exact absurd h (by decide) | exact absurd h2 (by decide), fun h => by first | rfl | exact absurd h (by decide), fun h => by first | rfl | exact absurd h (by decide)⟩, fun _ h => absurd h List.not_mem_nil⟩⟩
theorem ft_52 : FTok ((9, 40), (8, 12, [8])) := Or.inr ⟨"AgesByMiles$Told", List.forall_mem_cons.mpr ⟨⟨_, rfl, by decide, by decide, tb_at 200 (by decide +kernel) rfl, Or.inl (by decide +kernel), by decide +kernel, fun h => by first | rfl | exact absurd h (by decide), fun h h2 => by first | exact ⟨rfl, by decide +kernel⟩ | exact absurd h (by decide) | exact absurd h2 (by decide), fun h => by first | rfl | exact absurd h (by decide), fun h => by first | rfl | exact absurd h (by decide)⟩, fun _ h => absurd h List.not_mem_nil⟩⟩
theorem ft_53 : FTok ((5, 106), (8, 22, [8])) := Or.inr ⟨"AgesByMiles$Told", List.forall_mem_cons.mpr ⟨⟨_, rfl, by decide, by decide, tb_at 201 (by decide +kernel) rfl, Or.inl (by decide +kernel), by decide +kernel, fun h => by first | rfl | exact absurd h (by decide), fun h h2 => by first | exact ⟨rfl, by decide +kernel⟩ | exact absurd h (by decide) | exact absurd h2 (by decide), fun h => by first | rfl | exact absurd h (by decide), fun h => by first | rfl | exact absurd h (by decide)⟩, fun _ h => absurd h List.not_mem_nil⟩⟩
theorem ft_54 : FTok ((11, 158), (8, 22, [8])) := Or.inr ⟨"AgesByMiles$Told", List.forall_mem_cons.mpr ⟨⟨_, rfl, by decide, by decide, tb_at 202 (by decide +kernel) rfl, Or.inl (by decide +kernel), by decide +kernel, fun h => by first | rfl | exact absurd h (by decide), fun h h2 => by first | exact ⟨rfl, by decide +kernel⟩ | exact absurd h (by decide) | exact absurd h2 (by decide), fun h => by first | rfl | exact absurd h (by decide), fun h => by first | rfl | exact absurd h (by decide)⟩, fun _ h => absurd h List.not_mem_nil⟩⟩
theorem ft_55 : FTok ((9, 43), (9, 12, [8])) := Or.inr ⟨"AgesByMiles$Told", List.forall_mem_cons.mpr ⟨⟨_, rfl, by decide, by decide, tb_at 203 (by decide +kernel) rfl, Or.inl (by decide +kernel), by decide +kernel, fun h => by first | rfl | exact absurd h (by decide), fun h h2 => by first | exact ⟨rfl, by decide +kernel⟩ | exact absurd h (by decide) | exact absurd h2 (by decide), fun h => by first | rfl | exact absurd h (by decide), fun h => by first | rfl | exact absurd h (by decide)⟩, fun _ h => absurd h List.not_mem_nil⟩⟩
theorem ft_56 : FTok ((11, 183), (9, 22, [8])) := Or.inr ⟨"AgesByMiles$Told", List.forall_mem_cons.mpr ⟨⟨_, rfl, by decide, by decide, tb_at 204 (by decide +kernel) rfl, Or.inl (by decide +kernel), by decide +kernel, fun h => by first | rfl | exact absurd h (by decide), fun h h2 => by first | exact ⟨rfl, by decide +kernel⟩ | exact absurd h (by decide) | exact absurd h2 (by decide), fun h => by first | rfl | exact absurd h (by decide), fun h => by first | rfl | exact absurd h (by decide)⟩, fun _ h => absurd h List.not_mem_nil⟩⟩
theorem ft_57 : FTok ((9, 46), (10, 12, [8])) := Or.inr ⟨"AgesByMiles$Told", List.forall_mem_cons.mpr ⟨⟨_, rfl, by decide, by decide, tb_at 205 (by decide +kernel) rfl, Or.inl (by decide +kernel), by decide +kernel, fun h => by first | rfl | exact absurd h (by decide), fun h h2 => by first | exact ⟨rfl, by decide +kernel⟩ | exact absurd h (by decide) | exact absurd h2 (by decide), fun h => by first | rfl | exact absurd h (by decide), fun h => by first | rfl | exact absurd h (by decide)⟩, fun _ h => absurd h List.not_mem_nil⟩⟩
theorem ft_58 : FTok ((11, 186), (10, 22, [8])) := Or.inr ⟨"AgesByMiles$Told", List.forall_mem_cons.mpr ⟨⟨_, rfl, by decide, by decide, tb_at 206 (by decide +kernel) rfl, Or.inl (by decide +kernel), by decide +kernel, fun h => by first | rfl | exact absurd h (by decide), fun h h2 => by first | exact ⟨rfl, by decide +kernel⟩ | exact absurd h (by decide) | exact absurd h2 (by decide), fun h => by first | rfl | exact absurd h (by decide), fun h => by first | rfl | exact absurd h (by decide)⟩, fun _ h => absurd h List.not_mem_nil⟩⟩
theorem ft_59 : FTok ((9, 49), (11, 0, [8])) := Or.inr ⟨"AgesByMiles$Told", List.forall_mem_cons.mpr ⟨⟨_, rfl, by decide, by decide, tb_at 207 (by decide +kernel) rfl, Or.inl (by decide +kernel), by decide +kernel, fun h => by first | rfl | exact absurd h (by decide), fun h h2 => by first | exact ⟨rfl, by decide +kernel⟩ | exact absurd h (by decide) | exact absurd h2 (by decide), fun h => by first | rfl | exact absurd h (by decide), fun h => by first | rfl | exact absurd h (by decide)⟩, fun _ h => absurd h List.not_mem_nil⟩⟩
theorem ft_60 : FTok ((11, 209), (11, 0, [8])) := Or.inr ⟨"AgesByMiles$Told", List.forall_mem_cons.mpr ⟨⟨_, rfl, by decide, by decide, tb_at 208 (by decide +kernel) rfl, Or.inl (by decide +kernel), by decide +kernel, fun h => by first | rfl | exact absurd h (by decide), fun h h2 => by first | exact ⟨rfl, by decide +kernel⟩ | exact absurd h (by decide) | exact absurd h2 (by decide), fun h => by first | rfl | exact absurd h (by decide), fun h => by first | rfl | exact absurd h (by decide)⟩, fun _ h => absurd h List.not_mem_nil⟩⟩
theorem ft_61 : FTok ((9, 52), (12, 12, [8])) := Or.inr ⟨"AgesByMiles$Told", List.forall_mem_cons.mpr ⟨⟨_, rfl, by decide, by decide, tb_at 209 (by decide +kernel) rfl, Or.inl (by decide +kernel), by decide +kernel, fun h => by first | rfl | exact absurd h (by decide), fun h h2 => by first | exact ⟨rfl, by decide +kernel⟩ | exact absurd h (by decide) | exact absurd h2 (by decide), fun h => by first | rfl | exact absurd h (by decide), fun h => by first | rfl | exact absurd h (by decide)⟩, fun _ h => absurd h List.not_mem_nil⟩⟩
theorem ft_62 : FTok ((11, 212), (12, 22, [8])) := Or.inr ⟨"AgesByMiles$Told", List.forall_mem_cons.mpr ⟨⟨_, rfl, by decide, by decide, tb_at 210 (by decide +kernel) rfl, Or.inl (by decide +kernel), by decide +kernel, fun h => by first | rfl | exact absurd h (by decide), fun h h2 => by first | exact ⟨rfl, by decide +kernel⟩ | exact absurd h (by decide) | exact absurd h2 (by decide), fun h => by first | rfl | exact absurd h (by decide), fun h => by first | rfl | exact absurd h (by decide)⟩, fun _ h => absurd h List.not_mem_nil⟩⟩
theorem ft_63 : FTok ((9, 55), (13, 12, [8])) := Or.inr ⟨"AgesByMiles$Told", List.forall_mem_cons.mpr ⟨⟨_, rfl, by decide, by decide, tb_at 211 (by decide +kernel) rfl, Or.inl (by decide +kernel), by decide +kernel, fun h => by first | rfl | exact absurd h (by decide), fun h h2 => by first | exact ⟨rfl, by decide +kernel⟩ | exact absurd h (by decide) | exact absurd h2 (by decide), fun h => by first | rfl | exact absurd h (by decide), fun h => by first | rfl | exact absurd h (by decide)⟩, fun _ h => absurd h List.not_mem_nil⟩⟩
theorem ft_64 : FTok ((11, 215), (13, 22, [8])) := Or.inr ⟨"AgesByMiles$Told", List.forall_mem_cons.mpr ⟨⟨_, rfl, by decide, by decide, tb_at 212 (by decide +kernel) rfl, Or.inl (by decide +kernel), by decide +kernel, fun h => by first | rfl | exact absurd h (by decide), fun h h2 => by first | exact ⟨rfl, by decide +kernel⟩ | exact absurd h (by decide) | exact absurd h2 (by decide), fun h => by first | rfl | exact absurd h (by decide), fun h => by first | rfl | exact absurd h (by decide)⟩, fun _ h => absurd h List.not_mem_nil⟩⟩
theorem ft_65 : FTok ((9, 61), (14, 12, [8])) := Or.inr ⟨"AgesByMiles$Told", List.forall_mem_cons.mpr ⟨⟨_, rfl, by decide, by decide, tb_at 213 (by decide +kernel) rfl, Or.inl (by decide +kernel), by decide +kernel, fun h => by first | rfl | exact absurd h (by decide), fun h h2 => by first | exact ⟨rfl, by decide +kernel⟩ | exact absurd h (by decide) | exact absurd h2 (by decide), fun h => by first | rfl | exact absurd h (by decide), fun h => by first | rfl | exact absurd h (by decide)⟩, fun _ h => absurd h List.not_mem_nil⟩⟩
theorem ft_66 : FTok ((11, 109), (14, 22, [8])) := Or.inr ⟨"AgesByMiles$Told", List.forall_mem_cons.mpr ⟨⟨_, rfl, by decide, by decide, tb_at 214 (by decide +kernel) rfl, Or.inl (by decide +kernel), by decide +kernel, fun h => by first | rfl | exact absurd h (by decide), fun h h2 => by first | exact ⟨rfl, by decide +kernel⟩ | exact absurd h (by decide) | exact absurd h2 (by decide), fun h => by first | rfl | exact absurd h (by decide), fun h => by first | rfl | exact absurd h (by decide)⟩, fun _ h => absurd h List.not_mem_nil⟩⟩
theorem ft_67 : FTok ((7, 9), (0, 2, [7])) := Or.inr ⟨"AgesByMiles$Reader", List.forall_mem_cons.mpr ⟨⟨_, rfl, by decide, by decide, tb_at 252 (by decide +kernel) rfl, Or.inl (by decide +kernel), by decide +kernel, fun h => by first | rfl | exact absurd h (by decide), fun h h2 => by first | exact ⟨rfl, by decide +kernel⟩ | exact absurd h (by decide) | exact absurd h2 (by decide), fun h => by first | rfl | exact absurd h (by decide), fun h => by first | rfl | exact absurd h (by decide)⟩, fun _ h => absurd h List.not_mem_nil⟩⟩
theorem ft_68 : FTok ((7, 15), (1, 0, [7])) := Or.inr ⟨"AgesByMiles$Reader", List.forall_mem_cons.mpr ⟨⟨_, rfl, by decide, by decide, tb_at 253 (by decide +kernel) rfl, Or.inl (by decide +kernel), by decide +kernel, fun h => by first | rfl | exact absurd h (by decide), fun h h2 => by first | exact ⟨rfl, by decide +kernel⟩ | exact absurd h (by decide) | exact absurd h2 (by decide), fun h => by first | rfl | exact absurd h (by decide), fun h => by first | rfl | exact absurd h (by decide)⟩, fun _ h => absurd h List.not_mem_nil⟩⟩
theorem ft_69 : FTok ((7, 19), (2, 0, [7])) := Or.inr ⟨"AgesByMiles$Reader", List.forall_mem_cons.mpr ⟨⟨_, rfl, by decide, by decide, tb_at 254 (by decide +kernel) rfl, Or.inl (by decide +kernel), by decide +kernel, fun h => by first | rfl | exact absurd h (by decide), fun h h2 => by first | exact ⟨rfl, by decide +kernel⟩ | exact absurd h (by decide) | exact absurd h2 (by decide), fun h => by first | rfl | exact absurd h (by decide), fun h => by first | rfl | exact absurd h (by decide)⟩, fun _ h => absurd h List.not_mem_nil⟩⟩
theorem ft_70 : FTok ((7, 22), (3, 0, [7])) := Or.inr ⟨"AgesByMiles$Reader", List.forall_mem_cons.mpr ⟨⟨_, rfl, by decide, by decide, tb_at 255 (by decide +kernel) rfl, Or.inl (by decide +kernel), by decide +kernel, fun h => by first | rfl | exact absurd h (by decide), fun h h2 => by first | exact ⟨rfl, by decide +kernel⟩ | exact absurd h (by decide) | exact absurd h2 (by decide), fun h => by first | rfl | exact absurd h (by decide), fun h => by first | rfl | exact absurd h (by decide)⟩, fun _ h => absurd h List.not_mem_nil⟩⟩
theorem ft_71 : FTok ((7, 25), (4, 0, [7])) := Or.inr ⟨"AgesByMiles$Reader", List.forall_mem_cons.mpr ⟨⟨_, rfl, by decide, by decide, tb_at 256 (by decide +kernel) rfl, Or.inl (by decide +kernel), by decide +kernel, fun h => by first | rfl | exact absurd h (by decide), fun h h2 => by first | exact ⟨rfl, by decide +kernel⟩ | exact absurd h (by decide) | exact absurd h2 (by decide), fun h => by first | rfl | exact absurd h (by decide), fun h => by first | rfl | exact absurd h (by decide)⟩, fun _ h => absurd h List.not_mem_nil⟩⟩
theorem ft_72 : FTok ((7, 28), (5, 0, [7])) := Or.inr ⟨"AgesByMiles$Reader", List.forall_mem_cons.mpr ⟨⟨_, rfl, by decide, by decide, tb_at 257 (by decide +kernel) rfl, Or.inl (by decide +kernel), by decide +kernel, fun h => by first | rfl | exact absurd h (by decide), fun h h2 => by first | exact ⟨rfl, by decide +kernel⟩ | exact absurd h (by decide) | exact absurd h2 (by decide), fun h => by first | rfl | exact absurd h (by decide), fun h => by first | rfl | exact absurd h (by decide)⟩, fun _ h => absurd h List.not_mem_nil⟩⟩
theorem ft_73 : FTok ((7, 31), (6, 0, [7])) := Or.inr ⟨"AgesByMiles$Reader", List.forall_mem_cons.mpr ⟨⟨_, rfl, by decide, by decide, tb_at 258 (by decide +kernel) rfl, Or.inl (by decide +kernel), by decide +kernel, fun h => by first | rfl | exact absurd h (by decide), fun h h2 => by first | exact ⟨rfl, by decide +kernel⟩ | exact absurd h (by decide) | exact absurd h2 (by decide), fun h => by first | rfl | exact absurd h (by decide), fun h => by first | rfl | exact absurd h (by decide)⟩, fun _ h => absurd h List.not_mem_nil⟩⟩
theorem ft_74 : FTok ((7, 34), (7, 0, [7])) := Or.inr ⟨"AgesByMiles$Reader", List.forall_mem_cons.mpr ⟨⟨_, rfl, by decide, by decide, tb_at 259 (by decide +kernel) rfl, Or.inl (by decide +kernel), by decide +kernel, fun h => by first | rfl | exact absurd h (by decide), fun h h2 => by first | exact ⟨rfl, by decide +kernel⟩ | exact absurd h (by decide) | exact absurd h2 (by decide), fun h => by first | rfl | exact absurd h (by decide), fun h => by first | rfl | exact absurd h (by decide)⟩, fun _ h => absurd h List.not_mem_nil⟩⟩
theorem ft_75 : FTok ((5, 12), (0, 12, [5])) := Or.inr ⟨"AgesByMiles$Lives", List.forall_mem_cons.mpr ⟨⟨_, rfl, by decide, by decide, tb_at 285 (by decide +kernel) rfl, Or.inl (by decide +kernel), by decide +kernel, fun h => by first | rfl | exact absurd h (by decide), fun h h2 => by first | exact ⟨rfl, by decide +kernel⟩ | exact absurd h (by decide) | exact absurd h2 (by decide), fun h => by first | rfl | exact absurd h (by decide), fun h => by first | rfl | exact absurd h (by decide)⟩, fun _ h => absurd h List.not_mem_nil⟩⟩
theorem ft_76 : FTok ((5, 18), (1, 12, [5])) := Or.inr ⟨"AgesByMiles$Lives", List.forall_mem_cons.mpr ⟨⟨_, rfl, by decide, by decide, tb_at 286 (by decide +kernel) rfl, Or.inl (by decide +kernel), by decide +kernel, fun h => by first | rfl | exact absurd h (by decide), fun h h2 => by first | exact ⟨rfl, by decide +kernel⟩ | exact absurd h (by decide) | exact absurd h2 (by decide), fun h => by first | rfl | exact absurd h (by decide), fun h => by first | rfl | exact absurd h (by decide)⟩, fun _ h => absurd h List.not_mem_nil⟩⟩
theorem ft_77 : FTok ((5, 22), (2, 12, [5])) := Or.inr ⟨"AgesByMiles$Lives", List.forall_mem_cons.mpr ⟨⟨_, rfl, by decide, by decide, tb_at 287 (by decide +kernel) rfl, Or.inl (by decide +kernel), by decide +kernel, fun h => by first | rfl | exact absurd h (by decide), fun h h2 => by first | exact ⟨rfl, by decide +kernel⟩ | exact absurd h (by decide) | exact absurd h2 (by decide), fun h => by first | rfl | exact absurd h (by decide), fun h => by first | rfl | exact absurd h (by decide)⟩, fun _ h => absurd h List.not_mem_nil⟩⟩
theorem ft_78 : FTok ((11, 176), (2, 22, [5])) := Or.inr ⟨"AgesByMiles$Lives", List.forall_mem_cons.mpr ⟨⟨_, rfl, by decide, by decide, tb_at 288 (by decide +kernel) rfl, Or.inl (by decide +kernel), by decide +kernel, fun h => by first | rfl | exact absurd h (by decide), fun h h2 => by first | exact ⟨rfl, by decide +kernel⟩ | exact absurd h (by decide) | exact absurd h2 (by decide), fun h => by first | rfl | exact absurd h (by decide), fun h => by first | rfl | exact absurd h (by decide)⟩, fun _ h => absurd h List.not_mem_nil⟩⟩
theorem ft_79 : FTok ((5, 25), (3, 0, [5])) := Or.inr ⟨"AgesByMiles$Lives", List.forall_mem_cons.mpr ⟨⟨_, rfl, by decide, by decide, tb_at 289 (by decide +kernel) rfl, Or.inl (by decide +kernel), by decide +kernel, fun h => by first | rfl | exact absurd h (by decide), fun h h2 => by first | exact ⟨rfl, by decide +kernel⟩ | exact absurd h (by decide) | exact absurd h2 (by decide), fun h => by first | rfl | exact absurd h (by decide), fun h => by first | rfl | exact absurd h (by decide)⟩, fun _ h => absurd h List.not_mem_nil⟩⟩
theorem ft_80 : FTok ((11, 173), (3, 0, [5])) := Or.inr ⟨"AgesByMiles$Lives", List.forall_mem_cons.mpr ⟨⟨_, rfl, by decide, by decide, tb_at 290 (by decide +kernel) rfl, Or.inl (by decide +kernel), by decide +kernel, fun h => by first | rfl | exact absurd h (by decide), fun h h2 => by first | exact ⟨rfl, by decide +kernel⟩ | exact absurd h (by decide) | exact absurd h2 (by decide), fun h => by first | rfl | exact absurd h (by decide), fun h => by first | rfl | exact absurd h (by decide)⟩, fun _ h => absurd h List.not_mem_nil⟩⟩
theorem ft_81 : FTok ((5, 29), (4, 0, [5])) := Or.inr ⟨"AgesByMiles$Lives", List.forall_mem_cons.mpr ⟨⟨_, rfl, by decide, by decide, tb_at 291 (by decide +kernel) rfl, Or.inl (by decide +kernel), by decide +kernel, fun h => by first | rfl | exact absurd h (by decide), fun h h2 => by first | exact ⟨rfl, by decide +kernel⟩ | exact absurd h (by decide) | exact absurd h2 (by decide), fun h => by first | rfl | exact absurd h (by decide), fun h => by first | rfl | exact absurd h (by decide)⟩, fun _ h => absurd h List.not_mem_nil⟩⟩
theorem ft_82 : FTok ((11, 170), (4, 0, [5])) := Or.inr ⟨"AgesByMiles$Lives", List.forall_mem_cons.mpr ⟨⟨_, rfl, by decide, by decide, tb_at 292 (by decide +kernel) rfl, Or.inl (by decide +kernel), by decide +kernel, fun h => by first | rfl | exact absurd h (by decide), fun h h2 => by first | exact ⟨rfl, by decide +kernel⟩ | exact absurd h (by decide) | exact absurd h2 (by decide), fun h => by first | rfl | exact absurd h (by decide), fun h => by first | rfl | exact absurd h (by decide)⟩, fun _ h => absurd h List.not_mem_nil⟩⟩
theorem ft_83 : FTok ((11, 10), (0, 2, [10])) := Or.inr ⟨"AgesByMiles", List.forall_mem_cons.mpr ⟨⟨_, rfl, by decide, by decide, tb_at 304 (by decide +kernel) rfl, Or.inl (by decide +kernel), by decide +kernel, fun h => by first | rfl | exact absurd h (by decide), fun h h2 => by first | exact ⟨rfl, by decide +kernel⟩ | exact absurd h (by decide) | exact absurd h2 (by decide), fun h => by first | rfl | exact absurd h (by decide), fun h => by first | rfl | exact absurd h (by decide)⟩, fun _ h => absurd h List.not_mem_nil⟩⟩
theorem ft_84 : FTok ((11, 16), (1, 2, [10])) := Or.inr ⟨"AgesByMiles", List.forall_mem_cons.mpr ⟨⟨_, rfl, by decide, by decide, tb_at 305 (by decide +kernel) rfl, Or.inl (by decide +kernel), by decide +kernel, fun h => by first | rfl | exact absurd h (by decide), fun h h2 => by first | exact ⟨rfl, by decide +kernel⟩ | exact absurd h (by decide) | exact absurd h2 (by decide), fun h => by first | rfl | exact absurd h (by decide), fun h => by first | rfl | exact absurd h (by decide)⟩, fun _ h => absurd h List.not_mem_nil⟩⟩
theorem ft_85 : FTok ((11, 19), (2, 12, [10])) := Or.inr ⟨"AgesByMiles", List.forall_mem_cons.mpr ⟨⟨_, rfl, by decide, by decide, tb_at 306 (by decide +kernel) rfl, Or.inl (by decide +kernel), by decide +kernel, fun h => by first | rfl | exact absurd h (by decide), fun h h2 => by first | exact ⟨rfl, by decide +kernel⟩ | exact absurd h (by decide) | exact absurd h2 (by decide), fun h => by first | rfl | exact absurd h (by decide), fun h => by first | rfl | exact absurd h (by decide)⟩, fun _ h => absurd h List.not_mem_nil⟩⟩
theorem ft_86 : FTok ((11, 22), (3, 1, [10])) := Or.inr ⟨"AgesByMiles", List.forall_mem_cons.mpr ⟨⟨_, rfl, by decide, by decide, tb_at 307 (by decide +kernel) rfl, Or.inl (by decide +kernel), by decide +kernel, fun h => by first | rfl | exact absurd h (by decide), fun h h2 => by first | exact ⟨rfl, by decide +kernel⟩ | exact absurd h (by decide) | exact absurd h2 (by decide), fun h => by first | rfl | exact absurd h (by decide), fun h => by first | rfl | exact absurd h (by decide)⟩, fun _ h => absurd h List.not_mem_nil⟩⟩
theorem ft_87 : FTok ((11, 29), (4, 12, [10])) := Or.inr ⟨"AgesByMiles", List.forall_mem_cons.mpr ⟨⟨_, rfl, by decide, by decide, tb_at 308 (by decide +kernel) rfl, Or.inl (by decide +kernel), by decide +kernel, fun h => by first | rfl | exact absurd h (by decide), fun h h2 => by first | exact ⟨rfl, by decide +kernel⟩ | exact absurd h (by decide) | exact absurd h2 (by decide), fun h => by first | rfl | exact absurd h (by decide), fun h => by first | rfl | exact absurd h (by decide)⟩, fun _ h => absurd h List.not_mem_nil⟩⟩
theorem ft_88 : FTok ((11, 36), (5, 12, [10])) := Or.inr ⟨"AgesByMiles", List.forall_mem_cons.mpr ⟨⟨_, rfl, by decide, by decide, tb_at 309 (by decide +kernel) rfl, Or.inl (by decide +kernel), by decide +kernel, fun h => by first | rfl | exact absurd h (by decide), fun h h2 => by first | exact ⟨rfl, by decide +kernel⟩ | exact absurd h (by decide) | exact absurd h2 (by decide), fun h => by first | rfl | exact absurd h (by decide), fun h => by first | rfl | exact absurd h (by decide)⟩, fun _ h => absurd h List.not_mem_nil⟩⟩
theorem ft_89 : FTok ((11, 40), (6, 12, [10])) := Or.inr ⟨"AgesByMiles", List.forall_mem_cons.mpr ⟨⟨_, rfl, by decide, by decide, tb_at 310 (by decide +kernel) rfl, Or.inl (by decide +kernel), by decide +kernel, fun h => by first | rfl | exact absurd h (by decide), fun h h2 => by first | exact ⟨rfl, by decide +kernel⟩ | exact absurd h (by decide) | exact absurd h2 (by decide), fun h => by first | rfl | exact absurd h (by decide), fun h => by first | rfl | exact absurd h (by decide)⟩, fun _ h => absurd h List.not_mem_nil⟩⟩
theorem ft_90 : FTok ((11, 44), (7, 0, [10])) := Or.inr ⟨"AgesByMiles", List.forall_mem_cons.mpr ⟨⟨_, rfl, by decide, by decide, tb_at 311 (by decide +kernel) rfl, Or.inl (by decide +kernel), by decide +kernel, fun h => by first | rfl | exact absurd h (by decide), fun h h2 => by first | exact ⟨rfl, by decide +kernel⟩ | exact absurd h (by decide) | exact absurd h2 (by decide), fun h => by first | rfl | exact absurd h (by decide), fun h => by first | rfl | exact absurd h (by decide)⟩, fun _ h => absurd h List.not_mem_nil⟩⟩
theorem ft_91 : FTok ((11, 48), (8, 12, [10])) := Or.inr ⟨"AgesByMiles", List.forall_mem_cons.mpr ⟨⟨_, rfl, by decide, by decide, tb_at 312 (by decide +kernel) rfl, Or.inl (by decide +kernel), by decide +kernel, fun h => by first | rfl | exact absurd h (by decide), fun h h2 => by first | exact ⟨rfl, by decide +kernel⟩ | exact absurd h (by decide) | exact absurd h2 (by decide), fun h => by first | rfl | exact absurd h (by decide), fun h => by first | rfl | exact absurd h (by decide)⟩, fun _ h => absurd h List.not_mem_nil⟩⟩
theorem ft_92 : FTok ((11, 51), (9, 0, [10])) := Or.inr ⟨"AgesByMiles", List.forall_mem_cons.mpr ⟨⟨_, rfl, by decide, by decide, tb_at 313 (by decide +kernel) rfl, Or.inl (by decide +kernel), by decide +kernel, fun h => by first | rfl | exact absurd h (by decide), fun h h2 => by first | exact ⟨rfl, by decide +kernel⟩ | exact absurd h (by decide) | exact absurd h2 (by decide), fun h => by first | rfl | exact absurd h (by decide), fun h => by first | rfl | exact absurd h (by decide)⟩, fun _ h => absurd h List.not_mem_nil⟩⟩
theorem ft_93 : FTok ((11, 54), (10, 12, [10])) := Or.inr ⟨"AgesByMiles", List.forall_mem_cons.mpr ⟨⟨_, rfl, by decide, by decide, tb_at 314 (by decide +kernel) rfl, Or.inl (by decide +kernel), by decide +kernel, fun h => by first | rfl | exact absurd h (by decide), fun h h2 => by first | exact ⟨rfl, by decide +kernel⟩ | exact absurd h (by decide) | exact absurd h2 (by decide), fun h => by first | rfl | exact absurd h (by decide), fun h => by first | rfl | exact absurd h (by decide)⟩, fun _ h => absurd h List.not_mem_nil⟩⟩
theorem ft_94 : FTok ((11, 58), (11, 12, [10])) := Or.inr ⟨"AgesByMiles", List.forall_mem_cons.mpr ⟨⟨_, rfl, by decide, by decide, tb_at 315 (by decide +kernel) rfl, Or.inl (by decide +kernel), by decide +kernel, fun h => by first | rfl | exact absurd h (by decide), fun h h2 => by first | exact ⟨rfl, by decide +kernel⟩ | exact absurd h (by decide) | exact absurd h2 (by decide), fun h => by first | rfl | exact absurd h (by decide), fun h => by first | rfl | exact absurd h (by decide)⟩, fun _ h => absurd h List.not_mem_nil⟩⟩
theorem ft_95 : FTok ((11, 61), (12, 12, [10])) := Or.inr ⟨"AgesByMiles", List.forall_mem_cons.mpr ⟨⟨_, rfl, by decide, by decide, tb_at 316 (by decide +kernel) rfl, Or.inl (by decide +kernel), by decide +kernel, fun h => by first | rfl | exact absurd h (by decide), fun h h2 => by first | exact ⟨rfl, by decide +kernel⟩ | exact absurd h (by decide) | exact absurd h2 (by decide), fun h => by first | rfl | exact absurd h (by decide), fun h => by first | rfl | exact absurd h (by decide)⟩, fun _ h => absurd h List.not_mem_nil⟩⟩
theorem ft_96 : FTok ((12, 7), (0, 12, [11])) := Or.inr ⟨"AgesByMilesModel", List.forall_mem_cons.mpr ⟨⟨_, rfl, by decide, by decide, tb_at 918 (by decide +kernel) rfl, Or.inl (by decide +kernel), by decide +kernel, fun h => by first | rfl | exact absurd h (by decide), fun h h2 => by first | exact ⟨rfl, by decide +kernel⟩ | exact absurd h (by decide) | exact absurd h2 (by decide), fun h => by first | rfl | exact absurd h (by decide), fun h => by first | rfl | exact absurd h (by decide)⟩, fun _ h => absurd h List.not_mem_nil⟩⟩
theorem ft_97 : FTok ((12, 13), (1, 12, [11])) := Or.inr ⟨"AgesByMilesModel", List.forall_mem_cons.mpr ⟨⟨_, rfl, by decide, by decide, tb_at 919 (by decide +kernel) rfl, Or.inl (by decide +kernel), by decide +kernel, fun h => by first | rfl | exact absurd h (by decide), fun h h2 => by first | exact ⟨rfl, by decide +kernel⟩ | exact absurd h (by decide) | exact absurd h2 (by decide), fun h => by first | rfl | exact absurd h (by decide), fun h => by first | rfl | exact absurd h (by decide)⟩, fun _ h => absurd h List.not_mem_nil⟩⟩
theorem ft_98 : FTok ((12, 16), (2, 12, [11])) := Or.inr ⟨"AgesByMilesModel", List.forall_mem_cons.mpr ⟨⟨_, rfl, by decide, by decide, tb_at 920 (by decide +kernel) rfl, Or.inl (by decide +kernel), by decide +kernel, fun h => by first | rfl | exact absurd h (by decide), fun h h2 => by first | exact ⟨rfl, by decide +kernel⟩ | exact absurd h (by decide) | exact absurd h2 (by decide), fun h => by first | rfl | exact absurd h (by decide), fun h => by first | rfl | exact absurd h (by decide)⟩, fun _ h => absurd h List.not_mem_nil⟩⟩
theorem ft_99 : FTok ((12, 19), (3, 12, [11])) := Or.inr ⟨"AgesByMilesModel", List.forall_mem_cons.mpr ⟨⟨_, rfl, by decide, by decide, tb_at 921 (by decide +kernel) rfl, Or.inl (by decide +kernel), by decide +kernel, fun h => by first | rfl | exact absurd h (by decide), fun h h2 => by first | exact ⟨rfl, by decide +kernel⟩ | exact absurd h (by decide) | exact absurd h2 (by decide), fun h => by first | rfl | exact absurd h (by decide), fun h => by first | rfl | exact absurd h (by decide)⟩, fun _ h => absurd h List.not_mem_nil⟩⟩
theorem ft_100 : FTok ((12, 22), (4, 12, [11])) := Or.inr ⟨"AgesByMilesModel", List.forall_mem_cons.mpr ⟨⟨_, rfl, by decide, by decide, tb_at 922 (by decide +kernel) rfl, Or.inl (by decide +kernel), by decide +kernel, fun h => by first | rfl | exact absurd h (by decide), fun h h2 => by first | exact ⟨rfl, by decide +kernel⟩ | exact absurd h (by decide) | exact absurd h2 (by decide), fun h => by first | rfl | exact absurd h (by decide), fun h => by first | rfl | exact absurd h (by decide)⟩, fun _ h => absurd h List.not_mem_nil⟩⟩
theorem ft_101 : FTok ((12, 25), (5, 12, [11])) := Or.inr ⟨"AgesByMilesModel", List.forall_mem_cons.mpr ⟨⟨_, rfl, by decide, by decide, tb_at 923 (by decide +kernel) rfl, Or.inl (by decide +kernel), by decide +kernel, fun h => by first | rfl | exact absurd h (by decide), fun h h2 => by first | exact ⟨rfl, by decide +kernel⟩ | exact absurd h (by decide) | exact absurd h2 (by decide), fun h => by first | rfl | exact absurd h (by decide), fun h => by first | rfl | exact absurd h (by decide)⟩, fun _ h => absurd h List.not_mem_nil⟩⟩
theorem ft_102 : FTok ((12, 28), (6, 12, [11])) := Or.inr ⟨"AgesByMilesModel", List.forall_mem_cons.mpr ⟨⟨_, rfl, by decide, by decide, tb_at 924 (by decide +kernel) rfl, Or.inl (by decide +kernel), by decide +kernel, fun h => by first | rfl | exact absurd h (by decide), fun h h2 => by first | exact ⟨rfl, by decide +kernel⟩ | exact absurd h (by decide) | exact absurd h2 (by decide), fun h => by first | rfl | exact absurd h (by decide), fun h => by first | rfl | exact absurd h (by decide)⟩, fun _ h => absurd h List.not_mem_nil⟩⟩
theorem ft_103 : FTok ((12, 31), (7, 12, [11])) := Or.inr ⟨"AgesByMilesModel", List.forall_mem_cons.mpr ⟨⟨_, rfl, by decide, by decide, tb_at 925 (by decide +kernel) rfl, Or.inl (by decide +kernel), by decide +kernel, fun h => by first | rfl | exact absurd h (by decide), fun h h2 => by first | exact ⟨rfl, by decide +kernel⟩ | exact absurd h (by decide) | exact absurd h2 (by decide), fun h => by first | rfl | exact absurd h (by decide), fun h => by first | rfl | exact absurd h (by decide)⟩, fun _ h => absurd h List.not_mem_nil⟩⟩
theorem ft_104 : FTok ((12, 34), (8, 12, [11])) := Or.inr ⟨"AgesByMilesModel", List.forall_mem_cons.mpr ⟨⟨_, rfl, by decide, by decide, tb_at 926 (by decide +kernel) rfl, Or.inl (by decide +kernel), by decide +kernel, fun h => by first | rfl | exact absurd h (by decide), fun h h2 => by first | exact ⟨rfl, by decide +kernel⟩ | exact absurd h (by decide) | exact absurd h2 (by decide), fun h => by first | rfl | exact absurd h (by decide), fun h => by first | rfl | exact absurd h (by decide)⟩, fun _ h => absurd h List.not_mem_nil⟩⟩
theorem ft_105 : FTok ((12, 37), (9, 12, [11])) := Or.inr ⟨"AgesByMilesModel", List.forall_mem_cons.mpr ⟨⟨_, rfl, by decide, by decide, tb_at 927 (by decide +kernel) rfl, Or.inl (by decide +kernel), by decide +kernel, fun h => by first | rfl | exact absurd h (by decide), fun h h2 => by first | exact ⟨rfl, by decide +kernel⟩ | exact absurd h (by decide) | exact absurd h2 (by decide), fun h => by first | rfl | exact absurd h (by decide), fun h => by first | rfl | exact absurd h (by decide)⟩, fun _ h => absurd h List.not_mem_nil⟩⟩
theorem ft_106 : FTok ((12, 40), (10, 12, [11])) := Or.inr ⟨"AgesByMilesModel", List.forall_mem_cons.mpr ⟨⟨_, rfl, by decide, by decide, tb_at 928 (by decide +kernel) rfl, Or.inl (by decide +kernel), by decide +kernel, fun h => by first | rfl | exact absurd h (by decide), fun h h2 => by first | exact ⟨rfl, by decide +kernel⟩ | exact absurd h (by decide) | exact absurd h2 (by decide), fun h => by first | rfl | exact absurd h (by decide), fun h => by first | rfl | exact absurd h (by decide)⟩, fun _ h => absurd h List.not_mem_nil⟩⟩
theorem ft_107 : FTok ((12, 43), (11, 12, [11])) := Or.inr ⟨"AgesByMilesModel", List.forall_mem_cons.mpr ⟨⟨_, rfl, by decide, by decide, tb_at 929 (by decide +kernel) rfl, Or.inl (by decide +kernel), by decide +kernel, fun h => by first | rfl | exact absurd h (by decide), fun h h2 => by first | exact ⟨rfl, by decide +kernel⟩ | exact absurd h (by decide) | exact absurd h2 (by decide), fun h => by first | rfl | exact absurd h (by decide), fun h => by first | rfl | exact absurd h (by decide)⟩, fun _ h => absurd h List.not_mem_nil⟩⟩
theorem ft_108 : FTok ((12, 46), (12, 12, [11])) := Or.inr ⟨"AgesByMilesModel", List.forall_mem_cons.mpr ⟨⟨_, rfl, by decide, by decide, tb_at 930 (by decide +kernel) rfl, Or.inl (by decide +kernel), by decide +kernel, fun h => by first | rfl | exact absurd h (by decide), fun h h2 => by first | exact ⟨rfl, by decide +kernel⟩ | exact absurd h (by decide) | exact absurd h2 (by decide), fun h => by first | rfl | exact absurd h (by decide), fun h => by first | rfl | exact absurd h (by decide)⟩, fun _ h => absurd h List.not_mem_nil⟩⟩
theorem ft_109 : FTok ((12, 49), (13, 12, [11])) := Or.inr ⟨"AgesByMilesModel", List.forall_mem_cons.mpr ⟨⟨_, rfl, by decide, by decide, tb_at 931 (by decide +kernel) rfl, Or.inl (by decide +kernel), by decide +kernel, fun h => by first | rfl | exact absurd h (by decide), fun h h2 => by first | exact ⟨rfl, by decide +kernel⟩ | exact absurd h (by decide) | exact absurd h2 (by decide), fun h => by first | rfl | exact absurd h (by decide), fun h => by first | rfl | exact absurd h (by decide)⟩, fun _ h => absurd h List.not_mem_nil⟩⟩
theorem ft_110 : FTok ((12, 52), (14, 0, [11])) := Or.inr ⟨"AgesByMilesModel", List.forall_mem_cons.mpr ⟨⟨_, rfl, by decide, by decide, tb_at 932 (by decide +kernel) rfl, Or.inl (by decide +kernel), by decide +kernel, fun h => by first | rfl | exact absurd h (by decide), fun h h2 => by first | exact ⟨rfl, by decide +kernel⟩ | exact absurd h (by decide) | exact absurd h2 (by decide), fun h => by first | rfl | exact absurd h (by decide), fun h => by first | rfl | exact absurd h (by decide)⟩, fun _ h => absurd h List.not_mem_nil⟩⟩
theorem ft_111 : FTok ((12, 117), (15, 0, [11])) := Or.inr ⟨"AgesByMilesModel", List.forall_mem_cons.mpr ⟨⟨_, rfl, by decide, by decide, tb_at 933 (by decide +kernel) rfl, Or.inl (by decide +kernel), by decide +kernel, fun h => by first | rfl | exact absurd h (by decide), fun h h2 => by first | exact ⟨rfl, by decide +kernel⟩ | exact absurd h (by decide) | exact absurd h2 (by decide), fun h => by first | rfl | exact absurd h (by decide), fun h => by first | rfl | exact absurd h (by decide)⟩, fun _ h => absurd h List.not_mem_nil⟩⟩
theorem ft_112 : FTok ((12, 113), (16, 0, [11])) := Or.inr ⟨"AgesByMilesModel", List.forall_mem_cons.mpr ⟨⟨_, rfl, by decide, by decide, tb_at 934 (by decide +kernel) rfl, Or.inl (by decide +kernel), by decide +kernel, fun h => by first | rfl | exact absurd h (by decide), fun h h2 => by first | exact ⟨rfl, by decide +kernel⟩ | exact absurd h (by decide) | exact absurd h2 (by decide), fun h => by first | rfl | exact absurd h (by decide), fun h => by first | rfl | exact absurd h (by decide)⟩, fun _ h => absurd h List.not_mem_nil⟩⟩
theorem ft_113 : FTok ((12, 166), (17, 0, [11])) := Or.inr ⟨"AgesByMilesModel", List.forall_mem_cons.mpr ⟨⟨_, rfl, by decide, by decide, tb_at 935 (by decide +kernel) rfl, Or.inl (by decide +kernel), by decide +kernel, fun h => by first | rfl | exact absurd h (by decide), fun h h2 => by first | exact ⟨rfl, by decide +kernel⟩ | exact absurd h (by decide) | exact absurd h2 (by decide), fun h => by first | rfl | exact absurd h (by decide), fun h => by first | rfl | exact absurd h (by decide)⟩, fun _ h => absurd h List.not_mem_nil⟩⟩
theorem ft_114 : FTok ((12, 169), (18, 0, [11])) := Or.inr ⟨"AgesByMilesModel", List.forall_mem_cons.mpr ⟨⟨_, rfl, by decide, by decide, tb_at 936 (by decide +kernel) rfl, Or.inl (by decide +kernel), by decide +kernel, fun h => by first | rfl | exact absurd h (by decide), fun h h2 => by first | exact ⟨rfl, by decide +kernel⟩ | exact absurd h (by decide) | exact absurd h2 (by decide), fun h => by first | rfl | exact absurd h (by decide), fun h => by first | rfl | exact absurd h (by decide)⟩, fun _ h => absurd h List.not_mem_nil⟩⟩
theorem ft_115 : FTok ((12, 56), (19, 12, [11])) := Or.inr ⟨"AgesByMilesModel", List.forall_mem_cons.mpr ⟨⟨_, rfl, by decide, by decide, tb_at 937 (by decide +kernel) rfl, Or.inl (by decide +kernel), by decide +kernel, fun h => by first | rfl | exact absurd h (by decide), fun h h2 => by first | exact ⟨rfl, by decide +kernel⟩ | exact absurd h (by decide) | exact absurd h2 (by decide), fun h => by first | rfl | exact absurd h (by decide), fun h => by first | rfl | exact absurd h (by decide)⟩, fun _ h => absurd h List.not_mem_nil⟩⟩
theorem ft_116 : FTok ((12, 59), (20, 12, [11])) := Or.inr ⟨"AgesByMilesModel", List.forall_mem_cons.mpr ⟨⟨_, rfl, by decide, by decide, tb_at 938 (by decide +kernel) rfl, Or.inl (by decide +kernel), by decide +kernel, fun h => by first | rfl | exact absurd h (by decide), fun h h2 => by first | exact ⟨rfl, by decide +kernel⟩ | exact absurd h (by decide) | exact absurd h2 (by decide), fun h => by first | rfl | exact absurd h (by decide), fun h => by first | rfl | exact absurd h (by decide)⟩, fun _ h => absurd h List.not_mem_nil⟩⟩
theorem ft_117 : FTok ((12, 62), (21, 12, [11])) := Or.inr ⟨"AgesByMilesModel", List.forall_mem_cons.mpr ⟨⟨_, rfl, by decide, by decide, tb_at 939 (by decide +kernel) rfl, Or.inl (by decide +kernel), by decide +kernel, fun h => by first | rfl | exact absurd h (by decide), fun h h2 => by first | exact ⟨rfl, by decide +kernel⟩ | exact absurd h (by decide) | exact absurd h2 (by decide), fun h => by first | rfl | exact absurd h (by decide), fun h => by first | rfl | exact absurd h (by decide)⟩, fun _ h => absurd h List.not_mem_nil⟩⟩
theorem ft_118 : FTok ((12, 65), (22, 12, [11])) := Or.inr ⟨"AgesByMilesModel", List.forall_mem_cons.mpr ⟨⟨_, rfl, by decide, by decide, tb_at 940 (by decide +kernel) rfl, Or.inl (by decide +kernel), by decide +kernel, fun h => by first | rfl | exact absurd h (by decide), fun h h2 => by first | exact ⟨rfl, by decide +kernel⟩ | exact absurd h (by decide) | exact absurd h2 (by decide), fun h => by first | rfl | exact absurd h (by decide), fun h => by first | rfl | exact absurd h (by decide)⟩, fun _ h => absurd h List.not_mem_nil⟩⟩
theorem ft_119 : FTok ((12, 68), (23, 12, [11])) := Or.inr ⟨"AgesByMilesModel", List.forall_mem_cons.mpr ⟨⟨_, rfl, by decide, by decide, tb_at 941 (by decide +kernel) rfl, Or.inl (by decide +kernel), by decide +kernel, fun h => by first | rfl | exact absurd h (by decide), fun h h2 => by first | exact ⟨rfl, by decide +kernel⟩ | exact absurd h (by decide) | exact absurd h2 (by decide), fun h => by first | rfl | exact absurd h (by decide), fun h => by first | rfl | exact absurd h (by decide)⟩, fun _ h => absurd h List.not_mem_nil⟩⟩
theorem ft_120 : FTok ((12, 71), (24, 12, [11])) := Or.inr ⟨"AgesByMilesModel", List.forall_mem_cons.mpr ⟨⟨_, rfl, by decide, by decide, tb_at 942 (by decide +kernel) rfl, Or.inl (by decide +kernel), by decide +kernel, fun h => by first | rfl | exact absurd h (by decide), fun h h2 => by first | exact ⟨rfl, by decide +kernel⟩ | exact absurd h (by decide) | exact absurd h2 (by decide), fun h => by first | rfl | exact absurd h (by decide), fun h => by first | rfl | exact absurd h (by decide)⟩, fun _ h => absurd h List.not_mem_nil⟩⟩
theorem ft_121 : FTok ((12, 74), (25, 12, [11])) := Or.inr ⟨"AgesByMilesModel", List.forall_mem_cons.mpr ⟨⟨_, rfl, by decide, by decide, tb_at 943 (by decide +kernel) rfl, Or.inl (by decide +kernel), by decide +kernel, fun h => by first | rfl | exact absurd h (by decide), fun h h2 => by first | exact ⟨rfl, by decide +kernel⟩ | exact absurd h (by decide) | exact absurd h2 (by decide), fun h => by first | rfl | exact absurd h (by decide), fun h => by first | rfl | exact absurd h (by decide)⟩, fun _ h => absurd h List.not_mem_nil⟩⟩
theorem ft_122 : FTok ((12, 77), (26, 12, [11])) := Or.inr ⟨"AgesByMilesModel", List.forall_mem_cons.mpr ⟨⟨_, rfl, by decide, by decide, tb_at 944 (by decide +kernel) rfl, Or.inl (by decide +kernel), by decide +kernel, fun h => by first | rfl | exact absurd h (by decide), fun h h2 => by first | exact ⟨rfl, by decide +kernel⟩ | exact absurd h (by decide) | exact absurd h2 (by decide), fun h => by first | rfl | exact absurd h (by decide), fun h => by first | rfl | exact absurd h (by decide)⟩, fun _ h => absurd h List.not_mem_nil⟩⟩
theorem ft_123 : FTok ((12, 124), (27, 0, [11])) := Or.inr ⟨"AgesByMilesModel", List.forall_mem_cons.mpr ⟨⟨_, rfl, by decide, by decide, tb_at 945 (by decide +kernel) rfl, Or.inl (by decide +kernel), by decide +kernel, fun h => by first | rfl | exact absurd h (by decide), fun h h2 => by first | exact ⟨rfl, by decide +kernel⟩ | exact absurd h (by decide) | exact absurd h2 (by decide), fun h => by first | rfl | exact absurd h (by decide), fun h => by first | rfl | exact absurd h (by decide)⟩, fun _ h => absurd h List.not_mem_nil⟩⟩
theorem ft_124 : FTok ((12, 133), (28, 0, [11])) := Or.inr ⟨"AgesByMilesModel", List.forall_mem_cons.mpr ⟨⟨_, rfl, by decide, by decide, tb_at 946 (by decide +kernel) rfl, Or.inl (by decide +kernel), by decide +kernel, fun h => by first | rfl | exact absurd h (by decide), fun h h2 => by first | exact ⟨rfl, by decide +kernel⟩ | exact absurd h (by decide) | exact absurd h2 (by decide), fun h => by first | rfl | exact absurd h (by decide), fun h => by first | rfl | exact absurd h (by decide)⟩, fun _ h => absurd h List.not_mem_nil⟩⟩
theorem ft_125 : FTok ((12, 154), (29, 0, [11])) := Or.inr ⟨"AgesByMilesModel", List.forall_mem_cons.mpr ⟨⟨_, rfl, by decide, by decide, tb_at 947 (by decide +kernel) rfl, Or.inl (by decide +kernel), by decide +kernel, fun h => by first | rfl | exact absurd h (by decide), fun h h2 => by first | exact ⟨rfl, by decide +kernel⟩ | exact absurd h (by decide) | exact absurd h2 (by decide), fun h => by first | rfl | exact absurd h (by decide), fun h => by first | rfl | exact absurd h (by decide)⟩, fun _ h => absurd h List.not_mem_nil⟩⟩
theorem ft_126 : FTok ((12, 80), (30, 12, [11])) := Or.inr ⟨"AgesByMilesModel", List.forall_mem_cons.mpr ⟨⟨_, rfl, by decide, by decide, tb_at 948 (by decide +kernel) rfl, Or.inl (by decide +kernel), by decide +kernel, fun h => by first | rfl | exact absurd h (by decide), fun h h2 => by first | exact ⟨rfl, by decide +kernel⟩ | exact absurd h (by decide) | exact absurd h2 (by decide), fun h => by first | rfl | exact absurd h (by decide), fun h => by first | rfl | exact absurd h (by decide)⟩, fun _ h => absurd h List.not_mem_nil⟩⟩
theorem ft_127 : FTok ((12, 297), (31, 1, [11])) := Or.inr ⟨"AgesByMilesModel", List.forall_mem_cons.mpr ⟨⟨_, rfl, by decide, by decide, tb_at 949 (by decide +kernel) rfl, Or.inl (by decide +kernel), by decide +kernel, fun h => by first | rfl | exact absurd h (by decide), fun h h2 => by first | exact ⟨rfl, by decide +kernel⟩ | exact absurd h (by decide) | exact absurd h2 (by decide), fun h => by first | rfl | exact absurd h (by decide), fun h => by first | rfl | exact absurd h (by decide)⟩, fun _ h => absurd h List.not_mem_nil⟩⟩
theorem ft_128 : FTok ((12, 195), (32, 1, [11])) := Or.inr ⟨"AgesByMilesModel", List.forall_mem_cons.mpr ⟨⟨_, rfl, by decide, by decide, tb_at 950 (by decide +kernel) rfl, Or.inl (by decide +kernel), by decide +kernel, fun h => by first | rfl | exact absurd h (by decide), fun h h2 => by first | exact ⟨rfl, by decide +kernel⟩ | exact absurd h (by decide) | exact absurd h2 (by decide), fun h => by first | rfl | exact absurd h (by decide), fun h => by first | rfl | exact absurd h (by decide)⟩, fun _ h => absurd h List.not_mem_nil⟩⟩
theorem ft_129 : FTok ((12, 199), (33, 0, [11])) := Or.inr ⟨"AgesByMilesModel", List.forall_mem_cons.mpr ⟨⟨_, rfl, by decide, by decide, tb_at 951 (by decide +kernel) rfl, Or.inl (by decide +kernel), by decide +kernel, fun h => by first | rfl | exact absurd h (by decide), fun h h2 => by first | exact ⟨rfl, by decide +kernel⟩ | exact absurd h (by decide) | exact absurd h2 (by decide), fun h => by first | rfl | exact absurd h (by decide), fun h => by first | rfl | exact absurd h (by decide)⟩, fun _ h => absurd h List.not_mem_nil⟩⟩
theorem ft_130 : FTok ((12, 83), (34, 12, [11])) := Or.inr ⟨"AgesByMilesModel", List.forall_mem_cons.mpr ⟨⟨_, rfl, by decide, by decide, tb_at 952 (by decide +kernel) rfl, Or.inl (by decide +kernel), by decide +kernel, fun h => by first | rfl | exact absurd h (by decide), fun h h2 => by first | exact ⟨rfl, by decide +kernel⟩ | exact absurd h (by decide) | exact absurd h2 (by decide), fun h => by first | rfl | exact absurd h (by decide), fun h => by first | rfl | exact absurd h (by decide)⟩, fun _ h => absurd h List.not_mem_nil⟩⟩
theorem ft_131 : FTok ((12, 163), (35, 0, [11])) := Or.inr ⟨"AgesByMilesModel", List.forall_mem_cons.mpr ⟨⟨_, rfl, by decide, by decide, tb_at 953 (by decide +kernel) rfl, Or.inl (by decide +kernel), by decide +kernel, fun h => by first | rfl | exact absurd h (by decide), fun h h2 => by first | exact ⟨rfl, by decide +kernel⟩ | exact absurd h (by decide) | exact absurd h2 (by decide), fun h => by first | rfl | exact absurd h (by decide), fun h => by first | rfl | exact absurd h (by decide)⟩, fun _ h => absurd h List.not_mem_nil⟩⟩
theorem ft_132 : FTok ((12, 209), (36, 0, [11])) := Or.inr ⟨"AgesByMilesModel", List.forall_mem_cons.mpr ⟨⟨_, rfl, by decide, by decide, tb_at 954 (by decide +kernel) rfl, Or.inl (by decide +kernel), by decide +kernel, fun h => by first | rfl | exact absurd h (by decide), fun h h2 => by first | exact ⟨rfl, by decide +kernel⟩ | exact absurd h (by decide) | exact absurd h2 (by decide), fun h => by first | rfl | exact absurd h (by decide), fun h => by first | rfl | exact absurd h (by decide)⟩, fun _ h => absurd h List.not_mem_nil⟩⟩
theorem ft_133 : FTok ((12, 212), (37, 0, [11])) := Or.inr ⟨"AgesByMilesModel", List.forall_mem_cons.mpr ⟨⟨_, rfl, by decide, by decide, tb_at 955 (by decide +kernel) rfl, Or.inl (by decide +kernel), by decide +kernel, fun h => by first | rfl | exact absurd h (by decide), fun h h2 => by first | exact ⟨rfl, by decide +kernel⟩ | exact absurd h (by decide) | exact absurd h2 (by decide), fun h => by first | rfl | exact absurd h (by decide), fun h => by first | rfl | exact absurd h (by decide)⟩, fun _ h => absurd h List.not_mem_nil⟩⟩
theorem ft_134 : FTok ((12, 86), (38, 12, [11])) := Or.inr ⟨"AgesByMilesModel", List.forall_mem_cons.mpr ⟨⟨_, rfl, by decide, by decide, tb_at 956 (by decide +kernel) rfl, Or.inl (by decide +kernel), by decide +kernel, fun h => by first | rfl | exact absurd h (by decide), fun h h2 => by first | exact ⟨rfl, by decide +kernel⟩ | exact absurd h (by decide) | exact absurd h2 (by decide), fun h => by first | rfl | exact absurd h (by decide), fun h => by first | rfl | exact absurd h (by decide)⟩, fun _ h => absurd h List.not_mem_nil⟩⟩
theorem ft_135 : FTok ((12, 89), (39, 12, [11])) := Or.inr ⟨"AgesByMilesModel", List.forall_mem_cons.mpr ⟨⟨_, rfl, by decide, by decide, tb_at 957 (by decide +kernel) rfl, Or.inl (by decide +kernel), by decide +kernel, fun h => by first | rfl | exact absurd h (by decide), fun h h2 => by first | exact ⟨rfl, by decide +kernel⟩ | exact absurd h (by decide) | exact absurd h2 (by decide), fun h => by first | rfl | exact absurd h (by decide), fun h => by first | rfl | exact absurd h (by decide)⟩, fun _ h => absurd h List.not_mem_nil⟩⟩
theorem ft_136 : FTok ((12, 92), (40, 12, [11])) := Or.inr ⟨"AgesByMilesModel", List.forall_mem_cons.mpr ⟨⟨_, rfl, by decide, by decide, tb_at 958 (by decide +kernel) rfl, Or.inl (by decide +kernel), by decide +kernel, fun h => by first | rfl | exact absurd h (by decide), fun h h2 => by first | exact ⟨rfl, by decide +kernel⟩ | exact absurd h (by decide) | exact absurd h2 (by decide), fun h => by first | rfl | exact absurd h (by decide), fun h => by first | rfl | exact absurd h (by decide)⟩, fun _ h => absurd h List.not_mem_nil⟩⟩
theorem ft_137 : FTok ((12, 95), (41, 12, [11])) := Or.inr ⟨"AgesByMilesModel", List.forall_mem_cons.mpr ⟨⟨_, rfl, by decide, by decide, tb_at 959 (by decide +kernel) rfl, Or.inl (by decide +kernel), by decide +kernel, fun h => by first | rfl | exact absurd h (by decide), fun h h2 => by first | exact ⟨rfl, by decide +kernel⟩ | exact absurd h (by decide) | exact absurd h2 (by decide), fun h => by first | rfl | exact absurd h (by decide), fun h => by first | rfl | exact absurd h (by decide)⟩, fun _ h => absurd h List.not_mem_nil⟩⟩
theorem ft_138 : FTok ((12, 98), (42, 12, [11])) := Or.inr ⟨"AgesByMilesModel", List.forall_mem_cons.mpr ⟨⟨_, rfl, by decide, by decide, tb_at 960 (by decide +kernel) rfl, Or.inl (by decide +kernel), by decide +kernel, fun h => by first | rfl | exact absurd h (by decide), fun h h2 => by first | exact ⟨rfl, by decide +kernel⟩ | exact absurd h (by decide) | exact absurd h2 (by decide), fun h => by first | rfl | exact absurd h (by decide), fun h => by first | rfl | exact absurd h (by decide)⟩, fun _ h => absurd h List.not_mem_nil⟩⟩
theorem ft_139 : FTok ((12, 261), (43, 0, [11])) := Or.inr ⟨"AgesByMilesModel", List.forall_mem_cons.mpr ⟨⟨_, rfl, by decide, by decide, tb_at 961 (by decide +kernel) rfl, Or.inl (by decide +kernel), by decide +kernel, fun h => by first | rfl | exact absurd h (by decide), fun h h2 => by first | exact ⟨rfl, by decide +kernel⟩ | exact absurd h (by decide) | exact absurd h2 (by decide), fun h => by first | rfl | exact absurd h (by decide), fun h => by first | rfl | exact absurd h (by decide)⟩, fun _ h => absurd h List.not_mem_nil⟩⟩
theorem ft_140 : FTok ((12, 264), (44, 0, [11])) := Or.inr ⟨"AgesByMilesModel", List.forall_mem_cons.mpr ⟨⟨_, rfl, by decide, by decide, tb_at 962 (by decide +kernel) rfl, Or.inl (by decide +kernel), by decide +kernel, fun h => by first | rfl | exact absurd h (by decide), fun h h2 => by first | exact ⟨rfl, by decide +kernel⟩ | exact absurd h (by decide) | exact absurd h2 (by decide), fun h => by first | rfl | exact absurd h (by decide), fun h => by first | rfl | exact absurd h (by decide)⟩, fun _ h => absurd h List.not_mem_nil⟩⟩
theorem ft_141 : FTok ((12, 101), (45, 12, [11])) := Or.inr ⟨"AgesByMilesModel", List.forall_mem_cons.mpr ⟨⟨_, rfl, by decide, by decide, tb_at 963 (by decide +kernel) rfl, Or.inl (by decide +kernel), by decide +kernel, fun h => by first | rfl | exact absurd h (by decide), fun h h2 => by first | exact ⟨rfl, by decide +kernel⟩ | exact absurd h (by decide) | exact absurd h2 (by decide), fun h => by first | rfl | exact absurd h (by decide), fun h => by first | rfl | exact absurd h (by decide)⟩, fun _ h => absurd h List.not_mem_nil⟩⟩
theorem ft_142 : FTok ((12, 105), (46, 12, [11])) := Or.inr ⟨"AgesByMilesModel", List.forall_mem_cons.mpr ⟨⟨_, rfl, by decide, by decide, tb_at 964 (by decide +kernel) rfl, Or.inl (by decide +kernel), by decide +kernel, fun h => by first | rfl | exact absurd h (by decide), fun h h2 => by first | exact ⟨rfl, by decide +kernel⟩ | exact absurd h (by decide) | exact absurd h2 (by decide), fun h => by first | rfl | exact absurd h (by decide), fun h => by first | rfl | exact absurd h (by decide)⟩, fun _ h => absurd h List.not_mem_nil⟩⟩
theorem ft_143 : FTok ((12, 108), (47, 12, [11])) := Or.inr ⟨"AgesByMilesModel", List.forall_mem_cons.mpr ⟨⟨_, rfl, by decide, by decide, tb_at 965 (by decide +kernel) rfl, Or.inl (by decide +kernel), by decide +kernel, fun h => by first | rfl | exact absurd h (by decide), fun h h2 => by first | exact ⟨rfl, by decide +kernel⟩ | exact absurd h (by decide) | exact absurd h2 (by decide), fun h => by first | rfl | exact absurd h (by decide), fun h => by first | rfl | exact absurd h (by decide)⟩, fun _ h => absurd h List.not_mem_nil⟩⟩
theorem ft_144 : FTok ((12, 294), (48, 0, [11])) := Or.inr ⟨"AgesByMilesModel", List.forall_mem_cons.mpr ⟨⟨_, rfl, by decide, by decide, tb_at 966 (by decide +kernel) rfl, Or.inl (by decide +kernel), by decide +kernel, fun h => by first | rfl | exact absurd h (by decide), fun h h2 => by first | exact ⟨rfl, by decide +kernel⟩ | exact absurd h (by decide) | exact absurd h2 (by decide), fun h => by first | rfl | exact absurd h (by decide), fun h => by first | rfl | exact absurd h (by decide)⟩, fun _ h => absurd h List.not_mem_nil⟩⟩
theorem ft_145 : FTok ((14, 15), (1, 20, [12])) := Or.inl ⟨rfl, Or.inr ⟨rfl, rfl, tb_at 1350 (by decide +kernel) rfl⟩⟩
theorem ft_146 : FTok ((14, 9), (0, 22, [12])) := Or.inl ⟨rfl, Or.inl ⟨rfl, rfl, tb_at 1351 (by decide +kernel) rfl⟩⟩
theorem FT_ok : ∀ q ∈ FT, FTok q := by
  unfold FT
  refine List.forall_mem_cons.mpr ⟨ft_0, ?_⟩
  refine List.forall_mem_cons.mpr ⟨ft_1, ?_⟩
  refine List.forall_mem_cons.mpr ⟨ft_2, ?_⟩
  refine List.forall_mem_cons.mpr ⟨ft_3, ?_⟩
  refine List.forall_mem_cons.mpr ⟨ft_4, ?_⟩
  refine List.forall_mem_cons.mpr ⟨ft_5, ?_⟩
  refine List.forall_mem_cons.mpr ⟨ft_6, ?_⟩
  refine List.forall_mem_cons.mpr ⟨ft_7, ?_⟩
  refine List.forall_mem_cons.mpr ⟨ft_8, ?_⟩
  refine List.forall_mem_cons.mpr ⟨ft_9, ?_⟩
  refine List.forall_mem_cons.mpr ⟨ft_10, ?_⟩
  refine List.forall_mem_cons.mpr ⟨ft_11, ?_⟩
  refine List.forall_mem_cons.mpr ⟨ft_12, ?_⟩
  refine List.forall_mem_cons.mpr ⟨ft_13, ?_⟩
  refine List.forall_mem_cons.mpr ⟨ft_14, ?_⟩
  refine List.forall_mem_cons.mpr ⟨ft_15, ?_⟩
  refine List.forall_mem_cons.mpr ⟨ft_16, ?_⟩
  refine List.forall_mem_cons.mpr ⟨ft_17, ?_⟩
  refine List.forall_mem_cons.mpr ⟨ft_18, ?_⟩
  refine List.forall_mem_cons.mpr ⟨ft_19, ?_⟩
  refine List.forall_mem_cons.mpr ⟨ft_20, ?_⟩
  refine List.forall_mem_cons.mpr ⟨ft_21, ?_⟩
  refine List.forall_mem_cons.mpr ⟨ft_22, ?_⟩
  refine List.forall_mem_cons.mpr ⟨ft_23, ?_⟩
  refine List.forall_mem_cons.mpr ⟨ft_24, ?_⟩
  refine List.forall_mem_cons.mpr ⟨ft_25, ?_⟩
  refine List.forall_mem_cons.mpr ⟨ft_26, ?_⟩
  refine List.forall_mem_cons.mpr ⟨ft_27, ?_⟩
  refine List.forall_mem_cons.mpr ⟨ft_28, ?_⟩
  refine List.forall_mem_cons.mpr ⟨ft_29, ?_⟩
  refine List.forall_mem_cons.mpr ⟨ft_30, ?_⟩
  refine List.forall_mem_cons.mpr ⟨ft_31, ?_⟩
  refine List.forall_mem_cons.mpr ⟨ft_32, ?_⟩
  refine List.forall_mem_cons.mpr ⟨ft_33, ?_⟩
  refine List.forall_mem_cons.mpr ⟨ft_34, ?_⟩
  refine List.forall_mem_cons.mpr ⟨ft_35, ?_⟩
  refine List.forall_mem_cons.mpr ⟨ft_36, ?_⟩
  refine List.forall_mem_cons.mpr ⟨ft_37, ?_⟩
  refine List.forall_mem_cons.mpr ⟨ft_38, ?_⟩
  refine List.forall_mem_cons.mpr ⟨ft_39, ?_⟩
  refine List.forall_mem_cons.mpr ⟨ft_40, ?_⟩
  refine List.forall_mem_cons.mpr ⟨ft_41, ?_⟩
  refine List.forall_mem_cons.mpr ⟨ft_42, ?_⟩
  refine List.forall_mem_cons.mpr ⟨ft_43, ?_⟩
  refine List.forall_mem_cons.mpr ⟨ft_44, ?_⟩
  refine List.forall_mem_cons.mpr ⟨ft_45, ?_⟩
  refine List.forall_mem_cons.mpr ⟨ft_46, ?_⟩
  refine List.forall_mem_cons.mpr ⟨ft_47, ?_⟩
  refine List.forall_mem_cons.mpr ⟨ft_48, ?_⟩
  refine List.forall_mem_cons.mpr ⟨ft_49, ?_⟩
  refine List.forall_mem_cons.mpr ⟨ft_50, ?_⟩
  refine List.forall_mem_cons.mpr ⟨ft_51, ?_⟩
  refine List.forall_mem_cons.mpr ⟨ft_52, ?_⟩
  refine List.forall_mem_cons.mpr ⟨ft_53, ?_⟩
  refine List.forall_mem_cons.mpr ⟨ft_54, ?_⟩
  refine List.forall_mem_cons.mpr ⟨ft_55, ?_⟩
  refine List.forall_mem_cons.mpr ⟨ft_56, ?_⟩
  refine List.forall_mem_cons.mpr ⟨ft_57, ?_⟩
  refine List.forall_mem_cons.mpr ⟨ft_58, ?_⟩
  refine List.forall_mem_cons.mpr ⟨ft_59, ?_⟩
  refine List.forall_mem_cons.mpr ⟨ft_60, ?_⟩
  refine List.forall_mem_cons.mpr ⟨ft_61, ?_⟩
  refine List.forall_mem_cons.mpr ⟨ft_62, ?_⟩
  refine List.forall_mem_cons.mpr ⟨ft_63, ?_⟩
  refine List.forall_mem_cons.mpr ⟨ft_64, ?_⟩
  refine List.forall_mem_cons.mpr ⟨ft_65, ?_⟩
  refine List.forall_mem_cons.mpr ⟨ft_66, ?_⟩
  refine List.forall_mem_cons.mpr ⟨ft_67, ?_⟩
  refine List.forall_mem_cons.mpr ⟨ft_68, ?_⟩
  refine List.forall_mem_cons.mpr ⟨ft_69, ?_⟩
  refine List.forall_mem_cons.mpr ⟨ft_70, ?_⟩
  refine List.forall_mem_cons.mpr ⟨ft_71, ?_⟩
  refine List.forall_mem_cons.mpr ⟨ft_72, ?_⟩
  refine List.forall_mem_cons.mpr ⟨ft_73, ?_⟩
  refine List.forall_mem_cons.mpr ⟨ft_74, ?_⟩
  refine List.forall_mem_cons.mpr ⟨ft_75, ?_⟩
  refine List.forall_mem_cons.mpr ⟨ft_76, ?_⟩
  refine List.forall_mem_cons.mpr ⟨ft_77, ?_⟩
  refine List.forall_mem_cons.mpr ⟨ft_78, ?_⟩
  refine List.forall_mem_cons.mpr ⟨ft_79, ?_⟩
  refine List.forall_mem_cons.mpr ⟨ft_80, ?_⟩
  refine List.forall_mem_cons.mpr ⟨ft_81, ?_⟩
  refine List.forall_mem_cons.mpr ⟨ft_82, ?_⟩
  refine List.forall_mem_cons.mpr ⟨ft_83, ?_⟩
  refine List.forall_mem_cons.mpr ⟨ft_84, ?_⟩
  refine List.forall_mem_cons.mpr ⟨ft_85, ?_⟩
  refine List.forall_mem_cons.mpr ⟨ft_86, ?_⟩
  refine List.forall_mem_cons.mpr ⟨ft_87, ?_⟩
  refine List.forall_mem_cons.mpr ⟨ft_88, ?_⟩
  refine List.forall_mem_cons.mpr ⟨ft_89, ?_⟩
  refine List.forall_mem_cons.mpr ⟨ft_90, ?_⟩
  refine List.forall_mem_cons.mpr ⟨ft_91, ?_⟩
  refine List.forall_mem_cons.mpr ⟨ft_92, ?_⟩
  refine List.forall_mem_cons.mpr ⟨ft_93, ?_⟩
  refine List.forall_mem_cons.mpr ⟨ft_94, ?_⟩
  refine List.forall_mem_cons.mpr ⟨ft_95, ?_⟩
  refine List.forall_mem_cons.mpr ⟨ft_96, ?_⟩
  refine List.forall_mem_cons.mpr ⟨ft_97, ?_⟩
  refine List.forall_mem_cons.mpr ⟨ft_98, ?_⟩
  refine List.forall_mem_cons.mpr ⟨ft_99, ?_⟩
  refine List.forall_mem_cons.mpr ⟨ft_100, ?_⟩
  refine List.forall_mem_cons.mpr ⟨ft_101, ?_⟩
  refine List.forall_mem_cons.mpr ⟨ft_102, ?_⟩
  refine List.forall_mem_cons.mpr ⟨ft_103, ?_⟩
  refine List.forall_mem_cons.mpr ⟨ft_104, ?_⟩
  refine List.forall_mem_cons.mpr ⟨ft_105, ?_⟩
  refine List.forall_mem_cons.mpr ⟨ft_106, ?_⟩
  refine List.forall_mem_cons.mpr ⟨ft_107, ?_⟩
  refine List.forall_mem_cons.mpr ⟨ft_108, ?_⟩
  refine List.forall_mem_cons.mpr ⟨ft_109, ?_⟩
  refine List.forall_mem_cons.mpr ⟨ft_110, ?_⟩
  refine List.forall_mem_cons.mpr ⟨ft_111, ?_⟩
  refine List.forall_mem_cons.mpr ⟨ft_112, ?_⟩
  refine List.forall_mem_cons.mpr ⟨ft_113, ?_⟩
  refine List.forall_mem_cons.mpr ⟨ft_114, ?_⟩
  refine List.forall_mem_cons.mpr ⟨ft_115, ?_⟩
  refine List.forall_mem_cons.mpr ⟨ft_116, ?_⟩
  refine List.forall_mem_cons.mpr ⟨ft_117, ?_⟩
  refine List.forall_mem_cons.mpr ⟨ft_118, ?_⟩
  refine List.forall_mem_cons.mpr ⟨ft_119, ?_⟩
  refine List.forall_mem_cons.mpr ⟨ft_120, ?_⟩
  refine List.forall_mem_cons.mpr ⟨ft_121, ?_⟩
  refine List.forall_mem_cons.mpr ⟨ft_122, ?_⟩
  refine List.forall_mem_cons.mpr ⟨ft_123, ?_⟩
  refine List.forall_mem_cons.mpr ⟨ft_124, ?_⟩
  refine List.forall_mem_cons.mpr ⟨ft_125, ?_⟩
  refine List.forall_mem_cons.mpr ⟨ft_126, ?_⟩
  refine List.forall_mem_cons.mpr ⟨ft_127, ?_⟩
  refine List.forall_mem_cons.mpr ⟨ft_128, ?_⟩
  refine List.forall_mem_cons.mpr ⟨ft_129, ?_⟩
  refine List.forall_mem_cons.mpr ⟨ft_130, ?_⟩
  refine List.forall_mem_cons.mpr ⟨ft_131, ?_⟩
  refine List.forall_mem_cons.mpr ⟨ft_132, ?_⟩
  refine List.forall_mem_cons.mpr ⟨ft_133, ?_⟩
  refine List.forall_mem_cons.mpr ⟨ft_134, ?_⟩
  refine List.forall_mem_cons.mpr ⟨ft_135, ?_⟩
  refine List.forall_mem_cons.mpr ⟨ft_136, ?_⟩
  refine List.forall_mem_cons.mpr ⟨ft_137, ?_⟩
  refine List.forall_mem_cons.mpr ⟨ft_138, ?_⟩
  refine List.forall_mem_cons.mpr ⟨ft_139, ?_⟩
  refine List.forall_mem_cons.mpr ⟨ft_140, ?_⟩
  refine List.forall_mem_cons.mpr ⟨ft_141, ?_⟩
  refine List.forall_mem_cons.mpr ⟨ft_142, ?_⟩
  refine List.forall_mem_cons.mpr ⟨ft_143, ?_⟩
  refine List.forall_mem_cons.mpr ⟨ft_144, ?_⟩
  refine List.forall_mem_cons.mpr ⟨ft_145, ?_⟩
  refine List.forall_mem_cons.mpr ⟨ft_146, ?_⟩
  exact fun _ h => absurd h List.not_mem_nil
theorem mc_0 : MCok ((13, 9), (3, 0, [(0, 62)])) := Or.inr (Or.inr (Or.inr (Or.inl ⟨rfl, _, _, rfl, mok_62, by unfold nPar; decide +kernel, by decide +kernel, rfl, tb_at 83 (by decide +kernel) rfl, tb_at 84 (by decide +kernel) rfl⟩)))
theorem mc_1 : MCok ((11, 1), (6, 0, [])) := Or.inr (Or.inr (Or.inr (Or.inr (Or.inr (Or.inr (Or.inl ⟨rfl, rfl, tb_at 86 (by decide +kernel) rfl⟩))))))
theorem mc_2 : MCok ((11, 9), (3, 0, [(0, 47)])) := Or.inr (Or.inr (Or.inr (Or.inl ⟨rfl, _, _, rfl, mok_47, by unfold nPar; decide +kernel, by decide +kernel, rfl, tb_at 91 (by decide +kernel) rfl, tb_at 92 (by decide +kernel) rfl⟩)))
theorem mc_3 : MCok ((9, 3), (6, 0, [])) := Or.inr (Or.inr (Or.inr (Or.inr (Or.inr (Or.inr (Or.inl ⟨rfl, rfl, tb_at 94 (by decide +kernel) rfl⟩))))))
theorem mc_4 : MCok ((9, 60), (4, 0, [(0, 10)])) := Or.inr (Or.inr (Or.inr (Or.inr (Or.inl ⟨rfl, _, _, rfl, mok_10, by unfold nPar; decide +kernel, by decide +kernel, rfl, by decide +kernel, tb_at 100 (by decide +kernel) rfl⟩))))
theorem mc_5 : MCok ((4, 3), (6, 0, [])) := Or.inr (Or.inr (Or.inr (Or.inr (Or.inr (Or.inr (Or.inl ⟨rfl, rfl, tb_at 102 (by decide +kernel) rfl⟩))))))
theorem mc_6 : MCok ((9, 67), (3, 5, [(0, 34)])) := Or.inr (Or.inr (Or.inr (Or.inl ⟨rfl, _, _, rfl, mok_34, by unfold nPar; decide +kernel, by decide +kernel, rfl, tb_at 128 (by decide +kernel) rfl, tb_at 129 (by decide +kernel) rfl⟩)))
theorem mc_7 : MCok ((6, 1), (3, 5, [(0, 46)])) := Or.inr (Or.inr (Or.inr (Or.inl ⟨rfl, _, _, rfl, mok_46, by unfold nPar; decide +kernel, by decide +kernel, rfl, tb_at 131 (by decide +kernel) rfl, tb_at 132 (by decide +kernel) rfl⟩)))
theorem mc_8 : MCok ((8, 1), (6, 0, [])) := Or.inr (Or.inr (Or.inr (Or.inr (Or.inr (Or.inr (Or.inl ⟨rfl, rfl, tb_at 134 (by decide +kernel) rfl⟩))))))
theorem mc_9 : MCok ((9, 70), (1, 0, [(8, 56)])) := Or.inr (Or.inl ⟨rfl, List.forall_mem_cons.mpr ⟨⟨mok_56, by unfold nPar; decide +kernel, by decide, by decide +kernel, tb_at 170 (by decide +kernel) rfl, tb_at 171 (by decide +kernel) rfl, tb_at 172 (by decide +kernel) rfl⟩, fun _ h => absurd h List.not_mem_nil⟩⟩)
theorem mc_10 : MCok ((9, 116), (1, 2, [(8, 51)])) := Or.inr (Or.inl ⟨rfl, List.forall_mem_cons.mpr ⟨⟨mok_51, by unfold nPar; decide +kernel, by decide, by decide +kernel, tb_at 175 (by decide +kernel) rfl, tb_at 176 (by decide +kernel) rfl, tb_at 177 (by decide +kernel) rfl⟩, fun _ h => absurd h List.not_mem_nil⟩⟩)
theorem mc_11 : MCok ((11, 28), (4, 0, [(0, 37)])) := Or.inr (Or.inr (Or.inr (Or.inr (Or.inl ⟨rfl, _, _, rfl, mok_37, by unfold nPar; decide +kernel, by decide +kernel, rfl, by decide +kernel, tb_at 249 (by decide +kernel) rfl⟩))))
theorem mc_12 : MCok ((7, 3), (6, 0, [])) := Or.inr (Or.inr (Or.inr (Or.inr (Or.inr (Or.inr (Or.inl ⟨rfl, rfl, tb_at 251 (by decide +kernel) rfl⟩))))))
theorem mc_13 : MCok ((11, 35), (4, 0, [(0, 18)])) := Or.inr (Or.inr (Or.inr (Or.inr (Or.inl ⟨rfl, _, _, rfl, mok_18, by unfold nPar; decide +kernel, by decide +kernel, rfl, by decide +kernel, tb_at 280 (by decide +kernel) rfl⟩))))
theorem mc_14 : MCok ((5, 3), (6, 0, [])) := Or.inr (Or.inr (Or.inr (Or.inr (Or.inr (Or.inr (Or.inl ⟨rfl, rfl, tb_at 282 (by decide +kernel) rfl⟩))))))
theorem mc_15 : MCok ((5, 11), (4, 0, [(0, 10)])) := Or.inr (Or.inr (Or.inr (Or.inr (Or.inl ⟨rfl, _, _, rfl, mok_10, by unfold nPar; decide +kernel, by decide +kernel, rfl, by decide +kernel, tb_at 100 (by decide +kernel) rfl⟩))))
theorem mc_16 : MCok ((13, 15), (1, 2, [(10, 63)])) := Or.inr (Or.inl ⟨rfl, List.forall_mem_cons.mpr ⟨⟨mok_63, by unfold nPar; decide +kernel, by decide, by decide +kernel, tb_at 345 (by decide +kernel) rfl, tb_at 346 (by decide +kernel) rfl, tb_at 347 (by decide +kernel) rfl⟩, fun _ h => absurd h List.not_mem_nil⟩⟩)
theorem mc_17 : MCok ((11, 64), (1, 1, [(10, 93)])) := Or.inr (Or.inl ⟨rfl, List.forall_mem_cons.mpr ⟨⟨mok_93, by unfold nPar; decide +kernel, by decide, by decide +kernel, tb_at 349 (by decide +kernel) rfl, tb_at 351 (by decide +kernel) rfl, tb_at 0 (by decide +kernel) rfl⟩, fun _ h => absurd h List.not_mem_nil⟩⟩)
theorem mc_18 : MCok ((13, 20), (1, 0, [(10, 64)])) := Or.inr (Or.inl ⟨rfl, List.forall_mem_cons.mpr ⟨⟨mok_64, by unfold nPar; decide +kernel, by decide, by decide +kernel, tb_at 353 (by decide +kernel) rfl, tb_at 354 (by decide +kernel) rfl, tb_at 355 (by decide +kernel) rfl⟩, fun _ h => absurd h List.not_mem_nil⟩⟩)
theorem mc_19 : MCok ((11, 68), (1, 1, [(8, 48)])) := Or.inr (Or.inl ⟨rfl, List.forall_mem_cons.mpr ⟨⟨mok_48, by unfold nPar; decide +kernel, by decide, by decide +kernel, tb_at 357 (by decide +kernel) rfl, tb_at 358 (by decide +kernel) rfl, tb_at 359 (by decide +kernel) rfl⟩, fun _ h => absurd h List.not_mem_nil⟩⟩)
theorem mc_20 : MCok ((9, 73), (0, 2, [(0, 59)])) := Or.inl ⟨rfl, _, _, rfl, mok_59, by unfold nPar; decide +kernel, tb_at 361 (by decide +kernel) rfl, tb_at 362 (by decide +kernel) rfl⟩
theorem mc_21 : MCok ((9, 134), (9, 2, [])) := Or.inr (Or.inr (Or.inr (Or.inr (Or.inr (Or.inr (Or.inr (Or.inr (Or.inr (Or.inl ⟨rfl, tb_at 364 (by decide +kernel) rfl⟩)))))))))
theorem mc_22 : MCok ((9, 137), (7, 5, [])) := Or.inr (Or.inr (Or.inr (Or.inr (Or.inr (Or.inr (Or.inr (Or.inl ⟨rfl, tb_at 367 (by decide +kernel) rfl⟩)))))))
theorem mc_23 : MCok ((9, 77), (1, 1, [(4, 12)])) := Or.inr (Or.inl ⟨rfl, List.forall_mem_cons.mpr ⟨⟨mok_12, by unfold nPar; decide +kernel, by decide, by decide +kernel, tb_at 370 (by decide +kernel) rfl, tb_at 371 (by decide +kernel) rfl, tb_at 372 (by decide +kernel) rfl⟩, fun _ h => absurd h List.not_mem_nil⟩⟩)
theorem mc_24 : MCok ((4, 31), (7, 5, [])) := Or.inr (Or.inr (Or.inr (Or.inr (Or.inr (Or.inr (Or.inr (Or.inl ⟨rfl, tb_at 374 (by decide +kernel) rfl⟩)))))))
theorem mc_25 : MCok ((11, 72), (1, 3, [(7, 38)])) := Or.inr (Or.inl ⟨rfl, List.forall_mem_cons.mpr ⟨⟨mok_38, by unfold nPar; decide +kernel, by decide, by decide +kernel, tb_at 375 (by decide +kernel) rfl, tb_at 376 (by decide +kernel) rfl, tb_at 377 (by decide +kernel) rfl⟩, fun _ h => absurd h List.not_mem_nil⟩⟩)
theorem mc_26 : MCok ((7, 37), (9, 2, [])) := Or.inr (Or.inr (Or.inr (Or.inr (Or.inr (Or.inr (Or.inr (Or.inr (Or.inr (Or.inl ⟨rfl, tb_at 379 (by decide +kernel) rfl⟩)))))))))
theorem mc_27 : MCok ((7, 43), (1, 0, [(7, 39)])) := Or.inr (Or.inl ⟨rfl, List.forall_mem_cons.mpr ⟨⟨mok_39, by unfold nPar; decide +kernel, by decide, by decide +kernel, tb_at 380 (by decide +kernel) rfl, tb_at 382 (by decide +kernel) rfl, tb_at 1 (by decide +kernel) rfl⟩, fun _ h => absurd h List.not_mem_nil⟩⟩)
theorem mc_28 : MCok ((7, 61), (1, 0, [(7, 43)])) := Or.inr (Or.inl ⟨rfl, List.forall_mem_cons.mpr ⟨⟨mok_43, by unfold nPar; decide +kernel, by decide, by decide +kernel, tb_at 384 (by decide +kernel) rfl, tb_at 386 (by decide +kernel) rfl, tb_at 2 (by decide +kernel) rfl⟩, fun _ h => absurd h List.not_mem_nil⟩⟩)
theorem mc_29 : MCok ((7, 85), (1, 0, [(7, 44)])) := Or.inr (Or.inl ⟨rfl, List.forall_mem_cons.mpr ⟨⟨mok_44, by unfold nPar; decide +kernel, by decide, by decide +kernel, tb_at 388 (by decide +kernel) rfl, tb_at 390 (by decide +kernel) rfl, tb_at 3 (by decide +kernel) rfl⟩, fun _ h => absurd h List.not_mem_nil⟩⟩)
theorem mc_30 : MCok ((7, 75), (1, 0, [(7, 45)])) := Or.inr (Or.inl ⟨rfl, List.forall_mem_cons.mpr ⟨⟨mok_45, by unfold nPar; decide +kernel, by decide, by decide +kernel, tb_at 392 (by decide +kernel) rfl, tb_at 394 (by decide +kernel) rfl, tb_at 4 (by decide +kernel) rfl⟩, fun _ h => absurd h List.not_mem_nil⟩⟩)
theorem mc_31 : MCok ((7, 64), (1, 1, [(7, 40)])) := Or.inr (Or.inl ⟨rfl, List.forall_mem_cons.mpr ⟨⟨mok_40, by unfold nPar; decide +kernel, by decide, by decide +kernel, tb_at 396 (by decide +kernel) rfl, tb_at 398 (by decide +kernel) rfl, tb_at 5 (by decide +kernel) rfl⟩, fun _ h => absurd h List.not_mem_nil⟩⟩)
theorem mc_32 : MCok ((7, 68), (1, 1, [(7, 42)])) := Or.inr (Or.inl ⟨rfl, List.forall_mem_cons.mpr ⟨⟨mok_42, by unfold nPar; decide +kernel, by decide, by decide +kernel, tb_at 400 (by decide +kernel) rfl, tb_at 402 (by decide +kernel) rfl, tb_at 6 (by decide +kernel) rfl⟩, fun _ h => absurd h List.not_mem_nil⟩⟩)
theorem mc_33 : MCok ((7, 72), (1, 0, [(7, 41)])) := Or.inr (Or.inl ⟨rfl, List.forall_mem_cons.mpr ⟨⟨mok_41, by unfold nPar; decide +kernel, by decide, by decide +kernel, tb_at 404 (by decide +kernel) rfl, tb_at 406 (by decide +kernel) rfl, tb_at 7 (by decide +kernel) rfl⟩, fun _ h => absurd h List.not_mem_nil⟩⟩)
theorem mc_34 : MCok ((7, 80), (1, 1, [(12, 172)])) := Or.inr (Or.inl ⟨rfl, List.forall_mem_cons.mpr ⟨⟨mok_172, by unfold nPar; decide +kernel, by decide, by decide +kernel, tb_at 409 (by decide +kernel) rfl, tb_at 410 (by decide +kernel) rfl, tb_at 411 (by decide +kernel) rfl⟩, fun _ h => absurd h List.not_mem_nil⟩⟩)
theorem mc_35 : MCok ((14, 633), (1, 2, [(12, 173)])) := Or.inr (Or.inl ⟨rfl, List.forall_mem_cons.mpr ⟨⟨mok_173, by unfold nPar; decide +kernel, by decide, by decide +kernel, tb_at 413 (by decide +kernel) rfl, tb_at 414 (by decide +kernel) rfl, tb_at 415 (by decide +kernel) rfl⟩, fun _ h => absurd h List.not_mem_nil⟩⟩)
theorem mc_36 : MCok ((14, 492), (1, 0, [(12, 175)])) := Or.inr (Or.inl ⟨rfl, List.forall_mem_cons.mpr ⟨⟨mok_175, by unfold nPar; decide +kernel, by decide, by decide +kernel, tb_at 417 (by decide +kernel) rfl, tb_at 418 (by decide +kernel) rfl, tb_at 419 (by decide +kernel) rfl⟩, fun _ h => absurd h List.not_mem_nil⟩⟩)
theorem mc_37 : MCok ((14, 505), (1, 0, [(12, 170)])) := Or.inr (Or.inl ⟨rfl, List.forall_mem_cons.mpr ⟨⟨mok_170, by unfold nPar; decide +kernel, by decide, by decide +kernel, tb_at 423 (by decide +kernel) rfl, tb_at 424 (by decide +kernel) rfl, tb_at 425 (by decide +kernel) rfl⟩, fun _ h => absurd h List.not_mem_nil⟩⟩)
theorem mc_38 : MCok ((14, 335), (1, 0, [(12, 174)])) := Or.inr (Or.inl ⟨rfl, List.forall_mem_cons.mpr ⟨⟨mok_174, by unfold nPar; decide +kernel, by decide, by decide +kernel, tb_at 427 (by decide +kernel) rfl, tb_at 428 (by decide +kernel) rfl, tb_at 429 (by decide +kernel) rfl⟩, fun _ h => absurd h List.not_mem_nil⟩⟩)
theorem mc_39 : MCok ((14, 637), (0, 4, [(0, 179)])) := Or.inl ⟨rfl, _, _, rfl, mok_179, by unfold nPar; decide +kernel, tb_at 431 (by decide +kernel) rfl, tb_at 432 (by decide +kernel) rfl⟩
theorem mc_40 : MCok ((15, 88), (0, 1, [(0, 178)])) := Or.inl ⟨rfl, _, _, rfl, mok_178, by unfold nPar; decide +kernel, tb_at 434 (by decide +kernel) rfl, tb_at 435 (by decide +kernel) rfl⟩
theorem mc_41 : MCok ((15, 92), (8, 2, [])) := Or.inr (Or.inr (Or.inr (Or.inr (Or.inr (Or.inr (Or.inr (Or.inr (Or.inl ⟨rfl, tb_at 437 (by decide +kernel) rfl⟩))))))))
theorem mc_42 : MCok ((15, 38), (9, 2, [])) := Or.inr (Or.inr (Or.inr (Or.inr (Or.inr (Or.inr (Or.inr (Or.inr (Or.inr (Or.inl ⟨rfl, tb_at 440 (by decide +kernel) rfl⟩)))))))))
theorem mc_43 : MCok ((15, 95), (0, 4, [(0, 180)])) := Or.inl ⟨rfl, _, _, rfl, mok_180, by unfold nPar; decide +kernel, tb_at 441 (by decide +kernel) rfl, tb_at 442 (by decide +kernel) rfl⟩
theorem mc_44 : MCok ((7, 47), (1, 4, [(8, 55)])) := Or.inr (Or.inl ⟨rfl, List.forall_mem_cons.mpr ⟨⟨mok_55, by unfold nPar; decide +kernel, by decide, by decide +kernel, tb_at 493 (by decide +kernel) rfl, tb_at 494 (by decide +kernel) rfl, tb_at 495 (by decide +kernel) rfl⟩, fun _ h => absurd h List.not_mem_nil⟩⟩)
theorem mc_45 : MCok ((9, 85), (1, 1, [(8, 49)])) := Or.inr (Or.inl ⟨rfl, List.forall_mem_cons.mpr ⟨⟨mok_49, by unfold nPar; decide +kernel, by decide, by decide +kernel, tb_at 497 (by decide +kernel) rfl, tb_at 498 (by decide +kernel) rfl, tb_at 499 (by decide +kernel) rfl⟩, fun _ h => absurd h List.not_mem_nil⟩⟩)
theorem mc_46 : MCok ((9, 91), (1, 1, [(12, 171)])) := Or.inr (Or.inl ⟨rfl, List.forall_mem_cons.mpr ⟨⟨mok_171, by unfold nPar; decide +kernel, by decide, by decide +kernel, tb_at 502 (by decide +kernel) rfl, tb_at 503 (by decide +kernel) rfl, tb_at 504 (by decide +kernel) rfl⟩, fun _ h => absurd h List.not_mem_nil⟩⟩)
theorem mc_47 : MCok ((14, 495), (0, 2, [(0, 177)])) := Or.inl ⟨rfl, _, _, rfl, mok_177, by unfold nPar; decide +kernel, tb_at 506 (by decide +kernel) rfl, tb_at 507 (by decide +kernel) rfl⟩
theorem mc_48 : MCok ((15, 9), (0, 2, [(0, 176)])) := Or.inl ⟨rfl, _, _, rfl, mok_176, by unfold nPar; decide +kernel, tb_at 509 (by decide +kernel) rfl, tb_at 510 (by decide +kernel) rfl⟩
theorem mc_49 : MCok ((14, 1059), (0, 3, [(0, 181)])) := Or.inl ⟨rfl, _, _, rfl, mok_181, by unfold nPar; decide +kernel, tb_at 512 (by decide +kernel) rfl, tb_at 513 (by decide +kernel) rfl⟩
theorem mc_50 : MCok ((9, 97), (1, 1, [(8, 50)])) := Or.inr (Or.inl ⟨rfl, List.forall_mem_cons.mpr ⟨⟨mok_50, by unfold nPar; decide +kernel, by decide, by decide +kernel, tb_at 522 (by decide +kernel) rfl, tb_at 523 (by decide +kernel) rfl, tb_at 524 (by decide +kernel) rfl⟩, fun _ h => absurd h List.not_mem_nil⟩⟩)
theorem mc_51 : MCok ((9, 102), (3, 5, [(0, 1)])) := Or.inr (Or.inr (Or.inr (Or.inl ⟨rfl, _, _, rfl, mok_1, by unfold nPar; decide +kernel, by decide +kernel, rfl, tb_at 528 (by decide +kernel) rfl, tb_at 529 (by decide +kernel) rfl⟩)))
theorem mc_52 : MCok ((0, 1), (3, 5, [(0, 46)])) := Or.inr (Or.inr (Or.inr (Or.inl ⟨rfl, _, _, rfl, mok_46, by unfold nPar; decide +kernel, by decide +kernel, rfl, tb_at 531 (by decide +kernel) rfl, tb_at 132 (by decide +kernel) rfl⟩)))
theorem mc_53 : MCok ((9, 105), (3, 5, [(0, 4)])) := Or.inr (Or.inr (Or.inr (Or.inl ⟨rfl, _, _, rfl, mok_4, by unfold nPar; decide +kernel, by decide +kernel, rfl, tb_at 541 (by decide +kernel) rfl, tb_at 542 (by decide +kernel) rfl⟩)))
theorem mc_54 : MCok ((1, 1), (3, 5, [(0, 34)])) := Or.inr (Or.inr (Or.inr (Or.inl ⟨rfl, _, _, rfl, mok_34, by unfold nPar; decide +kernel, by decide +kernel, rfl, tb_at 544 (by decide +kernel) rfl, tb_at 129 (by decide +kernel) rfl⟩)))
theorem mc_55 : MCok ((9, 108), (3, 5, [(0, 60)])) := Or.inr (Or.inr (Or.inr (Or.inl ⟨rfl, _, _, rfl, mok_60, by unfold nPar; decide +kernel, by decide +kernel, rfl, tb_at 553 (by decide +kernel) rfl, tb_at 554 (by decide +kernel) rfl⟩)))
theorem mc_56 : MCok ((10, 1), (3, 5, [(0, 34)])) := Or.inr (Or.inr (Or.inr (Or.inl ⟨rfl, _, _, rfl, mok_34, by unfold nPar; decide +kernel, by decide +kernel, rfl, tb_at 556 (by decide +kernel) rfl, tb_at 129 (by decide +kernel) rfl⟩)))
theorem mc_57 : MCok ((9, 111), (3, 5, [(0, 6)])) := Or.inr (Or.inr (Or.inr (Or.inl ⟨rfl, _, _, rfl, mok_6, by unfold nPar; decide +kernel, by decide +kernel, rfl, tb_at 565 (by decide +kernel) rfl, tb_at 566 (by decide +kernel) rfl⟩)))
theorem mc_58 : MCok ((2, 3), (3, 5, [(0, 34)])) := Or.inr (Or.inr (Or.inr (Or.inl ⟨rfl, _, _, rfl, mok_34, by unfold nPar; decide +kernel, by decide +kernel, rfl, tb_at 568 (by decide +kernel) rfl, tb_at 129 (by decide +kernel) rfl⟩)))
theorem mc_59 : MCok ((9, 114), (3, 5, [(0, 8)])) := Or.inr (Or.inr (Or.inr (Or.inl ⟨rfl, _, _, rfl, mok_8, by unfold nPar; decide +kernel, by decide +kernel, rfl, tb_at 577 (by decide +kernel) rfl, tb_at 578 (by decide +kernel) rfl⟩)))
theorem mc_60 : MCok ((3, 3), (3, 5, [(0, 6)])) := Or.inr (Or.inr (Or.inr (Or.inl ⟨rfl, _, _, rfl, mok_6, by unfold nPar; decide +kernel, by decide +kernel, rfl, tb_at 580 (by decide +kernel) rfl, tb_at 566 (by decide +kernel) rfl⟩)))
theorem mc_61 : MCok ((7, 53), (1, 3, [(8, 54)])) := Or.inr (Or.inl ⟨rfl, List.forall_mem_cons.mpr ⟨⟨mok_54, by unfold nPar; decide +kernel, by decide, by decide +kernel, tb_at 587 (by decide +kernel) rfl, tb_at 588 (by decide +kernel) rfl, tb_at 589 (by decide +kernel) rfl⟩, fun _ h => absurd h List.not_mem_nil⟩⟩)
theorem mc_62 : MCok ((7, 57), (1, 1, [(8, 53)])) := Or.inr (Or.inl ⟨rfl, List.forall_mem_cons.mpr ⟨⟨mok_53, by unfold nPar; decide +kernel, by decide, by decide +kernel, tb_at 591 (by decide +kernel) rfl, tb_at 592 (by decide +kernel) rfl, tb_at 593 (by decide +kernel) rfl⟩, fun _ h => absurd h List.not_mem_nil⟩⟩)
theorem mc_63 : MCok ((9, 81), (1, 0, [(8, 57)])) := Or.inr (Or.inl ⟨rfl, List.forall_mem_cons.mpr ⟨⟨mok_57, by unfold nPar; decide +kernel, by decide, by decide +kernel, tb_at 595 (by decide +kernel) rfl, tb_at 597 (by decide +kernel) rfl, tb_at 8 (by decide +kernel) rfl⟩, fun _ h => absurd h List.not_mem_nil⟩⟩)
theorem mc_64 : MCok ((9, 123), (8, 2, [])) := Or.inr (Or.inr (Or.inr (Or.inr (Or.inr (Or.inr (Or.inr (Or.inr (Or.inl ⟨rfl, tb_at 599 (by decide +kernel) rfl⟩))))))))
theorem mc_65 : MCok ((9, 128), (1, 1, [(8, 58)])) := Or.inr (Or.inl ⟨rfl, List.forall_mem_cons.mpr ⟨⟨mok_58, by unfold nPar; decide +kernel, by decide, by decide +kernel, tb_at 600 (by decide +kernel) rfl, tb_at 602 (by decide +kernel) rfl, tb_at 9 (by decide +kernel) rfl⟩, fun _ h => absurd h List.not_mem_nil⟩⟩)
theorem mc_66 : MCok ((11, 76), (1, 0, [(8, 56)])) := Or.inr (Or.inl ⟨rfl, List.forall_mem_cons.mpr ⟨⟨mok_56, by unfold nPar; decide +kernel, by decide, by decide +kernel, tb_at 604 (by decide +kernel) rfl, tb_at 171 (by decide +kernel) rfl, tb_at 172 (by decide +kernel) rfl⟩, fun _ h => absurd h List.not_mem_nil⟩⟩)
theorem mc_67 : MCok ((13, 25), (1, 2, [(10, 65)])) := Or.inr (Or.inl ⟨rfl, List.forall_mem_cons.mpr ⟨⟨mok_65, by unfold nPar; decide +kernel, by decide, by decide +kernel, tb_at 605 (by decide +kernel) rfl, tb_at 606 (by decide +kernel) rfl, tb_at 607 (by decide +kernel) rfl⟩, fun _ h => absurd h List.not_mem_nil⟩⟩)
theorem mc_68 : MCok ((11, 79), (1, 1, [(8, 49)])) := Or.inr (Or.inl ⟨rfl, List.forall_mem_cons.mpr ⟨⟨mok_49, by unfold nPar; decide +kernel, by decide, by decide +kernel, tb_at 609 (by decide +kernel) rfl, tb_at 498 (by decide +kernel) rfl, tb_at 499 (by decide +kernel) rfl⟩, fun _ h => absurd h List.not_mem_nil⟩⟩)
theorem mc_69 : MCok ((11, 83), (1, 2, [(8, 51)])) := Or.inr (Or.inl ⟨rfl, List.forall_mem_cons.mpr ⟨⟨mok_51, by unfold nPar; decide +kernel, by decide, by decide +kernel, tb_at 610 (by decide +kernel) rfl, tb_at 176 (by decide +kernel) rfl, tb_at 177 (by decide +kernel) rfl⟩, fun _ h => absurd h List.not_mem_nil⟩⟩)
theorem mc_70 : MCok ((13, 30), (1, 2, [(10, 66)])) := Or.inr (Or.inl ⟨rfl, List.forall_mem_cons.mpr ⟨⟨mok_66, by unfold nPar; decide +kernel, by decide, by decide +kernel, tb_at 612 (by decide +kernel) rfl, tb_at 613 (by decide +kernel) rfl, tb_at 614 (by decide +kernel) rfl⟩, fun _ h => absurd h List.not_mem_nil⟩⟩)
theorem mc_71 : MCok ((11, 88), (1, 1, [(8, 50)])) := Or.inr (Or.inl ⟨rfl, List.forall_mem_cons.mpr ⟨⟨mok_50, by unfold nPar; decide +kernel, by decide, by decide +kernel, tb_at 616 (by decide +kernel) rfl, tb_at 523 (by decide +kernel) rfl, tb_at 524 (by decide +kernel) rfl⟩, fun _ h => absurd h List.not_mem_nil⟩⟩)
theorem mc_72 : MCok ((13, 34), (1, 2, [(10, 67)])) := Or.inr (Or.inl ⟨rfl, List.forall_mem_cons.mpr ⟨⟨mok_67, by unfold nPar; decide +kernel, by decide, by decide +kernel, tb_at 617 (by decide +kernel) rfl, tb_at 618 (by decide +kernel) rfl, tb_at 619 (by decide +kernel) rfl⟩, fun _ h => absurd h List.not_mem_nil⟩⟩)
theorem mc_73 : MCok ((13, 38), (1, 1, [(10, 68)])) := Or.inr (Or.inl ⟨rfl, List.forall_mem_cons.mpr ⟨⟨mok_68, by unfold nPar; decide +kernel, by decide, by decide +kernel, tb_at 621 (by decide +kernel) rfl, tb_at 622 (by decide +kernel) rfl, tb_at 623 (by decide +kernel) rfl⟩, fun _ h => absurd h List.not_mem_nil⟩⟩)
theorem mc_74 : MCok ((11, 121), (1, 2, [(4, 13)])) := Or.inr (Or.inl ⟨rfl, List.forall_mem_cons.mpr ⟨⟨mok_13, by unfold nPar; decide +kernel, by decide, by decide +kernel, tb_at 625 (by decide +kernel) rfl, tb_at 626 (by decide +kernel) rfl, tb_at 627 (by decide +kernel) rfl⟩, fun _ h => absurd h List.not_mem_nil⟩⟩)
theorem mc_75 : MCok ((4, 37), (1, 2, [(8, 51)])) := Or.inr (Or.inl ⟨rfl, List.forall_mem_cons.mpr ⟨⟨mok_51, by unfold nPar; decide +kernel, by decide, by decide +kernel, tb_at 629 (by decide +kernel) rfl, tb_at 176 (by decide +kernel) rfl, tb_at 177 (by decide +kernel) rfl⟩, fun _ h => absurd h List.not_mem_nil⟩⟩)
theorem mc_76 : MCok ((11, 125), (1, 2, [(4, 14)])) := Or.inr (Or.inl ⟨rfl, List.forall_mem_cons.mpr ⟨⟨mok_14, by unfold nPar; decide +kernel, by decide, by decide +kernel, tb_at 630 (by decide +kernel) rfl, tb_at 631 (by decide +kernel) rfl, tb_at 632 (by decide +kernel) rfl⟩, fun _ h => absurd h List.not_mem_nil⟩⟩)
theorem mc_77 : MCok ((13, 43), (1, 1, [(10, 69)])) := Or.inr (Or.inl ⟨rfl, List.forall_mem_cons.mpr ⟨⟨mok_69, by unfold nPar; decide +kernel, by decide, by decide +kernel, tb_at 634 (by decide +kernel) rfl, tb_at 635 (by decide +kernel) rfl, tb_at 636 (by decide +kernel) rfl⟩, fun _ h => absurd h List.not_mem_nil⟩⟩)
theorem mc_78 : MCok ((11, 132), (1, 2, [(4, 15)])) := Or.inr (Or.inl ⟨rfl, List.forall_mem_cons.mpr ⟨⟨mok_15, by unfold nPar; decide +kernel, by decide, by decide +kernel, tb_at 638 (by decide +kernel) rfl, tb_at 639 (by decide +kernel) rfl, tb_at 640 (by decide +kernel) rfl⟩, fun _ h => absurd h List.not_mem_nil⟩⟩)
theorem mc_79 : MCok ((4, 55), (2, 1, [(0, 3), (1, 5), (2, 36), (3, 36), (6, 36), (9, 36)])) := Or.inr (Or.inr (Or.inl ⟨rfl, ⟨"AgesByMiles$Thing", "isOpen", "([I)Z"⟩, Or.inl rfl, tb_at 642 (by decide +kernel) rfl, tb_at 644 (by decide +kernel) rfl, by unfold nPar; decide +kernel, List.forall_mem_cons.mpr ⟨⟨mok_3, by decide, tb_at 645 (by decide +kernel) rfl, tb_at 646 (by decide +kernel) rfl⟩, List.forall_mem_cons.mpr ⟨⟨mok_5, by decide, tb_at 649 (by decide +kernel) rfl, tb_at 650 (by decide +kernel) rfl⟩, List.forall_mem_cons.mpr ⟨⟨mok_36, by decide, tb_at 655 (by decide +kernel) rfl, tb_at 653 (by decide +kernel) rfl⟩, List.forall_mem_cons.mpr ⟨⟨mok_36, by decide, tb_at 656 (by decide +kernel) rfl, tb_at 653 (by decide +kernel) rfl⟩, List.forall_mem_cons.mpr ⟨⟨mok_36, by decide, tb_at 657 (by decide +kernel) rfl, tb_at 653 (by decide +kernel) rfl⟩, List.forall_mem_cons.mpr ⟨⟨mok_36, by decide, tb_at 658 (by decide +kernel) rfl, tb_at 653 (by decide +kernel) rfl⟩, fun _ h => absurd h List.not_mem_nil⟩⟩⟩⟩⟩⟩⟩))
theorem mc_80 : MCok ((0, 16), (9, 2, [])) := Or.inr (Or.inr (Or.inr (Or.inr (Or.inr (Or.inr (Or.inr (Or.inr (Or.inr (Or.inl ⟨rfl, tb_at 648 (by decide +kernel) rfl⟩)))))))))
theorem mc_81 : MCok ((1, 7), (5, 1, [(0, 36)])) := Or.inr (Or.inr (Or.inr (Or.inr (Or.inr (Or.inl ⟨rfl, _, _, rfl, mok_36, by unfold nPar; decide +kernel, by decide +kernel, tb_at 652 (by decide +kernel) rfl, tb_at 1341 (by decide +kernel) rfl, tb_at 550 (by decide +kernel) rfl, tb_at 653 (by decide +kernel) rfl⟩)))))
theorem mc_82 : MCok ((11, 135), (1, 2, [(4, 16)])) := Or.inr (Or.inl ⟨rfl, List.forall_mem_cons.mpr ⟨⟨mok_16, by unfold nPar; decide +kernel, by decide, by decide +kernel, tb_at 659 (by decide +kernel) rfl, tb_at 660 (by decide +kernel) rfl, tb_at 661 (by decide +kernel) rfl⟩, fun _ h => absurd h List.not_mem_nil⟩⟩)
theorem mc_83 : MCok ((4, 59), (2, 3, [(0, 2), (1, 35), (2, 7), (3, 9), (6, 35), (9, 61)])) := Or.inr (Or.inr (Or.inl ⟨rfl, ⟨"AgesByMiles$Thing", "worthThen", "(II[I)I"⟩, Or.inr rfl, tb_at 663 (by decide +kernel) rfl, tb_at 665 (by decide +kernel) rfl, by unfold nPar; decide +kernel, List.forall_mem_cons.mpr ⟨⟨mok_2, by decide, tb_at 666 (by decide +kernel) rfl, tb_at 667 (by decide +kernel) rfl⟩, List.forall_mem_cons.mpr ⟨⟨mok_35, by decide, tb_at 669 (by decide +kernel) rfl, tb_at 670 (by decide +kernel) rfl⟩, List.forall_mem_cons.mpr ⟨⟨mok_7, by decide, tb_at 672 (by decide +kernel) rfl, tb_at 673 (by decide +kernel) rfl⟩, List.forall_mem_cons.mpr ⟨⟨mok_9, by decide, tb_at 676 (by decide +kernel) rfl, tb_at 677 (by decide +kernel) rfl⟩, List.forall_mem_cons.mpr ⟨⟨mok_35, by decide, tb_at 681 (by decide +kernel) rfl, tb_at 670 (by decide +kernel) rfl⟩, List.forall_mem_cons.mpr ⟨⟨mok_61, by decide, tb_at 682 (by decide +kernel) rfl, tb_at 683 (by decide +kernel) rfl⟩, fun _ h => absurd h List.not_mem_nil⟩⟩⟩⟩⟩⟩⟩))
theorem mc_84 : MCok ((2, 9), (5, 3, [(0, 35)])) := Or.inr (Or.inr (Or.inr (Or.inr (Or.inr (Or.inl ⟨rfl, _, _, rfl, mok_35, by unfold nPar; decide +kernel, by decide +kernel, tb_at 675 (by decide +kernel) rfl, tb_at 1342 (by decide +kernel) rfl, tb_at 574 (by decide +kernel) rfl, tb_at 670 (by decide +kernel) rfl⟩)))))
theorem mc_85 : MCok ((3, 9), (5, 3, [(0, 7)])) := Or.inr (Or.inr (Or.inr (Or.inr (Or.inr (Or.inl ⟨rfl, _, _, rfl, mok_7, by unfold nPar; decide +kernel, by decide +kernel, tb_at 679 (by decide +kernel) rfl, tb_at 1343 (by decide +kernel) rfl, tb_at 586 (by decide +kernel) rfl, tb_at 673 (by decide +kernel) rfl⟩)))))
theorem mc_86 : MCok ((3, 13), (8, 2, [])) := Or.inr (Or.inr (Or.inr (Or.inr (Or.inr (Or.inr (Or.inr (Or.inr (Or.inl ⟨rfl, tb_at 680 (by decide +kernel) rfl⟩))))))))
theorem mc_87 : MCok ((10, 7), (5, 3, [(0, 35)])) := Or.inr (Or.inr (Or.inr (Or.inr (Or.inr (Or.inl ⟨rfl, _, _, rfl, mok_35, by unfold nPar; decide +kernel, by decide +kernel, tb_at 685 (by decide +kernel) rfl, tb_at 1342 (by decide +kernel) rfl, tb_at 562 (by decide +kernel) rfl, tb_at 670 (by decide +kernel) rfl⟩)))))
theorem mc_88 : MCok ((13, 47), (1, 3, [(10, 70)])) := Or.inr (Or.inl ⟨rfl, List.forall_mem_cons.mpr ⟨⟨mok_70, by unfold nPar; decide +kernel, by decide, by decide +kernel, tb_at 686 (by decide +kernel) rfl, tb_at 687 (by decide +kernel) rfl, tb_at 688 (by decide +kernel) rfl⟩, fun _ h => absurd h List.not_mem_nil⟩⟩)
theorem mc_89 : MCok ((11, 139), (2, 3, [(0, 2), (1, 35), (2, 7), (3, 9), (6, 35), (9, 61)])) := Or.inr (Or.inr (Or.inl ⟨rfl, ⟨"AgesByMiles$Thing", "worthThen", "(II[I)I"⟩, Or.inr rfl, tb_at 690 (by decide +kernel) rfl, tb_at 665 (by decide +kernel) rfl, by unfold nPar; decide +kernel, List.forall_mem_cons.mpr ⟨⟨mok_2, by decide, tb_at 666 (by decide +kernel) rfl, tb_at 667 (by decide +kernel) rfl⟩, List.forall_mem_cons.mpr ⟨⟨mok_35, by decide, tb_at 669 (by decide +kernel) rfl, tb_at 670 (by decide +kernel) rfl⟩, List.forall_mem_cons.mpr ⟨⟨mok_7, by decide, tb_at 672 (by decide +kernel) rfl, tb_at 673 (by decide +kernel) rfl⟩, List.forall_mem_cons.mpr ⟨⟨mok_9, by decide, tb_at 676 (by decide +kernel) rfl, tb_at 677 (by decide +kernel) rfl⟩, List.forall_mem_cons.mpr ⟨⟨mok_35, by decide, tb_at 681 (by decide +kernel) rfl, tb_at 670 (by decide +kernel) rfl⟩, List.forall_mem_cons.mpr ⟨⟨mok_61, by decide, tb_at 682 (by decide +kernel) rfl, tb_at 683 (by decide +kernel) rfl⟩, fun _ h => absurd h List.not_mem_nil⟩⟩⟩⟩⟩⟩⟩))
theorem mc_90 : MCok ((13, 52), (1, 1, [(10, 71)])) := Or.inr (Or.inl ⟨rfl, List.forall_mem_cons.mpr ⟨⟨mok_71, by unfold nPar; decide +kernel, by decide, by decide +kernel, tb_at 691 (by decide +kernel) rfl, tb_at 692 (by decide +kernel) rfl, tb_at 693 (by decide +kernel) rfl⟩, fun _ h => absurd h List.not_mem_nil⟩⟩)
theorem mc_91 : MCok ((13, 56), (1, 1, [(10, 72)])) := Or.inr (Or.inl ⟨rfl, List.forall_mem_cons.mpr ⟨⟨mok_72, by unfold nPar; decide +kernel, by decide, by decide +kernel, tb_at 695 (by decide +kernel) rfl, tb_at 696 (by decide +kernel) rfl, tb_at 697 (by decide +kernel) rfl⟩, fun _ h => absurd h List.not_mem_nil⟩⟩)
theorem mc_92 : MCok ((13, 60), (1, 0, [(10, 73)])) := Or.inr (Or.inl ⟨rfl, List.forall_mem_cons.mpr ⟨⟨mok_73, by unfold nPar; decide +kernel, by decide, by decide +kernel, tb_at 699 (by decide +kernel) rfl, tb_at 700 (by decide +kernel) rfl, tb_at 701 (by decide +kernel) rfl⟩, fun _ h => absurd h List.not_mem_nil⟩⟩)
theorem mc_93 : MCok ((11, 147), (1, 1, [(4, 11)])) := Or.inr (Or.inl ⟨rfl, List.forall_mem_cons.mpr ⟨⟨mok_11, by unfold nPar; decide +kernel, by decide, by decide +kernel, tb_at 703 (by decide +kernel) rfl, tb_at 704 (by decide +kernel) rfl, tb_at 705 (by decide +kernel) rfl⟩, fun _ h => absurd h List.not_mem_nil⟩⟩)
theorem mc_94 : MCok ((4, 25), (0, 2, [(0, 183)])) := Or.inl ⟨rfl, _, _, rfl, mok_183, by unfold nPar; decide +kernel, tb_at 707 (by decide +kernel) rfl, tb_at 708 (by decide +kernel) rfl⟩
theorem mc_95 : MCok ((13, 64), (1, 2, [(10, 74)])) := Or.inr (Or.inl ⟨rfl, List.forall_mem_cons.mpr ⟨⟨mok_74, by unfold nPar; decide +kernel, by decide, by decide +kernel, tb_at 710 (by decide +kernel) rfl, tb_at 711 (by decide +kernel) rfl, tb_at 712 (by decide +kernel) rfl⟩, fun _ h => absurd h List.not_mem_nil⟩⟩)
theorem mc_96 : MCok ((11, 151), (1, 2, [(10, 95)])) := Or.inr (Or.inl ⟨rfl, List.forall_mem_cons.mpr ⟨⟨mok_95, by unfold nPar; decide +kernel, by decide, by decide +kernel, tb_at 714 (by decide +kernel) rfl, tb_at 716 (by decide +kernel) rfl, tb_at 10 (by decide +kernel) rfl⟩, fun _ h => absurd h List.not_mem_nil⟩⟩)
theorem mc_97 : MCok ((13, 68), (1, 2, [(10, 75)])) := Or.inr (Or.inl ⟨rfl, List.forall_mem_cons.mpr ⟨⟨mok_75, by unfold nPar; decide +kernel, by decide, by decide +kernel, tb_at 719 (by decide +kernel) rfl, tb_at 720 (by decide +kernel) rfl, tb_at 721 (by decide +kernel) rfl⟩, fun _ h => absurd h List.not_mem_nil⟩⟩)
theorem mc_98 : MCok ((11, 163), (1, 2, [(5, 19)])) := Or.inr (Or.inl ⟨rfl, List.forall_mem_cons.mpr ⟨⟨mok_19, by unfold nPar; decide +kernel, by decide, by decide +kernel, tb_at 723 (by decide +kernel) rfl, tb_at 724 (by decide +kernel) rfl, tb_at 725 (by decide +kernel) rfl⟩, fun _ h => absurd h List.not_mem_nil⟩⟩)
theorem mc_99 : MCok ((5, 37), (1, 1, [(4, 11)])) := Or.inr (Or.inl ⟨rfl, List.forall_mem_cons.mpr ⟨⟨mok_11, by unfold nPar; decide +kernel, by decide, by decide +kernel, tb_at 727 (by decide +kernel) rfl, tb_at 704 (by decide +kernel) rfl, tb_at 705 (by decide +kernel) rfl⟩, fun _ h => absurd h List.not_mem_nil⟩⟩)
theorem mc_100 : MCok ((5, 41), (1, 1, [(5, 24)])) := Or.inr (Or.inl ⟨rfl, List.forall_mem_cons.mpr ⟨⟨mok_24, by unfold nPar; decide +kernel, by decide, by decide +kernel, tb_at 728 (by decide +kernel) rfl, tb_at 730 (by decide +kernel) rfl, tb_at 11 (by decide +kernel) rfl⟩, fun _ h => absurd h List.not_mem_nil⟩⟩)
theorem mc_101 : MCok ((5, 99), (2, 3, [(0, 2), (1, 35), (2, 7), (3, 9), (6, 35), (9, 61)])) := Or.inr (Or.inr (Or.inl ⟨rfl, ⟨"AgesByMiles$Thing", "worthThen", "(II[I)I"⟩, Or.inr rfl, tb_at 732 (by decide +kernel) rfl, tb_at 665 (by decide +kernel) rfl, by unfold nPar; decide +kernel, List.forall_mem_cons.mpr ⟨⟨mok_2, by decide, tb_at 666 (by decide +kernel) rfl, tb_at 667 (by decide +kernel) rfl⟩, List.forall_mem_cons.mpr ⟨⟨mok_35, by decide, tb_at 669 (by decide +kernel) rfl, tb_at 670 (by decide +kernel) rfl⟩, List.forall_mem_cons.mpr ⟨⟨mok_7, by decide, tb_at 672 (by decide +kernel) rfl, tb_at 673 (by decide +kernel) rfl⟩, List.forall_mem_cons.mpr ⟨⟨mok_9, by decide, tb_at 676 (by decide +kernel) rfl, tb_at 677 (by decide +kernel) rfl⟩, List.forall_mem_cons.mpr ⟨⟨mok_35, by decide, tb_at 681 (by decide +kernel) rfl, tb_at 670 (by decide +kernel) rfl⟩, List.forall_mem_cons.mpr ⟨⟨mok_61, by decide, tb_at 682 (by decide +kernel) rfl, tb_at 683 (by decide +kernel) rfl⟩, fun _ h => absurd h List.not_mem_nil⟩⟩⟩⟩⟩⟩⟩))
theorem mc_102 : MCok ((5, 109), (1, 2, [(4, 15)])) := Or.inr (Or.inl ⟨rfl, List.forall_mem_cons.mpr ⟨⟨mok_15, by unfold nPar; decide +kernel, by decide, by decide +kernel, tb_at 733 (by decide +kernel) rfl, tb_at 639 (by decide +kernel) rfl, tb_at 640 (by decide +kernel) rfl⟩, fun _ h => absurd h List.not_mem_nil⟩⟩)
theorem mc_103 : MCok ((5, 112), (1, 2, [(4, 16)])) := Or.inr (Or.inl ⟨rfl, List.forall_mem_cons.mpr ⟨⟨mok_16, by unfold nPar; decide +kernel, by decide, by decide +kernel, tb_at 734 (by decide +kernel) rfl, tb_at 660 (by decide +kernel) rfl, tb_at 661 (by decide +kernel) rfl⟩, fun _ h => absurd h List.not_mem_nil⟩⟩)
theorem mc_104 : MCok ((5, 45), (1, 2, [(5, 20)])) := Or.inr (Or.inl ⟨rfl, List.forall_mem_cons.mpr ⟨⟨mok_20, by unfold nPar; decide +kernel, by decide, by decide +kernel, tb_at 735 (by decide +kernel) rfl, tb_at 737 (by decide +kernel) rfl, tb_at 12 (by decide +kernel) rfl⟩, fun _ h => absurd h List.not_mem_nil⟩⟩)
theorem mc_105 : MCok ((5, 52), (1, 2, [(5, 21)])) := Or.inr (Or.inl ⟨rfl, List.forall_mem_cons.mpr ⟨⟨mok_21, by unfold nPar; decide +kernel, by decide, by decide +kernel, tb_at 739 (by decide +kernel) rfl, tb_at 741 (by decide +kernel) rfl, tb_at 13 (by decide +kernel) rfl⟩, fun _ h => absurd h List.not_mem_nil⟩⟩)
theorem mc_106 : MCok ((5, 65), (1, 2, [(8, 51)])) := Or.inr (Or.inl ⟨rfl, List.forall_mem_cons.mpr ⟨⟨mok_51, by unfold nPar; decide +kernel, by decide, by decide +kernel, tb_at 743 (by decide +kernel) rfl, tb_at 176 (by decide +kernel) rfl, tb_at 177 (by decide +kernel) rfl⟩, fun _ h => absurd h List.not_mem_nil⟩⟩)
theorem mc_107 : MCok ((5, 69), (1, 2, [(4, 13)])) := Or.inr (Or.inl ⟨rfl, List.forall_mem_cons.mpr ⟨⟨mok_13, by unfold nPar; decide +kernel, by decide, by decide +kernel, tb_at 744 (by decide +kernel) rfl, tb_at 626 (by decide +kernel) rfl, tb_at 627 (by decide +kernel) rfl⟩, fun _ h => absurd h List.not_mem_nil⟩⟩)
theorem mc_108 : MCok ((5, 76), (1, 3, [(5, 22)])) := Or.inr (Or.inl ⟨rfl, List.forall_mem_cons.mpr ⟨⟨mok_22, by unfold nPar; decide +kernel, by decide, by decide +kernel, tb_at 745 (by decide +kernel) rfl, tb_at 747 (by decide +kernel) rfl, tb_at 14 (by decide +kernel) rfl⟩, fun _ h => absurd h List.not_mem_nil⟩⟩)
theorem mc_109 : MCok ((5, 95), (2, 1, [(0, 3), (1, 5), (2, 36), (3, 36), (6, 36), (9, 36)])) := Or.inr (Or.inr (Or.inl ⟨rfl, ⟨"AgesByMiles$Thing", "isOpen", "([I)Z"⟩, Or.inl rfl, tb_at 749 (by decide +kernel) rfl, tb_at 644 (by decide +kernel) rfl, by unfold nPar; decide +kernel, List.forall_mem_cons.mpr ⟨⟨mok_3, by decide, tb_at 645 (by decide +kernel) rfl, tb_at 646 (by decide +kernel) rfl⟩, List.forall_mem_cons.mpr ⟨⟨mok_5, by decide, tb_at 649 (by decide +kernel) rfl, tb_at 650 (by decide +kernel) rfl⟩, List.forall_mem_cons.mpr ⟨⟨mok_36, by decide, tb_at 655 (by decide +kernel) rfl, tb_at 653 (by decide +kernel) rfl⟩, List.forall_mem_cons.mpr ⟨⟨mok_36, by decide, tb_at 656 (by decide +kernel) rfl, tb_at 653 (by decide +kernel) rfl⟩, List.forall_mem_cons.mpr ⟨⟨mok_36, by decide, tb_at 657 (by decide +kernel) rfl, tb_at 653 (by decide +kernel) rfl⟩, List.forall_mem_cons.mpr ⟨⟨mok_36, by decide, tb_at 658 (by decide +kernel) rfl, tb_at 653 (by decide +kernel) rfl⟩, fun _ h => absurd h List.not_mem_nil⟩⟩⟩⟩⟩⟩⟩))
theorem mc_110 : MCok ((5, 56), (1, 2, [(4, 14)])) := Or.inr (Or.inl ⟨rfl, List.forall_mem_cons.mpr ⟨⟨mok_14, by unfold nPar; decide +kernel, by decide, by decide +kernel, tb_at 750 (by decide +kernel) rfl, tb_at 631 (by decide +kernel) rfl, tb_at 632 (by decide +kernel) rfl⟩, fun _ h => absurd h List.not_mem_nil⟩⟩)
theorem mc_111 : MCok ((5, 49), (1, 1, [(5, 23)])) := Or.inr (Or.inl ⟨rfl, List.forall_mem_cons.mpr ⟨⟨mok_23, by unfold nPar; decide +kernel, by decide, by decide +kernel, tb_at 751 (by decide +kernel) rfl, tb_at 753 (by decide +kernel) rfl, tb_at 15 (by decide +kernel) rfl⟩, fun _ h => absurd h List.not_mem_nil⟩⟩)
theorem mc_112 : MCok ((13, 72), (1, 1, [(10, 76)])) := Or.inr (Or.inl ⟨rfl, List.forall_mem_cons.mpr ⟨⟨mok_76, by unfold nPar; decide +kernel, by decide, by decide +kernel, tb_at 755 (by decide +kernel) rfl, tb_at 756 (by decide +kernel) rfl, tb_at 757 (by decide +kernel) rfl⟩, fun _ h => absurd h List.not_mem_nil⟩⟩)
theorem mc_113 : MCok ((11, 167), (1, 1, [(5, 26)])) := Or.inr (Or.inl ⟨rfl, List.forall_mem_cons.mpr ⟨⟨mok_26, by unfold nPar; decide +kernel, by decide, by decide +kernel, tb_at 759 (by decide +kernel) rfl, tb_at 760 (by decide +kernel) rfl, tb_at 761 (by decide +kernel) rfl⟩, fun _ h => absurd h List.not_mem_nil⟩⟩)
theorem mc_114 : MCok ((5, 115), (1, 2, [(5, 28)])) := Or.inr (Or.inl ⟨rfl, List.forall_mem_cons.mpr ⟨⟨mok_28, by unfold nPar; decide +kernel, by decide, by decide +kernel, tb_at 763 (by decide +kernel) rfl, tb_at 765 (by decide +kernel) rfl, tb_at 16 (by decide +kernel) rfl⟩, fun _ h => absurd h List.not_mem_nil⟩⟩)
theorem mc_115 : MCok ((5, 121), (7, 5, [])) := Or.inr (Or.inr (Or.inr (Or.inr (Or.inr (Or.inr (Or.inr (Or.inl ⟨rfl, tb_at 767 (by decide +kernel) rfl⟩)))))))
theorem mc_116 : MCok ((5, 127), (1, 1, [(5, 30)])) := Or.inr (Or.inl ⟨rfl, List.forall_mem_cons.mpr ⟨⟨mok_30, by unfold nPar; decide +kernel, by decide, by decide +kernel, tb_at 768 (by decide +kernel) rfl, tb_at 770 (by decide +kernel) rfl, tb_at 17 (by decide +kernel) rfl⟩, fun _ h => absurd h List.not_mem_nil⟩⟩)
theorem mc_117 : MCok ((5, 135), (8, 2, [])) := Or.inr (Or.inr (Or.inr (Or.inr (Or.inr (Or.inr (Or.inr (Or.inr (Or.inl ⟨rfl, tb_at 772 (by decide +kernel) rfl⟩))))))))
theorem mc_118 : MCok ((5, 131), (1, 3, [(5, 29)])) := Or.inr (Or.inl ⟨rfl, List.forall_mem_cons.mpr ⟨⟨mok_29, by unfold nPar; decide +kernel, by decide, by decide +kernel, tb_at 773 (by decide +kernel) rfl, tb_at 775 (by decide +kernel) rfl, tb_at 18 (by decide +kernel) rfl⟩, fun _ h => absurd h List.not_mem_nil⟩⟩)
theorem mc_119 : MCok ((13, 76), (1, 0, [(10, 77)])) := Or.inr (Or.inl ⟨rfl, List.forall_mem_cons.mpr ⟨⟨mok_77, by unfold nPar; decide +kernel, by decide, by decide +kernel, tb_at 777 (by decide +kernel) rfl, tb_at 778 (by decide +kernel) rfl, tb_at 779 (by decide +kernel) rfl⟩, fun _ h => absurd h List.not_mem_nil⟩⟩)
theorem mc_120 : MCok ((11, 179), (1, 1, [(5, 27)])) := Or.inr (Or.inl ⟨rfl, List.forall_mem_cons.mpr ⟨⟨mok_27, by unfold nPar; decide +kernel, by decide, by decide +kernel, tb_at 781 (by decide +kernel) rfl, tb_at 782 (by decide +kernel) rfl, tb_at 783 (by decide +kernel) rfl⟩, fun _ h => absurd h List.not_mem_nil⟩⟩)
theorem mc_121 : MCok ((13, 80), (1, 3, [(10, 78)])) := Or.inr (Or.inl ⟨rfl, List.forall_mem_cons.mpr ⟨⟨mok_78, by unfold nPar; decide +kernel, by decide, by decide +kernel, tb_at 785 (by decide +kernel) rfl, tb_at 786 (by decide +kernel) rfl, tb_at 787 (by decide +kernel) rfl⟩, fun _ h => absurd h List.not_mem_nil⟩⟩)
theorem mc_122 : MCok ((13, 84), (1, 3, [(10, 79)])) := Or.inr (Or.inl ⟨rfl, List.forall_mem_cons.mpr ⟨⟨mok_79, by unfold nPar; decide +kernel, by decide, by decide +kernel, tb_at 789 (by decide +kernel) rfl, tb_at 790 (by decide +kernel) rfl, tb_at 791 (by decide +kernel) rfl⟩, fun _ h => absurd h List.not_mem_nil⟩⟩)
theorem mc_123 : MCok ((11, 189), (1, 1, [(10, 94)])) := Or.inr (Or.inl ⟨rfl, List.forall_mem_cons.mpr ⟨⟨mok_94, by unfold nPar; decide +kernel, by decide, by decide +kernel, tb_at 793 (by decide +kernel) rfl, tb_at 795 (by decide +kernel) rfl, tb_at 19 (by decide +kernel) rfl⟩, fun _ h => absurd h List.not_mem_nil⟩⟩)
theorem mc_124 : MCok ((11, 193), (1, 2, [(10, 96)])) := Or.inr (Or.inl ⟨rfl, List.forall_mem_cons.mpr ⟨⟨mok_96, by unfold nPar; decide +kernel, by decide, by decide +kernel, tb_at 798 (by decide +kernel) rfl, tb_at 800 (by decide +kernel) rfl, tb_at 20 (by decide +kernel) rfl⟩, fun _ h => absurd h List.not_mem_nil⟩⟩)
theorem mc_125 : MCok ((11, 258), (0, 2, [(0, 182)])) := Or.inl ⟨rfl, _, _, rfl, mok_182, by unfold nPar; decide +kernel, tb_at 802 (by decide +kernel) rfl, tb_at 803 (by decide +kernel) rfl⟩
theorem mc_126 : MCok ((11, 249), (1, 0, [(8, 52)])) := Or.inr (Or.inl ⟨rfl, List.forall_mem_cons.mpr ⟨⟨mok_52, by unfold nPar; decide +kernel, by decide, by decide +kernel, tb_at 805 (by decide +kernel) rfl, tb_at 806 (by decide +kernel) rfl, tb_at 807 (by decide +kernel) rfl⟩, fun _ h => absurd h List.not_mem_nil⟩⟩)
theorem mc_127 : MCok ((11, 264), (1, 2, [(10, 97)])) := Or.inr (Or.inl ⟨rfl, List.forall_mem_cons.mpr ⟨⟨mok_97, by unfold nPar; decide +kernel, by decide, by decide +kernel, tb_at 809 (by decide +kernel) rfl, tb_at 811 (by decide +kernel) rfl, tb_at 21 (by decide +kernel) rfl⟩, fun _ h => absurd h List.not_mem_nil⟩⟩)
theorem mc_128 : MCok ((11, 268), (10, 2, [])) := Or.inr (Or.inr (Or.inr (Or.inr (Or.inr (Or.inr (Or.inr (Or.inr (Or.inr (Or.inr (⟨rfl, tb_at 813 (by decide +kernel) rfl⟩))))))))))
theorem mc_129 : MCok ((11, 197), (0, 2, [(0, 98)])) := Or.inl ⟨rfl, _, _, rfl, mok_98, by unfold nPar; decide +kernel, tb_at 816 (by decide +kernel) rfl, tb_at 817 (by decide +kernel) rfl⟩
theorem mc_130 : MCok ((13, 89), (1, 3, [(10, 80)])) := Or.inr (Or.inl ⟨rfl, List.forall_mem_cons.mpr ⟨⟨mok_80, by unfold nPar; decide +kernel, by decide, by decide +kernel, tb_at 819 (by decide +kernel) rfl, tb_at 820 (by decide +kernel) rfl, tb_at 821 (by decide +kernel) rfl⟩, fun _ h => absurd h List.not_mem_nil⟩⟩)
theorem mc_131 : MCok ((13, 93), (1, 2, [(10, 81)])) := Or.inr (Or.inl ⟨rfl, List.forall_mem_cons.mpr ⟨⟨mok_81, by unfold nPar; decide +kernel, by decide, by decide +kernel, tb_at 823 (by decide +kernel) rfl, tb_at 824 (by decide +kernel) rfl, tb_at 825 (by decide +kernel) rfl⟩, fun _ h => absurd h List.not_mem_nil⟩⟩)
theorem mc_132 : MCok ((11, 201), (8, 2, [])) := Or.inr (Or.inr (Or.inr (Or.inr (Or.inr (Or.inr (Or.inr (Or.inr (Or.inl ⟨rfl, tb_at 827 (by decide +kernel) rfl⟩))))))))
theorem mc_133 : MCok ((13, 97), (1, 3, [(10, 82)])) := Or.inr (Or.inl ⟨rfl, List.forall_mem_cons.mpr ⟨⟨mok_82, by unfold nPar; decide +kernel, by decide, by decide +kernel, tb_at 828 (by decide +kernel) rfl, tb_at 829 (by decide +kernel) rfl, tb_at 830 (by decide +kernel) rfl⟩, fun _ h => absurd h List.not_mem_nil⟩⟩)
theorem mc_134 : MCok ((11, 206), (9, 2, [])) := Or.inr (Or.inr (Or.inr (Or.inr (Or.inr (Or.inr (Or.inr (Or.inr (Or.inr (Or.inl ⟨rfl, tb_at 832 (by decide +kernel) rfl⟩)))))))))
theorem mc_135 : MCok ((13, 101), (1, 2, [(10, 83)])) := Or.inr (Or.inl ⟨rfl, List.forall_mem_cons.mpr ⟨⟨mok_83, by unfold nPar; decide +kernel, by decide, by decide +kernel, tb_at 833 (by decide +kernel) rfl, tb_at 834 (by decide +kernel) rfl, tb_at 835 (by decide +kernel) rfl⟩, fun _ h => absurd h List.not_mem_nil⟩⟩)
theorem mc_136 : MCok ((13, 105), (1, 2, [(10, 84)])) := Or.inr (Or.inl ⟨rfl, List.forall_mem_cons.mpr ⟨⟨mok_84, by unfold nPar; decide +kernel, by decide, by decide +kernel, tb_at 837 (by decide +kernel) rfl, tb_at 838 (by decide +kernel) rfl, tb_at 839 (by decide +kernel) rfl⟩, fun _ h => absurd h List.not_mem_nil⟩⟩)
theorem mc_137 : MCok ((11, 218), (1, 2, [(10, 99)])) := Or.inr (Or.inl ⟨rfl, List.forall_mem_cons.mpr ⟨⟨mok_99, by unfold nPar; decide +kernel, by decide, by decide +kernel, tb_at 841 (by decide +kernel) rfl, tb_at 843 (by decide +kernel) rfl, tb_at 22 (by decide +kernel) rfl⟩, fun _ h => absurd h List.not_mem_nil⟩⟩)
theorem mc_138 : MCok ((13, 109), (1, 1, [(10, 85)])) := Or.inr (Or.inl ⟨rfl, List.forall_mem_cons.mpr ⟨⟨mok_85, by unfold nPar; decide +kernel, by decide, by decide +kernel, tb_at 845 (by decide +kernel) rfl, tb_at 846 (by decide +kernel) rfl, tb_at 847 (by decide +kernel) rfl⟩, fun _ h => absurd h List.not_mem_nil⟩⟩)
theorem mc_139 : MCok ((11, 224), (0, 1, [(0, 184)])) := Or.inl ⟨rfl, _, _, rfl, mok_184, by unfold nPar; decide +kernel, tb_at 849 (by decide +kernel) rfl, tb_at 850 (by decide +kernel) rfl⟩
theorem mc_140 : MCok ((11, 229), (1, 1, [(10, 100)])) := Or.inr (Or.inl ⟨rfl, List.forall_mem_cons.mpr ⟨⟨mok_100, by unfold nPar; decide +kernel, by decide, by decide +kernel, tb_at 855 (by decide +kernel) rfl, tb_at 857 (by decide +kernel) rfl, tb_at 23 (by decide +kernel) rfl⟩, fun _ h => absurd h List.not_mem_nil⟩⟩)
theorem mc_141 : MCok ((13, 113), (1, 4, [(10, 86)])) := Or.inr (Or.inl ⟨rfl, List.forall_mem_cons.mpr ⟨⟨mok_86, by unfold nPar; decide +kernel, by decide, by decide +kernel, tb_at 859 (by decide +kernel) rfl, tb_at 860 (by decide +kernel) rfl, tb_at 861 (by decide +kernel) rfl⟩, fun _ h => absurd h List.not_mem_nil⟩⟩)
theorem mc_142 : MCok ((13, 118), (1, 2, [(10, 87)])) := Or.inr (Or.inl ⟨rfl, List.forall_mem_cons.mpr ⟨⟨mok_87, by unfold nPar; decide +kernel, by decide, by decide +kernel, tb_at 863 (by decide +kernel) rfl, tb_at 864 (by decide +kernel) rfl, tb_at 865 (by decide +kernel) rfl⟩, fun _ h => absurd h List.not_mem_nil⟩⟩)
theorem mc_143 : MCok ((11, 232), (1, 3, [(5, 31)])) := Or.inr (Or.inl ⟨rfl, List.forall_mem_cons.mpr ⟨⟨mok_31, by unfold nPar; decide +kernel, by decide, by decide +kernel, tb_at 867 (by decide +kernel) rfl, tb_at 868 (by decide +kernel) rfl, tb_at 869 (by decide +kernel) rfl⟩, fun _ h => absurd h List.not_mem_nil⟩⟩)
theorem mc_144 : MCok ((5, 140), (1, 1, [(5, 25)])) := Or.inr (Or.inl ⟨rfl, List.forall_mem_cons.mpr ⟨⟨mok_25, by unfold nPar; decide +kernel, by decide, by decide +kernel, tb_at 871 (by decide +kernel) rfl, tb_at 873 (by decide +kernel) rfl, tb_at 24 (by decide +kernel) rfl⟩, fun _ h => absurd h List.not_mem_nil⟩⟩)
theorem mc_145 : MCok ((13, 122), (1, 1, [(10, 88)])) := Or.inr (Or.inl ⟨rfl, List.forall_mem_cons.mpr ⟨⟨mok_88, by unfold nPar; decide +kernel, by decide, by decide +kernel, tb_at 878 (by decide +kernel) rfl, tb_at 879 (by decide +kernel) rfl, tb_at 880 (by decide +kernel) rfl⟩, fun _ h => absurd h List.not_mem_nil⟩⟩)
theorem mc_146 : MCok ((13, 126), (1, 1, [(10, 89)])) := Or.inr (Or.inl ⟨rfl, List.forall_mem_cons.mpr ⟨⟨mok_89, by unfold nPar; decide +kernel, by decide, by decide +kernel, tb_at 882 (by decide +kernel) rfl, tb_at 883 (by decide +kernel) rfl, tb_at 884 (by decide +kernel) rfl⟩, fun _ h => absurd h List.not_mem_nil⟩⟩)
theorem mc_147 : MCok ((11, 236), (1, 3, [(5, 32)])) := Or.inr (Or.inl ⟨rfl, List.forall_mem_cons.mpr ⟨⟨mok_32, by unfold nPar; decide +kernel, by decide, by decide +kernel, tb_at 886 (by decide +kernel) rfl, tb_at 887 (by decide +kernel) rfl, tb_at 888 (by decide +kernel) rfl⟩, fun _ h => absurd h List.not_mem_nil⟩⟩)
theorem mc_148 : MCok ((5, 146), (1, 1, [(8, 49)])) := Or.inr (Or.inl ⟨rfl, List.forall_mem_cons.mpr ⟨⟨mok_49, by unfold nPar; decide +kernel, by decide, by decide +kernel, tb_at 890 (by decide +kernel) rfl, tb_at 498 (by decide +kernel) rfl, tb_at 499 (by decide +kernel) rfl⟩, fun _ h => absurd h List.not_mem_nil⟩⟩)
theorem mc_149 : MCok ((11, 240), (1, 3, [(5, 33)])) := Or.inr (Or.inl ⟨rfl, List.forall_mem_cons.mpr ⟨⟨mok_33, by unfold nPar; decide +kernel, by decide, by decide +kernel, tb_at 891 (by decide +kernel) rfl, tb_at 892 (by decide +kernel) rfl, tb_at 893 (by decide +kernel) rfl⟩, fun _ h => absurd h List.not_mem_nil⟩⟩)
theorem mc_150 : MCok ((5, 150), (1, 3, [(5, 32)])) := Or.inr (Or.inl ⟨rfl, List.forall_mem_cons.mpr ⟨⟨mok_32, by unfold nPar; decide +kernel, by decide, by decide +kernel, tb_at 895 (by decide +kernel) rfl, tb_at 887 (by decide +kernel) rfl, tb_at 888 (by decide +kernel) rfl⟩, fun _ h => absurd h List.not_mem_nil⟩⟩)
theorem mc_151 : MCok ((13, 130), (1, 0, [(10, 90)])) := Or.inr (Or.inl ⟨rfl, List.forall_mem_cons.mpr ⟨⟨mok_90, by unfold nPar; decide +kernel, by decide, by decide +kernel, tb_at 896 (by decide +kernel) rfl, tb_at 897 (by decide +kernel) rfl, tb_at 898 (by decide +kernel) rfl⟩, fun _ h => absurd h List.not_mem_nil⟩⟩)
theorem mc_152 : MCok ((13, 134), (1, 0, [(10, 91)])) := Or.inr (Or.inl ⟨rfl, List.forall_mem_cons.mpr ⟨⟨mok_91, by unfold nPar; decide +kernel, by decide, by decide +kernel, tb_at 900 (by decide +kernel) rfl, tb_at 901 (by decide +kernel) rfl, tb_at 902 (by decide +kernel) rfl⟩, fun _ h => absurd h List.not_mem_nil⟩⟩)
theorem mc_153 : MCok ((13, 138), (1, 1, [(10, 92)])) := Or.inr (Or.inl ⟨rfl, List.forall_mem_cons.mpr ⟨⟨mok_92, by unfold nPar; decide +kernel, by decide, by decide +kernel, tb_at 904 (by decide +kernel) rfl, tb_at 905 (by decide +kernel) rfl, tb_at 906 (by decide +kernel) rfl⟩, fun _ h => absurd h List.not_mem_nil⟩⟩)
theorem mc_154 : MCok ((11, 253), (1, 0, [(4, 17)])) := Or.inr (Or.inl ⟨rfl, List.forall_mem_cons.mpr ⟨⟨mok_17, by unfold nPar; decide +kernel, by decide, by decide +kernel, tb_at 908 (by decide +kernel) rfl, tb_at 909 (by decide +kernel) rfl, tb_at 910 (by decide +kernel) rfl⟩, fun _ h => absurd h List.not_mem_nil⟩⟩)
theorem mc_155 : MCok ((13, 12), (3, 0, [(0, 101)])) := Or.inr (Or.inr (Or.inr (Or.inl ⟨rfl, _, _, rfl, mok_101, by unfold nPar; decide +kernel, by decide +kernel, rfl, tb_at 914 (by decide +kernel) rfl, tb_at 915 (by decide +kernel) rfl⟩)))
theorem mc_156 : MCok ((12, 1), (6, 0, [])) := Or.inr (Or.inr (Or.inr (Or.inr (Or.inr (Or.inr (Or.inl ⟨rfl, rfl, tb_at 917 (by decide +kernel) rfl⟩))))))
theorem mc_157 : MCok ((13, 19), (1, 2, [(11, 110)])) := Or.inr (Or.inl ⟨rfl, List.forall_mem_cons.mpr ⟨⟨mok_110, by unfold nPar; decide +kernel, by decide, by decide +kernel, tb_at 1066 (by decide +kernel) rfl, tb_at 1067 (by decide +kernel) rfl, tb_at 1068 (by decide +kernel) rfl⟩, fun _ h => absurd h List.not_mem_nil⟩⟩)
theorem mc_158 : MCok ((12, 120), (0, 3, [(0, 105)])) := Or.inl ⟨rfl, _, _, rfl, mok_105, by unfold nPar; decide +kernel, tb_at 1070 (by decide +kernel) rfl, tb_at 1071 (by decide +kernel) rfl⟩
theorem mc_159 : MCok ((12, 127), (1, 1, [(11, 102)])) := Or.inr (Or.inl ⟨rfl, List.forall_mem_cons.mpr ⟨⟨mok_102, by unfold nPar; decide +kernel, by decide, by decide +kernel, tb_at 1073 (by decide +kernel) rfl, tb_at 1075 (by decide +kernel) rfl, tb_at 25 (by decide +kernel) rfl⟩, fun _ h => absurd h List.not_mem_nil⟩⟩)
theorem mc_160 : MCok ((13, 24), (1, 0, [(11, 121)])) := Or.inr (Or.inl ⟨rfl, List.forall_mem_cons.mpr ⟨⟨mok_121, by unfold nPar; decide +kernel, by decide, by decide +kernel, tb_at 1078 (by decide +kernel) rfl, tb_at 1079 (by decide +kernel) rfl, tb_at 1080 (by decide +kernel) rfl⟩, fun _ h => absurd h List.not_mem_nil⟩⟩)
theorem mc_161 : MCok ((12, 184), (1, 0, [(11, 117)])) := Or.inr (Or.inl ⟨rfl, List.forall_mem_cons.mpr ⟨⟨mok_117, by unfold nPar; decide +kernel, by decide, by decide +kernel, tb_at 1082 (by decide +kernel) rfl, tb_at 1084 (by decide +kernel) rfl, tb_at 26 (by decide +kernel) rfl⟩, fun _ h => absurd h List.not_mem_nil⟩⟩)
theorem mc_162 : MCok ((12, 136), (1, 0, [(11, 111)])) := Or.inr (Or.inl ⟨rfl, List.forall_mem_cons.mpr ⟨⟨mok_111, by unfold nPar; decide +kernel, by decide, by decide +kernel, tb_at 1086 (by decide +kernel) rfl, tb_at 1088 (by decide +kernel) rfl, tb_at 27 (by decide +kernel) rfl⟩, fun _ h => absurd h List.not_mem_nil⟩⟩)
theorem mc_163 : MCok ((12, 157), (1, 1, [(11, 115)])) := Or.inr (Or.inl ⟨rfl, List.forall_mem_cons.mpr ⟨⟨mok_115, by unfold nPar; decide +kernel, by decide, by decide +kernel, tb_at 1090 (by decide +kernel) rfl, tb_at 1092 (by decide +kernel) rfl, tb_at 28 (by decide +kernel) rfl⟩, fun _ h => absurd h List.not_mem_nil⟩⟩)
theorem mc_164 : MCok ((12, 144), (1, 1, [(11, 113)])) := Or.inr (Or.inl ⟨rfl, List.forall_mem_cons.mpr ⟨⟨mok_113, by unfold nPar; decide +kernel, by decide, by decide +kernel, tb_at 1094 (by decide +kernel) rfl, tb_at 1096 (by decide +kernel) rfl, tb_at 29 (by decide +kernel) rfl⟩, fun _ h => absurd h List.not_mem_nil⟩⟩)
theorem mc_165 : MCok ((12, 140), (0, 3, [(0, 104)])) := Or.inl ⟨rfl, _, _, rfl, mok_104, by unfold nPar; decide +kernel, tb_at 1098 (by decide +kernel) rfl, tb_at 1099 (by decide +kernel) rfl⟩
theorem mc_166 : MCok ((12, 147), (1, 1, [(11, 112)])) := Or.inr (Or.inl ⟨rfl, List.forall_mem_cons.mpr ⟨⟨mok_112, by unfold nPar; decide +kernel, by decide, by decide +kernel, tb_at 1101 (by decide +kernel) rfl, tb_at 1103 (by decide +kernel) rfl, tb_at 30 (by decide +kernel) rfl⟩, fun _ h => absurd h List.not_mem_nil⟩⟩)
theorem mc_167 : MCok ((12, 160), (1, 1, [(11, 116)])) := Or.inr (Or.inl ⟨rfl, List.forall_mem_cons.mpr ⟨⟨mok_116, by unfold nPar; decide +kernel, by decide, by decide +kernel, tb_at 1105 (by decide +kernel) rfl, tb_at 1107 (by decide +kernel) rfl, tb_at 31 (by decide +kernel) rfl⟩, fun _ h => absurd h List.not_mem_nil⟩⟩)
theorem mc_168 : MCok ((12, 151), (0, 1, [(0, 114)])) := Or.inl ⟨rfl, _, _, rfl, mok_114, by unfold nPar; decide +kernel, tb_at 1109 (by decide +kernel) rfl, tb_at 1110 (by decide +kernel) rfl⟩
theorem mc_169 : MCok ((12, 188), (1, 2, [(11, 124)])) := Or.inr (Or.inl ⟨rfl, List.forall_mem_cons.mpr ⟨⟨mok_124, by unfold nPar; decide +kernel, by decide, by decide +kernel, tb_at 1112 (by decide +kernel) rfl, tb_at 1114 (by decide +kernel) rfl, tb_at 32 (by decide +kernel) rfl⟩, fun _ h => absurd h List.not_mem_nil⟩⟩)
theorem mc_170 : MCok ((12, 202), (1, 1, [(11, 122)])) := Or.inr (Or.inl ⟨rfl, List.forall_mem_cons.mpr ⟨⟨mok_122, by unfold nPar; decide +kernel, by decide, by decide +kernel, tb_at 1116 (by decide +kernel) rfl, tb_at 1118 (by decide +kernel) rfl, tb_at 33 (by decide +kernel) rfl⟩, fun _ h => absurd h List.not_mem_nil⟩⟩)
theorem mc_171 : MCok ((12, 206), (1, 1, [(11, 123)])) := Or.inr (Or.inl ⟨rfl, List.forall_mem_cons.mpr ⟨⟨mok_123, by unfold nPar; decide +kernel, by decide, by decide +kernel, tb_at 1120 (by decide +kernel) rfl, tb_at 1122 (by decide +kernel) rfl, tb_at 34 (by decide +kernel) rfl⟩, fun _ h => absurd h List.not_mem_nil⟩⟩)
theorem mc_172 : MCok ((12, 192), (1, 1, [(11, 120)])) := Or.inr (Or.inl ⟨rfl, List.forall_mem_cons.mpr ⟨⟨mok_120, by unfold nPar; decide +kernel, by decide, by decide +kernel, tb_at 1124 (by decide +kernel) rfl, tb_at 1126 (by decide +kernel) rfl, tb_at 35 (by decide +kernel) rfl⟩, fun _ h => absurd h List.not_mem_nil⟩⟩)
theorem mc_173 : MCok ((12, 175), (1, 0, [(11, 118)])) := Or.inr (Or.inl ⟨rfl, List.forall_mem_cons.mpr ⟨⟨mok_118, by unfold nPar; decide +kernel, by decide, by decide +kernel, tb_at 1128 (by decide +kernel) rfl, tb_at 1130 (by decide +kernel) rfl, tb_at 36 (by decide +kernel) rfl⟩, fun _ h => absurd h List.not_mem_nil⟩⟩)
theorem mc_174 : MCok ((12, 178), (1, 3, [(11, 119)])) := Or.inr (Or.inl ⟨rfl, List.forall_mem_cons.mpr ⟨⟨mok_119, by unfold nPar; decide +kernel, by decide, by decide +kernel, tb_at 1132 (by decide +kernel) rfl, tb_at 1134 (by decide +kernel) rfl, tb_at 37 (by decide +kernel) rfl⟩, fun _ h => absurd h List.not_mem_nil⟩⟩)
theorem mc_175 : MCok ((12, 172), (1, 1, [(11, 106)])) := Or.inr (Or.inl ⟨rfl, List.forall_mem_cons.mpr ⟨⟨mok_106, by unfold nPar; decide +kernel, by decide, by decide +kernel, tb_at 1136 (by decide +kernel) rfl, tb_at 1138 (by decide +kernel) rfl, tb_at 38 (by decide +kernel) rfl⟩, fun _ h => absurd h List.not_mem_nil⟩⟩)
theorem mc_176 : MCok ((12, 181), (1, 1, [(11, 107)])) := Or.inr (Or.inl ⟨rfl, List.forall_mem_cons.mpr ⟨⟨mok_107, by unfold nPar; decide +kernel, by decide, by decide +kernel, tb_at 1140 (by decide +kernel) rfl, tb_at 1142 (by decide +kernel) rfl, tb_at 39 (by decide +kernel) rfl⟩, fun _ h => absurd h List.not_mem_nil⟩⟩)
theorem mc_177 : MCok ((13, 29), (1, 2, [(11, 125)])) := Or.inr (Or.inl ⟨rfl, List.forall_mem_cons.mpr ⟨⟨mok_125, by unfold nPar; decide +kernel, by decide, by decide +kernel, tb_at 1144 (by decide +kernel) rfl, tb_at 1145 (by decide +kernel) rfl, tb_at 1146 (by decide +kernel) rfl⟩, fun _ h => absurd h List.not_mem_nil⟩⟩)
theorem mc_178 : MCok ((12, 215), (1, 0, [(11, 108)])) := Or.inr (Or.inl ⟨rfl, List.forall_mem_cons.mpr ⟨⟨mok_108, by unfold nPar; decide +kernel, by decide, by decide +kernel, tb_at 1148 (by decide +kernel) rfl, tb_at 1150 (by decide +kernel) rfl, tb_at 40 (by decide +kernel) rfl⟩, fun _ h => absurd h List.not_mem_nil⟩⟩)
theorem mc_179 : MCok ((12, 218), (1, 2, [(11, 109)])) := Or.inr (Or.inl ⟨rfl, List.forall_mem_cons.mpr ⟨⟨mok_109, by unfold nPar; decide +kernel, by decide, by decide +kernel, tb_at 1153 (by decide +kernel) rfl, tb_at 1155 (by decide +kernel) rfl, tb_at 41 (by decide +kernel) rfl⟩, fun _ h => absurd h List.not_mem_nil⟩⟩)
theorem mc_180 : MCok ((13, 33), (1, 2, [(11, 133)])) := Or.inr (Or.inl ⟨rfl, List.forall_mem_cons.mpr ⟨⟨mok_133, by unfold nPar; decide +kernel, by decide, by decide +kernel, tb_at 1157 (by decide +kernel) rfl, tb_at 1158 (by decide +kernel) rfl, tb_at 1159 (by decide +kernel) rfl⟩, fun _ h => absurd h List.not_mem_nil⟩⟩)
theorem mc_181 : MCok ((13, 37), (1, 2, [(11, 134)])) := Or.inr (Or.inl ⟨rfl, List.forall_mem_cons.mpr ⟨⟨mok_134, by unfold nPar; decide +kernel, by decide, by decide +kernel, tb_at 1161 (by decide +kernel) rfl, tb_at 1162 (by decide +kernel) rfl, tb_at 1163 (by decide +kernel) rfl⟩, fun _ h => absurd h List.not_mem_nil⟩⟩)
theorem mc_182 : MCok ((13, 42), (1, 1, [(11, 135)])) := Or.inr (Or.inl ⟨rfl, List.forall_mem_cons.mpr ⟨⟨mok_135, by unfold nPar; decide +kernel, by decide, by decide +kernel, tb_at 1165 (by decide +kernel) rfl, tb_at 1166 (by decide +kernel) rfl, tb_at 1167 (by decide +kernel) rfl⟩, fun _ h => absurd h List.not_mem_nil⟩⟩)
theorem mc_183 : MCok ((12, 229), (1, 1, [(11, 131)])) := Or.inr (Or.inl ⟨rfl, List.forall_mem_cons.mpr ⟨⟨mok_131, by unfold nPar; decide +kernel, by decide, by decide +kernel, tb_at 1169 (by decide +kernel) rfl, tb_at 1171 (by decide +kernel) rfl, tb_at 42 (by decide +kernel) rfl⟩, fun _ h => absurd h List.not_mem_nil⟩⟩)
theorem mc_184 : MCok ((12, 232), (1, 1, [(11, 132)])) := Or.inr (Or.inl ⟨rfl, List.forall_mem_cons.mpr ⟨⟨mok_132, by unfold nPar; decide +kernel, by decide, by decide +kernel, tb_at 1173 (by decide +kernel) rfl, tb_at 1175 (by decide +kernel) rfl, tb_at 43 (by decide +kernel) rfl⟩, fun _ h => absurd h List.not_mem_nil⟩⟩)
theorem mc_185 : MCok ((13, 46), (1, 1, [(11, 136)])) := Or.inr (Or.inl ⟨rfl, List.forall_mem_cons.mpr ⟨⟨mok_136, by unfold nPar; decide +kernel, by decide, by decide +kernel, tb_at 1177 (by decide +kernel) rfl, tb_at 1178 (by decide +kernel) rfl, tb_at 1179 (by decide +kernel) rfl⟩, fun _ h => absurd h List.not_mem_nil⟩⟩)
theorem mc_186 : MCok ((12, 236), (1, 1, [(11, 128)])) := Or.inr (Or.inl ⟨rfl, List.forall_mem_cons.mpr ⟨⟨mok_128, by unfold nPar; decide +kernel, by decide, by decide +kernel, tb_at 1181 (by decide +kernel) rfl, tb_at 1183 (by decide +kernel) rfl, tb_at 44 (by decide +kernel) rfl⟩, fun _ h => absurd h List.not_mem_nil⟩⟩)
theorem mc_187 : MCok ((12, 225), (1, 2, [(11, 127)])) := Or.inr (Or.inl ⟨rfl, List.forall_mem_cons.mpr ⟨⟨mok_127, by unfold nPar; decide +kernel, by decide, by decide +kernel, tb_at 1185 (by decide +kernel) rfl, tb_at 1187 (by decide +kernel) rfl, tb_at 45 (by decide +kernel) rfl⟩, fun _ h => absurd h List.not_mem_nil⟩⟩)
theorem mc_188 : MCok ((12, 222), (1, 3, [(11, 126)])) := Or.inr (Or.inl ⟨rfl, List.forall_mem_cons.mpr ⟨⟨mok_126, by unfold nPar; decide +kernel, by decide, by decide +kernel, tb_at 1189 (by decide +kernel) rfl, tb_at 1191 (by decide +kernel) rfl, tb_at 46 (by decide +kernel) rfl⟩, fun _ h => absurd h List.not_mem_nil⟩⟩)
theorem mc_189 : MCok ((12, 239), (1, 1, [(11, 129)])) := Or.inr (Or.inl ⟨rfl, List.forall_mem_cons.mpr ⟨⟨mok_129, by unfold nPar; decide +kernel, by decide, by decide +kernel, tb_at 1193 (by decide +kernel) rfl, tb_at 1195 (by decide +kernel) rfl, tb_at 47 (by decide +kernel) rfl⟩, fun _ h => absurd h List.not_mem_nil⟩⟩)
theorem mc_190 : MCok ((13, 51), (1, 3, [(11, 137)])) := Or.inr (Or.inl ⟨rfl, List.forall_mem_cons.mpr ⟨⟨mok_137, by unfold nPar; decide +kernel, by decide, by decide +kernel, tb_at 1197 (by decide +kernel) rfl, tb_at 1198 (by decide +kernel) rfl, tb_at 1199 (by decide +kernel) rfl⟩, fun _ h => absurd h List.not_mem_nil⟩⟩)
theorem mc_191 : MCok ((13, 55), (1, 1, [(11, 138)])) := Or.inr (Or.inl ⟨rfl, List.forall_mem_cons.mpr ⟨⟨mok_138, by unfold nPar; decide +kernel, by decide, by decide +kernel, tb_at 1201 (by decide +kernel) rfl, tb_at 1202 (by decide +kernel) rfl, tb_at 1203 (by decide +kernel) rfl⟩, fun _ h => absurd h List.not_mem_nil⟩⟩)
theorem mc_192 : MCok ((13, 59), (1, 1, [(11, 139)])) := Or.inr (Or.inl ⟨rfl, List.forall_mem_cons.mpr ⟨⟨mok_139, by unfold nPar; decide +kernel, by decide, by decide +kernel, tb_at 1205 (by decide +kernel) rfl, tb_at 1206 (by decide +kernel) rfl, tb_at 1207 (by decide +kernel) rfl⟩, fun _ h => absurd h List.not_mem_nil⟩⟩)
theorem mc_193 : MCok ((13, 63), (1, 0, [(11, 140)])) := Or.inr (Or.inl ⟨rfl, List.forall_mem_cons.mpr ⟨⟨mok_140, by unfold nPar; decide +kernel, by decide, by decide +kernel, tb_at 1209 (by decide +kernel) rfl, tb_at 1210 (by decide +kernel) rfl, tb_at 1211 (by decide +kernel) rfl⟩, fun _ h => absurd h List.not_mem_nil⟩⟩)
theorem mc_194 : MCok ((12, 242), (1, 1, [(11, 130)])) := Or.inr (Or.inl ⟨rfl, List.forall_mem_cons.mpr ⟨⟨mok_130, by unfold nPar; decide +kernel, by decide, by decide +kernel, tb_at 1213 (by decide +kernel) rfl, tb_at 1215 (by decide +kernel) rfl, tb_at 48 (by decide +kernel) rfl⟩, fun _ h => absurd h List.not_mem_nil⟩⟩)
theorem mc_195 : MCok ((13, 67), (1, 2, [(11, 141)])) := Or.inr (Or.inl ⟨rfl, List.forall_mem_cons.mpr ⟨⟨mok_141, by unfold nPar; decide +kernel, by decide, by decide +kernel, tb_at 1217 (by decide +kernel) rfl, tb_at 1218 (by decide +kernel) rfl, tb_at 1219 (by decide +kernel) rfl⟩, fun _ h => absurd h List.not_mem_nil⟩⟩)
theorem mc_196 : MCok ((13, 71), (1, 2, [(11, 146)])) := Or.inr (Or.inl ⟨rfl, List.forall_mem_cons.mpr ⟨⟨mok_146, by unfold nPar; decide +kernel, by decide, by decide +kernel, tb_at 1222 (by decide +kernel) rfl, tb_at 1223 (by decide +kernel) rfl, tb_at 1224 (by decide +kernel) rfl⟩, fun _ h => absurd h List.not_mem_nil⟩⟩)
theorem mc_197 : MCok ((12, 258), (1, 1, [(11, 145)])) := Or.inr (Or.inl ⟨rfl, List.forall_mem_cons.mpr ⟨⟨mok_145, by unfold nPar; decide +kernel, by decide, by decide +kernel, tb_at 1226 (by decide +kernel) rfl, tb_at 1228 (by decide +kernel) rfl, tb_at 49 (by decide +kernel) rfl⟩, fun _ h => absurd h List.not_mem_nil⟩⟩)
theorem mc_198 : MCok ((12, 250), (1, 1, [(11, 142)])) := Or.inr (Or.inl ⟨rfl, List.forall_mem_cons.mpr ⟨⟨mok_142, by unfold nPar; decide +kernel, by decide, by decide +kernel, tb_at 1230 (by decide +kernel) rfl, tb_at 1232 (by decide +kernel) rfl, tb_at 50 (by decide +kernel) rfl⟩, fun _ h => absurd h List.not_mem_nil⟩⟩)
theorem mc_199 : MCok ((12, 254), (1, 1, [(11, 144)])) := Or.inr (Or.inl ⟨rfl, List.forall_mem_cons.mpr ⟨⟨mok_144, by unfold nPar; decide +kernel, by decide, by decide +kernel, tb_at 1234 (by decide +kernel) rfl, tb_at 1236 (by decide +kernel) rfl, tb_at 51 (by decide +kernel) rfl⟩, fun _ h => absurd h List.not_mem_nil⟩⟩)
theorem mc_200 : MCok ((12, 247), (1, 1, [(11, 143)])) := Or.inr (Or.inl ⟨rfl, List.forall_mem_cons.mpr ⟨⟨mok_143, by unfold nPar; decide +kernel, by decide, by decide +kernel, tb_at 1238 (by decide +kernel) rfl, tb_at 1240 (by decide +kernel) rfl, tb_at 52 (by decide +kernel) rfl⟩, fun _ h => absurd h List.not_mem_nil⟩⟩)
theorem mc_201 : MCok ((13, 75), (1, 1, [(11, 148)])) := Or.inr (Or.inl ⟨rfl, List.forall_mem_cons.mpr ⟨⟨mok_148, by unfold nPar; decide +kernel, by decide, by decide +kernel, tb_at 1242 (by decide +kernel) rfl, tb_at 1243 (by decide +kernel) rfl, tb_at 1244 (by decide +kernel) rfl⟩, fun _ h => absurd h List.not_mem_nil⟩⟩)
theorem mc_202 : MCok ((12, 267), (1, 1, [(11, 147)])) := Or.inr (Or.inl ⟨rfl, List.forall_mem_cons.mpr ⟨⟨mok_147, by unfold nPar; decide +kernel, by decide, by decide +kernel, tb_at 1246 (by decide +kernel) rfl, tb_at 1248 (by decide +kernel) rfl, tb_at 53 (by decide +kernel) rfl⟩, fun _ h => absurd h List.not_mem_nil⟩⟩)
theorem mc_203 : MCok ((13, 79), (1, 0, [(11, 149)])) := Or.inr (Or.inl ⟨rfl, List.forall_mem_cons.mpr ⟨⟨mok_149, by unfold nPar; decide +kernel, by decide, by decide +kernel, tb_at 1250 (by decide +kernel) rfl, tb_at 1251 (by decide +kernel) rfl, tb_at 1252 (by decide +kernel) rfl⟩, fun _ h => absurd h List.not_mem_nil⟩⟩)
theorem mc_204 : MCok ((13, 83), (1, 3, [(11, 150)])) := Or.inr (Or.inl ⟨rfl, List.forall_mem_cons.mpr ⟨⟨mok_150, by unfold nPar; decide +kernel, by decide, by decide +kernel, tb_at 1254 (by decide +kernel) rfl, tb_at 1255 (by decide +kernel) rfl, tb_at 1256 (by decide +kernel) rfl⟩, fun _ h => absurd h List.not_mem_nil⟩⟩)
theorem mc_205 : MCok ((13, 88), (1, 3, [(11, 154)])) := Or.inr (Or.inl ⟨rfl, List.forall_mem_cons.mpr ⟨⟨mok_154, by unfold nPar; decide +kernel, by decide, by decide +kernel, tb_at 1258 (by decide +kernel) rfl, tb_at 1259 (by decide +kernel) rfl, tb_at 1260 (by decide +kernel) rfl⟩, fun _ h => absurd h List.not_mem_nil⟩⟩)
theorem mc_206 : MCok ((12, 273), (1, 1, [(11, 103)])) := Or.inr (Or.inl ⟨rfl, List.forall_mem_cons.mpr ⟨⟨mok_103, by unfold nPar; decide +kernel, by decide, by decide +kernel, tb_at 1262 (by decide +kernel) rfl, tb_at 1264 (by decide +kernel) rfl, tb_at 54 (by decide +kernel) rfl⟩, fun _ h => absurd h List.not_mem_nil⟩⟩)
theorem mc_207 : MCok ((12, 270), (1, 0, [(11, 151)])) := Or.inr (Or.inl ⟨rfl, List.forall_mem_cons.mpr ⟨⟨mok_151, by unfold nPar; decide +kernel, by decide, by decide +kernel, tb_at 1267 (by decide +kernel) rfl, tb_at 1269 (by decide +kernel) rfl, tb_at 55 (by decide +kernel) rfl⟩, fun _ h => absurd h List.not_mem_nil⟩⟩)
theorem mc_208 : MCok ((12, 277), (1, 2, [(11, 152)])) := Or.inr (Or.inl ⟨rfl, List.forall_mem_cons.mpr ⟨⟨mok_152, by unfold nPar; decide +kernel, by decide, by decide +kernel, tb_at 1271 (by decide +kernel) rfl, tb_at 1273 (by decide +kernel) rfl, tb_at 56 (by decide +kernel) rfl⟩, fun _ h => absurd h List.not_mem_nil⟩⟩)
theorem mc_209 : MCok ((12, 281), (0, 2, [(0, 153)])) := Or.inl ⟨rfl, _, _, rfl, mok_153, by unfold nPar; decide +kernel, tb_at 1275 (by decide +kernel) rfl, tb_at 1276 (by decide +kernel) rfl⟩
theorem mc_210 : MCok ((13, 92), (1, 3, [(11, 155)])) := Or.inr (Or.inl ⟨rfl, List.forall_mem_cons.mpr ⟨⟨mok_155, by unfold nPar; decide +kernel, by decide, by decide +kernel, tb_at 1278 (by decide +kernel) rfl, tb_at 1279 (by decide +kernel) rfl, tb_at 1280 (by decide +kernel) rfl⟩, fun _ h => absurd h List.not_mem_nil⟩⟩)
theorem mc_211 : MCok ((13, 96), (1, 2, [(11, 156)])) := Or.inr (Or.inl ⟨rfl, List.forall_mem_cons.mpr ⟨⟨mok_156, by unfold nPar; decide +kernel, by decide, by decide +kernel, tb_at 1282 (by decide +kernel) rfl, tb_at 1283 (by decide +kernel) rfl, tb_at 1284 (by decide +kernel) rfl⟩, fun _ h => absurd h List.not_mem_nil⟩⟩)
theorem mc_212 : MCok ((13, 100), (1, 3, [(11, 157)])) := Or.inr (Or.inl ⟨rfl, List.forall_mem_cons.mpr ⟨⟨mok_157, by unfold nPar; decide +kernel, by decide, by decide +kernel, tb_at 1286 (by decide +kernel) rfl, tb_at 1287 (by decide +kernel) rfl, tb_at 1288 (by decide +kernel) rfl⟩, fun _ h => absurd h List.not_mem_nil⟩⟩)
theorem mc_213 : MCok ((13, 104), (1, 2, [(11, 158)])) := Or.inr (Or.inl ⟨rfl, List.forall_mem_cons.mpr ⟨⟨mok_158, by unfold nPar; decide +kernel, by decide, by decide +kernel, tb_at 1290 (by decide +kernel) rfl, tb_at 1291 (by decide +kernel) rfl, tb_at 1292 (by decide +kernel) rfl⟩, fun _ h => absurd h List.not_mem_nil⟩⟩)
theorem mc_214 : MCok ((13, 108), (1, 2, [(11, 159)])) := Or.inr (Or.inl ⟨rfl, List.forall_mem_cons.mpr ⟨⟨mok_159, by unfold nPar; decide +kernel, by decide, by decide +kernel, tb_at 1294 (by decide +kernel) rfl, tb_at 1295 (by decide +kernel) rfl, tb_at 1296 (by decide +kernel) rfl⟩, fun _ h => absurd h List.not_mem_nil⟩⟩)
theorem mc_215 : MCok ((13, 112), (1, 1, [(11, 162)])) := Or.inr (Or.inl ⟨rfl, List.forall_mem_cons.mpr ⟨⟨mok_162, by unfold nPar; decide +kernel, by decide, by decide +kernel, tb_at 1298 (by decide +kernel) rfl, tb_at 1299 (by decide +kernel) rfl, tb_at 1300 (by decide +kernel) rfl⟩, fun _ h => absurd h List.not_mem_nil⟩⟩)
theorem mc_216 : MCok ((12, 285), (0, 1, [(0, 160)])) := Or.inl ⟨rfl, _, _, rfl, mok_160, by unfold nPar; decide +kernel, tb_at 1302 (by decide +kernel) rfl, tb_at 1303 (by decide +kernel) rfl⟩
theorem mc_217 : MCok ((12, 288), (1, 1, [(11, 161)])) := Or.inr (Or.inl ⟨rfl, List.forall_mem_cons.mpr ⟨⟨mok_161, by unfold nPar; decide +kernel, by decide, by decide +kernel, tb_at 1305 (by decide +kernel) rfl, tb_at 1307 (by decide +kernel) rfl, tb_at 57 (by decide +kernel) rfl⟩, fun _ h => absurd h List.not_mem_nil⟩⟩)
theorem mc_218 : MCok ((13, 117), (1, 4, [(11, 163)])) := Or.inr (Or.inl ⟨rfl, List.forall_mem_cons.mpr ⟨⟨mok_163, by unfold nPar; decide +kernel, by decide, by decide +kernel, tb_at 1309 (by decide +kernel) rfl, tb_at 1310 (by decide +kernel) rfl, tb_at 1311 (by decide +kernel) rfl⟩, fun _ h => absurd h List.not_mem_nil⟩⟩)
theorem mc_219 : MCok ((13, 121), (1, 2, [(11, 164)])) := Or.inr (Or.inl ⟨rfl, List.forall_mem_cons.mpr ⟨⟨mok_164, by unfold nPar; decide +kernel, by decide, by decide +kernel, tb_at 1313 (by decide +kernel) rfl, tb_at 1314 (by decide +kernel) rfl, tb_at 1315 (by decide +kernel) rfl⟩, fun _ h => absurd h List.not_mem_nil⟩⟩)
theorem mc_220 : MCok ((13, 125), (1, 1, [(11, 165)])) := Or.inr (Or.inl ⟨rfl, List.forall_mem_cons.mpr ⟨⟨mok_165, by unfold nPar; decide +kernel, by decide, by decide +kernel, tb_at 1320 (by decide +kernel) rfl, tb_at 1321 (by decide +kernel) rfl, tb_at 1322 (by decide +kernel) rfl⟩, fun _ h => absurd h List.not_mem_nil⟩⟩)
theorem mc_221 : MCok ((13, 129), (1, 1, [(11, 166)])) := Or.inr (Or.inl ⟨rfl, List.forall_mem_cons.mpr ⟨⟨mok_166, by unfold nPar; decide +kernel, by decide, by decide +kernel, tb_at 1324 (by decide +kernel) rfl, tb_at 1325 (by decide +kernel) rfl, tb_at 1326 (by decide +kernel) rfl⟩, fun _ h => absurd h List.not_mem_nil⟩⟩)
theorem mc_222 : MCok ((13, 133), (1, 0, [(11, 167)])) := Or.inr (Or.inl ⟨rfl, List.forall_mem_cons.mpr ⟨⟨mok_167, by unfold nPar; decide +kernel, by decide, by decide +kernel, tb_at 1328 (by decide +kernel) rfl, tb_at 1329 (by decide +kernel) rfl, tb_at 1330 (by decide +kernel) rfl⟩, fun _ h => absurd h List.not_mem_nil⟩⟩)
theorem mc_223 : MCok ((13, 137), (1, 0, [(11, 168)])) := Or.inr (Or.inl ⟨rfl, List.forall_mem_cons.mpr ⟨⟨mok_168, by unfold nPar; decide +kernel, by decide, by decide +kernel, tb_at 1332 (by decide +kernel) rfl, tb_at 1333 (by decide +kernel) rfl, tb_at 1334 (by decide +kernel) rfl⟩, fun _ h => absurd h List.not_mem_nil⟩⟩)
theorem mc_224 : MCok ((13, 141), (1, 1, [(11, 169)])) := Or.inr (Or.inl ⟨rfl, List.forall_mem_cons.mpr ⟨⟨mok_169, by unfold nPar; decide +kernel, by decide, by decide +kernel, tb_at 1336 (by decide +kernel) rfl, tb_at 1337 (by decide +kernel) rfl, tb_at 1338 (by decide +kernel) rfl⟩, fun _ h => absurd h List.not_mem_nil⟩⟩)
theorem MC_ok : ∀ q ∈ MC, MCok q := by
  unfold MC
  refine List.forall_mem_cons.mpr ⟨mc_0, ?_⟩
  refine List.forall_mem_cons.mpr ⟨mc_1, ?_⟩
  refine List.forall_mem_cons.mpr ⟨mc_2, ?_⟩
  refine List.forall_mem_cons.mpr ⟨mc_3, ?_⟩
  refine List.forall_mem_cons.mpr ⟨mc_4, ?_⟩
  refine List.forall_mem_cons.mpr ⟨mc_5, ?_⟩
  refine List.forall_mem_cons.mpr ⟨mc_6, ?_⟩
  refine List.forall_mem_cons.mpr ⟨mc_7, ?_⟩
  refine List.forall_mem_cons.mpr ⟨mc_8, ?_⟩
  refine List.forall_mem_cons.mpr ⟨mc_9, ?_⟩
  refine List.forall_mem_cons.mpr ⟨mc_10, ?_⟩
  refine List.forall_mem_cons.mpr ⟨mc_11, ?_⟩
  refine List.forall_mem_cons.mpr ⟨mc_12, ?_⟩
  refine List.forall_mem_cons.mpr ⟨mc_13, ?_⟩
  refine List.forall_mem_cons.mpr ⟨mc_14, ?_⟩
  refine List.forall_mem_cons.mpr ⟨mc_15, ?_⟩
  refine List.forall_mem_cons.mpr ⟨mc_16, ?_⟩
  refine List.forall_mem_cons.mpr ⟨mc_17, ?_⟩
  refine List.forall_mem_cons.mpr ⟨mc_18, ?_⟩
  refine List.forall_mem_cons.mpr ⟨mc_19, ?_⟩
  refine List.forall_mem_cons.mpr ⟨mc_20, ?_⟩
  refine List.forall_mem_cons.mpr ⟨mc_21, ?_⟩
  refine List.forall_mem_cons.mpr ⟨mc_22, ?_⟩
  refine List.forall_mem_cons.mpr ⟨mc_23, ?_⟩
  refine List.forall_mem_cons.mpr ⟨mc_24, ?_⟩
  refine List.forall_mem_cons.mpr ⟨mc_25, ?_⟩
  refine List.forall_mem_cons.mpr ⟨mc_26, ?_⟩
  refine List.forall_mem_cons.mpr ⟨mc_27, ?_⟩
  refine List.forall_mem_cons.mpr ⟨mc_28, ?_⟩
  refine List.forall_mem_cons.mpr ⟨mc_29, ?_⟩
  refine List.forall_mem_cons.mpr ⟨mc_30, ?_⟩
  refine List.forall_mem_cons.mpr ⟨mc_31, ?_⟩
  refine List.forall_mem_cons.mpr ⟨mc_32, ?_⟩
  refine List.forall_mem_cons.mpr ⟨mc_33, ?_⟩
  refine List.forall_mem_cons.mpr ⟨mc_34, ?_⟩
  refine List.forall_mem_cons.mpr ⟨mc_35, ?_⟩
  refine List.forall_mem_cons.mpr ⟨mc_36, ?_⟩
  refine List.forall_mem_cons.mpr ⟨mc_37, ?_⟩
  refine List.forall_mem_cons.mpr ⟨mc_38, ?_⟩
  refine List.forall_mem_cons.mpr ⟨mc_39, ?_⟩
  refine List.forall_mem_cons.mpr ⟨mc_40, ?_⟩
  refine List.forall_mem_cons.mpr ⟨mc_41, ?_⟩
  refine List.forall_mem_cons.mpr ⟨mc_42, ?_⟩
  refine List.forall_mem_cons.mpr ⟨mc_43, ?_⟩
  refine List.forall_mem_cons.mpr ⟨mc_44, ?_⟩
  refine List.forall_mem_cons.mpr ⟨mc_45, ?_⟩
  refine List.forall_mem_cons.mpr ⟨mc_46, ?_⟩
  refine List.forall_mem_cons.mpr ⟨mc_47, ?_⟩
  refine List.forall_mem_cons.mpr ⟨mc_48, ?_⟩
  refine List.forall_mem_cons.mpr ⟨mc_49, ?_⟩
  refine List.forall_mem_cons.mpr ⟨mc_50, ?_⟩
  refine List.forall_mem_cons.mpr ⟨mc_51, ?_⟩
  refine List.forall_mem_cons.mpr ⟨mc_52, ?_⟩
  refine List.forall_mem_cons.mpr ⟨mc_53, ?_⟩
  refine List.forall_mem_cons.mpr ⟨mc_54, ?_⟩
  refine List.forall_mem_cons.mpr ⟨mc_55, ?_⟩
  refine List.forall_mem_cons.mpr ⟨mc_56, ?_⟩
  refine List.forall_mem_cons.mpr ⟨mc_57, ?_⟩
  refine List.forall_mem_cons.mpr ⟨mc_58, ?_⟩
  refine List.forall_mem_cons.mpr ⟨mc_59, ?_⟩
  refine List.forall_mem_cons.mpr ⟨mc_60, ?_⟩
  refine List.forall_mem_cons.mpr ⟨mc_61, ?_⟩
  refine List.forall_mem_cons.mpr ⟨mc_62, ?_⟩
  refine List.forall_mem_cons.mpr ⟨mc_63, ?_⟩
  refine List.forall_mem_cons.mpr ⟨mc_64, ?_⟩
  refine List.forall_mem_cons.mpr ⟨mc_65, ?_⟩
  refine List.forall_mem_cons.mpr ⟨mc_66, ?_⟩
  refine List.forall_mem_cons.mpr ⟨mc_67, ?_⟩
  refine List.forall_mem_cons.mpr ⟨mc_68, ?_⟩
  refine List.forall_mem_cons.mpr ⟨mc_69, ?_⟩
  refine List.forall_mem_cons.mpr ⟨mc_70, ?_⟩
  refine List.forall_mem_cons.mpr ⟨mc_71, ?_⟩
  refine List.forall_mem_cons.mpr ⟨mc_72, ?_⟩
  refine List.forall_mem_cons.mpr ⟨mc_73, ?_⟩
  refine List.forall_mem_cons.mpr ⟨mc_74, ?_⟩
  refine List.forall_mem_cons.mpr ⟨mc_75, ?_⟩
  refine List.forall_mem_cons.mpr ⟨mc_76, ?_⟩
  refine List.forall_mem_cons.mpr ⟨mc_77, ?_⟩
  refine List.forall_mem_cons.mpr ⟨mc_78, ?_⟩
  refine List.forall_mem_cons.mpr ⟨mc_79, ?_⟩
  refine List.forall_mem_cons.mpr ⟨mc_80, ?_⟩
  refine List.forall_mem_cons.mpr ⟨mc_81, ?_⟩
  refine List.forall_mem_cons.mpr ⟨mc_82, ?_⟩
  refine List.forall_mem_cons.mpr ⟨mc_83, ?_⟩
  refine List.forall_mem_cons.mpr ⟨mc_84, ?_⟩
  refine List.forall_mem_cons.mpr ⟨mc_85, ?_⟩
  refine List.forall_mem_cons.mpr ⟨mc_86, ?_⟩
  refine List.forall_mem_cons.mpr ⟨mc_87, ?_⟩
  refine List.forall_mem_cons.mpr ⟨mc_88, ?_⟩
  refine List.forall_mem_cons.mpr ⟨mc_89, ?_⟩
  refine List.forall_mem_cons.mpr ⟨mc_90, ?_⟩
  refine List.forall_mem_cons.mpr ⟨mc_91, ?_⟩
  refine List.forall_mem_cons.mpr ⟨mc_92, ?_⟩
  refine List.forall_mem_cons.mpr ⟨mc_93, ?_⟩
  refine List.forall_mem_cons.mpr ⟨mc_94, ?_⟩
  refine List.forall_mem_cons.mpr ⟨mc_95, ?_⟩
  refine List.forall_mem_cons.mpr ⟨mc_96, ?_⟩
  refine List.forall_mem_cons.mpr ⟨mc_97, ?_⟩
  refine List.forall_mem_cons.mpr ⟨mc_98, ?_⟩
  refine List.forall_mem_cons.mpr ⟨mc_99, ?_⟩
  refine List.forall_mem_cons.mpr ⟨mc_100, ?_⟩
  refine List.forall_mem_cons.mpr ⟨mc_101, ?_⟩
  refine List.forall_mem_cons.mpr ⟨mc_102, ?_⟩
  refine List.forall_mem_cons.mpr ⟨mc_103, ?_⟩
  refine List.forall_mem_cons.mpr ⟨mc_104, ?_⟩
  refine List.forall_mem_cons.mpr ⟨mc_105, ?_⟩
  refine List.forall_mem_cons.mpr ⟨mc_106, ?_⟩
  refine List.forall_mem_cons.mpr ⟨mc_107, ?_⟩
  refine List.forall_mem_cons.mpr ⟨mc_108, ?_⟩
  refine List.forall_mem_cons.mpr ⟨mc_109, ?_⟩
  refine List.forall_mem_cons.mpr ⟨mc_110, ?_⟩
  refine List.forall_mem_cons.mpr ⟨mc_111, ?_⟩
  refine List.forall_mem_cons.mpr ⟨mc_112, ?_⟩
  refine List.forall_mem_cons.mpr ⟨mc_113, ?_⟩
  refine List.forall_mem_cons.mpr ⟨mc_114, ?_⟩
  refine List.forall_mem_cons.mpr ⟨mc_115, ?_⟩
  refine List.forall_mem_cons.mpr ⟨mc_116, ?_⟩
  refine List.forall_mem_cons.mpr ⟨mc_117, ?_⟩
  refine List.forall_mem_cons.mpr ⟨mc_118, ?_⟩
  refine List.forall_mem_cons.mpr ⟨mc_119, ?_⟩
  refine List.forall_mem_cons.mpr ⟨mc_120, ?_⟩
  refine List.forall_mem_cons.mpr ⟨mc_121, ?_⟩
  refine List.forall_mem_cons.mpr ⟨mc_122, ?_⟩
  refine List.forall_mem_cons.mpr ⟨mc_123, ?_⟩
  refine List.forall_mem_cons.mpr ⟨mc_124, ?_⟩
  refine List.forall_mem_cons.mpr ⟨mc_125, ?_⟩
  refine List.forall_mem_cons.mpr ⟨mc_126, ?_⟩
  refine List.forall_mem_cons.mpr ⟨mc_127, ?_⟩
  refine List.forall_mem_cons.mpr ⟨mc_128, ?_⟩
  refine List.forall_mem_cons.mpr ⟨mc_129, ?_⟩
  refine List.forall_mem_cons.mpr ⟨mc_130, ?_⟩
  refine List.forall_mem_cons.mpr ⟨mc_131, ?_⟩
  refine List.forall_mem_cons.mpr ⟨mc_132, ?_⟩
  refine List.forall_mem_cons.mpr ⟨mc_133, ?_⟩
  refine List.forall_mem_cons.mpr ⟨mc_134, ?_⟩
  refine List.forall_mem_cons.mpr ⟨mc_135, ?_⟩
  refine List.forall_mem_cons.mpr ⟨mc_136, ?_⟩
  refine List.forall_mem_cons.mpr ⟨mc_137, ?_⟩
  refine List.forall_mem_cons.mpr ⟨mc_138, ?_⟩
  refine List.forall_mem_cons.mpr ⟨mc_139, ?_⟩
  refine List.forall_mem_cons.mpr ⟨mc_140, ?_⟩
  refine List.forall_mem_cons.mpr ⟨mc_141, ?_⟩
  refine List.forall_mem_cons.mpr ⟨mc_142, ?_⟩
  refine List.forall_mem_cons.mpr ⟨mc_143, ?_⟩
  refine List.forall_mem_cons.mpr ⟨mc_144, ?_⟩
  refine List.forall_mem_cons.mpr ⟨mc_145, ?_⟩
  refine List.forall_mem_cons.mpr ⟨mc_146, ?_⟩
  refine List.forall_mem_cons.mpr ⟨mc_147, ?_⟩
  refine List.forall_mem_cons.mpr ⟨mc_148, ?_⟩
  refine List.forall_mem_cons.mpr ⟨mc_149, ?_⟩
  refine List.forall_mem_cons.mpr ⟨mc_150, ?_⟩
  refine List.forall_mem_cons.mpr ⟨mc_151, ?_⟩
  refine List.forall_mem_cons.mpr ⟨mc_152, ?_⟩
  refine List.forall_mem_cons.mpr ⟨mc_153, ?_⟩
  refine List.forall_mem_cons.mpr ⟨mc_154, ?_⟩
  refine List.forall_mem_cons.mpr ⟨mc_155, ?_⟩
  refine List.forall_mem_cons.mpr ⟨mc_156, ?_⟩
  refine List.forall_mem_cons.mpr ⟨mc_157, ?_⟩
  refine List.forall_mem_cons.mpr ⟨mc_158, ?_⟩
  refine List.forall_mem_cons.mpr ⟨mc_159, ?_⟩
  refine List.forall_mem_cons.mpr ⟨mc_160, ?_⟩
  refine List.forall_mem_cons.mpr ⟨mc_161, ?_⟩
  refine List.forall_mem_cons.mpr ⟨mc_162, ?_⟩
  refine List.forall_mem_cons.mpr ⟨mc_163, ?_⟩
  refine List.forall_mem_cons.mpr ⟨mc_164, ?_⟩
  refine List.forall_mem_cons.mpr ⟨mc_165, ?_⟩
  refine List.forall_mem_cons.mpr ⟨mc_166, ?_⟩
  refine List.forall_mem_cons.mpr ⟨mc_167, ?_⟩
  refine List.forall_mem_cons.mpr ⟨mc_168, ?_⟩
  refine List.forall_mem_cons.mpr ⟨mc_169, ?_⟩
  refine List.forall_mem_cons.mpr ⟨mc_170, ?_⟩
  refine List.forall_mem_cons.mpr ⟨mc_171, ?_⟩
  refine List.forall_mem_cons.mpr ⟨mc_172, ?_⟩
  refine List.forall_mem_cons.mpr ⟨mc_173, ?_⟩
  refine List.forall_mem_cons.mpr ⟨mc_174, ?_⟩
  refine List.forall_mem_cons.mpr ⟨mc_175, ?_⟩
  refine List.forall_mem_cons.mpr ⟨mc_176, ?_⟩
  refine List.forall_mem_cons.mpr ⟨mc_177, ?_⟩
  refine List.forall_mem_cons.mpr ⟨mc_178, ?_⟩
  refine List.forall_mem_cons.mpr ⟨mc_179, ?_⟩
  refine List.forall_mem_cons.mpr ⟨mc_180, ?_⟩
  refine List.forall_mem_cons.mpr ⟨mc_181, ?_⟩
  refine List.forall_mem_cons.mpr ⟨mc_182, ?_⟩
  refine List.forall_mem_cons.mpr ⟨mc_183, ?_⟩
  refine List.forall_mem_cons.mpr ⟨mc_184, ?_⟩
  refine List.forall_mem_cons.mpr ⟨mc_185, ?_⟩
  refine List.forall_mem_cons.mpr ⟨mc_186, ?_⟩
  refine List.forall_mem_cons.mpr ⟨mc_187, ?_⟩
  refine List.forall_mem_cons.mpr ⟨mc_188, ?_⟩
  refine List.forall_mem_cons.mpr ⟨mc_189, ?_⟩
  refine List.forall_mem_cons.mpr ⟨mc_190, ?_⟩
  refine List.forall_mem_cons.mpr ⟨mc_191, ?_⟩
  refine List.forall_mem_cons.mpr ⟨mc_192, ?_⟩
  refine List.forall_mem_cons.mpr ⟨mc_193, ?_⟩
  refine List.forall_mem_cons.mpr ⟨mc_194, ?_⟩
  refine List.forall_mem_cons.mpr ⟨mc_195, ?_⟩
  refine List.forall_mem_cons.mpr ⟨mc_196, ?_⟩
  refine List.forall_mem_cons.mpr ⟨mc_197, ?_⟩
  refine List.forall_mem_cons.mpr ⟨mc_198, ?_⟩
  refine List.forall_mem_cons.mpr ⟨mc_199, ?_⟩
  refine List.forall_mem_cons.mpr ⟨mc_200, ?_⟩
  refine List.forall_mem_cons.mpr ⟨mc_201, ?_⟩
  refine List.forall_mem_cons.mpr ⟨mc_202, ?_⟩
  refine List.forall_mem_cons.mpr ⟨mc_203, ?_⟩
  refine List.forall_mem_cons.mpr ⟨mc_204, ?_⟩
  refine List.forall_mem_cons.mpr ⟨mc_205, ?_⟩
  refine List.forall_mem_cons.mpr ⟨mc_206, ?_⟩
  refine List.forall_mem_cons.mpr ⟨mc_207, ?_⟩
  refine List.forall_mem_cons.mpr ⟨mc_208, ?_⟩
  refine List.forall_mem_cons.mpr ⟨mc_209, ?_⟩
  refine List.forall_mem_cons.mpr ⟨mc_210, ?_⟩
  refine List.forall_mem_cons.mpr ⟨mc_211, ?_⟩
  refine List.forall_mem_cons.mpr ⟨mc_212, ?_⟩
  refine List.forall_mem_cons.mpr ⟨mc_213, ?_⟩
  refine List.forall_mem_cons.mpr ⟨mc_214, ?_⟩
  refine List.forall_mem_cons.mpr ⟨mc_215, ?_⟩
  refine List.forall_mem_cons.mpr ⟨mc_216, ?_⟩
  refine List.forall_mem_cons.mpr ⟨mc_217, ?_⟩
  refine List.forall_mem_cons.mpr ⟨mc_218, ?_⟩
  refine List.forall_mem_cons.mpr ⟨mc_219, ?_⟩
  refine List.forall_mem_cons.mpr ⟨mc_220, ?_⟩
  refine List.forall_mem_cons.mpr ⟨mc_221, ?_⟩
  refine List.forall_mem_cons.mpr ⟨mc_222, ?_⟩
  refine List.forall_mem_cons.mpr ⟨mc_223, ?_⟩
  refine List.forall_mem_cons.mpr ⟨mc_224, ?_⟩
  exact fun _ h => absurd h List.not_mem_nil
theorem ct_0 : CTok ((9, 115), (0, 100000)) := Or.inl ⟨rfl, by unfold r32; decide, tb_at 174 (by decide +kernel) rfl⟩
theorem ct_1 : CTok ((7, 78), (1, 0)) := Or.inr (Or.inl ⟨rfl, by decide +kernel⟩)
theorem ct_2 : CTok ((9, 89), (1, 0)) := Or.inr (Or.inl ⟨rfl, by decide +kernel⟩)
theorem ct_3 : CTok ((11, 87), (0, 100000)) := Or.inl ⟨rfl, by unfold r32; decide, tb_at 611 (by decide +kernel) rfl⟩
theorem ct_4 : CTok ((11, 161), (2, 10)) := Or.inr (Or.inr ⟨rfl, by unfold r64; decide, tb_at 718 (by decide +kernel) rfl⟩)
theorem ct_5 : CTok ((11, 256), (2, 4000000000000000000)) := Or.inr (Or.inr ⟨rfl, by unfold r64; decide, tb_at 797 (by decide +kernel) rfl⟩)
theorem ct_6 : CTok ((18, 265), (0, 1431655765)) := Or.inl ⟨rfl, by unfold r32; decide, tb_at 852 (by decide +kernel) rfl⟩
theorem ct_7 : CTok ((18, 266), (0, 858993459)) := Or.inl ⟨rfl, by unfold r32; decide, tb_at 853 (by decide +kernel) rfl⟩
theorem ct_8 : CTok ((18, 267), (0, 252645135)) := Or.inl ⟨rfl, by unfold r32; decide, tb_at 854 (by decide +kernel) rfl⟩
theorem ct_9 : CTok ((5, 143), (0, 1664525)) := Or.inl ⟨rfl, by unfold r32; decide, tb_at 875 (by decide +kernel) rfl⟩
theorem ct_10 : CTok ((5, 144), (0, 1013904223)) := Or.inl ⟨rfl, by unfold r32; decide, tb_at 876 (by decide +kernel) rfl⟩
theorem ct_11 : CTok ((5, 145), (0, 2147483647)) := Or.inl ⟨rfl, by unfold r32; decide, tb_at 877 (by decide +kernel) rfl⟩
theorem ct_12 : CTok ((12, 131), (2, 255)) := Or.inr (Or.inr ⟨rfl, by unfold r64; decide, tb_at 1077 (by decide +kernel) rfl⟩)
theorem ct_13 : CTok ((12, 116), (0, 100000)) := Or.inl ⟨rfl, by unfold r32; decide, tb_at 1152 (by decide +kernel) rfl⟩
theorem ct_14 : CTok ((12, 245), (2, 10)) := Or.inr (Or.inr ⟨rfl, by unfold r64; decide, tb_at 1221 (by decide +kernel) rfl⟩)
theorem ct_15 : CTok ((12, 111), (2, 4000000000000000000)) := Or.inr (Or.inr ⟨rfl, by unfold r64; decide, tb_at 1266 (by decide +kernel) rfl⟩)
theorem ct_16 : CTok ((12, 291), (0, 1664525)) := Or.inl ⟨rfl, by unfold r32; decide, tb_at 1317 (by decide +kernel) rfl⟩
theorem ct_17 : CTok ((12, 292), (0, 1013904223)) := Or.inl ⟨rfl, by unfold r32; decide, tb_at 1318 (by decide +kernel) rfl⟩
theorem ct_18 : CTok ((12, 293), (0, 2147483647)) := Or.inl ⟨rfl, by unfold r32; decide, tb_at 1319 (by decide +kernel) rfl⟩
theorem ct_19 : CTok ((13, 13), (2, 4294967295)) := Or.inr (Or.inr ⟨rfl, by unfold r64; decide, tb_at 1340 (by decide +kernel) rfl⟩)
theorem CT_ok : ∀ q ∈ CT, CTok q := by
  unfold CT
  refine List.forall_mem_cons.mpr ⟨ct_0, ?_⟩
  refine List.forall_mem_cons.mpr ⟨ct_1, ?_⟩
  refine List.forall_mem_cons.mpr ⟨ct_2, ?_⟩
  refine List.forall_mem_cons.mpr ⟨ct_3, ?_⟩
  refine List.forall_mem_cons.mpr ⟨ct_4, ?_⟩
  refine List.forall_mem_cons.mpr ⟨ct_5, ?_⟩
  refine List.forall_mem_cons.mpr ⟨ct_6, ?_⟩
  refine List.forall_mem_cons.mpr ⟨ct_7, ?_⟩
  refine List.forall_mem_cons.mpr ⟨ct_8, ?_⟩
  refine List.forall_mem_cons.mpr ⟨ct_9, ?_⟩
  refine List.forall_mem_cons.mpr ⟨ct_10, ?_⟩
  refine List.forall_mem_cons.mpr ⟨ct_11, ?_⟩
  refine List.forall_mem_cons.mpr ⟨ct_12, ?_⟩
  refine List.forall_mem_cons.mpr ⟨ct_13, ?_⟩
  refine List.forall_mem_cons.mpr ⟨ct_14, ?_⟩
  refine List.forall_mem_cons.mpr ⟨ct_15, ?_⟩
  refine List.forall_mem_cons.mpr ⟨ct_16, ?_⟩
  refine List.forall_mem_cons.mpr ⟨ct_17, ?_⟩
  refine List.forall_mem_cons.mpr ⟨ct_18, ?_⟩
  refine List.forall_mem_cons.mpr ⟨ct_19, ?_⟩
  exact fun _ h => absurd h List.not_mem_nil
theorem nt_0 : NTok ((13, 7), 10) := ⟨by decide, tb_at 81 (by decide +kernel) rfl, tb_at 82 (by decide +kernel) rfl, tb_at 59 (by decide +kernel) rfl⟩
theorem nt_1 : NTok ((11, 7), 8) := ⟨by decide, tb_at 89 (by decide +kernel) rfl, tb_at 90 (by decide +kernel) rfl, tb_at 60 (by decide +kernel) rfl⟩
theorem nt_2 : NTok ((9, 58), 4) := ⟨by decide, tb_at 97 (by decide +kernel) rfl, tb_at 98 (by decide +kernel) rfl, tb_at 61 (by decide +kernel) rfl⟩
theorem nt_3 : NTok ((9, 65), 6) := ⟨by decide, tb_at 126 (by decide +kernel) rfl, tb_at 127 (by decide +kernel) rfl, tb_at 63 (by decide +kernel) rfl⟩
theorem nt_4 : NTok ((11, 26), 7) := ⟨by decide, tb_at 246 (by decide +kernel) rfl, tb_at 247 (by decide +kernel) rfl, tb_at 64 (by decide +kernel) rfl⟩
theorem nt_5 : NTok ((11, 33), 5) := ⟨by decide, tb_at 277 (by decide +kernel) rfl, tb_at 278 (by decide +kernel) rfl, tb_at 65 (by decide +kernel) rfl⟩
theorem nt_6 : NTok ((5, 9), 4) := ⟨by decide, tb_at 283 (by decide +kernel) rfl, tb_at 98 (by decide +kernel) rfl, tb_at 61 (by decide +kernel) rfl⟩
theorem nt_7 : NTok ((9, 100), 0) := ⟨by decide, tb_at 526 (by decide +kernel) rfl, tb_at 527 (by decide +kernel) rfl, tb_at 74 (by decide +kernel) rfl⟩
theorem nt_8 : NTok ((9, 103), 1) := ⟨by decide, tb_at 539 (by decide +kernel) rfl, tb_at 540 (by decide +kernel) rfl, tb_at 75 (by decide +kernel) rfl⟩
theorem nt_9 : NTok ((9, 106), 9) := ⟨by decide, tb_at 551 (by decide +kernel) rfl, tb_at 552 (by decide +kernel) rfl, tb_at 76 (by decide +kernel) rfl⟩
theorem nt_10 : NTok ((9, 109), 2) := ⟨by decide, tb_at 563 (by decide +kernel) rfl, tb_at 564 (by decide +kernel) rfl, tb_at 77 (by decide +kernel) rfl⟩
theorem nt_11 : NTok ((9, 112), 3) := ⟨by decide, tb_at 575 (by decide +kernel) rfl, tb_at 576 (by decide +kernel) rfl, tb_at 78 (by decide +kernel) rfl⟩
theorem nt_12 : NTok ((13, 10), 11) := ⟨by decide, tb_at 912 (by decide +kernel) rfl, tb_at 913 (by decide +kernel) rfl, tb_at 66 (by decide +kernel) rfl⟩
theorem NT_ok : ∀ q ∈ NT, NTok q := by
  unfold NT
  refine List.forall_mem_cons.mpr ⟨nt_0, ?_⟩
  refine List.forall_mem_cons.mpr ⟨nt_1, ?_⟩
  refine List.forall_mem_cons.mpr ⟨nt_2, ?_⟩
  refine List.forall_mem_cons.mpr ⟨nt_3, ?_⟩
  refine List.forall_mem_cons.mpr ⟨nt_4, ?_⟩
  refine List.forall_mem_cons.mpr ⟨nt_5, ?_⟩
  refine List.forall_mem_cons.mpr ⟨nt_6, ?_⟩
  refine List.forall_mem_cons.mpr ⟨nt_7, ?_⟩
  refine List.forall_mem_cons.mpr ⟨nt_8, ?_⟩
  refine List.forall_mem_cons.mpr ⟨nt_9, ?_⟩
  refine List.forall_mem_cons.mpr ⟨nt_10, ?_⟩
  refine List.forall_mem_cons.mpr ⟨nt_11, ?_⟩
  refine List.forall_mem_cons.mpr ⟨nt_12, ?_⟩
  exact fun _ h => absurd h List.not_mem_nil
theorem AT_ok : ∀ q ∈ AT, Cond.classLink (cn q.1) q.2 thingN ∈ TB := List.forall_mem_cons.mpr ⟨tb_at 95 (by decide +kernel) rfl, fun _ h => absurd h List.not_mem_nil⟩
theorem ST_ok0 : Cond.fieldLink (cn 14) 38 "java/lang/String" "COMPACT_STRINGS" "Z" ∈ TB := tb_at 421 (by decide +kernel) rfl
theorem ST_ok1 : Cond.fieldLink (cn 14) 1053 "jdk/internal/util/Preconditions" "SIOOBE_FORMATTER" "Ljava/util/function/BiFunction;" ∈ TB := tb_at 462 (by decide +kernel) rfl
theorem OI_ok : Cond.instanceMethod objectInit ∈ TB := tb_at 87 (by decide +kernel) rfl
theorem OI_code : Cond.code objectInit ⟨#[0xb1]⟩ 1 none ∈ TB := tb_at 88 (by decide +kernel) rfl
theorem AC_nat : Cond.native arraycopyName ∈ TB := tb_at 369 (by decide +kernel) rfl
theorem AC_stat : Cond.static arraycopyName ∈ TB := tb_at 368 (by decide +kernel) rfl
theorem AC_ini : Cond.initialized "java/lang/System" ∈ TB := tb_at 68 (by decide +kernel) rfl
theorem MM_max : Cond.static Lib.Math.max.name ∈ TB ∧ Cond.code Lib.Math.max.name Lib.Math.max.code 2 (some .int) ∈ TB := ⟨tb_at 438 (by decide +kernel) rfl, tb_at 439 (by decide +kernel) rfl⟩
theorem MM_min : Cond.static Lib.Math.min.name ∈ TB ∧ Cond.code Lib.Math.min.name Lib.Math.min.code 2 (some .int) ∈ TB := ⟨tb_at 365 (by decide +kernel) rfl, tb_at 366 (by decide +kernel) rfl⟩
theorem MM_maxl : Cond.static Lib.MathLoose.max_long.x ∈ TB ∧ Cond.code Lib.MathLoose.max_long.x Lib.MathLoose.max_long.code 4 (some .long) ∈ TB := ⟨tb_at 814 (by decide +kernel) rfl, tb_at 815 (by decide +kernel) rfl⟩
theorem MM_ini : Cond.initialized "java/lang/Math" ∈ TB := tb_at 67 (by decide +kernel) rfl
theorem AR_int : Cond.arrayClass .int ∈ TB := tb_at 125 (by decide +kernel) rfl
theorem AR_long : Cond.arrayClass .long ∈ TB := tb_at 344 (by decide +kernel) rfl
theorem AR_byte : Cond.arrayClass .byte ∈ TB := tb_at 538 (by decide +kernel) rfl
theorem lay_X0 : ∀ w ∈ u_ws RX0 TX0 5, w ∈ TB := by
  intro w hw
  obtain ⟨k, hk, rfl⟩ := List.mem_map.mp hw
  have hk := List.mem_range.mp hk
  have h : ∀ k, k < 5 → u_lay RX0 TX0 k ∈ TB := by
    have q1 := @lt_s 0 (fun k => u_lay RX0 TX0 k ∈ TB) lt_0 (tb_at 532 (by decide +kernel) (by decide +kernel))
    have q2 := @lt_s 1 (fun k => u_lay RX0 TX0 k ∈ TB) q1 (tb_at 533 (by decide +kernel) (by decide +kernel))
    have q3 := @lt_s 2 (fun k => u_lay RX0 TX0 k ∈ TB) q2 (tb_at 534 (by decide +kernel) (by decide +kernel))
    have q4 := @lt_s 3 (fun k => u_lay RX0 TX0 k ∈ TB) q3 (tb_at 535 (by decide +kernel) (by decide +kernel))
    have q5 := @lt_s 4 (fun k => u_lay RX0 TX0 k ∈ TB) q4 (tb_at 536 (by decide +kernel) (by decide +kernel))
    exact q5
  exact h k hk
theorem lay_X1 : ∀ w ∈ u_ws RX1 TX1 5, w ∈ TB := by
  intro w hw
  obtain ⟨k, hk, rfl⟩ := List.mem_map.mp hw
  have hk := List.mem_range.mp hk
  have h : ∀ k, k < 5 → u_lay RX1 TX1 k ∈ TB := by
    have q1 := @lt_s 0 (fun k => u_lay RX1 TX1 k ∈ TB) lt_0 (tb_at 545 (by decide +kernel) (by decide +kernel))
    have q2 := @lt_s 1 (fun k => u_lay RX1 TX1 k ∈ TB) q1 (tb_at 546 (by decide +kernel) (by decide +kernel))
    have q3 := @lt_s 2 (fun k => u_lay RX1 TX1 k ∈ TB) q2 (tb_at 547 (by decide +kernel) (by decide +kernel))
    have q4 := @lt_s 3 (fun k => u_lay RX1 TX1 k ∈ TB) q3 (tb_at 548 (by decide +kernel) (by decide +kernel))
    have q5 := @lt_s 4 (fun k => u_lay RX1 TX1 k ∈ TB) q4 (tb_at 549 (by decide +kernel) (by decide +kernel))
    exact q5
  exact h k hk
theorem lay_X2 : ∀ w ∈ u_ws RX2 TX2 5, w ∈ TB := by
  intro w hw
  obtain ⟨k, hk, rfl⟩ := List.mem_map.mp hw
  have hk := List.mem_range.mp hk
  have h : ∀ k, k < 5 → u_lay RX2 TX2 k ∈ TB := by
    have q1 := @lt_s 0 (fun k => u_lay RX2 TX2 k ∈ TB) lt_0 (tb_at 569 (by decide +kernel) (by decide +kernel))
    have q2 := @lt_s 1 (fun k => u_lay RX2 TX2 k ∈ TB) q1 (tb_at 570 (by decide +kernel) (by decide +kernel))
    have q3 := @lt_s 2 (fun k => u_lay RX2 TX2 k ∈ TB) q2 (tb_at 571 (by decide +kernel) (by decide +kernel))
    have q4 := @lt_s 3 (fun k => u_lay RX2 TX2 k ∈ TB) q3 (tb_at 572 (by decide +kernel) (by decide +kernel))
    have q5 := @lt_s 4 (fun k => u_lay RX2 TX2 k ∈ TB) q4 (tb_at 573 (by decide +kernel) (by decide +kernel))
    exact q5
  exact h k hk
theorem lay_X3 : ∀ w ∈ u_ws RX3 TX3 5, w ∈ TB := by
  intro w hw
  obtain ⟨k, hk, rfl⟩ := List.mem_map.mp hw
  have hk := List.mem_range.mp hk
  have h : ∀ k, k < 5 → u_lay RX3 TX3 k ∈ TB := by
    have q1 := @lt_s 0 (fun k => u_lay RX3 TX3 k ∈ TB) lt_0 (tb_at 581 (by decide +kernel) (by decide +kernel))
    have q2 := @lt_s 1 (fun k => u_lay RX3 TX3 k ∈ TB) q1 (tb_at 582 (by decide +kernel) (by decide +kernel))
    have q3 := @lt_s 2 (fun k => u_lay RX3 TX3 k ∈ TB) q2 (tb_at 583 (by decide +kernel) (by decide +kernel))
    have q4 := @lt_s 3 (fun k => u_lay RX3 TX3 k ∈ TB) q3 (tb_at 584 (by decide +kernel) (by decide +kernel))
    have q5 := @lt_s 4 (fun k => u_lay RX3 TX3 k ∈ TB) q4 (tb_at 585 (by decide +kernel) (by decide +kernel))
    exact q5
  exact h k hk
theorem lay_X4 : ∀ w ∈ u_ws RX4 TX4 4, w ∈ TB := by
  intro w hw
  obtain ⟨k, hk, rfl⟩ := List.mem_map.mp hw
  have hk := List.mem_range.mp hk
  have h : ∀ k, k < 4 → u_lay RX4 TX4 k ∈ TB := by
    have q1 := @lt_s 0 (fun k => u_lay RX4 TX4 k ∈ TB) lt_0 (tb_at 116 (by decide +kernel) (by decide +kernel))
    have q2 := @lt_s 1 (fun k => u_lay RX4 TX4 k ∈ TB) q1 (tb_at 118 (by decide +kernel) (by decide +kernel))
    have q3 := @lt_s 2 (fun k => u_lay RX4 TX4 k ∈ TB) q2 (tb_at 120 (by decide +kernel) (by decide +kernel))
    have q4 := @lt_s 3 (fun k => u_lay RX4 TX4 k ∈ TB) q3 (tb_at 122 (by decide +kernel) (by decide +kernel))
    exact q4
  exact h k hk
theorem lay_X5 : ∀ w ∈ u_ws RX5 TX5 5, w ∈ TB := by
  intro w hw
  obtain ⟨k, hk, rfl⟩ := List.mem_map.mp hw
  have hk := List.mem_range.mp hk
  have h : ∀ k, k < 5 → u_lay RX5 TX5 k ∈ TB := by
    have q1 := @lt_s 0 (fun k => u_lay RX5 TX5 k ∈ TB) lt_0 (tb_at 293 (by decide +kernel) (by decide +kernel))
    have q2 := @lt_s 1 (fun k => u_lay RX5 TX5 k ∈ TB) q1 (tb_at 295 (by decide +kernel) (by decide +kernel))
    have q3 := @lt_s 2 (fun k => u_lay RX5 TX5 k ∈ TB) q2 (tb_at 297 (by decide +kernel) (by decide +kernel))
    have q4 := @lt_s 3 (fun k => u_lay RX5 TX5 k ∈ TB) q3 (tb_at 299 (by decide +kernel) (by decide +kernel))
    have q5 := @lt_s 4 (fun k => u_lay RX5 TX5 k ∈ TB) q4 (tb_at 301 (by decide +kernel) (by decide +kernel))
    exact q5
  exact h k hk
theorem lay_X6 : ∀ w ∈ u_ws RX6 TX6 5, w ∈ TB := by
  intro w hw
  obtain ⟨k, hk, rfl⟩ := List.mem_map.mp hw
  have hk := List.mem_range.mp hk
  have h : ∀ k, k < 5 → u_lay RX6 TX6 k ∈ TB := by
    have q1 := @lt_s 0 (fun k => u_lay RX6 TX6 k ∈ TB) lt_0 (tb_at 159 (by decide +kernel) (by decide +kernel))
    have q2 := @lt_s 1 (fun k => u_lay RX6 TX6 k ∈ TB) q1 (tb_at 161 (by decide +kernel) (by decide +kernel))
    have q3 := @lt_s 2 (fun k => u_lay RX6 TX6 k ∈ TB) q2 (tb_at 163 (by decide +kernel) (by decide +kernel))
    have q4 := @lt_s 3 (fun k => u_lay RX6 TX6 k ∈ TB) q3 (tb_at 165 (by decide +kernel) (by decide +kernel))
    have q5 := @lt_s 4 (fun k => u_lay RX6 TX6 k ∈ TB) q4 (tb_at 167 (by decide +kernel) (by decide +kernel))
    exact q5
  exact h k hk
theorem lay_X7 : ∀ w ∈ u_ws RX7 TX7 8, w ∈ TB := by
  intro w hw
  obtain ⟨k, hk, rfl⟩ := List.mem_map.mp hw
  have hk := List.mem_range.mp hk
  have h : ∀ k, k < 8 → u_lay RX7 TX7 k ∈ TB := by
    have q1 := @lt_s 0 (fun k => u_lay RX7 TX7 k ∈ TB) lt_0 (tb_at 260 (by decide +kernel) (by decide +kernel))
    have q2 := @lt_s 1 (fun k => u_lay RX7 TX7 k ∈ TB) q1 (tb_at 262 (by decide +kernel) (by decide +kernel))
    have q3 := @lt_s 2 (fun k => u_lay RX7 TX7 k ∈ TB) q2 (tb_at 264 (by decide +kernel) (by decide +kernel))
    have q4 := @lt_s 3 (fun k => u_lay RX7 TX7 k ∈ TB) q3 (tb_at 266 (by decide +kernel) (by decide +kernel))
    have q5 := @lt_s 4 (fun k => u_lay RX7 TX7 k ∈ TB) q4 (tb_at 268 (by decide +kernel) (by decide +kernel))
    have q6 := @lt_s 5 (fun k => u_lay RX7 TX7 k ∈ TB) q5 (tb_at 270 (by decide +kernel) (by decide +kernel))
    have q7 := @lt_s 6 (fun k => u_lay RX7 TX7 k ∈ TB) q6 (tb_at 272 (by decide +kernel) (by decide +kernel))
    have q8 := @lt_s 7 (fun k => u_lay RX7 TX7 k ∈ TB) q7 (tb_at 274 (by decide +kernel) (by decide +kernel))
    exact q8
  exact h k hk
theorem lay_X9 : ∀ w ∈ u_ws RX9 TX9 15, w ∈ TB := by
  intro w hw
  obtain ⟨k, hk, rfl⟩ := List.mem_map.mp hw
  have hk := List.mem_range.mp hk
  have h : ∀ k, k < 15 → u_lay RX9 TX9 k ∈ TB := by
    have q1 := @lt_s 0 (fun k => u_lay RX9 TX9 k ∈ TB) lt_0 (tb_at 215 (by decide +kernel) (by decide +kernel))
    have q2 := @lt_s 1 (fun k => u_lay RX9 TX9 k ∈ TB) q1 (tb_at 217 (by decide +kernel) (by decide +kernel))
    have q3 := @lt_s 2 (fun k => u_lay RX9 TX9 k ∈ TB) q2 (tb_at 219 (by decide +kernel) (by decide +kernel))
    have q4 := @lt_s 3 (fun k => u_lay RX9 TX9 k ∈ TB) q3 (tb_at 221 (by decide +kernel) (by decide +kernel))
    have q5 := @lt_s 4 (fun k => u_lay RX9 TX9 k ∈ TB) q4 (tb_at 223 (by decide +kernel) (by decide +kernel))
    have q6 := @lt_s 5 (fun k => u_lay RX9 TX9 k ∈ TB) q5 (tb_at 225 (by decide +kernel) (by decide +kernel))
    have q7 := @lt_s 6 (fun k => u_lay RX9 TX9 k ∈ TB) q6 (tb_at 227 (by decide +kernel) (by decide +kernel))
    have q8 := @lt_s 7 (fun k => u_lay RX9 TX9 k ∈ TB) q7 (tb_at 229 (by decide +kernel) (by decide +kernel))
    have q9 := @lt_s 8 (fun k => u_lay RX9 TX9 k ∈ TB) q8 (tb_at 231 (by decide +kernel) (by decide +kernel))
    have q10 := @lt_s 9 (fun k => u_lay RX9 TX9 k ∈ TB) q9 (tb_at 233 (by decide +kernel) (by decide +kernel))
    have q11 := @lt_s 10 (fun k => u_lay RX9 TX9 k ∈ TB) q10 (tb_at 235 (by decide +kernel) (by decide +kernel))
    have q12 := @lt_s 11 (fun k => u_lay RX9 TX9 k ∈ TB) q11 (tb_at 237 (by decide +kernel) (by decide +kernel))
    have q13 := @lt_s 12 (fun k => u_lay RX9 TX9 k ∈ TB) q12 (tb_at 239 (by decide +kernel) (by decide +kernel))
    have q14 := @lt_s 13 (fun k => u_lay RX9 TX9 k ∈ TB) q13 (tb_at 241 (by decide +kernel) (by decide +kernel))
    have q15 := @lt_s 14 (fun k => u_lay RX9 TX9 k ∈ TB) q14 (tb_at 243 (by decide +kernel) (by decide +kernel))
    exact q15
  exact h k hk
theorem lay_X10 : ∀ w ∈ u_ws RX10 TX10 5, w ∈ TB := by
  intro w hw
  obtain ⟨k, hk, rfl⟩ := List.mem_map.mp hw
  have hk := List.mem_range.mp hk
  have h : ∀ k, k < 5 → u_lay RX10 TX10 k ∈ TB := by
    have q1 := @lt_s 0 (fun k => u_lay RX10 TX10 k ∈ TB) lt_0 (tb_at 557 (by decide +kernel) (by decide +kernel))
    have q2 := @lt_s 1 (fun k => u_lay RX10 TX10 k ∈ TB) q1 (tb_at 558 (by decide +kernel) (by decide +kernel))
    have q3 := @lt_s 2 (fun k => u_lay RX10 TX10 k ∈ TB) q2 (tb_at 559 (by decide +kernel) (by decide +kernel))
    have q4 := @lt_s 3 (fun k => u_lay RX10 TX10 k ∈ TB) q3 (tb_at 560 (by decide +kernel) (by decide +kernel))
    have q5 := @lt_s 4 (fun k => u_lay RX10 TX10 k ∈ TB) q4 (tb_at 561 (by decide +kernel) (by decide +kernel))
    exact q5
  exact h k hk
theorem lay_X11 : ∀ w ∈ u_ws RX11 TX11 13, w ∈ TB := by
  intro w hw
  obtain ⟨k, hk, rfl⟩ := List.mem_map.mp hw
  have hk := List.mem_range.mp hk
  have h : ∀ k, k < 13 → u_lay RX11 TX11 k ∈ TB := by
    have q1 := @lt_s 0 (fun k => u_lay RX11 TX11 k ∈ TB) lt_0 (tb_at 317 (by decide +kernel) (by decide +kernel))
    have q2 := @lt_s 1 (fun k => u_lay RX11 TX11 k ∈ TB) q1 (tb_at 319 (by decide +kernel) (by decide +kernel))
    have q3 := @lt_s 2 (fun k => u_lay RX11 TX11 k ∈ TB) q2 (tb_at 321 (by decide +kernel) (by decide +kernel))
    have q4 := @lt_s 3 (fun k => u_lay RX11 TX11 k ∈ TB) q3 (tb_at 323 (by decide +kernel) (by decide +kernel))
    have q5 := @lt_s 4 (fun k => u_lay RX11 TX11 k ∈ TB) q4 (tb_at 325 (by decide +kernel) (by decide +kernel))
    have q6 := @lt_s 5 (fun k => u_lay RX11 TX11 k ∈ TB) q5 (tb_at 327 (by decide +kernel) (by decide +kernel))
    have q7 := @lt_s 6 (fun k => u_lay RX11 TX11 k ∈ TB) q6 (tb_at 329 (by decide +kernel) (by decide +kernel))
    have q8 := @lt_s 7 (fun k => u_lay RX11 TX11 k ∈ TB) q7 (tb_at 331 (by decide +kernel) (by decide +kernel))
    have q9 := @lt_s 8 (fun k => u_lay RX11 TX11 k ∈ TB) q8 (tb_at 333 (by decide +kernel) (by decide +kernel))
    have q10 := @lt_s 9 (fun k => u_lay RX11 TX11 k ∈ TB) q9 (tb_at 335 (by decide +kernel) (by decide +kernel))
    have q11 := @lt_s 10 (fun k => u_lay RX11 TX11 k ∈ TB) q10 (tb_at 337 (by decide +kernel) (by decide +kernel))
    have q12 := @lt_s 11 (fun k => u_lay RX11 TX11 k ∈ TB) q11 (tb_at 339 (by decide +kernel) (by decide +kernel))
    have q13 := @lt_s 12 (fun k => u_lay RX11 TX11 k ∈ TB) q12 (tb_at 341 (by decide +kernel) (by decide +kernel))
    exact q13
  exact h k hk
theorem lay_X12 : ∀ w ∈ u_ws RX12 TX12 49, w ∈ TB := by
  intro w hw
  obtain ⟨k, hk, rfl⟩ := List.mem_map.mp hw
  have hk := List.mem_range.mp hk
  have h : ∀ k, k < 49 → u_lay RX12 TX12 k ∈ TB := by
    have q1 := @lt_s 0 (fun k => u_lay RX12 TX12 k ∈ TB) lt_0 (tb_at 967 (by decide +kernel) (by decide +kernel))
    have q2 := @lt_s 1 (fun k => u_lay RX12 TX12 k ∈ TB) q1 (tb_at 969 (by decide +kernel) (by decide +kernel))
    have q3 := @lt_s 2 (fun k => u_lay RX12 TX12 k ∈ TB) q2 (tb_at 971 (by decide +kernel) (by decide +kernel))
    have q4 := @lt_s 3 (fun k => u_lay RX12 TX12 k ∈ TB) q3 (tb_at 973 (by decide +kernel) (by decide +kernel))
    have q5 := @lt_s 4 (fun k => u_lay RX12 TX12 k ∈ TB) q4 (tb_at 975 (by decide +kernel) (by decide +kernel))
    have q6 := @lt_s 5 (fun k => u_lay RX12 TX12 k ∈ TB) q5 (tb_at 977 (by decide +kernel) (by decide +kernel))
    have q7 := @lt_s 6 (fun k => u_lay RX12 TX12 k ∈ TB) q6 (tb_at 979 (by decide +kernel) (by decide +kernel))
    have q8 := @lt_s 7 (fun k => u_lay RX12 TX12 k ∈ TB) q7 (tb_at 981 (by decide +kernel) (by decide +kernel))
    have q9 := @lt_s 8 (fun k => u_lay RX12 TX12 k ∈ TB) q8 (tb_at 983 (by decide +kernel) (by decide +kernel))
    have q10 := @lt_s 9 (fun k => u_lay RX12 TX12 k ∈ TB) q9 (tb_at 985 (by decide +kernel) (by decide +kernel))
    have q11 := @lt_s 10 (fun k => u_lay RX12 TX12 k ∈ TB) q10 (tb_at 987 (by decide +kernel) (by decide +kernel))
    have q12 := @lt_s 11 (fun k => u_lay RX12 TX12 k ∈ TB) q11 (tb_at 989 (by decide +kernel) (by decide +kernel))
    have q13 := @lt_s 12 (fun k => u_lay RX12 TX12 k ∈ TB) q12 (tb_at 991 (by decide +kernel) (by decide +kernel))
    have q14 := @lt_s 13 (fun k => u_lay RX12 TX12 k ∈ TB) q13 (tb_at 993 (by decide +kernel) (by decide +kernel))
    have q15 := @lt_s 14 (fun k => u_lay RX12 TX12 k ∈ TB) q14 (tb_at 995 (by decide +kernel) (by decide +kernel))
    have q16 := @lt_s 15 (fun k => u_lay RX12 TX12 k ∈ TB) q15 (tb_at 997 (by decide +kernel) (by decide +kernel))
    have q17 := @lt_s 16 (fun k => u_lay RX12 TX12 k ∈ TB) q16 (tb_at 999 (by decide +kernel) (by decide +kernel))
    have q18 := @lt_s 17 (fun k => u_lay RX12 TX12 k ∈ TB) q17 (tb_at 1001 (by decide +kernel) (by decide +kernel))
    have q19 := @lt_s 18 (fun k => u_lay RX12 TX12 k ∈ TB) q18 (tb_at 1003 (by decide +kernel) (by decide +kernel))
    have q20 := @lt_s 19 (fun k => u_lay RX12 TX12 k ∈ TB) q19 (tb_at 1005 (by decide +kernel) (by decide +kernel))
    have q21 := @lt_s 20 (fun k => u_lay RX12 TX12 k ∈ TB) q20 (tb_at 1007 (by decide +kernel) (by decide +kernel))
    have q22 := @lt_s 21 (fun k => u_lay RX12 TX12 k ∈ TB) q21 (tb_at 1009 (by decide +kernel) (by decide +kernel))
    have q23 := @lt_s 22 (fun k => u_lay RX12 TX12 k ∈ TB) q22 (tb_at 1011 (by decide +kernel) (by decide +kernel))
    have q24 := @lt_s 23 (fun k => u_lay RX12 TX12 k ∈ TB) q23 (tb_at 1013 (by decide +kernel) (by decide +kernel))
    have q25 := @lt_s 24 (fun k => u_lay RX12 TX12 k ∈ TB) q24 (tb_at 1015 (by decide +kernel) (by decide +kernel))
    have q26 := @lt_s 25 (fun k => u_lay RX12 TX12 k ∈ TB) q25 (tb_at 1017 (by decide +kernel) (by decide +kernel))
    have q27 := @lt_s 26 (fun k => u_lay RX12 TX12 k ∈ TB) q26 (tb_at 1019 (by decide +kernel) (by decide +kernel))
    have q28 := @lt_s 27 (fun k => u_lay RX12 TX12 k ∈ TB) q27 (tb_at 1021 (by decide +kernel) (by decide +kernel))
    have q29 := @lt_s 28 (fun k => u_lay RX12 TX12 k ∈ TB) q28 (tb_at 1023 (by decide +kernel) (by decide +kernel))
    have q30 := @lt_s 29 (fun k => u_lay RX12 TX12 k ∈ TB) q29 (tb_at 1025 (by decide +kernel) (by decide +kernel))
    have q31 := @lt_s 30 (fun k => u_lay RX12 TX12 k ∈ TB) q30 (tb_at 1027 (by decide +kernel) (by decide +kernel))
    have q32 := @lt_s 31 (fun k => u_lay RX12 TX12 k ∈ TB) q31 (tb_at 1029 (by decide +kernel) (by decide +kernel))
    have q33 := @lt_s 32 (fun k => u_lay RX12 TX12 k ∈ TB) q32 (tb_at 1031 (by decide +kernel) (by decide +kernel))
    have q34 := @lt_s 33 (fun k => u_lay RX12 TX12 k ∈ TB) q33 (tb_at 1033 (by decide +kernel) (by decide +kernel))
    have q35 := @lt_s 34 (fun k => u_lay RX12 TX12 k ∈ TB) q34 (tb_at 1035 (by decide +kernel) (by decide +kernel))
    have q36 := @lt_s 35 (fun k => u_lay RX12 TX12 k ∈ TB) q35 (tb_at 1037 (by decide +kernel) (by decide +kernel))
    have q37 := @lt_s 36 (fun k => u_lay RX12 TX12 k ∈ TB) q36 (tb_at 1039 (by decide +kernel) (by decide +kernel))
    have q38 := @lt_s 37 (fun k => u_lay RX12 TX12 k ∈ TB) q37 (tb_at 1041 (by decide +kernel) (by decide +kernel))
    have q39 := @lt_s 38 (fun k => u_lay RX12 TX12 k ∈ TB) q38 (tb_at 1043 (by decide +kernel) (by decide +kernel))
    have q40 := @lt_s 39 (fun k => u_lay RX12 TX12 k ∈ TB) q39 (tb_at 1045 (by decide +kernel) (by decide +kernel))
    have q41 := @lt_s 40 (fun k => u_lay RX12 TX12 k ∈ TB) q40 (tb_at 1047 (by decide +kernel) (by decide +kernel))
    have q42 := @lt_s 41 (fun k => u_lay RX12 TX12 k ∈ TB) q41 (tb_at 1049 (by decide +kernel) (by decide +kernel))
    have q43 := @lt_s 42 (fun k => u_lay RX12 TX12 k ∈ TB) q42 (tb_at 1051 (by decide +kernel) (by decide +kernel))
    have q44 := @lt_s 43 (fun k => u_lay RX12 TX12 k ∈ TB) q43 (tb_at 1053 (by decide +kernel) (by decide +kernel))
    have q45 := @lt_s 44 (fun k => u_lay RX12 TX12 k ∈ TB) q44 (tb_at 1055 (by decide +kernel) (by decide +kernel))
    have q46 := @lt_s 45 (fun k => u_lay RX12 TX12 k ∈ TB) q45 (tb_at 1057 (by decide +kernel) (by decide +kernel))
    have q47 := @lt_s 46 (fun k => u_lay RX12 TX12 k ∈ TB) q46 (tb_at 1059 (by decide +kernel) (by decide +kernel))
    have q48 := @lt_s 47 (fun k => u_lay RX12 TX12 k ∈ TB) q47 (tb_at 1061 (by decide +kernel) (by decide +kernel))
    have q49 := @lt_s 48 (fun k => u_lay RX12 TX12 k ∈ TB) q48 (tb_at 1063 (by decide +kernel) (by decide +kernel))
    exact q49
  exact h k hk

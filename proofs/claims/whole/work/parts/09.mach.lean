-- THE PURE MACHINE
abbrev PV : Type := Int ⊕ (Int ⊕ Option Nat)
abbrev vi (x : Int) : PV := Sum.inl x
abbrev vl (x : Int) : PV := Sum.inr (Sum.inl x)
abbrev vr (x : Option Nat) : PV := Sum.inr (Sum.inr x)
abbrev LL : Type := List (Option PV)
abbrev II : Type := Nat → Nat → Int
abbrev GG : Type := (Nat → Nat × Nat) × ((Nat → Nat → Option Nat) × (Nat × Nat))
def gK (g : GG) (a : Nat) : Nat × Nat := g.1 a
def gR (g : GG) (a k : Nat) : Option Nat := g.2.1 a k
def gN (g : GG) : Nat := g.2.2.1
def gS (g : GG) : Nat := g.2.2.2
def up (I : II) (a k : Nat) (v : Int) : II := fun b => if b = a then (fun j => if j = k then v else I a j) else I b
def gput (g : GG) (a k : Nat) (r : Option Nat) : GG := (g.1, ((fun b => if b = a then (fun j => if j = k then r else g.2.1 a j) else g.2.1 b), g.2.2))
def gnew (g : GG) (kd : Nat × Nat) (sl : Nat) : GG := ((fun b => if b = gN g then kd else g.1 b), ((fun b => if b = gN g then (fun _ => none) else g.2.1 b), (gN g + 1, gS g + sl)))
def inew (I : II) (n : Nat) : II := fun b => if b = n then (fun _ => 0) else I b
def icpy (I : II) (a0 sp a dp n : Nat) : II := fun b => if b = a then (fun j => if dp ≤ j ∧ j < dp + n then I a0 (sp + (j - dp)) else I a j) else I b
def w32 (x : Int) : Int := Int.bmod x 4294967296
def w64 (x : Int) : Int := Int.bmod x 18446744073709551616
def cat (v : PV) : Nat := match v with
  | .inr (.inl _) => 2
  | _ => 1
def kl (v : Option PV) : Option PV := match v with
  | some (.inr (.inl _)) => none
  | w => w
def sto (ls : LL) (i : Nat) (v : PV) : LL := ls.mapIdx (fun j x => if j = i then some v else if j + 1 = i then kl x else x)
def sto2 (ls : LL) (i : Nat) (v : PV) : LL := ls.mapIdx (fun j x => if j = i then some v else if j = i + 1 then none else if j + 1 = i then kl x else x)
def lay : List PV → LL
  | [] => []
  | .inr (.inl x) :: r => some (.inr (.inl x)) :: none :: lay r
  | v :: r => some v :: lay r
def i1 (f : Int32 → Int32) (a : Int) : Int := (f (Int32.ofInt a)).toInt
def i2 (f : Int32 → Int32 → Int32) (a b : Int) : Int := (f (Int32.ofInt a) (Int32.ofInt b)).toInt
def l2 (f : Int64 → Int64 → Int64) (a b : Int) : Int := (f (Int64.ofInt a) (Int64.ofInt b)).toInt
def l3 (f : Int64 → Int32 → Int64) (a b : Int) : Int := (f (Int64.ofInt a) (Int32.ofInt b)).toInt
def cmpB (c : Jvm.ClassFile.Cond) (a b : Int) : Bool := match c with
  | .eq => decide (a = b)
  | .ne => decide (a ≠ b)
  | .lt => decide (a < b)
  | .ge => decide (b ≤ a)
  | .gt => decide (b < a)
  | .le => decide (a ≤ b)
def lcm3 (a b : Int) : Int := if b < a then 1 else if a = b then 0 else -1
-- the tables' functions
def mE (m : Nat) : MethodName × ByteArray × Nat × Option FieldType × Nat := MT.getD m (yL_law, cL_law, 0, none, 0)
def mY (m : Nat) : MethodName := (mE m).1
def mCode (m : Nat) : ByteArray := (mE m).2.1
def mMax (m : Nat) : Nat := (mE m).2.2.1
def mRet (m : Nat) : Option FieldType := (mE m).2.2.2.1
def mOwn (m : Nat) : Nat := (mE m).2.2.2.2
def entryL (m : Nat) (as : List PV) : LL := lay as ++ List.replicate (mMax m - (lay as).length) none
def NS : List Nat := vwCl.map (fun q => q.2.2)

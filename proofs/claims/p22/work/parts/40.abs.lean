/-! THE ABSTRACT MACHINE: states of symbols. A description (tag, a, b): 0 an int from a to b (both more by 2 ^ 31), 1 a cell of kind a, 2 that or null, 3 an int from 0 to the bound and a more, 4 a long (a more than 0: from b to less than a), 7 null, 8 the text a; in kinds also 5 as 0 but never written, 6 a row by places (period 62) -/
abbrev Ds : Type := Nat × Nat × Nat
/-- a fact (op, a, b, r): 2 r stands in row a at b; 3, 4, 5 r is a + b, a - b, a * b; 10 a is at most b + r (r more by 2 ^ 31); 11 a is not b; 12 a may stand where b does in a row by places, up to the bound and r more; 1000 + k: field k of a is r -/
abbrev Fa : Type := Nat × Nat × Nat × Nat
/-- descriptions, locals, stack, facts, credit -/
abbrev aS : Type := List Ds × List (Nat × Nat) × List Nat × List Fa × Nat
abbrev Kd : Type := (Nat × List Ds) ⊕ (Nat × Nat × Ds)
def Zb : Nat := 2147483648
def Mx : Nat := 4294967295
def dFull : Ds := (0, 0, Mx)
def rng (d : Ds) : Option (Nat × Nat) := match d.1 with
  | 0 => some (d.2.1, d.2.2)
  | 3 => some (Zb, Mx)
  | _ => none
def rngS (ds : List Ds) (s : Nat) : Option (Nat × Nat) := match ds[s]? with
  | some d => rng d
  | none => none
def cstS (ds : List Ds) (s : Nat) : Option Nat := match ds[s]? with
  | some (0, a, b) => if Nat.beq a b then some a else none
  | _ => none
def fnd (me : List Fa) (op a b : Nat) : Option Nat := match me.find? (fun f => Nat.beq f.1 op && (Nat.beq f.2.1 a && Nat.beq f.2.2.1 b)) with
  | some f => some f.2.2.2
  | none => none
/-- what places of a row by places hold -/
def hcls (r : Nat) : Ds := if Nat.ble r 24 then dFull else if Nat.beq r 61 then (3, 0, 0) else match (r - 25) % 6 with
  | 0 => (0, Zb, Zb + 4)
  | 1 => (0, Zb, Zb + 4)
  | 2 => (0, Zb, Zb + 1)
  | _ => dFull
def elD (d : Ds) (j : Nat) : Ds := match d.1 with
  | 6 => hcls (j % 62)
  | _ => d
def toSy (cr : Nat) (d : Ds) : Ds := match d.1 with
  | 5 => (0, d.2.1, d.2.2)
  | 3 => (3, cr + d.2.1, 0)
  | _ => d
/-- may a value so described be put where d is wanted? -/
def subD (cr : Nat) (x d : Ds) : Bool := match d.1 with
  | 0 => match rng x with
    | some (a, b) => Nat.ble d.2.1 a && Nat.ble b d.2.2
    | none => false
  | 1 => Nat.beq x.1 1 && Nat.beq x.2.1 d.2.1
  | 2 => Nat.beq x.1 7 || ((Nat.beq x.1 1 || Nat.beq x.1 2) && Nat.beq x.2.1 d.2.1)
  | 3 => (Nat.beq x.1 3 && Nat.ble x.2.1 (cr + d.2.1)) || (Nat.beq x.1 0 && (Nat.ble Zb x.2.1 && Nat.ble x.2.2 (Zb + cr + d.2.1)))
  | 4 => Nat.beq x.1 4 && (Nat.beq d.2.1 0 || (Nat.ble 1 x.2.1 && (Nat.ble x.2.1 d.2.1 && Nat.ble d.2.2 x.2.2)))
  | 7 => Nat.beq x.1 7
  | 8 => Nat.beq x.1 8 && Nat.beq x.2.1 d.2.1
  | _ => false
def push (σ : aS) (d : Ds) (fs : Nat → List Fa) : aS := (σ.1 ++ [d], σ.2.1, σ.1.length :: σ.2.2.1, fs σ.1.length ++ σ.2.2.2.1, σ.2.2.2.2)
def setSt (σ : aS) (st : List Nat) : aS := (σ.1, σ.2.1, st, σ.2.2.2.1, σ.2.2.2.2)
def lgetA (lc : List (Nat × Nat)) (i : Nat) : Option Nat := match lc.find? (fun q => Nat.beq q.1 i) with
  | some q => some q.2
  | none => none
def isLng (ds : List Ds) (s : Nat) : Bool := match ds[s]? with
  | some (4, _, _) => true
  | some _ => false
  | none => true
def lsetA (ds : List Ds) (lc : List (Nat × Nat)) (i s : Nat) : List (Nat × Nat) := (i, s) :: lc.filter (fun q => !(Nat.beq q.1 i) && !(Nat.beq (q.1 + 1) i && isLng ds q.2))
def lsetA2 (ds : List Ds) (lc : List (Nat × Nat)) (i s : Nat) : List (Nat × Nat) := (i, s) :: lc.filter (fun q => !(Nat.beq q.1 i) && (!(Nat.beq q.1 (i + 1)) && !(Nat.beq (q.1 + 1) i && isLng ds q.2)))
/-- ranges of what is reckoned -/
def rAdd (x y : Nat × Nat) : Option (Nat × Nat) := if Nat.ble Zb (x.1 + y.1) && Nat.ble (x.2 + y.2) (Mx + Zb) then some (x.1 + y.1 - Zb, x.2 + y.2 - Zb) else none
def rSub (x y : Nat × Nat) : Option (Nat × Nat) := if Nat.ble y.2 (x.1 + Zb) && Nat.ble (x.2 + Zb) (Mx + y.1) then some (x.1 + Zb - y.2, x.2 + Zb - y.1) else none
def rMul (x y : Nat × Nat) : Option (Nat × Nat) := if Nat.ble Zb x.1 && (Nat.ble Zb y.1 && Nat.ble ((x.2 - Zb) * (y.2 - Zb) + Zb) Mx) then some ((x.1 - Zb) * (y.1 - Zb) + Zb, (x.2 - Zb) * (y.2 - Zb) + Zb) else none
def rDiv (x y : Nat × Nat) : Nat × Nat := if Nat.ble Zb x.1 && Nat.ble (Zb + 1) y.1 then (Zb, (x.2 - Zb) / (y.1 - Zb) + Zb) else (0, Mx)
def rRem (x y : Nat × Nat) : Nat × Nat := if Nat.ble Zb x.1 && Nat.ble (Zb + 1) y.1 then (Zb, min x.2 (y.2 - 1)) else (0, Mx)
def rAnd (x y : Nat × Nat) : Nat × Nat := if Nat.beq y.1 (Zb + 255) && Nat.beq y.2 (Zb + 255) then (if Nat.ble Zb x.1 && Nat.ble x.2 (Zb + 255) then x else if Nat.ble (Zb - 256) x.1 && Nat.ble (x.2 + 1) Zb then (x.1 + 256, x.2 + 256) else (Zb, Zb + 255)) else if Nat.ble Zb y.1 then (Zb, y.2) else if Nat.ble Zb x.1 then (Zb, x.2) else (0, Mx)
/-- an int is known to lie so -/
def meetS (ds : List Ds) (s lo hi : Nat) : Option (List Ds) := match ds[s]? with
  | some (0, a, b) => if Nat.ble (max a lo) (min b hi) then some (ds.set s (0, max a lo, min b hi)) else none
  | _ => some ds
/-- x is less than y, or at most y, or y, or not y: none, if that can't be -/
def asmLt (ds : List Ds) (me : List Fa) (x y : Nat) : Option (List Ds × List Fa) := match ds[x]?, ds[y]? with
  | some (0, a, b), some (0, c, d) => if Nat.beq d 0 then none else match meetS ds x 0 (d - 1) with
    | none => none
    | some ds1 => match meetS ds1 y (a + 1) Mx with
      | none => none
      | some ds2 => some (ds2, (10, x, y, Zb - 1) :: me)
  | _, _ => some (ds, me)
def asmLe (ds : List Ds) (me : List Fa) (x y : Nat) : Option (List Ds × List Fa) := match ds[x]?, ds[y]? with
  | some (0, a, b), some (0, c, d) => match meetS ds x 0 d with
    | none => none
    | some ds1 => match meetS ds1 y a Mx with
      | none => none
      | some ds2 => some (ds2, (10, x, y, Zb) :: me)
  | _, _ => some (ds, me)
def asmEq (ds : List Ds) (me : List Fa) (x y : Nat) : Option (List Ds × List Fa) := match ds[x]?, ds[y]? with
  | some (0, a, b), some (0, c, d) => match meetS ds x c d with
    | none => none
    | some ds1 => match meetS ds1 y a b with
      | none => none
      | some ds2 => some (ds2, (10, x, y, Zb) :: (10, y, x, Zb) :: me)
  | _, _ => some (ds, me)
def asmNe (ds : List Ds) (me : List Fa) (x y : Nat) : Option (List Ds × List Fa) := match ds[x]?, ds[y]? with
  | some (0, a, b), some (0, c, d) => if Nat.beq c d then (if Nat.beq a c then match meetS ds x (c + 1) Mx with
      | none => none
      | some ds1 => some (ds1, me)
    else if Nat.beq b c then (if Nat.beq c 0 then none else match meetS ds x 0 (c - 1) with
      | none => none
      | some ds1 => some (ds1, me))
    else some (ds, (11, x, y, 0) :: me)) else some (ds, (11, x, y, 0) :: me)
  | _, _ => some (ds, me)
def asm (c : Jvm.ClassFile.Cond) (ds : List Ds) (me : List Fa) (x y : Nat) : Option (List Ds × List Fa) := match c with
  | .eq => asmEq ds me x y
  | .ne => asmNe ds me x y
  | .lt => asmLt ds me x y
  | .ge => asmLe ds me y x
  | .gt => asmLt ds me y x
  | .le => asmLe ds me x y
def notC : Jvm.ClassFile.Cond → Jvm.ClassFile.Cond
  | .eq => .ne
  | .ne => .eq
  | .lt => .ge
  | .ge => .lt
  | .gt => .le
  | .le => .gt
/-- what is wanted of a divisor -/
def non0 (ds : List Ds) (me : List Fa) (y : Nat) : Bool := match ds[y]? with
  | some (0, a, b) => Nat.ble (Zb + 1) a || (Nat.ble (b + 1) Zb || me.any (fun f => Nat.beq f.1 11 && (Nat.beq f.2.1 y && (match cstS ds f.2.2.1 with | some z => Nat.beq z Zb | none => false))))
  | _ => false
/-- kinds: of a symbol -/
def kdS (ds : List Ds) (s : Nat) : Option Nat := match ds[s]? with
  | some (1, k, _) => some k
  | _ => none
def apartS (ds : List Ds) (x y : Nat) : Bool := match rngS ds x, rngS ds y with
  | some (a, b), some (c, d) => Nat.ble (b + 1) c || Nat.ble (d + 1) a
  | _, _ => false
def isKd (ds : List Ds) (s k : Nat) : Bool := match kdS ds s with
  | some k' => Nat.beq k' k
  | none => true
/-- facts that a store leaves -/
def killA (ds : List Ds) (me : List Fa) (k i : Nat) : List Fa := me.filter (fun f => !(Nat.beq f.1 2 && (isKd ds f.2.1 k && !(apartS ds f.2.2.1 i))))
def killF (ds : List Ds) (me : List Fa) (k f0 : Nat) : List Fa := me.filter (fun f => !(Nat.beq f.1 (1000 + f0) && isKd ds f.2.1 k))
/-- places of the same residue by 62: a base symbol, and what is more -/
def m62 (ds : List Ds) (me : List Fa) (s : Nat) : Bool := match cstS ds s with
  | some c => Nat.ble Zb c && Nat.beq ((c - Zb) % 62) 0
  | none => me.any (fun f => Nat.beq f.1 5 && (Nat.beq f.2.2.2 s && ((match cstS ds f.2.1 with | some z => Nat.beq z (Zb + 62) | none => false) || (match cstS ds f.2.2.1 with | some z => Nat.beq z (Zb + 62) | none => false))))
def base62 (ds : List Ds) (me : List Fa) (s : Nat) : Nat := match me.find? (fun f => Nat.beq f.1 3 && (Nat.beq f.2.2.2 s && (m62 ds me f.2.1 || m62 ds me f.2.2.1))) with
  | some f => if m62 ds me f.2.1 then f.2.2.1 else f.2.1
  | none => s
def cong62 (ds : List Ds) (me : List Fa) (i j : Nat) : Bool := Nat.beq (base62 ds me i) (base62 ds me j)

/-! the abstract machine's steps -/
def bias (x : Int32) : Nat := (x.toInt + 2147483648).toNat
def cI (x : Int32) : Ds := (0, bias x, bias x)
def tagS (ds : List Ds) (s : Nat) : Nat := match ds[s]? with
  | some d => d.1
  | none => 99
def isI (ds : List Ds) (s : Nat) : Bool := Nat.beq (tagS ds s) 0 || Nat.beq (tagS ds s) 3
def isA (ds : List Ds) (s : Nat) : Bool := Nat.beq (tagS ds s) 1 || (Nat.beq (tagS ds s) 8 || (Nat.beq (tagS ds s) 2 || Nat.beq (tagS ds s) 7))
def isNN (ds : List Ds) (s : Nat) : Bool := Nat.beq (tagS ds s) 1 || Nat.beq (tagS ds s) 8
def is1 (ds : List Ds) (s : Nat) : Bool := isI ds s || isA ds s
def nf0 : Nat → List Fa := fun _ => []
def CrMax : Nat := 8388608
/-- two branches -/
def brA (c : Jvm.ClassFile.Cond) (ds : List Ds) (lc : List (Nat × Nat)) (st : List Nat) (me : List Fa) (cr x y t f : Nat) : List (Nat × aS) :=
  (match asm c ds me x y with | some q => [(t, (q.1, lc, st, q.2, cr))] | none => []) ++ (match asm (notC c) ds me x y with | some q => [(f, (q.1, lc, st, q.2, cr))] | none => [])
def binA (σ : aS) (op a b : Nat) (r : List Nat) (rg : Option (Nat × Nat)) (fs : Nat → List Fa) : aS := match fnd σ.2.2.2.1 op a b with
  | some s => setSt σ (s :: r)
  | none => match rg with
    | some q => push (setSt σ r) (0, q.1, q.2) fs
    | none => push (setSt σ r) dFull nf0
def addA (σ : aS) (a b : Nat) (r : List Nat) : Option aS := match σ.1[a]?, σ.1[b]? with
  | some (3, j, _), some (0, x, y) => if Nat.ble Zb x && Nat.ble (j + (y - Zb)) CrMax then some (push (setSt σ r) (3, j + (y - Zb), 0) nf0) else some (push (setSt σ r) dFull nf0)
  | some (0, x, y), some (0, u, v) => some (binA σ 3 a b r (rAdd (x, y) (u, v)) (fun z => [(3, a, b, z)]))
  | some (0, x, y), some (3, j, _) => if Nat.ble Zb x && Nat.ble (j + (y - Zb)) CrMax then some (push (setSt σ r) (3, j + (y - Zb), 0) nf0) else some (push (setSt σ r) dFull nf0)
  | some (3, _, _), some (3, _, _) => some (push (setSt σ r) dFull nf0)
  | _, _ => none
def subA (σ : aS) (a b : Nat) (r : List Nat) : Option aS := match σ.1[a]?, σ.1[b]? with
  | some (0, x, y), some (0, u, v) => some (binA σ 4 a b r (rSub (x, y) (u, v)) (fun z => [(4, a, b, z), (3, z, b, a)]))
  | _, _ => if isI σ.1 a && isI σ.1 b then some (push (setSt σ r) dFull nf0) else none
def mulA (σ : aS) (a b : Nat) (r : List Nat) : Option aS := match σ.1[a]?, σ.1[b]? with
  | some (0, x, y), some (0, u, v) => some (binA σ 5 a b r (rMul (x, y) (u, v)) (fun z => [(5, a, b, z)]))
  | _, _ => if isI σ.1 a && isI σ.1 b then some (push (setSt σ r) dFull nf0) else none
def remA (σ : aS) (a b : Nat) (r : List Nat) : Option aS := match rngS σ.1 a, σ.1[b]? with
  | some x, some (0, u, v) => if non0 σ.1 σ.2.2.2.1 b then some (push (setSt σ r) (0, (rRem x (u, v)).1, (rRem x (u, v)).2) (fun z => if Nat.ble Zb x.1 && Nat.ble (Zb + 1) u then [(10, z, b, Zb - 1)] else [])) else none
  | _, _ => none
def divA (σ : aS) (a b : Nat) (r : List Nat) : Option aS := match rngS σ.1 a, σ.1[b]? with
  | some x, some (0, u, v) => if non0 σ.1 σ.2.2.2.1 b then some (push (setSt σ r) (0, (rDiv x (u, v)).1, (rDiv x (u, v)).2) nf0) else none
  | _, _ => none
def andA (σ : aS) (a b : Nat) (r : List Nat) : Option aS := match rngS σ.1 a, rngS σ.1 b with
  | some x, some y => some (push (setSt σ r) (0, (rAnd x y).1, (rAnd x y).2) nf0)
  | _, _ => none
def anyA (σ : aS) (a b : Nat) (r : List Nat) : Option aS := if isI σ.1 a && isI σ.1 b then some (push (setSt σ r) dFull nf0) else none
def loadA (σ : aS) (i pc : Nat) (ok : List Ds → Nat → Bool) : Option (List (Nat × aS)) := match lgetA σ.2.1 i with
  | some s => if ok σ.1 s then some [(pc, setSt σ (s :: σ.2.2.1))] else none
  | none => none
def storeA (σ : aS) (i nL pc : Nat) (ok : List Ds → Nat → Bool) : Option (List (Nat × aS)) := match σ.2.2.1 with
  | s :: r => if ok σ.1 s && Nat.ble (i + 1) nL then some [(pc, (σ.1, lsetA σ.1 σ.2.1 i s, r, σ.2.2.2.1, σ.2.2.2.2))] else none
  | [] => none
/-- a row's place is within -/
def inA (ds : List Ds) (i n : Nat) : Bool := match rngS ds i with
  | some (a, b) => Nat.ble Zb a && Nat.ble (b + 1) (Zb + n)
  | none => false
/-- what is read out of a row: a description, and facts -/
def ldD (σ : aS) (d : Ds) (i : Nat) : Ds × (Nat → List Fa) := match d.1 with
  | 6 => match rngS σ.1 i with
    | some (a, b) => if Nat.beq a b then (toSy σ.2.2.2.2 (hcls ((a - Zb) % 62)), fun z => [(12, z, i, σ.2.2.2.2)]) else (dFull, fun z => [(12, z, i, σ.2.2.2.2)])
    | none => (dFull, nf0)
  | _ => (toSy σ.2.2.2.2 d, nf0)
/-- what stands in row a at i, or at the same constant -/
def fndA (ds : List Ds) (me : List Fa) (a i : Nat) : Option Nat := match me.find? (fun f => Nat.beq f.1 2 && (Nat.beq f.2.1 a && (Nat.beq f.2.2.1 i || (match cstS ds i, cstS ds f.2.2.1 with | some c, some c' => Nat.beq c c' | _, _ => false)))) with
  | some f => some f.2.2.2
  | none => none
def aldA (KT : List Kd) (σ : aS) (ts : List Nat) (pc : Nat) : Option (List (Nat × aS)) := match σ.2.2.1 with
  | i :: a :: r => match kdS σ.1 a with
    | some k => match KT[k]? with
      | some (.inr (t, n, d)) => if ts.contains t && inA σ.1 i n then match fndA σ.1 σ.2.2.2.1 a i with
        | some s => if isI σ.1 s then some [(pc, setSt σ (s :: r))] else none
        | none => some [(pc, push (setSt σ r) (ldD σ d i).1 (fun z => (2, a, i, z) :: (ldD σ d i).2 z))]
        else none
      | _ => none
    | none => none
  | _ => none
/-- may v be put into a row at i? the credit behind it -/
def stD (σ : aS) (d : Ds) (i v : Nat) : Option Nat := match d.1 with
  | 0 => match rngS σ.1 v with
    | some (a, b) => if Nat.ble d.2.1 a && Nat.ble b d.2.2 then some σ.2.2.2.2 else none
    | none => none
  | 6 => match rngS σ.1 i, σ.1[v]? with
    | some (a, b), some dv => if σ.2.2.2.1.any (fun f => Nat.beq f.1 12 && (Nat.beq f.2.1 v && (cong62 σ.1 σ.2.2.2.1 i f.2.2.1 && Nat.ble f.2.2.2 σ.2.2.2.2))) then some σ.2.2.2.2
      else if (Nat.beq dv.1 0 && (Nat.beq dv.2.1 Zb && Nat.beq dv.2.2 Zb)) || Nat.ble b (Zb + 24) then some σ.2.2.2.2
      else if Nat.beq a b then (match hcls ((a - Zb) % 62) with
        | (3, _, _) => if Nat.beq dv.1 3 && Nat.ble dv.2.1 CrMax then some (max σ.2.2.2.2 dv.2.1) else if subD σ.2.2.2.2 dv (3, 0, 0) then some σ.2.2.2.2 else none
        | h => if subD σ.2.2.2.2 dv h then some σ.2.2.2.2 else none)
      else none
    | _, _ => none
  | _ => none
def astA (KT : List Kd) (eff : List (Nat × Nat)) (σ : aS) (ts : List Nat) (pc : Nat) : Option (List (Nat × aS)) := match σ.2.2.1 with
  | v :: i :: a :: r => match kdS σ.1 a with
    | some k => match KT[k]? with
      | some (.inr (t, n, d)) => if ts.contains t && (inA σ.1 i n && (eff.contains (k, 999) && isI σ.1 v)) then (if Nat.beq t 0 then match stD σ d i v with
        | some cr => some [(pc, (σ.1, σ.2.1, r, (2, a, i, v) :: killA σ.1 σ.2.2.2.1 k i, cr))]
        | none => none
        else if subD 0 dFull d || Nat.beq t 1 && (Nat.beq d.1 0 && (Nat.beq d.2.1 Zb && Nat.ble (Zb + 1) d.2.2)) || Nat.beq t 2 && (Nat.beq d.1 0 && (Nat.ble d.2.1 (Zb - 128) && Nat.ble (Zb + 127) d.2.2)) then some [(pc, (σ.1, σ.2.1, r, killA σ.1 σ.2.2.2.1 k i, σ.2.2.2.2))] else none) else none
      | _ => none
    | none => none
  | _ => none
def getA (KT : List Kd) (pp : pP) (own : Nat) (σ : aS) (ix pc : Nat) : Option (List (Nat × aS)) := match σ.2.2.1, pp.1 own ix with
  | o :: r, some (ci, f) => match kdS σ.1 o with
    | some k => match KT[k]? with
      | some (.inl (cj, fds)) => match fds[f]? with
        | some d => if Nat.beq ci cj then match fnd σ.2.2.2.1 (1000 + f) o 0 with
          | some s => some [(pc, setSt σ (s :: r))]
          | none => some [(pc, push (setSt σ r) (toSy σ.2.2.2.2 d) (fun z => [(1000 + f, o, 0, z)]))]
          else none
        | none => none
      | _ => none
    | none => none
  | _, _ => none
def okTy (ty : FieldType) (dv : Ds) : Bool := match ty with
  | .int => Nat.beq dv.1 0 || Nat.beq dv.1 3
  | .boolean => Nat.beq dv.1 0 && (Nat.ble Zb dv.2.1 && Nat.ble dv.2.2 (Zb + 1))
  | .long => Nat.beq dv.1 4
  | .object _ => Nat.beq dv.1 1 || (Nat.beq dv.1 2 || Nat.beq dv.1 7)
  | .array _ => Nat.beq dv.1 1 || (Nat.beq dv.1 2 || Nat.beq dv.1 7)
  | _ => false
def putA (KT : List Kd) (F : pF) (pp : pP) (eff : List (Nat × Nat)) (own : Nat) (σ : aS) (ix pc : Nat) : Option (List (Nat × aS)) := match σ.2.2.1, pp.1 own ix with
  | v :: o :: r, some (ci, f) => match kdS σ.1 o, σ.1[v]? with
    | some k, some dv => match KT[k]? with
      | some (.inl (cj, fds)) => match fds[f]?, (F.getD ci [])[f]? with
        | some d, some (ty, false) => if Nat.beq ci cj && (eff.contains (k, f) && (!(Nat.beq d.1 5) && okTy ty dv)) then
            (if Nat.beq d.1 3 && (Nat.beq dv.1 3 && Nat.ble dv.2.1 CrMax) then some [(pc, (σ.1, σ.2.1, r, (1000 + f, o, 0, v) :: killF σ.1 σ.2.2.2.1 k f, max σ.2.2.2.2 dv.2.1))]
            else if subD σ.2.2.2.2 dv d then some [(pc, (σ.1, σ.2.1, r, (1000 + f, o, 0, v) :: killF σ.1 σ.2.2.2.1 k f, σ.2.2.2.2))] else none) else none
        | _, _ => none
      | _ => none
    | _, _ => none
  | _, _ => none
def swT (pc : Nat) (σ : aS) (x : Nat) (lo : Int) (offs : List Int) (k : Nat) : List (Nat × aS) := match offs with
  | [] => []
  | o :: r => (match jmp pc o, meetS σ.1 x ((lo + (k : Int) + 2147483648).toNat) ((lo + (k : Int) + 2147483648).toNat) with
    | some t, some ds => [(t, (ds, σ.2.1, σ.2.2.1, σ.2.2.2.1, σ.2.2.2.2))]
    | _, _ => []) ++ swT pc σ x lo r (k + 1)
def swL (pc : Nat) (σ : aS) (x : Nat) : List (Int × Int) → List (Nat × aS)
  | [] => []
  | (key, o) :: r => (match jmp pc o, meetS σ.1 x ((key + 2147483648).toNat) ((key + 2147483648).toNat) with
    | some t, some ds => [(t, (ds, σ.2.1, σ.2.2.1, σ.2.2.2.1, σ.2.2.2.2))]
    | _, _ => []) ++ swL pc σ x r
def one (pc : Nat) (o : Option aS) : Option (List (Nat × aS)) := match o with
  | some σ => some [(pc, σ)]
  | none => none
def bin2 (σ : aS) (pc : Nat) (f : aS → Nat → Nat → List Nat → Option aS) : Option (List (Nat × aS)) := match σ.2.2.1 with
  | b :: a :: r => one pc (f σ a b r)
  | _ => none
def un1 (σ : aS) (pc : Nat) (ok : List Ds → Nat → Bool) (d : Ds) : Option (List (Nat × aS)) := match σ.2.2.1 with
  | a :: r => if ok σ.1 a then some [(pc, push (setSt σ r) d nf0)] else none
  | _ => none
def isJ (ds : List Ds) (s : Nat) : Bool := Nat.beq (tagS ds s) 4
/-- longs: a constant, one with another, eight bits further, compared -/
def cJ (v : Int64) : Ds := if decide (0 ≤ v.toInt) then (4, v.toInt.toNat + 1, v.toInt.toNat) else (4, 0, 0)
def Jm : Nat := 9223372036854775808
def orJ (x y : Nat) : Ds := if Nat.ble 1 x && (Nat.ble 1 y && (Nat.ble x 256 && Nat.ble y 256)) then (4, 256, 0) else if Nat.ble 1 x && (Nat.ble 1 y && (Nat.ble x 65536 && Nat.ble y 65536)) then (4, 65536, 0) else (4, 0, 0)
def shJ (x : Nat) (c : Option Nat) : Ds := match c with
  | some k => if Nat.beq k (Zb + 8) && (Nat.ble 1 x && Nat.ble (x * 256) Jm) then (4, x * 256, 0) else (4, 0, 0)
  | none => (4, 0, 0)
def cmJ (x x' y y' : Nat) : Ds := if Nat.ble 1 x && (Nat.ble 1 y && Nat.ble x y') then (0, Zb - 1, Zb - 1) else if Nat.ble 1 x && (Nat.ble 1 y && Nat.ble y x') then (0, Zb + 1, Zb + 1) else (0, Zb - 1, Zb + 1)
def ai1 (KT : List Kd) (F : pF) (pp : pP) (eff : List (Nat × Nat)) (own nL : Nat) (σ : aS) (ins : Instr) (pc : Nat) : Option (List (Nat × aS)) := match ins with
  | .iconst n => some [(pc + 1, push σ (cI (Int32.ofInt n)) nf0)]
  | .bipush n => some [(pc + 2, push σ (cI (Int8.ofInt n).toInt32) nf0)]
  | .sipush n => some [(pc + 3, push σ (cI (Int16.ofInt n).toInt32) nf0)]
  | .lconst n => some [(pc + 1, push σ (4, (n : Nat) + 1, (n : Nat)) nf0)]
  | .ldc i => match pp.2.2.1 own i with
    | some (.int v) => some [(pc + 2, push σ (cI v) nf0)]
    | some (.ref a) => some [(pc + 2, push σ (8, a, 0) nf0)]
    | _ => none
  | .ldc_w i => match pp.2.2.1 own i with
    | some (.int v) => some [(pc + 3, push σ (cI v) nf0)]
    | _ => none
  | .ldc2_w i => match pp.2.2.1 own i with
    | some (.long v) => some [(pc + 3, push σ (cJ v) nf0)]
    | _ => none
  | .iload_n k => loadA σ (k : Nat) (pc + 1) isI
  | .iload i => loadA σ i (pc + 2) isI
  | .lload_n k => loadA σ (k : Nat) (pc + 1) isJ
  | .aload_n k => loadA σ (k : Nat) (pc + 1) isA
  | .aload i => loadA σ i (pc + 2) isA
  | .istore_n k => storeA σ (k : Nat) nL (pc + 1) isI
  | .istore i => storeA σ i nL (pc + 2) isI
  | .astore_n k => storeA σ (k : Nat) nL (pc + 1) isNN
  | .astore i => storeA σ i nL (pc + 2) isNN
  | .lstore_n k => match σ.2.2.1 with
    | s :: r => if isJ σ.1 s && Nat.ble ((k : Nat) + 2) nL then some [(pc + 1, (σ.1, lsetA2 σ.1 σ.2.1 (k : Nat) s, r, σ.2.2.2.1, σ.2.2.2.2))] else none
    | [] => none
  | .iinc i n => match lgetA σ.2.1 i with
    | some s => if Nat.ble (i + 1) nL then match addA (push σ (cI (Int32.ofInt n)) nf0) s σ.1.length σ.2.2.1 with
      | some τ => match τ.2.2.1 with
        | z :: r => some [(pc + 3, (τ.1, lsetA τ.1 τ.2.1 i z, r, τ.2.2.2.1, τ.2.2.2.2))]
        | [] => none
      | none => none
      else none
    | none => none
  | .iadd => bin2 σ (pc + 1) addA
  | .isub => bin2 σ (pc + 1) subA
  | .imul => bin2 σ (pc + 1) mulA
  | .idiv => bin2 σ (pc + 1) divA
  | .irem => bin2 σ (pc + 1) remA
  | .iand => bin2 σ (pc + 1) andA
  | .ior => bin2 σ (pc + 1) anyA
  | .ixor => bin2 σ (pc + 1) anyA
  | .ishl => bin2 σ (pc + 1) anyA
  | .ishr => bin2 σ (pc + 1) anyA
  | .iushr => bin2 σ (pc + 1) anyA
  | .lor => match σ.2.2.1 with
    | b :: a :: r => match σ.1[a]?, σ.1[b]? with
      | some (4, x, _), some (4, y, _) => some [(pc + 1, push (setSt σ r) (orJ x y) nf0)]
      | _, _ => none
    | _ => none
  | .lshl => match σ.2.2.1 with
    | b :: a :: r => match σ.1[a]? with
      | some (4, x, _) => if isI σ.1 b then some [(pc + 1, push (setSt σ r) (shJ x (cstS σ.1 b)) nf0)] else none
      | _ => none
    | _ => none
  | .lcmp => match σ.2.2.1 with
    | b :: a :: r => match σ.1[a]?, σ.1[b]? with
      | some (4, x, x'), some (4, y, y') => some [(pc + 1, push (setSt σ r) (cmJ x x' y y') nf0)]
      | _, _ => none
    | _ => none
  | .ineg => un1 σ (pc + 1) isI dFull
  | .i2l => match σ.2.2.1 with
    | a :: r => match rngS σ.1 a with
      | some (x, y) => some [(pc + 1, push (setSt σ r) (if Nat.ble Zb x then (4, y - Zb + 1, 0) else (4, 0, 0)) nf0)]
      | none => none
    | _ => none
  | .i2b => un1 σ (pc + 1) isI (0, Zb - 128, Zb + 127)
  | .i2c => un1 σ (pc + 1) isI (0, Zb, Zb + 65535)
  | .dup => match σ.2.2.1 with
    | a :: r => if is1 σ.1 a then some [(pc + 1, setSt σ (a :: a :: r))] else none
    | _ => none
  | .pop => match σ.2.2.1 with
    | a :: r => if is1 σ.1 a then some [(pc + 1, setSt σ r)] else none
    | _ => none
  | .dup2 => match σ.2.2.1 with
    | a :: b :: r => if is1 σ.1 a && is1 σ.1 b then some [(pc + 1, setSt σ (a :: b :: a :: b :: r))] else none
    | _ => none
  | .ifCond c off => match σ.2.2.1, jmp pc off with
    | x :: r, some t => if isI σ.1 x then some (brA c (σ.1 ++ [(0, Zb, Zb)]) σ.2.1 r σ.2.2.2.1 σ.2.2.2.2 x σ.1.length t (pc + 3)) else none
    | _, _ => none
  | .if_icmp c off => match σ.2.2.1, jmp pc off with
    | y :: x :: r, some t => if isI σ.1 x && isI σ.1 y then some (brA c σ.1 σ.2.1 r σ.2.2.2.1 σ.2.2.2.2 x y t (pc + 3)) else none
    | _, _ => none
  | .goto off => match jmp pc off with
    | some t => some [(t, σ)]
    | none => none
  | .ifnonnull off => match σ.2.2.1, jmp pc off with
    | x :: r, some t => match σ.1[x]? with
      | some (1, _, _) => some [(t, setSt σ r)]
      | some (7, _, _) => some [(pc + 3, setSt σ r)]
      | some (2, k, _) => some [(t, (σ.1.set x (1, k, 0), σ.2.1, r, σ.2.2.2.1, σ.2.2.2.2)), (pc + 3, (σ.1.set x (7, 0, 0), σ.2.1, r, σ.2.2.2.1, σ.2.2.2.2))]
      | _ => none
    | _, _ => none
  | .tableswitch d lo hi offs => match σ.2.2.1, jmp pc d with
    | x :: r, some t => if isI σ.1 x && (decide ((offs.toList.length : Int) = hi - lo + 1) && (decide (-2147483648 ≤ lo) && (decide (hi ≤ 2147483647) && (offs.toList.all (fun o => (jmp pc o).isSome))))) then some (swT pc (setSt σ r) x lo offs.toList 0 ++
      (match meetS σ.1 x 0 ((lo + 2147483647).toNat) with | some ds => (if decide (-2147483648 < lo) then [(t, (ds, σ.2.1, r, σ.2.2.2.1, σ.2.2.2.2))] else []) | none => []) ++ (match meetS σ.1 x ((hi + 2147483649).toNat) Mx with | some ds => [(t, (ds, σ.2.1, r, σ.2.2.2.1, σ.2.2.2.2))] | none => [])) else none
    | _, _ => none
  | .lookupswitch d ps => match σ.2.2.1, jmp pc d with
    | x :: r, some t => if isI σ.1 x && ((ps.toList.zip (ps.toList.drop 1)).all (fun (a, next) => a.1 < next.1) && ps.toList.all (fun q => (jmp pc q.2).isSome && (decide (-2147483648 ≤ q.1) && decide (q.1 ≤ 2147483647)))) then some (swL pc (setSt σ r) x ps.toList ++ [(t, setSt σ r)]) else none
    | _, _ => none
  | .getfield i => getA KT pp own σ i (pc + 3)
  | .putfield i => putA KT F pp eff own σ i (pc + 3)
  | .iaload => aldA KT σ [0] (pc + 1)
  | .baload => aldA KT σ [1, 2] (pc + 1)
  | .laload => match σ.2.2.1 with
    | i :: a :: r => match kdS σ.1 a with
      | some k => match KT[k]? with
        | some (.inr (3, n, _)) => if inA σ.1 i n then some [(pc + 1, push (setSt σ r) (4, 0, 0) nf0)] else none
        | _ => none
      | none => none
    | _ => none
  | .aaload => match σ.2.2.1 with
    | i :: a :: r => match kdS σ.1 a with
      | some k => match KT[k]? with
        | some (.inr (4, n, (1, k', _))) => if inA σ.1 i n then some [(pc + 1, push (setSt σ r) (1, k', 0) nf0)] else none
        | _ => none
      | none => none
    | _ => none
  | .iastore => astA KT eff σ [0] (pc + 1)
  | .bastore => astA KT eff σ [1, 2] (pc + 1)
  | .lastore => match σ.2.2.1 with
    | v :: i :: a :: r => match kdS σ.1 a with
      | some k => match KT[k]? with
        | some (.inr (3, n, d)) => if inA σ.1 i n && (isJ σ.1 v && (eff.contains (k, 999) && Nat.beq d.1 4)) then some [(pc + 1, setSt σ r)] else none
        | _ => none
      | none => none
    | _ => none
  | .arraylength => match σ.2.2.1 with
    | a :: r => match kdS σ.1 a with
      | some k => match KT[k]? with
        | some (.inr (_, n, _)) => if Nat.ble n 100000 then some [(pc + 1, push (setSt σ r) (0, Zb + n, Zb + n) nf0)] else none
        | _ => none
      | none => none
    | _ => none
  | _ => none

/-! relations between symbols: normal forms, at most, not; what facts narrow; patterns -/
/-- a fact that makes x another symbol and a constant -/
def nrmF (ds : List Ds) (x : Nat) : List Fa → Option (Nat × Nat × Nat)
  | [] => none
  | f :: me => if Nat.beq f.2.2.2 x then (if Nat.beq f.1 3 then (match cstS ds f.2.2.1 with
        | some c => if Nat.ble (f.2.1 + 1) x then some (f.2.1, c, Zb) else (match cstS ds f.2.1 with
          | some c' => if Nat.ble (f.2.2.1 + 1) x then some (f.2.2.1, c', Zb) else nrmF ds x me
          | none => nrmF ds x me)
        | none => match cstS ds f.2.1 with
          | some c' => if Nat.ble (f.2.2.1 + 1) x then some (f.2.2.1, c', Zb) else nrmF ds x me
          | none => nrmF ds x me)
      else if Nat.beq f.1 4 then (match cstS ds f.2.2.1 with
        | some c => if Nat.ble (f.2.1 + 1) x then some (f.2.1, Zb, c) else nrmF ds x me
        | none => nrmF ds x me)
      else nrmF ds x me) else nrmF ds x me
/-- x and p less m: a base (none: a constant), what is more, what is less -/
def nrm (ds : List Ds) (me : List Fa) : Nat → Nat → Nat → Nat → Option Nat × Nat × Nat
  | 0, x, p, m => (some x, p, m)
  | n + 1, x, p, m => match cstS ds x with
    | some c => (none, p + c, m + Zb)
    | none => match nrmF ds x me with
      | some (y, q, k) => nrm ds me n y (p + q) (m + k)
      | none => (some x, p, m)
def sameB (a b : Option Nat) : Bool := match a, b with
  | none, none => true
  | some x, some y => Nat.beq x y
  | _, _ => false
/-- is x at most y and pc less mc? -/
def leQ (ds : List Ds) (me : List Fa) : Nat → Nat → Nat → Nat → Nat → Bool
  | n, x, y, pc, mc => match nrm ds me 4 x 0 0, nrm ds me 4 y 0 0 with
    | (bx, px, mx), (bY, py, my) => (sameB bx bY && Nat.ble (px + my + mc) (py + mx + pc)) || ((match ds[x]?, rngS ds y with
      | some (0, _, h), some (l, _) => Nat.ble (h + mc) (l + pc)
      | _, _ => false) || (match n, bx with
      | n + 1, some b => me.any (fun f => Nat.beq f.1 10 && (match nrm ds me 4 f.2.1 0 0 with
        | (some b', p1, m1) => Nat.beq b' b && leQ ds me n f.2.2.1 y (pc + Zb + mx + p1) (mc + f.2.2.2 + px + m1)
        | _ => false))
      | _, _ => false))
def hasNe (me : List Fa) (x y : Nat) : Bool := me.any (fun f => Nat.beq f.1 11 && ((Nat.beq f.2.1 x && Nat.beq f.2.2.1 y) || (Nat.beq f.2.1 y && Nat.beq f.2.2.1 x)))
def hasLe (me : List Fa) (x y pc mc : Nat) : Bool := me.any (fun f => Nat.beq f.1 10 && (Nat.beq f.2.1 x && (Nat.beq f.2.2.1 y && Nat.ble (f.2.2.2 + mc) (pc + Zb))))
def leT (ds : List Ds) (me : List Fa) (x y pc mc : Nat) : Bool := hasLe me x y pc mc || (leQ ds me 3 x y pc mc || (Nat.beq (pc + 1) mc && (hasNe me x y && leQ ds me 2 x y 0 0)))
def neQ (ds : List Ds) (me : List Fa) (x y : Nat) : Bool := apartS ds x y || (hasNe me x y || ((match nrm ds me 4 x 0 0, nrm ds me 4 y 0 0 with
    | (bx, px, mx), (bY, py, my) => sameB bx bY && !(Nat.beq (px + my) (py + mx))) || (leQ ds me 1 x y 0 1 || leQ ds me 1 y x 0 1)))
/-- is r the sum of a and b? -/
def smQ (ds : List Ds) (me : List Fa) (a b r : Nat) : Bool := isI ds r && ((Nat.beq a r && (match cstS ds b with | some c => Nat.beq c Zb | none => false)) || ((Nat.beq b r && (match cstS ds a with | some c => Nat.beq c Zb | none => false)) || (match nrm ds me 4 a 0 0, nrm ds me 4 b 0 0 with
    | (ba, pa, ma), (bb, pb, mb) => me.any (fun f => Nat.beq f.1 3 && (Nat.beq f.2.2.2 r && (match nrm ds me 4 f.2.1 0 0, nrm ds me 4 f.2.2.1 0 0 with
      | (bx, px, mx), (bY, py, my) => Nat.beq (px + py + ma + mb) (pa + pb + mx + my) && ((sameB bx ba && sameB bY bb) || (sameB bx bb && sameB bY ba))))))))
def nth (τ : List Nat) (i : Nat) : Nat := match τ[i]? with
  | some s => s
  | none => 0
def mapF (τ : List Nat) (f : Fa) : Fa := if Nat.beq f.1 10 || (Nat.beq f.1 11 || Nat.beq f.1 12) then (f.1, nth τ f.2.1, nth τ f.2.2.1, f.2.2.2) else if Nat.ble 1000 f.1 then (f.1, nth τ f.2.1, 0, nth τ f.2.2.2) else (f.1, nth τ f.2.1, nth τ f.2.2.1, nth τ f.2.2.2)
/-- does fact f (of the bound cr higher) hold? -/
def ent (ds : List Ds) (me : List Fa) (cr : Nat) (f : Fa) : Bool := match f.1 with
  | 2 => match fndA ds me f.2.1 f.2.2.1 with
    | some s => Nat.beq s f.2.2.2
    | none => false
  | 3 => smQ ds me f.2.1 f.2.2.1 f.2.2.2
  | 10 => leT ds me f.2.1 f.2.2.1 f.2.2.2 Zb
  | 11 => neQ ds me f.2.1 f.2.2.1
  | 12 => me.any (fun g => Nat.beq g.1 12 && (Nat.beq g.2.1 f.2.1 && (Nat.beq g.2.2.1 f.2.2.1 && Nat.ble g.2.2.2 (f.2.2.2 + cr))))
  | _ => if Nat.ble 1000 f.1 then (match me.find? (fun g => Nat.beq g.1 f.1 && Nat.beq g.2.1 f.2.1) with
      | some g => Nat.beq g.2.2.2 f.2.2.2
      | none => false) else me.any (fun g => Nat.beq g.1 f.1 && (Nat.beq g.2.1 f.2.1 && (Nat.beq g.2.2.1 f.2.2.1 && Nat.beq g.2.2.2 f.2.2.2)))
def sub2 (ds : List Ds) (cr : Nat) : List Nat → List Ds → Bool
  | [], [] => true
  | s :: τ, d :: pds => (match ds[s]? with
    | some x => subD cr x d
    | none => false) && sub2 ds cr τ pds
  | _, _ => false
/-- a state is of a pattern by τ -/
def chkP (σ : aS) (τ : List Nat) (pds : List Ds) (pme : List Fa) : Bool := sub2 σ.1 σ.2.2.2.2 τ pds && pme.all (fun f => ent σ.1 σ.2.2.2.1 σ.2.2.2.2 (mapF τ f))
/-- ranges narrowed by a fact -/
def tgt1 (ds : List Ds) (f : Fa) : Option (List Ds) := match f.1 with
  | 10 => match ds[f.2.1]?, ds[f.2.2.1]? with
    | some (0, a, _), some (0, _, d) => match meetS ds f.2.1 0 (d + f.2.2.2 - Zb) with
      | none => none
      | some ds1 => meetS ds1 f.2.2.1 (a + Zb - f.2.2.2) Mx
    | _, _ => some ds
  | 3 => match ds[f.2.1]?, ds[f.2.2.1]?, ds[f.2.2.2]? with
    | some (0, a, b), some (0, c, d), some (0, u, v) => match meetS ds f.2.1 (u + Zb - d) (v + Zb - c) with
      | none => none
      | some ds1 => match meetS ds1 f.2.2.1 (u + Zb - b) (v + Zb - a) with
        | none => none
        | some ds2 => meetS ds2 f.2.2.2 (a + c - Zb) (b + d - Zb)
    | _, _, _ => some ds
  | 5 => match ds[f.2.1]?, ds[f.2.2.1]?, ds[f.2.2.2]? with
    | some (0, a, b), some (0, c, d), some (0, _, _) => match rMul (a, b) (c, d) with
      | some q => meetS ds f.2.2.2 q.1 q.2
      | none => some ds
    | _, _, _ => some ds
  | _ => some ds
def tgtL : List Fa → List Ds → Option (List Ds)
  | [], ds => some ds
  | f :: me, ds => match tgt1 ds f with
    | none => none
    | some ds1 => tgtL me ds1
def tight (σ : aS) : Option aS := match tgtL σ.2.2.2.1 σ.1 with
  | none => none
  | some ds => match tgtL σ.2.2.2.1 ds with
    | none => none
    | some ds2 => some (ds2, σ.2.1, σ.2.2.1, σ.2.2.2.1, σ.2.2.2.2)
/-! which symbol stands for which (no proof is owed: chkP looks again) -/
def smF (ds : List Ds) (me : List Fa) (a b : Nat) : Option Nat := if (match cstS ds b with | some c => Nat.beq c Zb | none => false) then some a else if (match cstS ds a with | some c => Nat.beq c Zb | none => false) then some b else (match nrm ds me 4 a 0 0, nrm ds me 4 b 0 0 with
    | (ba, pa, ma), (bb, pb, mb) => match me.find? (fun f => Nat.beq f.1 3 && (match nrm ds me 4 f.2.1 0 0, nrm ds me 4 f.2.2.1 0 0 with
      | (bx, px, mx), (bY, py, my) => Nat.beq (px + py + ma + mb) (pa + pb + mx + my) && ((sameB bx ba && sameB bY bb) || (sameB bx bb && sameB bY ba)))) with
      | some f => some f.2.2.2
      | none => none)
def addT (τ : List (Nat × Nat)) (r s : Nat) : List (Nat × Nat) := match lgetA τ r with
  | some _ => τ
  | none => (r, s) :: τ
def rsv (ds : List Ds) (me : List Fa) (pds : List Ds) : List Fa → List (Nat × Nat) → Option (List (Nat × Nat))
  | [], τ => some τ
  | f :: pm, τ => if Nat.ble 1000 f.1 then (match lgetA τ f.2.1 with
      | some a => match me.find? (fun g => Nat.beq g.1 f.1 && Nat.beq g.2.1 a) with
        | some g => rsv ds me pds pm (addT τ f.2.2.2 g.2.2.2)
        | none => none
      | none => none)
    else if Nat.beq f.1 2 then (match lgetA τ f.2.1 with
      | some a => match lgetA τ f.2.2.1 with
        | some i => match fndA ds me a i with
          | some s => rsv ds me pds pm (addT τ f.2.2.2 s)
          | none => none
        | none => match cstS pds f.2.2.1 with
          | some c => match me.find? (fun g => Nat.beq g.1 2 && (Nat.beq g.2.1 a && (match cstS ds g.2.2.1 with | some c' => Nat.beq c c' | none => false))) with
            | some g => rsv ds me pds pm (addT ((f.2.2.1, g.2.2.1) :: τ) f.2.2.2 g.2.2.2)
            | none => none
          | none => none
      | none => none)
    else if Nat.beq f.1 3 then (match lgetA τ f.2.2.2 with
      | some _ => rsv ds me pds pm τ
      | none => match lgetA τ f.2.1, lgetA τ f.2.2.1 with
        | some a, some b => match smF ds me a b with
          | some s => rsv ds me pds pm ((f.2.2.2, s) :: τ)
          | none => none
        | _, _ => none)
    else rsv ds me pds pm τ
def fill (τ : List (Nat × Nat)) : Nat → Nat → Option (List Nat)
  | 0, _ => some []
  | n + 1, i => match lgetA τ i with
    | some s => match fill τ n (i + 1) with
      | some l => some (s :: l)
      | none => none
    | none => none
/-- a state's symbols for a pattern's, or none -/
def mtch (σ : aS) (τ0 : List (Nat × Nat)) (pds : List Ds) (pme : List Fa) : Option (List Nat) := match rsv σ.1 σ.2.2.2.1 pds pme τ0 with
  | some τ => match fill τ pds.length 0 with
    | some l => if chkP σ l pds pme then some l else none
    | none => none
  | none => none

/-! the abstract machine over methods: contracts, calls, cuts -/
/-- a contract: the method's number, how many arguments (its object too), descriptions and facts at the entry, what it may change, its cost, how deep, its posts (the answer's symbol, descriptions, facts) -/
abbrev Po : Type := Option Nat × List Ds × List Fa
abbrev Ctr : Type := Nat × Nat × List Ds × List Fa × List (Nat × Nat) × Nat × Nat × List Po
/-- an annotation: 0 narrow; 1 part local a into constants; 2 the top of the stack; 3 read on from local a: (0, class, field), (1, local, 0) on top, (2, 0, 0) out of a row, (3, constant, 0) on top; 4 look whether a branch can be; 5 part the top of the stack, a byte, by sort; 6 part local a's least from the rest -/
abbrev An : Type := Nat × Nat × List (Nat × Nat × Nat)
abbrev Out : Type := (Nat ⊕ Option Nat) × aS
def splt (σ : aS) (s : Nat) : Option (List aS) := match σ.1[s]? with
  | some (0, a, b) => if Nat.ble b (a + 30) then some ((List.range (b + 1 - a)).map (fun i => (σ.1.set s (0, a + i, a + i), σ.2))) else none
  | _ => none
/-- parts of a range: those that aren't empty -/
def cutD (σ : aS) (s : Nat) : List (Nat × Nat) → List aS
  | [] => []
  | q :: l => (match meetS σ.1 s q.1 q.2 with
    | some ds => [(ds, σ.2)]
    | none => []) ++ cutD σ s l
def byteR : List (Nat × Nat) := [(0, Zb - 1), (Zb, Zb + 47), (Zb + 48, Zb + 57), (Zb + 58, Zb + 96), (Zb + 97, Zb + 122), (Zb + 123, Mx)]
def gh1 (KT : List Kd) (σ : aS) (q : Nat × Nat × Nat) : Option aS := match q.1 with
  | 0 => match getA KT (fun _ _ => some (q.2.1, q.2.2), fun _ _ => none, fun _ _ => none, fun _ _ => none) 0 σ 0 0 with
    | some [(_, τ)] => some τ
    | _ => none
  | 1 => match lgetA σ.2.1 q.2.1 with
    | some s => some (setSt σ (s :: σ.2.2.1))
    | none => none
  | 2 => match aldA KT σ [0, 1, 2] 0 with
    | some [(_, τ)] => some τ
    | _ => none
  | 3 => if Nat.ble q.2.1 Mx then some (push σ (0, q.2.1, q.2.1) nf0) else none
  | _ => none
def ghL (KT : List Kd) : List (Nat × Nat × Nat) → aS → Option aS
  | [], σ => some σ
  | q :: p, σ => match gh1 KT σ q with
    | some τ => ghL KT p τ
    | none => none
def an1 (KT : List Kd) (σ : aS) (a : An) : Option (List aS) := match a.1 with
  | 0 => match tight σ with
    | some τ => some [τ]
    | none => some []
  | 1 => match lgetA σ.2.1 a.2.1 with
    | some s => splt σ s
    | none => none
  | 2 => match σ.2.2.1 with
    | s :: _ => splt σ s
    | [] => none
  | 3 => match lgetA σ.2.1 a.2.1 with
    | some s => match ghL KT a.2.2 (setSt σ [s]) with
      | some τ => some [setSt τ σ.2.2.1]
      | none => none
    | none => none
  | 4 => some [σ]
  | 5 => match σ.2.2.1 with
    | s :: _ => if isI σ.1 s then some (cutD σ s byteR) else none
    | [] => none
  | 6 => match lgetA σ.2.1 a.2.1 with
    | some s => match σ.1[s]? with
      | some (0, u, _) => some (cutD σ s [(0, u), (u + 1, Mx)])
      | _ => none
    | none => none
  | _ => none
/-- each of a list -/
def cat {α β : Type} (f : α → Option (List β)) : List α → Option (List β)
  | [] => some []
  | q :: r => match f q with
    | none => none
    | some a => match cat f r with
      | none => none
      | some b => some (a ++ b)
def anL (KT : List Kd) : List An → aS → Option (List aS)
  | [], σ => some [σ]
  | a :: l, σ => match an1 KT σ a with
    | some τs => cat (fun τ => anL KT l τ) τs
    | none => none
def isPr (l : List An) : Bool := l.any (fun a => Nat.beq a.1 4)
/-- can the branch not be? -/
def badB (c : Jvm.ClassFile.Cond) (ds : List Ds) (me : List Fa) (x y : Nat) : Bool := match c with
  | .lt => leT ds me y x 0 0
  | .ge => leT ds me x y 0 1
  | .gt => leT ds me x y 0 0
  | .le => leT ds me y x 0 1
  | .eq => neQ ds me x y
  | .ne => leT ds me x y 0 0 && leT ds me y x 0 0
def prn (c : Jvm.ClassFile.Cond) (ds : List Ds) (lc : List (Nat × Nat)) (st : List Nat) (me : List Fa) (cr x y t f : Nat) : List (Nat × aS) :=
  (if badB c ds me x y then [] else match asm c ds me x y with | some q => [(t, (q.1, lc, st, q.2, cr))] | none => []) ++ (if badB (notC c) ds me x y then [] else match asm (notC c) ds me x y with | some q => [(f, (q.1, lc, st, q.2, cr))] | none => [])
def prA (σ : aS) (ins : Instr) (pc : Nat) : Option (List (Nat × aS)) := match ins with
  | .ifCond c off => match σ.2.2.1, jmp pc off with
    | x :: r, some t => if isI σ.1 x then some (prn c (σ.1 ++ [(0, Zb, Zb)]) σ.2.1 r σ.2.2.2.1 σ.2.2.2.2 x σ.1.length t (pc + 3)) else none
    | _, _ => none
  | .if_icmp c off => match σ.2.2.1, jmp pc off with
    | y :: x :: r, some t => if isI σ.1 x && isI σ.1 y then some (prn c σ.1 σ.2.1 r σ.2.2.2.1 σ.2.2.2.2 x y t (pc + 3)) else none
    | _, _ => none
  | _ => none
def catsA (ds : List Ds) : List Nat → Nat
  | [] => 0
  | s :: l => (if isLng ds s then 2 else 1) + catsA ds l
def lArgsA (ds : List Ds) : Nat → List Nat → List (Nat × Nat)
  | _, [] => []
  | i, s :: l => (i, s) :: lArgsA ds (if isLng ds s then i + 2 else i + 1) l
/-- facts that are left behind a call -/
def killE (ds : List Ds) (eff : List (Nat × Nat)) (me : List Fa) : List Fa := me.filter (fun f => if Nat.beq f.1 2 then (match kdS ds f.2.1 with
    | some k => !(eff.any (fun q => Nat.beq q.1 k && Nat.beq q.2 999))
    | none => false) else if Nat.ble 1000 f.1 then (match kdS ds f.2.1 with
    | some k => !(eff.any (fun q => Nat.beq q.1 k && Nat.beq q.2 (f.1 - 1000)))
    | none => false) else true)
def meetD (x d : Ds) : Option Ds := match d.1, x.1 with
  | 0, 0 => if Nat.ble (max x.2.1 d.2.1) (min x.2.2 d.2.2) then some (0, max x.2.1 d.2.1, min x.2.2 d.2.2) else none
  | 1, 2 => some (1, x.2.1, 0)
  | 7, 2 => some (7, 0, 0)
  | _, _ => some x
def meetL : List Nat → List Ds → List Ds → Option (List Ds)
  | [], _, ds => some ds
  | s :: τ, d :: pds, ds => match ds[s]? with
    | some x => match meetD x d with
      | some y => meetL τ pds (ds.set s y)
      | none => none
    | none => none
  | _ :: _, [], ds => some ds
/-- symbols for a post's: those of the entry, then new ones -/
def tauP (τ : List Nat) (n k : Nat) : List Nat := τ ++ (List.range k).map (fun i => n + i)
def upD (cr : Nat) (d : Ds) : Ds := match d.1 with
  | 3 => (3, cr + d.2.1, 0)
  | _ => d
def upF (cr : Nat) (f : Fa) : Fa := if Nat.beq f.1 12 then (f.1, f.2.1, f.2.2.1, f.2.2.2 + cr) else f
def hasR (me : List Fa) : Bool := me.any (fun f => Nat.beq f.1 10 || Nat.beq f.1 3)
def apP (σ : aS) (τ : List Nat) (eff : List (Nat × Nat)) (cr : Nat) (r : List Nat) (po : Po) : List aS := match meetL τ po.2.1 σ.1 with
  | none => []
  | some ds => match (ds ++ (po.2.1.drop τ.length).map (upD cr), tauP τ ds.length (po.2.1.length - τ.length)) with
    | (ds2, t2) => match (po.2.2.map (fun f => upF cr (mapF t2 f)) ++ killE σ.1 eff σ.2.2.2.1) with
      | me2 => match (ds2, σ.2.1, (match po.1 with | some s => nth t2 s :: r | none => r), me2, cr) with
        | σ2 => if hasR po.2.2 then (match tight σ2 with | some σ3 => [σ3] | none => []) else [σ2]
def subE (a b : List (Nat × Nat)) : Bool := a.all (fun q => b.any (fun p => Nat.beq p.1 q.1 && Nat.beq p.2 q.2))
def numT : Nat → List Nat → List (Nat × Nat)
  | _, [] => []
  | i, s :: l => (i, s) :: numT (i + 1) l
/-- the first contract that can be taken -/
def tkC (σ : aS) (eff : List (Nat × Nat)) (d j : Nat) (args r : List Nat) : List Ctr → Option (List aS)
  | [] => none
  | c :: cs => if Nat.beq c.1 j then (match mtch σ (numT 0 args) c.2.2.1 c.2.2.2.1 with
      | some τ => if Nat.beq args.length c.2.1 && (Nat.ble c.2.1 τ.length && (Nat.ble (c.2.2.2.2.2.2.1 + 1) d && (subE c.2.2.2.2.1 eff && (Nat.ble (σ.2.2.2.2 + c.2.2.2.2.2.1) CrMax && (τ.take args.length == args))))) then some (c.2.2.2.2.2.2.2.flatMap (apP σ τ c.2.2.2.2.1 (σ.2.2.2.2 + c.2.2.2.2.2.1) r)) else none
      | none => tkC σ eff d j args r cs) else tkC σ eff d j args r cs
/-- System.arraycopy, max, min, the texts' -/
def jdkA (KT : List Kd) (eff : List (Nat × Nat)) (σ : aS) (op d : Nat) : Option aS := match op, σ.2.2.1 with
  | 1, n :: dp :: dst :: sp :: src :: r => match kdS σ.1 src, kdS σ.1 dst with
    | some k0, some k1 => match KT[k0]?, KT[k1]? with
      | some (.inr (0, n0, (0, a, b))), some (.inr (0, n1, (0, a', b'))) => match rngS σ.1 n, rngS σ.1 sp, rngS σ.1 dp with
        | some (u, v), some (x, y), some (x', y') => if Nat.ble a' a && (Nat.ble b b' && (Nat.ble Zb u && (Nat.ble Zb x && (Nat.ble Zb x' && (Nat.ble (v + y) (Zb + Zb + n0) && (Nat.ble (v + y') (Zb + Zb + n1) && (eff.contains (k1, 999) && (Nat.ble (catsA σ.1 r) 8 && Nat.ble 1 d)))))))) then some (σ.1, σ.2.1, r, σ.2.2.2.1.filter (fun f => !(Nat.beq f.1 2 && isKd σ.1 f.2.1 k1)), σ.2.2.2.2) else none
        | _, _, _ => none
      | _, _ => none
    | _, _ => none
  | 8, b :: a :: r => if Nat.ble (catsA σ.1 r) 8 && Nat.ble 1 d then (match σ.1[a]?, σ.1[b]? with
    | some (0, x, y), some (0, u, v) => some (push (setSt σ r) (0, max x u, max y v) (fun z => [(10, a, z, Zb), (10, b, z, Zb)]))
    | _, _ => if isI σ.1 a && isI σ.1 b then some (push (setSt σ r) dFull nf0) else none) else none
  | 9, b :: a :: r => if Nat.ble (catsA σ.1 r) 8 && Nat.ble 1 d then (match σ.1[a]?, σ.1[b]? with
    | some (0, x, y), some (0, u, v) => some (push (setSt σ r) (0, min x u, min y v) (fun z => [(10, z, a, Zb), (10, z, b, Zb)]))
    | _, _ => if isI σ.1 a && isI σ.1 b then some (push (setSt σ r) dFull nf0) else none) else none
  | 3, o :: r => if Nat.ble (catsA σ.1 r) 7 && Nat.ble 6 d then (match σ.1[o]? with
    | some (8, 1, _) => some (push (setSt σ r) (0, Zb + 176, Zb + 176) nf0)
    | some (8, 2, _) => some (push (setSt σ r) (0, Zb + 11, Zb + 11) nf0)
    | _ => none) else none
  | 4, i :: o :: r => if Nat.ble (catsA σ.1 r) 7 && Nat.ble 6 d then (match σ.1[o]? with
    | some (8, 1, _) => if inA σ.1 i 176 then some (push (setSt σ r) (0, Zb, Zb + 255) nf0) else none
    | some (8, 2, _) => if inA σ.1 i 11 then some (push (setSt σ r) (0, Zb, Zb + 255) nf0) else none
    | _ => none) else none
  | 5, c :: o :: r => if isI σ.1 c && (Nat.ble (catsA σ.1 r) 7 && Nat.ble 6 d) then (match σ.1[o]? with
    | some (8, 1, _) => some (push (setSt σ r) dFull nf0)
    | some (8, 2, _) => some (push (setSt σ r) dFull nf0)
    | _ => none) else none
  | _, _ => none
/-- what an instruction leads to: outs, next states, or a call (the method, its number, its arguments, the rest of the stack) -/
def retA (M : pM) (ins : Instr) (σ : aS) : Option Out := match ins, σ.2.2.1, M.2.2.2.2.1 with
  | .ireturn, [s], some .int => if isI σ.1 s then some (.inr (some s), σ) else none
  | .ireturn, [s], some .boolean => match rngS σ.1 s with
    | some (a, b) => if Nat.ble Zb a && Nat.ble b (Zb + 1) then some (.inr (some s), σ) else none
    | none => none
  | .lreturn, [s], some .long => if isJ σ.1 s then some (.inr (some s), σ) else none
  | .areturn, [s], some (.object _) => if isNN σ.1 s then some (.inr (some s), σ) else none
  | .return_, [], none => some (.inr none, σ)
  | _, _, _ => none
/-- a call: of an object's method (one more), of a static one -/
def calA (KT : List Kd) (Gm : pG) (σ : aS) (op j : Nat) : Option (pM × List Nat × List Nat) := match Gm[j]? with
  | some (M', na) => if Nat.beq op 0 then (match σ.2.2.1.drop na with
      | o :: r => match kdS σ.1 o with
        | some k => match KT[k]? with
          | some (.inl (cj, _)) => if Nat.beq cj M'.1 && (Nat.ble (catsA σ.1 r) 8 && (Nat.ble na σ.2.2.1.length && Nat.ble (catsA σ.1 (o :: (σ.2.2.1.take na).reverse)) M'.2.2.2.1)) then some (M', o :: (σ.2.2.1.take na).reverse, r) else none
          | _ => none
        | none => none
      | [] => none)
    else if Nat.beq op 6 then (if Nat.ble (catsA σ.1 (σ.2.2.1.drop na)) 8 && (Nat.ble na σ.2.2.1.length && Nat.ble (catsA σ.1 (σ.2.2.1.take na).reverse) M'.2.2.2.1) then some (M', (σ.2.2.1.take na).reverse, σ.2.2.1.drop na) else none)
    else none
  | none => none
/-- the script's row at a place that is known by scr: that symbol and 0 to 5 more -/
def scrA (scr : Option Nat) (σ : aS) : Option aS := match scr, σ.2.2.1 with
  | some s0, i :: a :: r => match σ.1[a]?, nrm σ.1 σ.2.2.2.1 4 i 0 0 with
    | some (8, 0, _), (some b, p, m) => if Nat.beq b s0 && (Nat.ble m p && (Nat.ble p (m + 5) && isI σ.1 i)) then some (push (setSt σ r) dFull nf0) else none
    | _, _ => none
  | _, _ => none
def isInv (ins : Instr) : Option Nat := match ins with
  | .invokevirtual i => some i
  | .invokestatic i => some i
  | _ => none
def isRet (ins : Instr) : Bool := match ins with
  | .ireturn => true
  | .lreturn => true
  | .areturn => true
  | .return_ => true
  | _ => false
def isScr (scr : Option Nat) (ins : Instr) (σ : aS) : Bool := match scr, ins, σ.2.2.1 with
  | some _, .iaload, _ :: a :: _ => (match σ.1[a]? with | some (8, _, _) => true | _ => false)
  | _, _, _ => false
abbrev Env : Type := List Kd × pF × pP × pG × List (Nat × Nat) × List Ctr × List (Nat × List (Nat × List An)) × Option Nat
abbrev ExT : Type := Nat → pM → List (Nat × List An) → List Nat → Bool → Nat → aS → Option (List Out)
def asL {α : Type} (l : List (Nat × List α)) (i : Nat) : List α := match l.find? (fun q => Nat.beq q.1 i) with
  | some q => q.2
  | none => []
def insA (M : pM) (pc : Nat) : Option Instr := match M.2.2.2.2.2.find? (fun q => Nat.beq q.1 pc) with
  | some q => some q.2
  | none => none
/-- op of a call: it must be of its instruction's sort -/
def opOK (ins : Instr) (op : Nat) : Bool := match ins with
  | .invokevirtual _ => Nat.beq op 0 || (Nat.beq op 3 || (Nat.beq op 4 || Nat.beq op 5))
  | .invokestatic _ => Nat.beq op 6 || (Nat.beq op 1 || (Nat.beq op 8 || Nat.beq op 9))
  | _ => false
def puR (x : Option Nat) (r : List Nat) : List Nat := match x with
  | some s => s :: r
  | none => r
def ltR (x : Option Nat) (n : Nat) : Bool := match x with
  | some s => Nat.ble (s + 1) n
  | none => true
/-- the states behind an inlined method's outs -/
def backI (σ : aS) (pc : Nat) (r : List Nat) : List Out → Option (List (Nat × aS))
  | [] => some []
  | o :: l => match o.1, backI σ pc r l with
    | .inr x, some l' => if ltR x o.2.1.length then some ((pc, (o.2.1, σ.2.1, puR x r, o.2.2.2.2.1, o.2.2.2.2.2)) :: l') else none
    | _, _ => none
def exI (E : Env) (ih : ExT) (d : Nat) (M : pM) (an : List (Nat × List An)) (cuts : List Nat) (pr : Bool) (pc : Nat) (σ : aS) : Option (List Out) := match insA M pc with
  | none => none
  | some ins => if isRet ins then (match retA M ins σ with
      | some o => some [o]
      | none => none)
    else match isInv ins with
    | some i => match E.2.2.1.2.2.2 M.1 i with
      | some (op, j) => if opOK ins op then (if Nat.beq op 0 || Nat.beq op 6 then (match calA E.1 E.2.2.2.1 σ op j with
          | some (M', args, r) => match d with
            | 0 => none
            | d' + 1 => match tkC σ E.2.2.2.2.1 d j args r E.2.2.2.2.2.1 with
              | some l => cat (fun τ => ih d M an cuts false (pc + 3) τ) l
              | none => match ih d' M' (asL E.2.2.2.2.2.2.1 j) [] true 0 (σ.1, lArgsA σ.1 0 args, [], σ.2.2.2.1, σ.2.2.2.2) with
                | some outs => match backI σ (pc + 3) r outs with
                  | some l => cat (fun q => ih d M an cuts false q.1 q.2) l
                  | none => none
                | none => none
          | none => none)
        else (match jdkA E.1 E.2.2.2.2.1 σ op d with
          | some τ => ih d M an cuts false (pc + 3) τ
          | none => none)) else none
      | none => none
    | none => match (if isScr E.2.2.2.2.2.2.2 ins σ then (match scrA E.2.2.2.2.2.2.2 σ with
          | some τ => some [(pc + 1, τ)]
          | none => none) else if pr then prA σ ins pc else ai1 E.1 E.2.1 E.2.2.1 E.2.2.2.2.1 M.1 M.2.2.2.1 σ ins pc) with
      | some l => cat (fun q => ih d M an cuts false q.1 q.2) l
      | none => none
def exB (E : Env) (ih : ExT) : ExT := fun d M an cuts first pc σ => if !first && cuts.any (fun p => Nat.beq p pc) then some [(.inl pc, σ)] else match anL E.1 (asL an pc) σ with
  | some l => cat (fun τ => exI E ih d M an cuts (isPr (asL an pc)) pc τ) l
  | none => none
noncomputable def ex (E : Env) (n : Nat) : ExT := Nat.rec (motive := fun _ => ExT) (fun _ _ _ _ _ _ _ => none) (fun _ ih => exB E ih) n
/-! contracts are looked at -/
/-- a linear form: symbols with what they count for (more, less), and a constant (more, less) -/
abbrev Ln : Type := List (Nat × Nat × Nat) × Nat × Nat
/-- a cut: its place, its state, its measure, its credit -/
abbrev Cu : Type := Nat × (List Ds × List (Nat × Nat) × List Nat × List Fa) × Ln × Ln
def addL (b p m : Nat) : List (Nat × Nat × Nat) → List (Nat × Nat × Nat)
  | [] => [(b, p, m)]
  | q :: l => if Nat.beq q.1 b then (b, q.2.1 + p, q.2.2 + m) :: l else q :: addL b p m l
/-- a form over bases alone -/
def nrL (ds : List Ds) (me : List Fa) : List (Nat × Nat × Nat) → Ln → Ln
  | [], a => a
  | q :: l, a => match nrm ds me 4 q.1 0 0 with
    | (some b, u, v) => nrL ds me l (addL b q.2.1 q.2.2 a.1, a.2.1 + (q.2.1 * u + q.2.2 * v), a.2.2 + (q.2.1 * v + q.2.2 * u))
    | (none, u, v) => nrL ds me l (a.1, a.2.1 + (q.2.1 * u + q.2.2 * v), a.2.2 + (q.2.1 * v + q.2.2 * u))
def loL (ds : List Ds) : List (Nat × Nat × Nat) → Nat → Nat → Bool
  | [], kp, km => Nat.ble km kp
  | q :: l, kp, km => if Nat.beq q.2.1 q.2.2 then loL ds l kp km else match ds[q.1]? with
    | some (0, a, b) => if Nat.ble q.2.2 q.2.1 then loL ds l (kp + (q.2.1 - q.2.2) * a) (km + (q.2.1 - q.2.2) * Zb) else loL ds l (kp + (q.2.2 - q.2.1) * Zb) (km + (q.2.2 - q.2.1) * b)
    | _ => false
/-- hints: x is at most y and pc less mc, so many times -/
abbrev Hn : Type := Nat × Nat × Nat × Nat × Nat
def hnL (ds : List Ds) (me : List Fa) : List Hn → Ln → Option Ln
  | [], a => some a
  | h :: l, a => if hasLe me h.1 h.2.1 h.2.2.1 h.2.2.2.1 then hnL ds me l ((h.2.1, 0, h.2.2.2.2) :: (h.1, h.2.2.2.2, 0) :: a.1, a.2.1 + h.2.2.2.2 * h.2.2.2.1, a.2.2 + h.2.2.2.2 * h.2.2.1) else none
/-- is the form at least 0? -/
def geL (ds : List Ds) (me : List Fa) (hs : List Hn) (a : Ln) : Bool := match hnL ds me hs a with
  | some b => match nrL ds me b.1 ([], b.2.1, b.2.2) with
    | c => loL ds c.1 c.2.1 c.2.2
  | none => false
def mapL (τ : List Nat) (l : List (Nat × Nat × Nat)) : List (Nat × Nat × Nat) := l.map (fun q => (nth τ q.1, q.2.1, q.2.2))
/-- a, less b by τ, less c -/
def subL (a b : Ln) (τ : List Nat) (c : Nat) : Ln := (a.1 ++ (mapL τ b.1).map (fun q => (q.1, q.2.2, q.2.1)), a.2.1 + b.2.2, a.2.2 + b.2.1 + c)
def idT : Nat → Nat → List (Nat × Nat)
  | 0, _ => []
  | n + 1, i => (i, i) :: idT n (i + 1)
def locT (σ : aS) : List (Nat × Nat) → List (Nat × Nat) → Option (List (Nat × Nat))
  | [], τ => some τ
  | q :: l, τ => match lgetA σ.2.1 q.1 with
    | some s => locT σ l (addT τ q.2 s)
    | none => none
def stkT : List Nat → List Nat → List (Nat × Nat) → Option (List (Nat × Nat))
  | [], [], τ => some τ
  | p :: l, s :: l', τ => stkT l l' (addT τ p s)
  | _, _, _ => none
/-- is σ of cut c (the first n0 symbols being the entry's)? -/
def mtC (n0 : Nat) (σ : aS) (c : Cu) : Option (List Nat) := match locT σ c.2.1.2.1 (idT n0 0) with
  | some τ => match stkT c.2.1.2.2.1 σ.2.2.1 τ with
    | some τ1 => match mtch σ τ1 c.2.1.1 c.2.1.2.2.2 with
      | some l => if (l.take n0 == List.range n0) && (Nat.ble n0 l.length && (c.2.1.2.1.all (fun q => match lgetA σ.2.1 q.1 with | some s => Nat.beq s (nth l q.2) && Nat.ble (q.2 + 1) l.length | none => false) && ((c.2.1.2.2.1.map (nth l) == σ.2.2.1) && c.2.1.2.2.1.all (fun s => Nat.ble (s + 1) l.length)))) then some l else none
      | none => none
    | none => none
  | none => none
/-- is an out as the post says? -/
def mtP (n0 : Nat) (σ : aS) (x : Option Nat) (po : Po) : Option (List Nat) := match x, po.1 with
  | none, none => (match mtch σ (idT n0 0) po.2.1 po.2.2 with
    | some l => if (l.take n0 == List.range n0) && Nat.ble n0 l.length then some l else none
    | none => none)
  | some s, some p => (match mtch σ (addT (idT n0 0) p s) po.2.1 po.2.2 with
    | some l => if (l.take n0 == List.range n0) && (Nat.ble n0 l.length && (Nat.beq (nth l p) s && Nat.ble (p + 1) l.length)) then some l else none
    | none => none)
  | _, _ => none
/-- an out of the entry (from a credit of cost), or of a cut (its measure and credit) -/
def okO (n0 : Nat) (cus : List Cu) (pos : List Po) (ms ph : Option Ln) (cost : Nat) (hs : List (List Hn)) (o : Out) : Bool := match o.1 with
  | .inl pc => cus.any (fun c => Nat.beq c.1 pc && (match mtC n0 o.2 c with
    | some τ => (match ms with
        | some a => hs.any (fun h => geL o.2.1 o.2.2.2.2.1 h (subL a c.2.2.1 τ 1))
        | none => true) && (hs.any (fun h => geL o.2.1 o.2.2.2.2.1 h (subL (match ph with | some a => a | none => ([], cost, 0)) c.2.2.2 τ o.2.2.2.2.2)))
    | none => false))
  | .inr x => pos.any (fun p => (match mtP n0 o.2 x p with
    | some _ => true
    | none => false)) && hs.any (fun h => geL o.2.1 o.2.2.2.2.1 h (subL (match ph with | some a => a | none => ([], cost, 0)) ([], 0, 0) [] o.2.2.2.2.2))
noncomputable def chkE (E : Env) (n : Nat) (M : pM) (an : List (Nat × List An)) (ct : Ctr) (cus : List Cu) (hs : List (List Hn)) : Bool := match ex E n ct.2.2.2.2.2.2.1 M an (cus.map (fun c => c.1)) true 0 (ct.2.2.1, lArgsA ct.2.2.1 0 (List.range ct.2.1), [], ct.2.2.2.1, 0) with
  | some outs => outs.all (okO ct.2.2.1.length cus ct.2.2.2.2.2.2.2 none none ct.2.2.2.2.2.1 hs)
  | none => false
noncomputable def chkU (E : Env) (n : Nat) (M : pM) (an : List (Nat × List An)) (ct : Ctr) (cus : List Cu) (hs : List (List Hn)) (c : Cu) : Bool := hs.any (fun h => geL c.2.1.1 c.2.1.2.2.2 h c.2.2.1) && (hs.any (fun h => geL c.2.1.1 c.2.1.2.2.2 h c.2.2.2) && (match ex E n ct.2.2.2.2.2.2.1 M an (cus.map (fun c => c.1)) true c.1 (c.2.1.1, c.2.1.2.1, c.2.1.2.2.1, c.2.1.2.2.2, 0) with
  | some outs => outs.all (okO ct.2.2.1.length cus ct.2.2.2.2.2.2.2 (some c.2.2.1) (some c.2.2.2) ct.2.2.2.2.2.1 hs)
  | none => false))

/-! THE PURE MACHINE: worlds with relative addresses (0: the script; 1, 2: the two texts; i + 3: the i-th cell), its steps as a function -/
abbrev pE : Type := (Nat × vp_A) ⊕ (Nat × List Value)
abbrev pW : Type := List pE
abbrev pL : Type := List (Nat × Value)
abbrev pC : Type := Nat × pL × List Value × pW
/-- a method: its class's number in owns, its name, its bytes, its locals, what it answers, its instructions by place -/
abbrev pM : Type := Nat × MethodName × ByteArray × Nat × Option FieldType × List (Nat × Instr)
/-- the pool: fields (class, field), classes, constants, methods (0, 6, 7: a method by number, of an object, static, a constructor; 1: arraycopy; 2: Object's; 3, 4, 5: a text's length, charAt, indexOf) -/
abbrev pP : Type := (Nat → Nat → Option (Nat × Nat)) × (Nat → Nat → Option Nat) × (Nat → Nat → Option Value) × (Nat → Nat → Option (Nat × Nat))
def wAt (w : pW) : Nat → Option pE
  | j + 3 => w[j]?
  | _ => none
def wSet (w : pW) (i : Nat) (e : pE) : pW := w.set (i - 3) e
def lGet (lc : pL) (i : Nat) : Option Value := (lc.find? (fun q => q.1 == i)).map (fun q => q.2)
def lSet1 (lc : pL) (i : Nat) (v : Value) : pL := (i, v) :: lc.filter (fun q => !(q.1 == i) && !(q.1 + 1 == i && q.2.category == 2))
def lSet2 (lc : pL) (i : Nat) (v : Value) : pL := (i, v) :: lc.filter (fun q => !(q.1 == i) && (!(q.1 == i + 1) && !(q.1 + 1 == i && q.2.category == 2)))
def jmp (pc : Nat) (off : Int) : Option Nat := if 0 ≤ (pc : Int) + off then some ((pc : Int) + off).toNat else none
def inB (i : Int32) (n : Nat) : Bool := !(decide (i < 0)) && decide (i.toNatClampNeg < n)
def okPut (ty : FieldType) (v : Value) : Bool := match ty, v with
  | .int, .int _ => true
  | .boolean, .int x => x == 0 || x == 1
  | .long, .long _ => true
  | .object _, .ref _ => true
  | .object _, .null => true
  | .array _, .ref _ => true
  | .array _, .null => true
  | _, _ => false
def icmpB (c : Jvm.ClassFile.Cond) (x y : Int32) : Bool := match c with
  | .eq => decide (x = y)
  | .ne => decide (¬ x = y)
  | .lt => decide (x < y)
  | .ge => decide (y ≤ x)
  | .gt => decide (y < x)
  | .le => decide (x ≤ y)
/-- an array's kind by its type: 0 int, 1 boolean, 2 byte, 3 long, 4 of Evenings -/
def aldI (xs : Nat → Int32) (L : Nat) (w : pW) (a : Nat) (i : Int32) (ts : List Nat) : Option Int32 := match wAt w a with
  | some (.inl (t, n, .inl f)) => if ts.contains t && inB i n then some (f i.toNatClampNeg) else none
  | some _ => none
  | none => if a == 0 && ts.contains 0 && inB i (L - 1) then some (xs i.toNatClampNeg) else none
def naI (t : Nat) (x : Int32) : Int32 := match t with
  | 1 => vp_nar .boolean x
  | 2 => vp_nar .byte x
  | _ => x
def astI (w : pW) (a : Nat) (i x : Int32) (ts : List Nat) : Option pW := match wAt w a with
  | some (.inl (t, n, .inl f)) => if ts.contains t && inB i n then some (wSet w a (.inl (t, n, .inl (upd f i.toNatClampNeg (naI t x))))) else none
  | _ => none
def alen (L : Nat) (w : pW) (a : Nat) : Option Nat := match wAt w a with
  | some (.inl (_, n, _)) => some n
  | some _ => none
  | none => if a == 0 && decide (0 < L) then some (L - 1) else none
def getF (w : pW) (a ci k : Nat) : Option Value := match wAt w a with
  | some (.inr (c, fs)) => if c == ci then fs[k]? else none
  | _ => none
/-- the fields of the classes: how many, their types, whether final -/
abbrev pF : Type := List (List (FieldType × Bool))
def putF (F : pF) (ini : Bool) (own : Nat) (w : pW) (a ci k : Nat) (v : Value) : Option pW := match wAt w a, (F.getD ci [])[k]? with
  | some (.inr (c, fs)), some (ty, fin) => if c == ci && okPut ty v && decide (k < fs.length) && (!fin || (ini && own == ci)) then some (wSet w a (.inr (ci, fs.set k v))) else none
  | _, _ => none
def dflt (ty : FieldType) : Value := match ty with
  | .long => .long 0
  | .object _ => .null
  | .array _ => .null
  | _ => .int 0
def isCat1 : Value → Bool
  | .int _ => true
  | .ref _ => true
  | .null => true
  | _ => false
def tsw (pc : Nat) (dflt lo hi : Int) (offs : Array Int) (x : Int) : Option Nat := if x < lo ∨ hi < x then jmp pc dflt else match offs[(x - lo).toNat]? with
  | some o => jmp pc o
  | none => none
/-- one instruction that is no call and no return (xs, L: the script, of L - 1 ints; L = 0: none is looked at) -/
def sstep (pp : pP) (F : pF) (xs : Nat → Int32) (L own nL : Nat) (ini : Bool) (ins : Instr) (pc : Nat) (lc : pL) (st : List Value) (w : pW) : Option pC := match ins with
  | .iconst n => some (pc + 1, lc, .int (Int32.ofInt n) :: st, w)
  | .bipush n => some (pc + 2, lc, .int (Int8.ofInt n).toInt32 :: st, w)
  | .sipush n => some (pc + 3, lc, .int (Int16.ofInt n).toInt32 :: st, w)
  | .lconst n => some (pc + 1, lc, .long (Int64.ofNat (n : Nat)) :: st, w)
  | .ldc i => match pp.2.2.1 own i with
    | some (.int v) => some (pc + 2, lc, .int v :: st, w)
    | some (.ref a) => some (pc + 2, lc, .ref a :: st, w)
    | _ => none
  | .ldc_w i => match pp.2.2.1 own i with
    | some (.int v) => some (pc + 3, lc, .int v :: st, w)
    | _ => none
  | .ldc2_w i => match pp.2.2.1 own i with
    | some (.long v) => some (pc + 3, lc, .long v :: st, w)
    | _ => none
  | .iload_n k => match lGet lc (k : Nat) with
    | some (.int v) => some (pc + 1, lc, .int v :: st, w)
    | _ => none
  | .iload i => match lGet lc i with
    | some (.int v) => some (pc + 2, lc, .int v :: st, w)
    | _ => none
  | .lload_n k => match lGet lc (k : Nat) with
    | some (.long v) => some (pc + 1, lc, .long v :: st, w)
    | _ => none
  | .aload_n k => match lGet lc (k : Nat) with
    | some (.ref v) => some (pc + 1, lc, .ref v :: st, w)
    | some .null => some (pc + 1, lc, .null :: st, w)
    | _ => none
  | .aload i => match lGet lc i with
    | some (.ref v) => some (pc + 2, lc, .ref v :: st, w)
    | some .null => some (pc + 2, lc, .null :: st, w)
    | _ => none
  | .istore_n k => match st with
    | .int x :: r => if decide ((k : Nat) < nL) then some (pc + 1, lSet1 lc (k : Nat) (.int x), r, w) else none
    | _ => none
  | .istore i => match st with
    | .int x :: r => if decide (i < nL) then some (pc + 2, lSet1 lc i (.int x), r, w) else none
    | _ => none
  | .astore_n k => match st with
    | .ref x :: r => if decide ((k : Nat) < nL) then some (pc + 1, lSet1 lc (k : Nat) (.ref x), r, w) else none
    | _ => none
  | .astore i => match st with
    | .ref x :: r => if decide (i < nL) then some (pc + 2, lSet1 lc i (.ref x), r, w) else none
    | _ => none
  | .lstore_n k => match st with
    | .long x :: r => if decide ((k : Nat) + 1 < nL) then some (pc + 1, lSet2 lc (k : Nat) (.long x), r, w) else none
    | _ => none
  | .iinc i n => match lGet lc i with
    | some (.int x) => if decide (i < nL) then some (pc + 3, lSet1 lc i (.int (x + Int32.ofInt n)), st, w) else none
    | _ => none
  | .iadd => match st with
    | .int y :: .int x :: r => some (pc + 1, lc, .int (x + y) :: r, w)
    | _ => none
  | .isub => match st with
    | .int y :: .int x :: r => some (pc + 1, lc, .int (x - y) :: r, w)
    | _ => none
  | .imul => match st with
    | .int y :: .int x :: r => some (pc + 1, lc, .int (x * y) :: r, w)
    | _ => none
  | .idiv => match st with
    | .int y :: .int x :: r => if y = 0 then none else some (pc + 1, lc, .int (x / y) :: r, w)
    | _ => none
  | .irem => match st with
    | .int y :: .int x :: r => if y = 0 then none else some (pc + 1, lc, .int (x - x / y * y) :: r, w)
    | _ => none
  | .iand => match st with
    | .int y :: .int x :: r => some (pc + 1, lc, .int (x &&& y) :: r, w)
    | _ => none
  | .ior => match st with
    | .int y :: .int x :: r => some (pc + 1, lc, .int (x ||| y) :: r, w)
    | _ => none
  | .ixor => match st with
    | .int y :: .int x :: r => some (pc + 1, lc, .int (x ^^^ y) :: r, w)
    | _ => none
  | .ishl => match st with
    | .int y :: .int x :: r => some (pc + 1, lc, .int (x <<< (y &&& 31)) :: r, w)
    | _ => none
  | .ishr => match st with
    | .int y :: .int x :: r => some (pc + 1, lc, .int (x >>> (y &&& 31)) :: r, w)
    | _ => none
  | .iushr => match st with
    | .int y :: .int x :: r => some (pc + 1, lc, .int ((x.toUInt32 >>> (y.toUInt32 &&& Int32.toUInt32 31)).toInt32) :: r, w)
    | _ => none
  | .lor => match st with
    | .long y :: .long x :: r => some (pc + 1, lc, .long (x ||| y) :: r, w)
    | _ => none
  | .lshl => match st with
    | .int y :: .long x :: r => some (pc + 1, lc, .long (x <<< (y.toInt64 &&& 63)) :: r, w)
    | _ => none
  | .lcmp => match st with
    | .long y :: .long x :: r => some (pc + 1, lc, .int (lg_cmp x y) :: r, w)
    | _ => none
  | .ineg => match st with
    | .int x :: r => some (pc + 1, lc, .int (-x) :: r, w)
    | _ => none
  | .i2l => match st with
    | .int x :: r => some (pc + 1, lc, .long (x.toInt64) :: r, w)
    | _ => none
  | .i2b => match st with
    | .int x :: r => some (pc + 1, lc, .int (x.toInt8.toInt32) :: r, w)
    | _ => none
  | .i2c => match st with
    | .int x :: r => some (pc + 1, lc, .int ((x.toUInt32 % 65536).toInt32) :: r, w)
    | _ => none
  | .dup => match st with
    | v :: r => if isCat1 v then some (pc + 1, lc, v :: v :: r, w) else none
    | _ => none
  | .pop => match st with
    | v :: r => if isCat1 v then some (pc + 1, lc, r, w) else none
    | _ => none
  | .dup2 => match st with
    | v :: u :: r => if isCat1 v && isCat1 u then some (pc + 1, lc, v :: u :: v :: u :: r, w) else none
    | _ => none
  | .ifCond c off => match st, jmp pc off with
    | .int x :: r, some t => some (if icmpB c x 0 then t else pc + 3, lc, r, w)
    | _, _ => none
  | .if_icmp c off => match st, jmp pc off with
    | .int y :: .int x :: r, some t => some (if icmpB c x y then t else pc + 3, lc, r, w)
    | _, _ => none
  | .goto off => match jmp pc off with
    | some t => some (t, lc, st, w)
    | none => none
  | .ifnonnull off => match st, jmp pc off with
    | .ref _ :: r, some t => some (t, lc, r, w)
    | .null :: r, _ => some (pc + 3, lc, r, w)
    | _, _ => none
  | .tableswitch d lo hi offs => match st with
    | .int x :: r => match tsw pc d lo hi offs x.toInt with
      | some t => some (t, lc, r, w)
      | none => none
    | _ => none
  | .lookupswitch d ps => match st with
    | .int x :: r => if (ps.toList.zip (ps.toList.drop 1)).all (fun (a, next) => a.1 < next.1) then match jmp pc (Op.lookupswitch.offset ps.toList d x.toInt) with
      | some t => some (t, lc, r, w)
      | none => none
      else none
    | _ => none
  | .getfield i => match st, pp.1 own i with
    | .ref a :: r, some (ci, k) => match getF w a ci k with
      | some v => some (pc + 3, lc, v :: r, w)
      | none => none
    | _, _ => none
  | .putfield i => match st, pp.1 own i with
    | v :: .ref a :: r, some (ci, k) => match putF F ini own w a ci k v with
      | some w' => some (pc + 3, lc, r, w')
      | none => none
    | _, _ => none
  | .iaload => match st with
    | .int i :: .ref a :: r => match aldI xs L w a i [0] with
      | some v => some (pc + 1, lc, .int v :: r, w)
      | none => none
    | _ => none
  | .baload => match st with
    | .int i :: .ref a :: r => match aldI xs L w a i [1, 2] with
      | some v => some (pc + 1, lc, .int v :: r, w)
      | none => none
    | _ => none
  | .laload => match st with
    | .int i :: .ref a :: r => match wAt w a with
      | some (.inl (3, n, .inr (.inl f))) => if inB i n then some (pc + 1, lc, .long (f i.toNatClampNeg) :: r, w) else none
      | _ => none
    | _ => none
  | .aaload => match st with
    | .int i :: .ref a :: r => match wAt w a with
      | some (.inl (4, n, .inr (.inr (.inr (.inr f))))) => if inB i n then some (pc + 1, lc, va_rf (f i.toNatClampNeg) :: r, w) else none
      | _ => none
    | _ => none
  | .iastore => match st with
    | .int x :: .int i :: .ref a :: r => match astI w a i x [0] with
      | some w' => some (pc + 1, lc, r, w')
      | none => none
    | _ => none
  | .bastore => match st with
    | .int x :: .int i :: .ref a :: r => match astI w a i x [1, 2] with
      | some w' => some (pc + 1, lc, r, w')
      | none => none
    | _ => none
  | .lastore => match st with
    | .long x :: .int i :: .ref a :: r => match wAt w a with
      | some (.inl (3, n, .inr (.inl f))) => if inB i n then some (pc + 1, lc, r, wSet w a (.inl (3, n, .inr (.inl (vp_updL f i.toNatClampNeg x))))) else none
      | _ => none
    | _ => none
  | .aastore => match st with
    | .ref v :: .int i :: .ref a :: r => match wAt w a, wAt w v with
      | some (.inl (4, n, .inr (.inr (.inr (.inr f))))), some (.inr (2, _)) => if inB i n then some (pc + 1, lc, r, wSet w a (.inl (4, n, .inr (.inr (.inr (.inr (va_up f i.toNatClampNeg (some v)))))))) else none
      | _, _ => none
    | _ => none
  | .arraylength => match st with
    | .ref a :: r => match alen L w a with
      | some n => some (pc + 1, lc, .int (Int32.ofNat n) :: r, w)
      | none => none
    | _ => none
  | .new i => match pp.2.1 own i with
    | some ci => some (pc + 3, lc, .ref (w.length + 3) :: st, w ++ [.inr (ci, (F.getD ci []).map (fun q => dflt q.1))])
    | none => none
  | .newarray t => match st with
    | .int n :: r => if decide (¬ n < 0) && decide (n.toNatClampNeg ≤ 4000) then match t with
      | .int => some (pc + 2, lc, .ref (w.length + 3) :: r, w ++ [.inl (0, n.toNatClampNeg, .inl (fun _ => 0))])
      | .boolean => some (pc + 2, lc, .ref (w.length + 3) :: r, w ++ [.inl (1, n.toNatClampNeg, .inl (fun _ => 0))])
      | .byte => some (pc + 2, lc, .ref (w.length + 3) :: r, w ++ [.inl (2, n.toNatClampNeg, .inl (fun _ => 0))])
      | .long => some (pc + 2, lc, .ref (w.length + 3) :: r, w ++ [.inl (3, n.toNatClampNeg, .inr (.inl (fun _ => 0)))])
      | _ => none
      else none
    | _ => none
  | .anewarray i => match st, pp.2.1 own i with
    | .int n :: r, some 2 => if decide (¬ n < 0) && decide (n.toNatClampNeg ≤ 4000) then some (pc + 3, lc, .ref (w.length + 3) :: r, w ++ [.inl (4, n.toNatClampNeg, .inr (.inr (.inr (.inr (fun _ => none)))))]) else none
    | _, _ => none
  | _ => none
/-- System.arraycopy over rows of ints -/
def acpy (w : pW) (a0 : Nat) (sp : Int32) (a : Nat) (dp n : Int32) : Option pW := match wAt w a0, wAt w a with
  | some (.inl (0, n0, .inl f)), some (.inl (0, n1, .inl g)) => if decide (¬ sp < 0) && (decide (¬ dp < 0) && (decide (¬ n < 0) && (decide (sp.toNatClampNeg + n.toNatClampNeg ≤ n0) && decide (dp.toNatClampNeg + n.toNatClampNeg ≤ n1)))) then some (wSet w a (.inl (0, n1, .inl (va_cpy f g sp.toNatClampNeg dp.toNatClampNeg n.toNatClampNeg)))) else none
  | _, _ => none
/-- the two texts -/
abbrev pT : Type := List (List Int32)
def chAt (tx : List Int32) (k : Nat) : Int32 := tx.getD k 0 &&& 255
def ixF (c : Int32) : List Int32 → Nat → Int32
  | [], _ => -1
  | b :: l, k => if b &&& 255 = c then nI k else ixF c l (k + 1)
def tops (tx : pT) (op : Nat) (st : List Value) : Option (List Value) := match op, st with
  | 3, .ref (a + 1) :: r => match tx[a]? with
    | some t => some (.int (nI t.length) :: r)
    | none => none
  | 4, .int i :: .ref (a + 1) :: r => match tx[a]? with
    | some t => if inB i t.length then some (.int (chAt t i.toNatClampNeg) :: r) else none
    | none => none
  | 5, .int c :: .ref (a + 1) :: r => match tx[a]? with
    | some t => some (.int (ixF c t 0) :: r)
    | none => none
  | _, _ => none
def cats (st : List Value) : Nat := (st.map fun v => v.category).sum
/-- how many arguments a method takes off the stack (the object itself apart), by its number -/
abbrev pG : Type := List (pM × Nat)
def lArgs : Nat → List Value → pL
  | _, [] => []
  | i, v :: r => (i, v) :: lArgs (if v.category = 2 then i + 2 else i + 1) r
def isInit (y : MethodName) : Bool := y.name == "<init>"
/-- what an instruction does: an answer, a next state, or a call (the method, its arguments, where and with what it goes on) -/
abbrev pA : Type := Option Value ⊕ pC ⊕ (pM × List Value × Nat × pL × List Value)
def instrAt (M : pM) (pc : Nat) : Option Instr := (M.2.2.2.2.2.find? (fun q => q.1 == pc)).map (fun q => q.2)
def aret (M : pM) (ins : Instr) (st : List Value) : Option (Option Value) := match ins, st, M.2.2.2.2.1 with
  | .ireturn, [.int v], some .int => some (some (.int v))
  | .ireturn, [.int v], some .boolean => if v = 0 ∨ v = 1 then some (some (.int v)) else none
  | .lreturn, [.long v], some .long => some (some (.long v))
  | .areturn, [.ref v], some (.object _) => some (some (.ref v))
  | .return_, [], none => some none
  | _, _, _ => none
def acallV (pp : pP) (G : pG) (tx : pT) (M : pM) (d i pc : Nat) (lc : pL) (st : List Value) (w : pW) : Option pA := match pp.2.2.2 M.1 i with
  | some (0, j) => match G[j]? with
    | some (M', na) => match st.drop na with
      | .ref b :: r => match wAt w b with
        | some (.inr (ci, _)) => if ci == M'.1 && (decide (cats r ≤ 8) && (decide (na ≤ st.length) && decide (cats (.ref b :: (st.take na).reverse) ≤ M'.2.2.2.1))) then some (.inr (.inr (M', .ref b :: (st.take na).reverse, pc + 3, lc, r))) else none
        | _ => none
      | _ => none
    | none => none
  | some (op, _) => match tops tx op st with
    | some st' => if decide (cats st' ≤ 8) && decide (6 ≤ d) then some (.inr (.inl (pc + 3, lc, st', w))) else none
    | none => none
  | none => none
def acallS (pp : pP) (G : pG) (M : pM) (d i pc : Nat) (lc : pL) (st : List Value) (w : pW) : Option pA := match pp.2.2.2 M.1 i with
  | some (6, j) => match G[j]? with
    | some (M', na) => if decide (cats (st.drop na) ≤ 8) && (decide (na ≤ st.length) && decide (cats (st.take na).reverse ≤ M'.2.2.2.1)) then some (.inr (.inr (M', (st.take na).reverse, pc + 3, lc, st.drop na))) else none
    | none => none
  | some (1, _) => match st with
    | .int k :: .int dp :: .ref a :: .int sp :: .ref a0 :: r => if decide (cats r ≤ 8) && decide (0 < d) then match acpy w a0 sp a dp k with
      | some w' => some (.inr (.inl (pc + 3, lc, r, w')))
      | none => none
      else none
    | _ => none
  | some (8, _) => match st with
    | .int y :: .int x :: r => if decide (cats r ≤ 8) && decide (0 < d) then some (.inr (.inl (pc + 3, lc, .int (if x < y then y else x) :: r, w))) else none
    | _ => none
  | some (9, _) => match st with
    | .int y :: .int x :: r => if decide (cats r ≤ 8) && decide (0 < d) then some (.inr (.inl (pc + 3, lc, .int (if y < x then y else x) :: r, w))) else none
    | _ => none
  | _ => none
def acallI (pp : pP) (G : pG) (M : pM) (d i pc : Nat) (lc : pL) (st : List Value) (w : pW) : Option pA := match pp.2.2.2 M.1 i with
  | some (7, j) => match G[j]? with
    | some (M', na) => match st.drop na with
      | .ref b :: r => if decide (cats r ≤ 8) && (decide (na ≤ st.length) && (isInit M'.2.1 && decide (cats (.ref b :: (st.take na).reverse) ≤ M'.2.2.2.1))) then some (.inr (.inr (M', .ref b :: (st.take na).reverse, pc + 3, lc, r))) else none
      | _ => none
    | none => none
  | some (2, _) => match st with
    | .ref _ :: r => if decide (cats r ≤ 8) && decide (0 < d) then some (.inr (.inl (pc + 3, lc, r, w))) else none
    | _ => none
  | _ => none
def astep (pp : pP) (F : pF) (G : pG) (tx : pT) (xs : Nat → Int32) (L : Nat) (M : pM) (d : Nat) (ins : Instr) (pc : Nat) (lc : pL) (st : List Value) (w : pW) : Option pA := match ins with
  | .ireturn => (aret M ins st).map .inl
  | .lreturn => (aret M ins st).map .inl
  | .areturn => (aret M ins st).map .inl
  | .return_ => (aret M ins st).map .inl
  | .invokevirtual i => acallV pp G tx M d i pc lc st w
  | .invokestatic i => acallS pp G M d i pc lc st w
  | .invokespecial i => acallI pp G M d i pc lc st w
  | _ => (sstep pp F xs L M.1 M.2.2.2.1 (isInit M.2.1) ins pc lc st w).map (fun c => .inr (.inl c))
/-- n steps at most, d frames deep at most: the answer, and the world behind it -/
def run (pp : pP) (F : pF) (G : pG) (tx : pT) (xs : Nat → Int32) (L : Nat) : Nat → Nat → pM → Nat → pL → List Value → pW → Option (Option Value × pW)
  | 0, _, _, _, _, _, _ => none
  | n + 1, d, M, pc, lc, st, w => match instrAt M pc with
    | none => none
    | some ins => match astep pp F G tx xs L M d ins pc lc st w with
      | some (.inl v) => some (v, w)
      | some (.inr (.inl (pc', lc', st', w'))) => run pp F G tx xs L n d M pc' lc' st' w'
      | some (.inr (.inr (M', as, pc', lc', r))) => match d with
        | 0 => none
        | d' + 1 => match run pp F G tx xs L n d' M' 0 (lArgs 0 as) [] w with
          | some (v, w') => run pp F G tx xs L n d M pc' lc' (v.toList ++ r) w'
          | none => none
      | none => none

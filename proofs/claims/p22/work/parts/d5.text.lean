/-! the texts: the JDK's own methods over them -/
def TL : List Nat := TX.map List.length
def tx_ST (Z0 : Nat) (adK adV : Nat → Nat) (fm : Value) (U : State) : Prop := Z0 ≤ U.heap.size ∧ vk_S 2 TL TX adK adV (fun q => Z0 ≤ q) U U.heap ∧ va_Z "java/lang/String" "COMPACT_STRINGS" "Z" (.int 1) (fun q => Z0 ≤ q) U U.heap ∧ va_Z "jdk/internal/util/Preconditions" "SIOOBE_FORMATTER" "Ljava/util/function/BiFunction;" fm (fun q => Z0 ≤ q) U U.heap
theorem tx_ST.mv {Z0 : Nat} {adK adV : Nat → Nat} {fm : Value} {u U : State} (hv : u.vm.Alike U.vm) (hz : Z0 ≤ U.heap.size) (hh : ∀ q, q < Z0 → U.heap[q]? = u.heap[q]?) (h : tx_ST Z0 adK adV fm u) : tx_ST Z0 adK adV fm U :=
  ⟨hz, (h.2.1.moved hv).kept (fun a _ ha => hh a (Nat.lt_of_not_le ha)), (h.2.2.1.moved hv).kept (fun a _ ha => hh a (Nat.lt_of_not_le ha)), (h.2.2.2.moved hv).kept (fun a _ ha => hh a (Nat.lt_of_not_le ha))⟩
theorem tx_blind {Z0 : Nat} {adK adV : Nat → Nat} {fm : Value} {av : List Value} : FrameBlind (va_Pc av (tx_ST Z0 adK adV fm)) := fun a U g mk q => ⟨q.1, tx_ST.mv (u := U) (U := U.calling g mk a) (Vm.Alike.refl U.vm) q.2.1 (fun _ _ => rfl) q.2⟩
abbrev tx_Q (v : Int32) : Array Value → State → Outcome → State → Prop := va_Qi (fun (r : Int32) (_ : Unit) => r = v) (fun _ _ => True) (fun _ => False)
abbrev tx_Qv : Array Value → State → Outcome → State → Prop := va_Qv (fun _ : Unit => True) (fun _ _ => True) (fun _ => False)
abbrev tx_rm (k : Nat) : Room := { frames := k, cells := 0, slots := 0, locals := 40 * k }
section TXA
variable {l : Launch} {y : MethodName} {cc : ByteArray} {maxL k : Nat} {rt : FieldType} {Z0 : Nat} {adK adV : Nat → Nat} {fm : Value} {av : List Value}
theorem mk_s {v : Int32} (hy : plainName y.cls = true) (hlen : (lg_sl av).length ≤ maxL) (hn : narrow rt (.int v) = .int v)
    (body : ∀ (p : Program) (e : Jvm.Env) (s : State) (m : MethodId) (args : Array Value) (below : List Frame) (meth : Method) (c : Code) (R : Room) (Q : State → Prop) (ls : Array Slot),
      p.tables.exec = Jvm.exec → c.code = cc → c.maxLocals = maxL → (∀ w ∈ wt, w.before args s = true) → s.vm.findClass y.cls = some m.cls → (k ≤ R.frames ∧ 40 * k ≤ R.locals) → tx_ST Z0 adK adV fm s →
      (∀ (H1 : Heap) (locs : List Loc) (pc : Nat) (ls1 : Array Slot), decode cc pc = .ok (.ireturn, 1) → va_S (fun _ => False) s.heap H1 locs → W p l e R s m args below meth c H1 locs 0 0 Q (F0 m pc ls1 [.int v])) →
      lv_has ls maxL (lv_args 0 av) → W p l e R s m args below meth c s.heap [] 0 0 Q (F0 m 0 ls [])) :
    Met l y (.code y cc maxL (some rt) :: wt) (tx_rm k) (va_Pc av (tx_ST Z0 adK adV fm)) (tx_Q v) 0 0 (fun _ => False) := by
  refine Met.ofW (cc := cc) (maxL := maxL) (ret := some rt) hy rfl ?_
  intro p e s m args below meth c s₁ B hml hv
  obtain ⟨ha, hST⟩ := hv
  have hts := atoms_spec (ws := .code y cc maxL (some rt) :: wt) B.pre
  have hl := lv_entry av hlen
  have hfr : entryFrame m args maxL = F0 m 0 ((lg_sl av ++ List.replicate (maxL - (lg_sl av).length) Slot.unset).toArray) [] := by rw [ha]; exact lg_entry_eq m av maxL
  rw [hfr]
  refine body p e s m args below meth c _ _ _ B.exec B.bytes hml (fun w hw => hts w (List.mem_cons_of_mem _ hw)) (findClass_of_methodNamed B.named) ⟨Nat.le_refl _, Nat.le_refl _⟩ hST ?_ hl
  intro H1 locs pc ls1 hd hS
  exact W.zret B.exec B.bytes B.returns hn (fun t ht hW => ⟨⟨v, (), rfl, rfl, trivial⟩, hS.F ht⟩) hS.2.2 hd
theorem mk_sv (hy : plainName y.cls = true) (hlen : (lg_sl av).length ≤ maxL)
    (body : ∀ (p : Program) (e : Jvm.Env) (s : State) (m : MethodId) (args : Array Value) (below : List Frame) (meth : Method) (c : Code) (R : Room) (Q : State → Prop) (ls : Array Slot),
      p.tables.exec = Jvm.exec → c.code = cc → c.maxLocals = maxL → (∀ w ∈ wt, w.before args s = true) → s.vm.findClass y.cls = some m.cls → (k ≤ R.frames ∧ 40 * k ≤ R.locals) → tx_ST Z0 adK adV fm s →
      (∀ (H1 : Heap) (locs : List Loc) (pc : Nat) (ls1 : Array Slot), decode cc pc = .ok (.return_, 1) → va_S (fun _ => False) s.heap H1 locs → W p l e R s m args below meth c H1 locs 0 0 Q (F0 m pc ls1 [])) →
      lv_has ls maxL (lv_args 0 av) → W p l e R s m args below meth c s.heap [] 0 0 Q (F0 m 0 ls [])) :
    Met l y (.code y cc maxL none :: wt) (tx_rm k) (va_Pc av (tx_ST Z0 adK adV fm)) tx_Qv 0 0 (fun _ => False) := by
  refine Met.ofW (cc := cc) (maxL := maxL) (ret := none) hy rfl ?_
  intro p e s m args below meth c s₁ B hml hv
  obtain ⟨ha, hST⟩ := hv
  have hts := atoms_spec (ws := .code y cc maxL none :: wt) B.pre
  have hl := lv_entry av hlen
  have hfr : entryFrame m args maxL = F0 m 0 ((lg_sl av ++ List.replicate (maxL - (lg_sl av).length) Slot.unset).toArray) [] := by rw [ha]; exact lg_entry_eq m av maxL
  rw [hfr]
  refine body p e s m args below meth c _ _ _ B.exec B.bytes hml (fun w hw => hts w (List.mem_cons_of_mem _ hw)) (findClass_of_methodNamed B.named) ⟨Nat.le_refl _, Nat.le_refl _⟩ hST ?_ hl
  intro H1 locs pc ls1 hd hS
  exact W.vret B.exec B.bytes B.returns (fun t ht hW => ⟨⟨(), rfl, trivial, trivial⟩, hS.F ht⟩) hS.2.2 hd
end TXA
section TXB
variable {p : Program} {l : Launch} {e : Jvm.Env} {R : Room} {s : State} {m : MethodId} {args : Array Value} {below : List Frame} {meth : Method} {c : Code} {H : Heap} {locs : List Loc} {cells slots : Nat} {Q : State → Prop} {cc bytes : ByteArray} {pc nL maxL idx k : Nat} {ls : Array Slot} {y : MethodName} {own : String} {A : Nat → Prop} {ret : Option FieldType} {Z0 : Nat} {adK adV : Nat → Nat} {fm : Value} {v : Int32}
theorem tx_pre (hST : tx_ST Z0 adK adV fm s) (hAZ : ∀ q, A q → Z0 ≤ q) (hS : va_S A s.heap H locs) (av : List Value) : ∀ U : State, U.heap = H → s.WarmedH U.vm → va_Pc av (tx_ST Z0 adK adV fm) av.toArray U := fun U hU hW => ⟨rfl, hST.mv hW.alike (by rw [hU]; exact Nat.le_trans hST.1 hS.1) (fun q hq => by rw [hU]; exact hS.2.1 q (Nat.lt_of_lt_of_le hq hST.1) (fun h => absurd (hAZ q h) (Nat.not_le.mpr hq)))⟩
/-- a call of a method of a text -/
theorem tx_V (i : Nat) (hi : i < 2) (As rest : List Value) (hM : Met l y (.code y bytes maxL ret :: wt) (tx_rm k) (va_Pc (.ref (adK i) :: As) (tx_ST Z0 adK adV fm)) (tx_Q v) 0 0 (fun _ => False)) (hy : y.cls = "java/lang/String") (hx : p.tables.exec = Jvm.exec) (hb : c.code = cc) (hml : c.maxLocals = nL) (htw : ∀ w ∈ wt, w.before args s = true) (hown : s.vm.findClass own = some m.cls) (hsz : ls.size = nL) (hST : tx_ST Z0 adK adV fm s) (hAZ : ∀ q, A q → Z0 ≤ q) (hS : va_S A s.heap H locs)
    (h1 : Cond.code y bytes maxL ret ∈ wt) (h2 : Cond.instanceMethod y ∈ wt) (h3 : Cond.selects y.cls y y ∈ wt) (h4 : Cond.initialized y.cls ∈ wt) (h5 : Cond.methodLink own idx y ∈ wt)
    (hd : y.cls ≠ "java/lang/invoke/MethodHandle" ∧ y.cls ≠ "java/lang/invoke/VarHandle" ∧ (parseMethodDescriptor y.desc).map (fun d => d.parameters.length) = some As.length) (hR : k + 1 ≤ R.frames ∧ 8 + (maxL + 11) + 40 * k ≤ R.locals) (hf : cells ≤ R.cells ∧ slots ≤ R.slots)
    (hW : (rest.map fun v => v.category).sum ≤ 8) (hdg : decode cc pc = .ok (.invokevirtual idx, 3))
    (kk : ∀ (H1 : Heap) (locs1 : List Loc), va_S A s.heap H1 locs1 → H.size ≤ H1.size → (∀ q, q < H.size → H1[q]? = H[q]?) → W p l e R s m args below meth c H1 locs1 cells slots Q (F0 m (pc + 3) ls (.int v :: rest))) : W p l e R s m args below meth c H locs cells slots Q (F0 m pc ls (As.reverse ++ .ref (adK i) :: rest)) := by
  have hr := va_runV (p := p) (l := l) (e := e) (R := R) (below := below) (meth := meth) (H := H) (locs := locs) (cells := cells) (slots := slots) (g := F0 m pc ls (As.reverse ++ .ref (adK i) :: rest)) (C := y.cls) (As := As) (rest := rest) ⟨hx, hb, hml, hown, htw⟩ hM (cwV As.length htw (wt_V h1 h5 h2 h3 h4) rfl rfl rfl ⟨rfl, hd⟩ hR) ⟨tx_blind, by rw [hy]; exact vk_recv (hST.2.1.narrow hAZ) hi hS, tx_pre hST hAZ hS _⟩ rfl rfl hsz rfl (lv_room hW) hdg hf
  refine va_calli hr hS (fun q _ h => h.elim) (fun q h => h.elim) (fun r u t H1 locs1 ht _ hp _ hz hk hS1 => ?_)
  have hp : r = v := hp
  subst hp
  exact kk H1 locs1 hS1 hz (fun q hq => hk q hq (fun h => h))
/-- a call of a static method -/
theorem tx_S (As rest : List Value) (hM : Met l y (.code y bytes maxL ret :: wt) (tx_rm k) (va_Pc As (tx_ST Z0 adK adV fm)) (tx_Q v) 0 0 (fun _ => False)) (hx : p.tables.exec = Jvm.exec) (hb : c.code = cc) (hml : c.maxLocals = nL) (htw : ∀ w ∈ wt, w.before args s = true) (hown : s.vm.findClass own = some m.cls) (hsz : ls.size = nL) (hST : tx_ST Z0 adK adV fm s) (hAZ : ∀ q, A q → Z0 ≤ q) (hS : va_S A s.heap H locs)
    (h1 : Cond.code y bytes maxL ret ∈ wt) (h2 : Cond.static y ∈ wt) (h4 : Cond.initialized y.cls ∈ wt) (h5 : Cond.methodLink own idx y ∈ wt)
    (hd : y.cls ≠ "java/lang/invoke/MethodHandle" ∧ y.cls ≠ "java/lang/invoke/VarHandle" ∧ (parseMethodDescriptor y.desc).map (fun d => d.parameters.length) = some As.length) (hR : k + 1 ≤ R.frames ∧ 8 + (maxL + 11) + 40 * k ≤ R.locals) (hf : cells ≤ R.cells ∧ slots ≤ R.slots)
    (hW : (rest.map fun v => v.category).sum ≤ 8) (hdg : decode cc pc = .ok (.invokestatic idx, 3))
    (kk : ∀ (H1 : Heap) (locs1 : List Loc), va_S A s.heap H1 locs1 → W p l e R s m args below meth c H1 locs1 cells slots Q (F0 m (pc + 3) ls (.int v :: rest))) : W p l e R s m args below meth c H locs cells slots Q (F0 m pc ls (As.reverse ++ rest)) := by
  have hr := va_runS (p := p) (l := l) (e := e) (R := R) (below := below) (meth := meth) (H := H) (locs := locs) (cells := cells) (slots := slots) (g := F0 m pc ls (As.reverse ++ rest)) (As := As) (rest := rest) ⟨hx, hb, hml, hown, htw⟩ hM (va_cwS As.length htw (wt_S h1 h5 h2 h4) rfl rfl rfl hd hR) ⟨tx_blind, tx_pre hST hAZ hS _⟩ rfl rfl hsz rfl (lv_room hW) hdg hf
  refine va_calli hr hS (fun q _ h => h.elim) (fun q h => h.elim) (fun r u t H1 locs1 ht _ hp _ hz hk hS1 => ?_)
  have hp : r = v := hp
  subst hp
  exact kk H1 locs1 hS1
theorem tx_Sv (As rest : List Value) (hM : Met l y (.code y bytes maxL ret :: wt) (tx_rm k) (va_Pc As (tx_ST Z0 adK adV fm)) tx_Qv 0 0 (fun _ => False)) (hx : p.tables.exec = Jvm.exec) (hb : c.code = cc) (hml : c.maxLocals = nL) (htw : ∀ w ∈ wt, w.before args s = true) (hown : s.vm.findClass own = some m.cls) (hsz : ls.size = nL) (hST : tx_ST Z0 adK adV fm s) (hAZ : ∀ q, A q → Z0 ≤ q) (hS : va_S A s.heap H locs)
    (h1 : Cond.code y bytes maxL ret ∈ wt) (h2 : Cond.static y ∈ wt) (h4 : Cond.initialized y.cls ∈ wt) (h5 : Cond.methodLink own idx y ∈ wt)
    (hd : y.cls ≠ "java/lang/invoke/MethodHandle" ∧ y.cls ≠ "java/lang/invoke/VarHandle" ∧ (parseMethodDescriptor y.desc).map (fun d => d.parameters.length) = some As.length) (hR : k + 1 ≤ R.frames ∧ 8 + (maxL + 11) + 40 * k ≤ R.locals) (hf : cells ≤ R.cells ∧ slots ≤ R.slots)
    (hW : (rest.map fun v => v.category).sum ≤ 8) (hdg : decode cc pc = .ok (.invokestatic idx, 3))
    (kk : ∀ (H1 : Heap) (locs1 : List Loc), va_S A s.heap H1 locs1 → W p l e R s m args below meth c H1 locs1 cells slots Q (F0 m (pc + 3) ls rest)) : W p l e R s m args below meth c H locs cells slots Q (F0 m pc ls (As.reverse ++ rest)) := by
  have hr := va_runS (p := p) (l := l) (e := e) (R := R) (below := below) (meth := meth) (H := H) (locs := locs) (cells := cells) (slots := slots) (g := F0 m pc ls (As.reverse ++ rest)) (As := As) (rest := rest) ⟨hx, hb, hml, hown, htw⟩ hM (va_cwS As.length htw (wt_S h1 h5 h2 h4) rfl rfl rfl hd hR) ⟨tx_blind, tx_pre hST hAZ hS _⟩ rfl rfl hsz rfl (lv_room hW) hdg hf
  exact va_callv hr hS (fun q _ h => h.elim) (fun q h => h.elim) (fun u t H1 locs1 ht _ hp _ hz hk hS1 => kk H1 locs1 hS1)
end TXB

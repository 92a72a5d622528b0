/-! the words that every method may use: those of the tables that keep; nest mates' links, which a world carries -/
theorem wt_ex : ∃ ws : List Cond, ∀ w : Cond, w ∈ ws ↔ w ∈ lw_tbl ∧ goodWord w = true := ⟨lw_tbl.filter goodWord, fun _ => List.mem_filter⟩
noncomputable def wt : List Cond := Classical.choose wt_ex
theorem wt_iff (w : Cond) : w ∈ wt ↔ w ∈ lw_tbl ∧ goodWord w = true := Classical.choose_spec wt_ex w
theorem wt_of {w : Cond} (i : Nat) (h : lw_tbl[i]? = some w) (g : goodWord w = true) : w ∈ wt := (wt_iff w).mpr ⟨List.mem_of_getElem? h, g⟩
theorem wt_tbl {w : Cond} (h : w ∈ wt) : w ∈ lw_tbl := ((wt_iff w).mp h).1
theorem wt_good {w : Cond} (h : w ∈ wt) : goodWord w = true := ((wt_iff w).mp h).2
theorem wt_self : ∀ w ∈ wt, w ∈ wt ∧ ((w.onTables && w.keeps) = true ∨ ∃ ty, w = .arrayClass ty) := fun _ h => ⟨h, good_of_word (wt_good h)⟩
theorem wt_code {y : MethodName} {b : ByteArray} {n : Nat} {r : Option FieldType} (h : Cond.code y b n r ∈ wt) : GoodIn wt (Cond.code y b n r :: wt) := fun w hw => (List.mem_cons.mp hw).elim (fun e => by rw [e]; exact wt_self _ h) (fun h => wt_self w h)
theorem wt_V {own C : String} {idx : Nat} {y : MethodName} {b : ByteArray} {n : Nat} {r : Option FieldType} (h : Cond.code y b n r ∈ wt) (h1 : Cond.methodLink own idx y ∈ wt) (h2 : Cond.instanceMethod y ∈ wt) (h3 : Cond.selects C y y ∈ wt) (h4 : Cond.initialized C ∈ wt) : GoodIn wt (wsV own idx C y (Cond.code y b n r :: wt)) := by
  intro w hw
  unfold wsV at hw
  rcases List.mem_append.mp hw with hw | hw
  · simp only [List.mem_cons, List.not_mem_nil, or_false] at hw
    rcases hw with rfl | rfl | rfl | rfl
    · exact wt_self _ h1
    · exact wt_self _ h2
    · exact wt_self _ h3
    · exact wt_self _ h4
  · exact wt_code h w hw
theorem wt_S {own : String} {idx : Nat} {y : MethodName} {b : ByteArray} {n : Nat} {r : Option FieldType} (h : Cond.code y b n r ∈ wt) (h1 : Cond.methodLink own idx y ∈ wt) (h2 : Cond.static y ∈ wt) (h4 : Cond.initialized y.cls ∈ wt) : GoodIn wt (va_wsS own idx y (Cond.code y b n r :: wt)) := by
  intro w hw
  unfold va_wsS at hw
  rcases List.mem_append.mp hw with hw | hw
  · simp only [List.mem_cons, List.not_mem_nil, or_false] at hw
    rcases hw with rfl | rfl | rfl
    · exact wt_self _ h1
    · exact wt_self _ h2
    · exact wt_self _ h4
  · exact wt_code h w hw
def isNest : Cond → Bool
  | .fieldLinkNest .. => true
  | .methodLinkNest .. => true
  | _ => false
theorem nw_ex : ∃ ws : List Cond, ∀ w : Cond, w ∈ ws ↔ w ∈ lw_tbl ∧ isNest w = true := ⟨lw_tbl.filter isNest, fun _ => List.mem_filter⟩
noncomputable def nw : List Cond := Classical.choose nw_ex
theorem nw_iff (w : Cond) : w ∈ nw ↔ w ∈ lw_tbl ∧ isNest w = true := Classical.choose_spec nw_ex w
theorem nw_of {w : Cond} (i : Nat) (h : lw_tbl[i]? = some w) (g : isNest w = true) : w ∈ nw := (nw_iff w).mpr ⟨List.mem_of_getElem? h, g⟩
def nx (U : State) : Prop := ∀ w ∈ nw, va_Nw w U
theorem nx_warm {s U : State} (hW : s.WarmedH U.vm) (h : nx s) : nx U := by
  intro w hw
  have h1 := h w hw
  have h2 := ((nw_iff w).mp hw).2
  cases w <;> first | exact va_Nw.warmF hW h1 | exact va_Nw.warmM hW h1 | cases h2
theorem nx_same {s U : State} (hW : s.vm = U.vm) (h : nx s) : nx U := by
  intro w hw
  have h1 := h w hw
  have h2 := ((nw_iff w).mp hw).2
  cases w <;> first | exact va_Nw.same rfl hW h1 | cases h2
abbrev classes : List vw_C := [(RX0, TX0, 8), (RX1, TX1, 5), (RX2, TX2, 7), (RX3, TX3, 5), (RX4, TX4, 4), (RX5, TX5, 19), (RX6, TX6, 9), (RX7, TX7, 10), (RX8, TX8, 8), (RX9, TX9, 6), (RX10, TX10, 16), (RX11, TX11, 71)]
abbrev tyL (cI cZ cB cJ cE : ClassId) : List (ClassId × FieldType) := [(cI, .int), (cZ, .boolean), (cB, .byte), (cJ, .long), (cE, .object "IceTunes$Evening")]
def kx (G : va_G) (cI cZ cB cJ cE : ClassId) (U : State) : Prop := va_K G classes (tyL cI cZ cB cJ cE) U ∧ nx U ∧ va_AO "IceTunes$Evening" U
def PreW (G : va_G) (cI cZ cB cJ cE : ClassId) (ws : va_W) (sz : Nat) (U : State) : Prop := U.heap.size = sz ∧ va_P G classes ws U.heap ∧ kx G cI cZ cB cJ cE U ∧ va_D (fun _ => True) ws
theorem PreW.blind {G : va_G} {cI cZ cB cJ cE : ClassId} {ws : va_W} {sz : Nat} {av : List Value} : FrameBlind (va_Pc av (PreW G cI cZ cB cJ cE ws sz)) := fun a U g mk q => ⟨q.1, q.2.1, q.2.2.1, ⟨va_K.moved (u := U) (U := U.calling g mk a) (Vm.Alike.refl U.vm) q.2.2.2.1.1, nx_same (s := U) (U := U.calling g mk a) rfl q.2.2.2.1.2.1, va_AO.moved (u := U) (U := U.calling g mk a) (Vm.Alike.refl U.vm) q.2.2.2.1.2.2⟩, q.2.2.2.2⟩
theorem PreW.of {G : va_G} {cI cZ cB cJ cE : ClassId} {ws : va_W} {s : State} {H : Heap} {A : Nat → Prop} {av : List Value} (hK : kx G cI cZ cB cJ cE s) (hP : va_P G classes ws H) (hD : va_D A ws) : ∀ U : State, U.heap = H → s.WarmedH U.vm → va_Pc av (PreW G cI cZ cB cJ cE ws H.size) av.toArray U := fun _ hU hW => ⟨rfl, by rw [hU], by rw [hU]; exact hP, ⟨va_K.moved hW.alike hK.1, nx_warm hW hK.2.1, va_AO.moved hW.alike hK.2.2⟩, hD.weaken (fun _ _ _ _ => trivial)⟩
abbrev QV (P : Heap → Prop) (A : Nat → Prop) : Array Value → State → Outcome → State → Prop := va_Qv (fun _ : Unit => True) (fun _ t => P t.heap) A
abbrev QI (P : Int32 → Heap → Prop) (A : Nat → Prop) : Array Value → State → Outcome → State → Prop := va_Qi (fun (r u : Int32) => r = u) (fun u t => P u t.heap) A
abbrev QR (P : Nat → Heap → Prop) (A : Nat → Prop) : Array Value → State → Outcome → State → Prop := va_Qr (fun _ : Unit => True) (fun (_ : Unit) a t => P a t.heap) A
section MK
variable {l : Launch} {y : MethodName} {cc : ByteArray} {maxL : Nat} {rt : FieldType} {rm : Room} {G : va_G} {cI cZ cB cJ cE : ClassId} {ws : va_W} {sz : Nat} {av : List Value}
theorem mk_i {P : (Nat → Prop) → Int32 → Heap → Prop} (hy : plainName y.cls = true) (hlen : (lg_sl av).length ≤ maxL)
    (body : ∀ (p : Program) (e : Env) (s : State) (m : MethodId) (args : Array Value) (below : List Frame) (meth : Method) (c : Code) (R : Room) (Q : State → Prop) (A : Nat → Prop) (H : Heap) (locs : List Loc) (ls : Array Slot),
      p.tables.exec = Jvm.exec → c.code = cc → c.maxLocals = maxL → (∀ w ∈ wt, w.before args s = true) → s.vm.findClass y.cls = some m.cls → kx G cI cZ cB cJ cE s →
      (rm.frames ≤ R.frames ∧ rm.locals ≤ R.locals ∧ R.cells = rm.cells ∧ R.slots = rm.slots) → (∀ q : Nat, s.heap.size ≤ q → A q) →
      (∀ (v : Int32) (H1 : Heap) (locs : List Loc) (cells slots pc : Nat) (ls1 : Array Slot), decode cc pc = .ok (.ireturn, 1) → narrow rt (.int v) = .int v → cells ≤ rm.cells → slots ≤ rm.slots → P A v H1 → va_S A s.heap H1 locs → W p l e R s m args below meth c H1 locs cells slots Q (F0 m pc ls1 [.int v])) →
      va_P G classes ws H → va_D A ws → va_S A s.heap H locs → lv_has ls maxL (lv_args 0 av) → W p l e R s m args below meth c H locs 0 0 Q (F0 m 0 ls [])) :
    Met l y (.code y cc maxL (some rt) :: wt) rm (va_Pc av (PreW G cI cZ cB cJ cE ws sz)) (QI (P (va_A ws sz)) (va_A ws sz)) rm.cells rm.slots (va_A ws sz) := by
  refine Met.ofW (cc := cc) (maxL := maxL) (ret := some rt) hy rfl ?_
  intro p e s m args below meth c s₁ B hml hv
  obtain ⟨ha, hsz, hP, hK, hD0⟩ := hv
  subst hsz
  have hlocks := B.notSynchronized
  have hts := atoms_spec (ws := .code y cc maxL (some rt) :: wt) B.pre
  have hl := lv_entry av hlen
  have hfr : entryFrame m args maxL = F0 m 0 ((lg_sl av ++ List.replicate (maxL - (lg_sl av).length) Slot.unset).toArray) [] := by rw [ha]; exact lg_entry_eq m av maxL
  rw [hfr]
  refine body p e s m args below meth c _ _ (va_A ws s.heap.size) s.heap [] _ B.exec B.bytes hml (fun w hw => hts w (List.mem_cons_of_mem _ hw)) (findClass_of_methodNamed B.named) hK ⟨Nat.le_refl _, Nat.le_refl _, rfl, rfl⟩ (fun q h => Or.inr h) ?_ hP hD0.self va_S.rf hl
  intro v H1 locs cells slots pc ls1 hd hn h1 h2 hPv hS
  refine W.widen h1 h2 ?_
  exact W.zret B.exec B.bytes B.returns hn (fun t ht hW => ⟨⟨v, v, rfl, rfl, by show P _ v t.heap; rw [ht]; exact hPv⟩, hS.F ht⟩) hS.2.2 hd
theorem mk_v {P : (Nat → Prop) → Heap → Prop} (hy : plainName y.cls = true) (hlen : (lg_sl av).length ≤ maxL)
    (body : ∀ (p : Program) (e : Env) (s : State) (m : MethodId) (args : Array Value) (below : List Frame) (meth : Method) (c : Code) (R : Room) (Q : State → Prop) (A : Nat → Prop) (H : Heap) (locs : List Loc) (ls : Array Slot),
      p.tables.exec = Jvm.exec → c.code = cc → c.maxLocals = maxL → (∀ w ∈ wt, w.before args s = true) → s.vm.findClass y.cls = some m.cls → kx G cI cZ cB cJ cE s →
      (rm.frames ≤ R.frames ∧ rm.locals ≤ R.locals ∧ R.cells = rm.cells ∧ R.slots = rm.slots) → (∀ q : Nat, s.heap.size ≤ q → A q) → meth.name = y.name →
      (∀ (H1 : Heap) (locs : List Loc) (cells slots pc : Nat) (ls1 : Array Slot), decode cc pc = .ok (.return_, 1) → cells ≤ rm.cells → slots ≤ rm.slots → P A H1 → va_S A s.heap H1 locs → W p l e R s m args below meth c H1 locs cells slots Q (F0 m pc ls1 [])) →
      va_P G classes ws H → va_D A ws → va_S A s.heap H locs → lv_has ls maxL (lv_args 0 av) → W p l e R s m args below meth c H locs 0 0 Q (F0 m 0 ls [])) :
    Met l y (.code y cc maxL none :: wt) rm (va_Pc av (PreW G cI cZ cB cJ cE ws sz)) (QV (P (va_A ws sz)) (va_A ws sz)) rm.cells rm.slots (va_A ws sz) := by
  refine Met.ofW (cc := cc) (maxL := maxL) (ret := none) hy rfl ?_
  intro p e s m args below meth c s₁ B hml hv
  obtain ⟨ha, hsz, hP, hK, hD0⟩ := hv
  subst hsz
  have hlocks := B.notSynchronized
  have hts := atoms_spec (ws := .code y cc maxL none :: wt) B.pre
  have hl := lv_entry av hlen
  have hfr : entryFrame m args maxL = F0 m 0 ((lg_sl av ++ List.replicate (maxL - (lg_sl av).length) Slot.unset).toArray) [] := by rw [ha]; exact lg_entry_eq m av maxL
  rw [hfr]
  refine body p e s m args below meth c _ _ (va_A ws s.heap.size) s.heap [] _ B.exec B.bytes hml (fun w hw => hts w (List.mem_cons_of_mem _ hw)) (findClass_of_methodNamed B.named) hK ⟨Nat.le_refl _, Nat.le_refl _, rfl, rfl⟩ (fun q h => Or.inr h) (name_of_methodNamed B.named B.method).1 ?_ hP hD0.self va_S.rf hl
  intro H1 locs cells slots pc ls1 hd h1 h2 hPv hS
  refine W.widen h1 h2 ?_
  exact W.vret B.exec B.bytes B.returns (fun t ht hW => ⟨⟨(), rfl, trivial, by show P _ t.heap; rw [ht]; exact hPv⟩, hS.F ht⟩) hS.2.2 hd
theorem mk_r {P : (Nat → Prop) → Nat → Heap → Prop} {C : String} (hy : plainName y.cls = true) (hlen : (lg_sl av).length ≤ maxL)
    (body : ∀ (p : Program) (e : Env) (s : State) (m : MethodId) (args : Array Value) (below : List Frame) (meth : Method) (c : Code) (R : Room) (Q : State → Prop) (A : Nat → Prop) (H : Heap) (locs : List Loc) (ls : Array Slot),
      p.tables.exec = Jvm.exec → c.code = cc → c.maxLocals = maxL → (∀ w ∈ wt, w.before args s = true) → s.vm.findClass y.cls = some m.cls → kx G cI cZ cB cJ cE s →
      (rm.frames ≤ R.frames ∧ rm.locals ≤ R.locals ∧ R.cells = rm.cells ∧ R.slots = rm.slots) → (∀ q : Nat, s.heap.size ≤ q → A q) →
      (∀ (a : Nat) (H1 : Heap) (locs : List Loc) (cells slots pc : Nat) (ls1 : Array Slot), decode cc pc = .ok (.areturn, 1) → cells ≤ rm.cells → slots ≤ rm.slots → P A a H1 → va_S A s.heap H1 locs → W p l e R s m args below meth c H1 locs cells slots Q (F0 m pc ls1 [.ref a])) →
      va_P G classes ws H → va_D A ws → va_S A s.heap H locs → lv_has ls maxL (lv_args 0 av) → W p l e R s m args below meth c H locs 0 0 Q (F0 m 0 ls [])) :
    Met l y (.code y cc maxL (some (.object C)) :: wt) rm (va_Pc av (PreW G cI cZ cB cJ cE ws sz)) (QR (P (va_A ws sz)) (va_A ws sz)) rm.cells rm.slots (va_A ws sz) := by
  refine Met.ofW (cc := cc) (maxL := maxL) (ret := some (.object C)) hy rfl ?_
  intro p e s m args below meth c s₁ B hml hv
  obtain ⟨ha, hsz, hP, hK, hD0⟩ := hv
  subst hsz
  have hlocks := B.notSynchronized
  have hts := atoms_spec (ws := .code y cc maxL (some (.object C)) :: wt) B.pre
  have hl := lv_entry av hlen
  have hfr : entryFrame m args maxL = F0 m 0 ((lg_sl av ++ List.replicate (maxL - (lg_sl av).length) Slot.unset).toArray) [] := by rw [ha]; exact lg_entry_eq m av maxL
  rw [hfr]
  refine body p e s m args below meth c _ _ (va_A ws s.heap.size) s.heap [] _ B.exec B.bytes hml (fun w hw => hts w (List.mem_cons_of_mem _ hw)) (findClass_of_methodNamed B.named) hK ⟨Nat.le_refl _, Nat.le_refl _, rfl, rfl⟩ (fun q h => Or.inr h) ?_ hP hD0.self va_S.rf hl
  intro a H1 locs cells slots pc ls1 hd h1 h2 hPv hS
  refine W.widen h1 h2 ?_
  exact W.aret B.exec B.bytes B.returns (Or.inl ⟨C, rfl⟩) (Or.inr ⟨a, rfl⟩) (fun t ht hW => ⟨⟨(), a, rfl, trivial, by show P _ a t.heap; rw [ht]; exact hPv⟩, hS.F ht⟩) hS.2.2 hd
end MK
section CALLS
variable {p : Program} {l : Launch} {e : Env} {R : Room} {s : State} {m : MethodId} {args : Array Value} {below : List Frame} {meth : Method} {c : Code} {H H0 : Heap} {locs : List Loc} {cells slots : Nat} {Q : State → Prop} {cc bytes : ByteArray} {pc nL maxL idx n : Nat} {ls : Array Slot} {y : MethodName} {own host : String} {rm : Room} {G : va_G} {cI cZ cB cJ cE : ClassId} {A : Nat → Prop} {b : Nat} {ret : Option FieldType} {Qc : Array Value → State → Outcome → State → Prop}
/-- the world beside a call's own cells is what it was -/
def Jn (G : va_G) (A A1 : Nat → Prop) (wr : va_W) (H1 : Heap) : Prop := ∀ w1 : va_W, va_P G classes w1 H1 → va_D A1 w1 → va_P G classes (wr ++ w1) H1 ∧ va_D A (wr ++ w1)
theorem run_VN (ws wc wr : va_W) (As rest : List Value) (hM : Met l y (.code y bytes maxL ret :: wt) rm (va_Pc (.ref b :: As) (PreW G cI cZ cB cJ cE wc H.size)) Qc rm.cells rm.slots (va_A wc H.size))
    (hx : p.tables.exec = Jvm.exec) (hb : c.code = cc) (hml : c.maxLocals = nL) (htw : ∀ w ∈ wt, w.before args s = true) (hown : s.vm.findClass own = some m.cls) (hK : kx G cI cZ cB cJ cE s) (hsz : ls.size = nL)
    (hP : va_P G classes ws H) (hD : va_D A ws) (isC : List Nat) (hC : isC.map (fun i => ws[i]?) = wc.map some) (hCf : isC.filterMap (fun i => ws[i]?) = wc) (hnC : va_nd isC = true) (r0 ci : Nat) {fs : List Value} {q : vw_C} (hcl : classes[ci]? = some q) (hq : q.1 = y.cls) (hre : wc[r0]? = some (b, .inr (ci, fs)))
    (h1 : Cond.code y bytes maxL ret ∈ wt) (h2 : Cond.instanceMethod y ∈ wt) (h3 : Cond.selects y.cls y y ∈ wt) (h4 : Cond.initialized y.cls ∈ wt) (h5 : Cond.methodLinkNest own idx y host ∈ nw)
    (hd : y.cls ≠ "java/lang/invoke/MethodHandle" ∧ y.cls ≠ "java/lang/invoke/VarHandle" ∧ (parseMethodDescriptor y.desc).map (fun d => d.parameters.length) = some As.length) (hR : rm.frames + 1 ≤ R.frames ∧ 8 + (maxL + 11) + rm.locals ≤ R.locals) (hf : cells + rm.cells ≤ R.cells ∧ slots + rm.slots ≤ R.slots)
    (hW : (rest.map fun v => v.category).sum ≤ 8) (hdg : decode cc pc = .ok (.invokevirtual idx, 3)) :
    va_Run p l e R s m args below meth c H locs cells slots rm.cells rm.slots (F0 m pc ls (As.reverse ++ .ref b :: rest)) rest (Qc (Value.ref b :: As).toArray) (va_A wc H.size) := by
  have hPc := hP.sub (ws' := wc) isC hCf
  have hDc := hD.sub (ws' := wc) isC hnC hC
  refine va_runVN (C := y.cls) (As := As) (rest := rest) ⟨hx, hb, hml, hown, htw⟩ hM ⟨va_cnB As.length htw (wt_code h1) rfl rfl rfl (hK.2.1 _ h5) (htw _ h4) hd hR, htw _ h2, htw _ h3⟩ ⟨PreW.blind, ?_, PreW.of hK hPc hDc⟩ rfl rfl hsz rfl (lv_room hW) hdg hf
  rw [← hq]
  exact va_recv hK.1 hPc hcl hre
theorem run_V (ws wc wr : va_W) (As rest : List Value) (hM : Met l y (.code y bytes maxL ret :: wt) rm (va_Pc (.ref b :: As) (PreW G cI cZ cB cJ cE wc H.size)) Qc rm.cells rm.slots (va_A wc H.size))
    (hx : p.tables.exec = Jvm.exec) (hb : c.code = cc) (hml : c.maxLocals = nL) (htw : ∀ w ∈ wt, w.before args s = true) (hown : s.vm.findClass own = some m.cls) (hK : kx G cI cZ cB cJ cE s) (hsz : ls.size = nL)
    (hP : va_P G classes ws H) (hD : va_D A ws) (isC : List Nat) (hC : isC.map (fun i => ws[i]?) = wc.map some) (hCf : isC.filterMap (fun i => ws[i]?) = wc) (hnC : va_nd isC = true) (r0 ci : Nat) {fs : List Value} {q : vw_C} (hcl : classes[ci]? = some q) (hq : q.1 = y.cls) (hre : wc[r0]? = some (b, .inr (ci, fs)))
    (h1 : Cond.code y bytes maxL ret ∈ wt) (h2 : Cond.instanceMethod y ∈ wt) (h3 : Cond.selects y.cls y y ∈ wt) (h4 : Cond.initialized y.cls ∈ wt) (h5 : Cond.methodLink own idx y ∈ wt)
    (hd : y.cls ≠ "java/lang/invoke/MethodHandle" ∧ y.cls ≠ "java/lang/invoke/VarHandle" ∧ (parseMethodDescriptor y.desc).map (fun d => d.parameters.length) = some As.length) (hR : rm.frames + 1 ≤ R.frames ∧ 8 + (maxL + 11) + rm.locals ≤ R.locals) (hf : cells + rm.cells ≤ R.cells ∧ slots + rm.slots ≤ R.slots)
    (hW : (rest.map fun v => v.category).sum ≤ 8) (hdg : decode cc pc = .ok (.invokevirtual idx, 3)) :
    va_Run p l e R s m args below meth c H locs cells slots rm.cells rm.slots (F0 m pc ls (As.reverse ++ .ref b :: rest)) rest (Qc (Value.ref b :: As).toArray) (va_A wc H.size) := by
  have hPc := hP.sub (ws' := wc) isC hCf
  have hDc := hD.sub (ws' := wc) isC hnC hC
  refine va_runV (C := y.cls) (As := As) (rest := rest) ⟨hx, hb, hml, hown, htw⟩ hM (cwV As.length htw (wt_V h1 h5 h2 h3 h4) rfl rfl rfl ⟨rfl, hd⟩ hR) ⟨PreW.blind, ?_, PreW.of hK hPc hDc⟩ rfl rfl hsz rfl (lv_room hW) hdg hf
  rw [← hq]
  exact va_recv hK.1 hPc hcl hre
theorem run_IN (ws wc wr : va_W) (As rest : List Value) (hM : Met l y (.code y bytes maxL none :: wt) rm (va_Pc (.ref b :: As) (PreW G cI cZ cB cJ cE wc H.size)) Qc rm.cells rm.slots (va_A wc H.size))
    (hx : p.tables.exec = Jvm.exec) (hb : c.code = cc) (hml : c.maxLocals = nL) (htw : ∀ w ∈ wt, w.before args s = true) (hown : s.vm.findClass own = some m.cls) (hK : kx G cI cZ cB cJ cE s) (hsz : ls.size = nL)
    (hP : va_P G classes ws H) (hD : va_D A ws) (isC : List Nat) (hC : isC.map (fun i => ws[i]?) = wc.map some) (hCf : isC.filterMap (fun i => ws[i]?) = wc) (hnC : va_nd isC = true)
    (h1 : Cond.code y bytes maxL none ∈ wt) (h2 : Cond.instanceMethod y ∈ wt) (h4 : Cond.initialized y.cls ∈ wt) (h5 : Cond.methodLinkNest own idx y host ∈ nw) (hin : y.name = "<init>")
    (hd : y.cls ≠ "java/lang/invoke/MethodHandle" ∧ y.cls ≠ "java/lang/invoke/VarHandle" ∧ (parseMethodDescriptor y.desc).map (fun d => d.parameters.length) = some As.length) (hR : rm.frames + 1 ≤ R.frames ∧ 8 + (maxL + 11) + rm.locals ≤ R.locals) (hf : cells + rm.cells ≤ R.cells ∧ slots + rm.slots ≤ R.slots)
    (hW : (rest.map fun v => v.category).sum ≤ 8) (hdg : decode cc pc = .ok (.invokespecial idx, 3)) :
    va_Run p l e R s m args below meth c H locs cells slots rm.cells rm.slots (F0 m pc ls (As.reverse ++ .ref b :: rest)) rest (Qc (Value.ref b :: As).toArray) (va_A wc H.size) := by
  have hPc := hP.sub (ws' := wc) isC hCf
  have hDc := hD.sub (ws' := wc) isC hnC hC
  exact va_runIN (As := As) (rest := rest) ⟨hx, hb, hml, hown, htw⟩ hM ⟨va_cnB As.length htw (wt_code h1) rfl rfl rfl (hK.2.1 _ h5) (htw _ h4) hd hR, hin, htw _ h2⟩ ⟨PreW.blind, PreW.of hK hPc hDc⟩ rfl rfl hsz rfl (lv_room hW) hdg hf
theorem run_I (ws wc wr : va_W) (As rest : List Value) (hM : Met l y (.code y bytes maxL none :: wt) rm (va_Pc (.ref b :: As) (PreW G cI cZ cB cJ cE wc H.size)) Qc rm.cells rm.slots (va_A wc H.size))
    (hx : p.tables.exec = Jvm.exec) (hb : c.code = cc) (hml : c.maxLocals = nL) (htw : ∀ w ∈ wt, w.before args s = true) (hown : s.vm.findClass own = some m.cls) (hK : kx G cI cZ cB cJ cE s) (hsz : ls.size = nL)
    (hP : va_P G classes ws H) (hD : va_D A ws) (isC : List Nat) (hC : isC.map (fun i => ws[i]?) = wc.map some) (hCf : isC.filterMap (fun i => ws[i]?) = wc) (hnC : va_nd isC = true)
    (h1 : Cond.code y bytes maxL none ∈ wt) (h2 : Cond.instanceMethod y ∈ wt) (h4 : Cond.initialized y.cls ∈ wt) (h5 : Cond.methodLink own idx y ∈ wt) (hin : y.name = "<init>")
    (hd : y.cls ≠ "java/lang/invoke/MethodHandle" ∧ y.cls ≠ "java/lang/invoke/VarHandle" ∧ (parseMethodDescriptor y.desc).map (fun d => d.parameters.length) = some As.length) (hR : rm.frames + 1 ≤ R.frames ∧ 8 + (maxL + 11) + rm.locals ≤ R.locals) (hf : cells + rm.cells ≤ R.cells ∧ slots + rm.slots ≤ R.slots)
    (hW : (rest.map fun v => v.category).sum ≤ 8) (hdg : decode cc pc = .ok (.invokespecial idx, 3)) :
    va_Run p l e R s m args below meth c H locs cells slots rm.cells rm.slots (F0 m pc ls (As.reverse ++ .ref b :: rest)) rest (Qc (Value.ref b :: As).toArray) (va_A wc H.size) := by
  have hPc := hP.sub (ws' := wc) isC hCf
  have hDc := hD.sub (ws' := wc) isC hnC hC
  exact va_runI (As := As) (rest := rest) ⟨hx, hb, hml, hown, htw⟩ hM (cwI As.length htw (wt_code h1) rfl rfl rfl (htw _ h4) (htw _ h5) (htw _ h2) hin hd hR) ⟨PreW.blind, PreW.of hK hPc hDc⟩ rfl rfl hsz rfl (lv_room hW) hdg hf
theorem run_S (ws wc wr : va_W) (As rest : List Value) (hM : Met l y (.code y bytes maxL ret :: wt) rm (va_Pc As (PreW G cI cZ cB cJ cE wc H.size)) Qc rm.cells rm.slots (va_A wc H.size))
    (hx : p.tables.exec = Jvm.exec) (hb : c.code = cc) (hml : c.maxLocals = nL) (htw : ∀ w ∈ wt, w.before args s = true) (hown : s.vm.findClass own = some m.cls) (hK : kx G cI cZ cB cJ cE s) (hsz : ls.size = nL)
    (hP : va_P G classes ws H) (hD : va_D A ws) (isC : List Nat) (hC : isC.map (fun i => ws[i]?) = wc.map some) (hCf : isC.filterMap (fun i => ws[i]?) = wc) (hnC : va_nd isC = true)
    (h1 : Cond.code y bytes maxL ret ∈ wt) (h2 : Cond.static y ∈ wt) (h4 : Cond.initialized y.cls ∈ wt) (h5 : Cond.methodLink own idx y ∈ wt)
    (hd : y.cls ≠ "java/lang/invoke/MethodHandle" ∧ y.cls ≠ "java/lang/invoke/VarHandle" ∧ (parseMethodDescriptor y.desc).map (fun d => d.parameters.length) = some As.length) (hR : rm.frames + 1 ≤ R.frames ∧ 8 + (maxL + 11) + rm.locals ≤ R.locals) (hf : cells + rm.cells ≤ R.cells ∧ slots + rm.slots ≤ R.slots)
    (hW : (rest.map fun v => v.category).sum ≤ 8) (hdg : decode cc pc = .ok (.invokestatic idx, 3)) :
    va_Run p l e R s m args below meth c H locs cells slots rm.cells rm.slots (F0 m pc ls (As.reverse ++ rest)) rest (Qc As.toArray) (va_A wc H.size) := by
  have hPc := hP.sub (ws' := wc) isC hCf
  have hDc := hD.sub (ws' := wc) isC hnC hC
  exact va_runS (As := As) (rest := rest) ⟨hx, hb, hml, hown, htw⟩ hM (va_cwS As.length htw (wt_S h1 h5 h2 h4) rfl rfl rfl hd hR) ⟨PreW.blind, PreW.of hK hPc hDc⟩ rfl rfl hsz rfl (lv_room hW) hdg hf
variable {st0 rest : List Value} {a : Array Value}
theorem go_v {ws wc wr : va_W} {P : Heap → Prop} (hr : va_Run p l e R s m args below meth c H locs cells slots rm.cells rm.slots (F0 m pc ls st0) rest (QV P (va_A wc H.size) a) (va_A wc H.size)) (hP : va_P G classes ws H) (hD : va_D A ws) (hS : va_S A H0 H locs) (hA : ∀ q, H0.size ≤ q → A q) (isC isR : List Nat) (hC : isC.map (fun i => ws[i]?) = wc.map some) (hRr : isR.map (fun i => ws[i]?) = wr.map some) (hn : va_nd isR = true) (hdis : ∀ i ∈ isR, i ∉ isC)
    (kk : ∀ (H1 : Heap) (locs1 : List Loc), P H1 → Jn G A (va_A wc H.size) wr H1 → va_S A H0 H1 locs1 → W p l e R s m args below meth c H1 locs1 (cells + rm.cells) (slots + rm.slots) Q (F0 m (pc + 3) ls rest)) : W p l e R s m args below meth c H locs cells slots Q (F0 m pc ls st0) := by
  have hF := va_free (wc := wc) hD hS hA isC hC
  refine va_callv hr hS (fun q _ h => hF q h) hF (fun _ t H1 locs1 ht _ _ hB _ hk hS1 => kk H1 locs1 (by rw [← ht]; exact hB) (fun w1 h1 h2 => va_join hP hD isC isR hC hRr hn hdis hk hF h1 h2) hS1)
theorem go_i {ws wc wr : va_W} {P : Int32 → Heap → Prop} (hr : va_Run p l e R s m args below meth c H locs cells slots rm.cells rm.slots (F0 m pc ls st0) rest (QI P (va_A wc H.size) a) (va_A wc H.size)) (hP : va_P G classes ws H) (hD : va_D A ws) (hS : va_S A H0 H locs) (hA : ∀ q, H0.size ≤ q → A q) (isC isR : List Nat) (hC : isC.map (fun i => ws[i]?) = wc.map some) (hRr : isR.map (fun i => ws[i]?) = wr.map some) (hn : va_nd isR = true) (hdis : ∀ i ∈ isR, i ∉ isC)
    (kk : ∀ (r : Int32) (H1 : Heap) (locs1 : List Loc), P r H1 → Jn G A (va_A wc H.size) wr H1 → va_S A H0 H1 locs1 → W p l e R s m args below meth c H1 locs1 (cells + rm.cells) (slots + rm.slots) Q (F0 m (pc + 3) ls (.int r :: rest))) : W p l e R s m args below meth c H locs cells slots Q (F0 m pc ls st0) := by
  have hF := va_free (wc := wc) hD hS hA isC hC
  refine va_calli hr hS (fun q _ h => hF q h) hF (fun r u t H1 locs1 ht _ hw hB _ hk hS1 => kk r H1 locs1 (by rw [← ht, hw]; exact hB) (fun w1 h1 h2 => va_join hP hD isC isR hC hRr hn hdis hk hF h1 h2) hS1)
theorem go_r {ws wc wr : va_W} {P : Nat → Heap → Prop} (hr : va_Run p l e R s m args below meth c H locs cells slots rm.cells rm.slots (F0 m pc ls st0) rest (QR P (va_A wc H.size) a) (va_A wc H.size)) (hP : va_P G classes ws H) (hD : va_D A ws) (hS : va_S A H0 H locs) (hA : ∀ q, H0.size ≤ q → A q) (isC isR : List Nat) (hC : isC.map (fun i => ws[i]?) = wc.map some) (hRr : isR.map (fun i => ws[i]?) = wr.map some) (hn : va_nd isR = true) (hdis : ∀ i ∈ isR, i ∉ isC)
    (kk : ∀ (r : Nat) (H1 : Heap) (locs1 : List Loc), P r H1 → Jn G A (va_A wc H.size) wr H1 → va_S A H0 H1 locs1 → W p l e R s m args below meth c H1 locs1 (cells + rm.cells) (slots + rm.slots) Q (F0 m (pc + 3) ls (.ref r :: rest))) : W p l e R s m args below meth c H locs cells slots Q (F0 m pc ls st0) := by
  have hF := va_free (wc := wc) hD hS hA isC hC
  refine va_callr hr hS (fun q _ h => hF q h) hF (fun _ r t H1 locs1 ht _ _ hB _ hk hS1 => kk r H1 locs1 (by rw [← ht]; exact hB) (fun w1 h1 h2 => va_join hP hD isC isR hC hRr hn hdis hk hF h1 h2) hS1)
end CALLS
section NEWS
variable {p : Program} {l : Launch} {e : Env} {R : Room} {s : State} {m : MethodId} {args : Array Value} {below : List Frame} {meth : Method} {c : Code} {H H0 : Heap} {locs : List Loc} {cells slots : Nat} {Q : State → Prop} {cc : ByteArray} {pc : Nat} {ls : Array Slot} {rest : List Value} {G : va_G} {cI cZ cB cJ cE : ClassId} {A : Nat → Prop} {ws : va_W}
theorem new_a (hx : p.tables.exec = Jvm.exec) (hb : c.code = cc) {atype : ArrayType} (harr : (Cond.arrayClass (newarray.typeOf atype)).before args s = true) {ty : FieldType} (hty : newarray.typeOf atype = ty) (hK : kx G cI cZ cB cJ cE s) (t0 : Nat) {cA : ClassId} (ht : (tyL cI cZ cB cJ cE)[t0]? = some (cA, ty)) (hP : va_P G classes ws H) (hD : va_D A ws) (hS : va_S A H0 H locs) (hA : ∀ q, H0.size ≤ q → A q)
    {n : Int32} {N' : Nat} {a0 : vp_A} (ha : ∀ cA : ClassId, vp_cell cA a0 = arrV cA N' (fun _ => defaultValue ty)) (hn : ¬ n < 0) (hN : n.toNatClampNeg = N') (hbytes : N' * componentBytes ty ≤ 536870912) (hcells : cells + 1 ≤ R.cells) (hslots : slots + N' ≤ R.slots) (hdg : decode cc pc = .ok (.newarray atype, 2))
    (kk : ∀ (q : Nat) (H1 : Heap), va_P G classes (ws ++ [(q, .inl (cA, a0))]) H1 → va_D A (ws ++ [(q, .inl (cA, a0))]) → va_S A H0 H1 locs →
      W p l e R s m args below meth c H1 locs (cells + 1) (slots + N') Q (F0 m (pc + 2) ls (.ref q :: rest))) : W p l e R s m args below meth c H locs cells slots Q (F0 m pc ls (.int n :: rest)) := by
  refine va_newa hx hb harr hty hK.1 hP hD hS hA ha hn hN hbytes hcells hslots hdg fun q c1 H1 hK1 hP1 hD1 hS1 => ?_
  have e1 := (hK1.2 5 (c1, ty) rfl).2
  have e2 := (hK.1.2 t0 _ ht).2
  have e3 : c1 = cA := by
    subst hty
    cases atype <;> exact Option.some.inj ((show s.vm.findClass _ = some c1 from e1).symm.trans (show s.vm.findClass _ = some cA from e2))
  subst e3
  exact kk q H1 hP1 hD1 hS1
theorem new_q (hx : p.tables.exec = Jvm.exec) (hb : c.code = cc) {own : String} {index : Nat} (hown : s.vm.findClass own = some m.cls) (hclink : (Cond.classLink own index "IceTunes$Evening").before args s = true) (hK : kx G cI cZ cB cJ cE s) (hP : va_P G classes ws H) (hD : va_D A ws) (hS : va_S A H0 H locs) (hA : ∀ q, H0.size ≤ q → A q)
    {n : Int32} {N' : Nat} (hn : ¬ n < 0) (hN : n.toNatClampNeg = N') (hbytes : N' * 4 ≤ 536870912) (hcells : cells + 1 ≤ R.cells) (hslots : slots + N' ≤ R.slots) (hdg : decode cc pc = .ok (.anewarray index, 3))
    (kk : ∀ (q : Nat) (H1 : Heap), va_P G classes (ws ++ [(q, .inl (cE, N', .inr (.inr (.inr (.inr (fun _ => none))))))]) H1 → va_D A (ws ++ [(q, .inl (cE, N', .inr (.inr (.inr (.inr (fun _ => none))))))]) → va_S A H0 H1 locs →
      W p l e R s m args below meth c H1 locs (cells + 1) (slots + N') Q (F0 m (pc + 3) ls (.ref q :: rest))) : W p l e R s m args below meth c H locs cells slots Q (F0 m pc ls (.int n :: rest)) := by
  refine va_newq hx hb hown hclink hK.2.2 hK.1 hP hD hS hA hn hN hbytes hcells hslots hdg fun q c1 H1 hK1 hP1 hD1 hS1 => ?_
  have e1 := (hK1.2 5 (c1, .object "IceTunes$Evening") rfl).2
  have e2 := (hK.1.2 4 (cE, .object "IceTunes$Evening") rfl).2
  obtain ⟨k1, m1, -, -, -, f1⟩ := e1
  obtain ⟨k2, m2, -, -, -, f2⟩ := e2
  have e3 : c1 = cE := Option.some.inj (f1.symm.trans f2)
  subst e3
  exact kk q H1 hP1 hD1 hS1
end NEWS

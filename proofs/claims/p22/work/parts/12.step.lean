/-! THE MACHINE DOES WHAT THE PURE ONE DOES: one instruction -/
def owns : List String := [RX0, RX1, RX2, RX3, RX4, RX5, RX6, RX7, RX8, RX9, RX10, RX11, RL, RJ6, RJ9]
def isSw : Instr → Bool
  | .tableswitch .. => true
  | .lookupswitch .. => true
  | _ => false
def ilen : Instr → Nat
  | .bipush _ => 2
  | .sipush _ => 3
  | .ldc _ => 2
  | .ldc_w _ => 3
  | .ldc2_w _ => 3
  | .iload _ => 2
  | .aload _ => 2
  | .istore _ => 2
  | .astore _ => 2
  | .iinc _ _ => 3
  | .ifCond _ _ => 3
  | .if_icmp _ _ => 3
  | .goto _ => 3
  | .ifnonnull _ => 3
  | .getfield _ => 3
  | .putfield _ => 3
  | .invokevirtual _ => 3
  | .invokestatic _ => 3
  | .invokespecial _ => 3
  | .new _ => 3
  | .newarray _ => 2
  | .anewarray _ => 3
  | _ => 1
def DecAt (cc : ByteArray) (pc : Nat) (ins : Instr) : Prop := ∃ len, decode cc pc = .ok (ins, len) ∧ (isSw ins = true ∨ len = ilen ins)
theorem DecAt.d {cc : ByteArray} {pc : Nat} {ins : Instr} (h : DecAt cc pc ins) (hs : isSw ins = false) : decode cc pc = .ok (ins, ilen ins) := by
  obtain ⟨len, h1, h2⟩ := h
  rcases h2 with h2 | h2
  · rw [hs] at h2; cases h2
  · rw [← h2]; exact h1
def FLk (own : String) (i ci k : Nat) : Prop := ∃ (C : String) (T : u_T) (N : Nat), classes[ci]? = some (C, T, N) ∧ k < N ∧ (Cond.fieldLink own i C (T k).2.1 (T k).2.2.1 ∈ wt ∨ ∃ host : String, Cond.fieldLinkNest own i C (T k).2.1 (T k).2.2.1 host ∈ nw ∧ C ≠ own)
def ClsOK (F : pF) : Prop := ∀ (ci : Nat) (C : String) (T : u_T) (N : Nat), classes[ci]? = some (C, T, N) → ∃ ty0 : Nat → FieldType, (∀ w ∈ u_ws C T N, w ∈ wt) ∧ (∀ k, k < N → parseFieldDescriptor (T k).2.2.1 = some (ty0 k)) ∧ (∀ a, a < N → ∀ b, b < N → a ≠ b → (T a).2.1 ≠ (T b).2.1) ∧ (∀ k, k < N → (T k).1 = C) ∧ Cond.instantiable C N ∈ wt ∧ Cond.initialized C ∈ wt ∧ (F.getD ci []).length = N ∧ (∀ k, k < N → (F.getD ci [])[k]? = some (ty0 k, (T k).2.2.2)) ∧ ∀ k, k < N → defaultValue (ty0 k) = dflt (ty0 k)
def isText (tr : List (String × Nat × Nat)) (own : String) (i a : Nat) : Prop := (own, i, a) ∈ tr
/-- the pool's rows are the tables' -/
def PoolOK (pp : pP) (tr : List (String × Nat × Nat)) : Prop := (∀ o i ci k, pp.1 o i = some (ci, k) → ∃ own, owns[o]? = some own ∧ FLk own i ci k) ∧
  (∀ o i ci, pp.2.1 o i = some ci → ∃ own, owns[o]? = some own ∧ ∃ (C : String) (T : u_T) (N : Nat), classes[ci]? = some (C, T, N) ∧ Cond.classLink own i C ∈ wt) ∧
  (∀ o i x, pp.2.2.1 o i = some (.int x) → ∃ own, owns[o]? = some own ∧ Cond.constant own i x ∈ wt) ∧ (∀ o i x, pp.2.2.1 o i = some (.long x) → ∃ own, owns[o]? = some own ∧ Cond.constantLong own i x ∈ wt) ∧ (∀ o i a, pp.2.2.1 o i = some (.ref a) → ∃ own, owns[o]? = some own ∧ (a = 1 ∨ a = 2) ∧ isText tr own i a)
def slE : pE → Nat
  | .inl a => a.2.1
  | .inr o => o.2.length
def slW (w : pW) : Nat := (w.map slE).sum
theorem slW_push (w : pW) (e : pE) : slW (w ++ [e]) = slW w + slE e := by simp [slW]
theorem slW_set {w : pW} {i : Nat} {e e0 : pE} (h : w[i]? = some e0) (he : slE e = slE e0) : slW (w.set i e) = slW w := by
  unfold slW
  rw [List.map_set, he]
  congr 1
  apply List.ext_getElem?
  intro j
  by_cases hj : j = i
  · subst hj
    have hl := (List.getElem?_eq_some_iff.mp h).1
    rw [List.getElem?_set_self (by rw [List.length_map]; exact hl), List.getElem?_map, h]
    rfl
  · rw [List.getElem?_set_ne (Ne.symm hj)]
def ctL (cI cZ cB cJ cE : ClassId) : Nat → ClassId
  | 0 => cI
  | 1 => cZ
  | 2 => cB
  | 3 => cJ
  | _ => cE
section STEP
variable {p : Program} {l : Launch} {e : Env} {R : Room} {s : State} {m : MethodId} {args : Array Value} {below : List Frame} {meth : Method} {c : Code} {H : Heap} {locs : List Loc} {cells slots : Nat} {Q : State → Prop}
variable {G : va_G} {cI cZ cB cJ cE : ClassId} {A : Nat → Prop} {Z0 : Nat}
/-- what is fixed in a frame -/
def Cx (p : Program) (s : State) (m : MethodId) (args : Array Value) (meth : Method) (c : Code) (G : va_G) (cI cZ cB cJ cE : ClassId) (A : Nat → Prop) (Z0 : Nat) (M : pM) : Prop :=
  p.tables.exec = Jvm.exec ∧ c.code = M.2.2.1 ∧ c.maxLocals = M.2.2.2.1 ∧ (∀ w ∈ wt, w.before args s = true) ∧ s.vm.findClass M.2.1.cls = some m.cls ∧ kx G cI cZ cB cJ cE s ∧ (∀ q, s.heap.size ≤ q → A q) ∧ (∀ q, A q → Z0 ≤ q) ∧ meth.name = M.2.1.name ∧ owns[M.1]? = some M.2.1.cls ∧ Z0 ≤ s.heap.size
/-- what runs -/
def Rn (s : State) (G : va_G) (cI cZ cB cJ cE : ClassId) (A : Nat → Prop) (nL : Nat) (ad : Nat → Nat) (H : Heap) (locs : List Loc) (ls : Array Slot) (lc : pL) (w : pW) : Prop :=
  va_P G classes (cW ad (ctL cI cZ cB cJ cE) w) H ∧ va_D A (cW ad (ctL cI cZ cB cJ cE) w) ∧ va_S A s.heap H locs ∧ lv_has ls nL (cvL ad lc) ∧ scW (w.length + 3) w ∧ scL (w.length + 3) lc
/-- the texts' and the script's facts, as a frame has them -/
abbrev pX : Type := (Nat → Nat) → State → Prop
/-- the machine goes on from a pure state -/
def Go (p : Program) (l : Launch) (e : Env) (R : Room) (s : State) (m : MethodId) (args : Array Value) (below : List Frame) (meth : Method) (c : Code) (Q : State → Prop) (G : va_G) (cI cZ cB cJ cE : ClassId) (A : Nat → Prop) (M : pM) (n0 : Nat) (ad0 : Nat → Nat) (cells slots pc : Nat) (lc : pL) (st : List Value) (w : pW) : Prop :=
  ∀ (ad : Nat → Nat) (H : Heap) (locs : List Loc) (ls : Array Slot), adX n0 ad0 ad → Rn s G cI cZ cB cJ cE A M.2.2.2.1 ad H locs ls lc w → scS (w.length + 3) st → W p l e R s m args below meth c H locs cells slots Q (F0 m pc ls (st.map (cvV ad)))

def EXf (xs : Nat → Int32) (L : Nat) (tr : List (String × Nat × Nat)) (Z0 : Nat) (ad : Nat → Nat) (s : State) : Prop := ad 0 < Z0 ∧ (0 < L → va_X (ad 0) (L - 1) xs s s.heap) ∧ ∀ own i a, isText tr own i a → a < 3 ∧ ∃ txt : String, vk_R own i txt (ad a) s
theorem Go.z {M : pM} {n0 : Nat} {ad0 : Nat → Nat} {pc : Nat} {lc : pL} {st : List Value} {w : pW} (k : Go p l e R s m args below meth c Q G cI cZ cB cJ cE A M n0 ad0 (cells + (w.length - w.length)) (slots + (slW w - slW w)) pc lc st w) : Go p l e R s m args below meth c Q G cI cZ cB cJ cE A M n0 ad0 cells slots pc lc st w := by
  have e1 : cells + (w.length - w.length) = cells := by omega
  have e2 : slots + (slW w - slW w) = slots := by omega
  rw [e1, e2] at k
  exact k
theorem Go.zs {M : pM} {n0 : Nat} {ad0 : Nat → Nat} {pc : Nat} {lc : pL} {st : List Value} {w w' : pW} (h1 : w'.length = w.length) (h2 : slW w' = slW w) (k : Go p l e R s m args below meth c Q G cI cZ cB cJ cE A M n0 ad0 (cells + (w'.length - w.length)) (slots + (slW w' - slW w)) pc lc st w') : Go p l e R s m args below meth c Q G cI cZ cB cJ cE A M n0 ad0 cells slots pc lc st w' := by
  have e1 : cells + (w'.length - w.length) = cells := by omega
  have e2 : slots + (slW w' - slW w) = slots := by omega
  rw [e1, e2] at k
  exact k
theorem scS_c {n : Nat} {v : Value} {st : List Value} (h : scV n v) (hs : scS n st) : scS n (v :: st) := fun x hx => by
  rcases List.mem_cons.mp hx with rfl | hx
  · exact h
  · exact hs x hx
theorem scS_t {n : Nat} {v : Value} {st : List Value} (hs : scS n (v :: st)) : scS n st := fun x hx => hs x (List.mem_cons_of_mem _ hx)
theorem scS_h {n : Nat} {v : Value} {st : List Value} (hs : scS n (v :: st)) : scV n v := hs v List.mem_cons_self
theorem lGet_sc {n : Nat} {lc : pL} {i : Nat} {v : Value} (hl : scL n lc) (h : lGet lc i = some v) : scV n v := hl _ (lGet_mem h)
theorem adX_r (n : Nat) (ad : Nat → Nat) : adX n ad ad := fun _ _ => rfl
theorem cat1_cv {ad : Nat → Nat} {v : Value} (h : isCat1 v = true) : (cvV ad v).category = 1 := by cases v <;> first | rfl | cases h

theorem ss_iconst {pp : pP} {F : pF} {tr : List (String × Nat × Nat)} {xs : Nat → Int32} {L : Nat} {M : pM} (hF : ClsOK F) (hPo : PoolOK pp tr) (C : Cx p s m args meth c G cI cZ cB cJ cE A Z0 M) {pc : Nat} {lc : pL} {st : List Value} {w : pW} {pc' : Nat} {lc' : pL} {st' : List Value} {w' : pW} {ad : Nat → Nat} {ls : Array Slot} (hX : EXf xs L tr Z0 ad s) {n : Int} (hd : DecAt M.2.2.1 pc (.iconst n)) (h : sstep pp F xs L M.1 M.2.2.2.1 (isInit M.2.1) (.iconst n) pc lc st w = some (pc', lc', st', w')) (hR : Rn s G cI cZ cB cJ cE A M.2.2.2.1 ad H locs ls lc w) (hs : scS (w.length + 3) st) (hroom : cells + (w'.length - w.length) ≤ R.cells ∧ slots + (slW w' - slW w) ≤ R.slots)
    (k : Go p l e R s m args below meth c Q G cI cZ cB cJ cE A M (w.length + 3) ad (cells + (w'.length - w.length)) (slots + (slW w' - slW w)) pc' lc' st' w') : W p l e R s m args below meth c H locs cells slots Q (F0 m pc ls (st.map (cvV ad))) := by
  obtain ⟨hx, hb, hml, htw, hown, hK, hA, hAZ, hin, hon, hZs⟩ := C
  simp only [sstep] at h
  simp only [Option.some.injEq, Prod.mk.injEq] at h
  obtain ⟨rfl, rfl, rfl, rfl⟩ := h
  exact lv_iconst hx hb (hd.d rfl) rfl (k.z ad H locs ls (adX_r _ _) hR (scS_c (scV_int _ _) hs))
theorem ss_bipush {pp : pP} {F : pF} {tr : List (String × Nat × Nat)} {xs : Nat → Int32} {L : Nat} {M : pM} (hF : ClsOK F) (hPo : PoolOK pp tr) (C : Cx p s m args meth c G cI cZ cB cJ cE A Z0 M) {pc : Nat} {lc : pL} {st : List Value} {w : pW} {pc' : Nat} {lc' : pL} {st' : List Value} {w' : pW} {ad : Nat → Nat} {ls : Array Slot} (hX : EXf xs L tr Z0 ad s) {n : Int} (hd : DecAt M.2.2.1 pc (.bipush n)) (h : sstep pp F xs L M.1 M.2.2.2.1 (isInit M.2.1) (.bipush n) pc lc st w = some (pc', lc', st', w')) (hR : Rn s G cI cZ cB cJ cE A M.2.2.2.1 ad H locs ls lc w) (hs : scS (w.length + 3) st) (hroom : cells + (w'.length - w.length) ≤ R.cells ∧ slots + (slW w' - slW w) ≤ R.slots)
    (k : Go p l e R s m args below meth c Q G cI cZ cB cJ cE A M (w.length + 3) ad (cells + (w'.length - w.length)) (slots + (slW w' - slW w)) pc' lc' st' w') : W p l e R s m args below meth c H locs cells slots Q (F0 m pc ls (st.map (cvV ad))) := by
  obtain ⟨hx, hb, hml, htw, hown, hK, hA, hAZ, hin, hon, hZs⟩ := C
  simp only [sstep] at h
  simp only [Option.some.injEq, Prod.mk.injEq] at h
  obtain ⟨rfl, rfl, rfl, rfl⟩ := h
  exact lv_bipush hx hb (hd.d rfl) rfl (k.z ad H locs ls (adX_r _ _) hR (scS_c (scV_int _ _) hs))
theorem ss_sipush {pp : pP} {F : pF} {tr : List (String × Nat × Nat)} {xs : Nat → Int32} {L : Nat} {M : pM} (hF : ClsOK F) (hPo : PoolOK pp tr) (C : Cx p s m args meth c G cI cZ cB cJ cE A Z0 M) {pc : Nat} {lc : pL} {st : List Value} {w : pW} {pc' : Nat} {lc' : pL} {st' : List Value} {w' : pW} {ad : Nat → Nat} {ls : Array Slot} (hX : EXf xs L tr Z0 ad s) {n : Int} (hd : DecAt M.2.2.1 pc (.sipush n)) (h : sstep pp F xs L M.1 M.2.2.2.1 (isInit M.2.1) (.sipush n) pc lc st w = some (pc', lc', st', w')) (hR : Rn s G cI cZ cB cJ cE A M.2.2.2.1 ad H locs ls lc w) (hs : scS (w.length + 3) st) (hroom : cells + (w'.length - w.length) ≤ R.cells ∧ slots + (slW w' - slW w) ≤ R.slots)
    (k : Go p l e R s m args below meth c Q G cI cZ cB cJ cE A M (w.length + 3) ad (cells + (w'.length - w.length)) (slots + (slW w' - slW w)) pc' lc' st' w') : W p l e R s m args below meth c H locs cells slots Q (F0 m pc ls (st.map (cvV ad))) := by
  obtain ⟨hx, hb, hml, htw, hown, hK, hA, hAZ, hin, hon, hZs⟩ := C
  simp only [sstep] at h
  simp only [Option.some.injEq, Prod.mk.injEq] at h
  obtain ⟨rfl, rfl, rfl, rfl⟩ := h
  exact lv_sipush hx hb (hd.d rfl) rfl (k.z ad H locs ls (adX_r _ _) hR (scS_c (scV_int _ _) hs))
theorem ss_lconst {pp : pP} {F : pF} {tr : List (String × Nat × Nat)} {xs : Nat → Int32} {L : Nat} {M : pM} (hF : ClsOK F) (hPo : PoolOK pp tr) (C : Cx p s m args meth c G cI cZ cB cJ cE A Z0 M) {pc : Nat} {lc : pL} {st : List Value} {w : pW} {pc' : Nat} {lc' : pL} {st' : List Value} {w' : pW} {ad : Nat → Nat} {ls : Array Slot} (hX : EXf xs L tr Z0 ad s) {n : Fin 2} (hd : DecAt M.2.2.1 pc (.lconst n)) (h : sstep pp F xs L M.1 M.2.2.2.1 (isInit M.2.1) (.lconst n) pc lc st w = some (pc', lc', st', w')) (hR : Rn s G cI cZ cB cJ cE A M.2.2.2.1 ad H locs ls lc w) (hs : scS (w.length + 3) st) (hroom : cells + (w'.length - w.length) ≤ R.cells ∧ slots + (slW w' - slW w) ≤ R.slots)
    (k : Go p l e R s m args below meth c Q G cI cZ cB cJ cE A M (w.length + 3) ad (cells + (w'.length - w.length)) (slots + (slW w' - slW w)) pc' lc' st' w') : W p l e R s m args below meth c H locs cells slots Q (F0 m pc ls (st.map (cvV ad))) := by
  obtain ⟨hx, hb, hml, htw, hown, hK, hA, hAZ, hin, hon, hZs⟩ := C
  simp only [sstep] at h
  simp only [Option.some.injEq, Prod.mk.injEq] at h
  obtain ⟨rfl, rfl, rfl, rfl⟩ := h
  exact lv_lconst hx hb (hd.d rfl) rfl (k.z ad H locs ls (adX_r _ _) hR (scS_c (scV_long _ _) hs))
theorem ss_ldc {pp : pP} {F : pF} {tr : List (String × Nat × Nat)} {xs : Nat → Int32} {L : Nat} {M : pM} (hF : ClsOK F) (hPo : PoolOK pp tr) (C : Cx p s m args meth c G cI cZ cB cJ cE A Z0 M) {pc : Nat} {lc : pL} {st : List Value} {w : pW} {pc' : Nat} {lc' : pL} {st' : List Value} {w' : pW} {ad : Nat → Nat} {ls : Array Slot} (hX : EXf xs L tr Z0 ad s) {i : Nat} (hd : DecAt M.2.2.1 pc (.ldc i)) (h : sstep pp F xs L M.1 M.2.2.2.1 (isInit M.2.1) (.ldc i) pc lc st w = some (pc', lc', st', w')) (hR : Rn s G cI cZ cB cJ cE A M.2.2.2.1 ad H locs ls lc w) (hs : scS (w.length + 3) st) (hroom : cells + (w'.length - w.length) ≤ R.cells ∧ slots + (slW w' - slW w) ≤ R.slots)
    (k : Go p l e R s m args below meth c Q G cI cZ cB cJ cE A M (w.length + 3) ad (cells + (w'.length - w.length)) (slots + (slW w' - slW w)) pc' lc' st' w') : W p l e R s m args below meth c H locs cells slots Q (F0 m pc ls (st.map (cvV ad))) := by
  obtain ⟨hx, hb, hml, htw, hown, hK, hA, hAZ, hin, hon, hZs⟩ := C
  simp only [sstep] at h
  split at h
  · next v hv =>
    simp only [Option.some.injEq, Prod.mk.injEq] at h
    obtain ⟨rfl, rfl, rfl, rfl⟩ := h
    obtain ⟨own, h1, h2⟩ := hPo.2.2.1 _ _ _ hv
    have ho : own = M.2.1.cls := Option.some.inj (h1.symm.trans hon)
    subst ho
    exact lv_ldc hx hb hown (htw _ h2) (hd.d rfl) (k.z ad H locs ls (adX_r _ _) hR (scS_c (scV_int _ _) hs))
  · next v hv =>
    simp only [Option.some.injEq, Prod.mk.injEq] at h
    obtain ⟨rfl, rfl, rfl, rfl⟩ := h
    obtain ⟨own, h1, h3, h2⟩ := hPo.2.2.2.2 _ _ _ hv
    have ho : own = M.2.1.cls := Option.some.inj (h1.symm.trans hon)
    subst ho
    obtain ⟨-, txt, h4⟩ := hX.2.2 _ _ _ h2
    refine va_ldcS hx hb hown h4 (hd.d rfl) (k.z ad H locs ls (adX_r _ _) hR (scS_c (fun j hj => ?_) hs))
    cases hj
    rcases h3 with rfl | rfl
    · exact Nat.lt_of_lt_of_le (show 1 < 3 by decide) (Nat.le_add_left 3 _)
    · exact Nat.lt_of_lt_of_le (show 2 < 3 by decide) (Nat.le_add_left 3 _)
  · cases h
theorem ss_ldc_w {pp : pP} {F : pF} {tr : List (String × Nat × Nat)} {xs : Nat → Int32} {L : Nat} {M : pM} (hF : ClsOK F) (hPo : PoolOK pp tr) (C : Cx p s m args meth c G cI cZ cB cJ cE A Z0 M) {pc : Nat} {lc : pL} {st : List Value} {w : pW} {pc' : Nat} {lc' : pL} {st' : List Value} {w' : pW} {ad : Nat → Nat} {ls : Array Slot} (hX : EXf xs L tr Z0 ad s) {i : Nat} (hd : DecAt M.2.2.1 pc (.ldc_w i)) (h : sstep pp F xs L M.1 M.2.2.2.1 (isInit M.2.1) (.ldc_w i) pc lc st w = some (pc', lc', st', w')) (hR : Rn s G cI cZ cB cJ cE A M.2.2.2.1 ad H locs ls lc w) (hs : scS (w.length + 3) st) (hroom : cells + (w'.length - w.length) ≤ R.cells ∧ slots + (slW w' - slW w) ≤ R.slots)
    (k : Go p l e R s m args below meth c Q G cI cZ cB cJ cE A M (w.length + 3) ad (cells + (w'.length - w.length)) (slots + (slW w' - slW w)) pc' lc' st' w') : W p l e R s m args below meth c H locs cells slots Q (F0 m pc ls (st.map (cvV ad))) := by
  obtain ⟨hx, hb, hml, htw, hown, hK, hA, hAZ, hin, hon, hZs⟩ := C
  simp only [sstep] at h
  split at h
  · next v hv =>
    simp only [Option.some.injEq, Prod.mk.injEq] at h
    obtain ⟨rfl, rfl, rfl, rfl⟩ := h
    obtain ⟨own, h1, h2⟩ := hPo.2.2.1 _ _ _ hv
    have ho : own = M.2.1.cls := Option.some.inj (h1.symm.trans hon)
    subst ho
    exact lv_ldcw hx hb hown (htw _ h2) (hd.d rfl) (k.z ad H locs ls (adX_r _ _) hR (scS_c (scV_int _ _) hs))
  · cases h
theorem ss_ldc2_w {pp : pP} {F : pF} {tr : List (String × Nat × Nat)} {xs : Nat → Int32} {L : Nat} {M : pM} (hF : ClsOK F) (hPo : PoolOK pp tr) (C : Cx p s m args meth c G cI cZ cB cJ cE A Z0 M) {pc : Nat} {lc : pL} {st : List Value} {w : pW} {pc' : Nat} {lc' : pL} {st' : List Value} {w' : pW} {ad : Nat → Nat} {ls : Array Slot} (hX : EXf xs L tr Z0 ad s) {i : Nat} (hd : DecAt M.2.2.1 pc (.ldc2_w i)) (h : sstep pp F xs L M.1 M.2.2.2.1 (isInit M.2.1) (.ldc2_w i) pc lc st w = some (pc', lc', st', w')) (hR : Rn s G cI cZ cB cJ cE A M.2.2.2.1 ad H locs ls lc w) (hs : scS (w.length + 3) st) (hroom : cells + (w'.length - w.length) ≤ R.cells ∧ slots + (slW w' - slW w) ≤ R.slots)
    (k : Go p l e R s m args below meth c Q G cI cZ cB cJ cE A M (w.length + 3) ad (cells + (w'.length - w.length)) (slots + (slW w' - slW w)) pc' lc' st' w') : W p l e R s m args below meth c H locs cells slots Q (F0 m pc ls (st.map (cvV ad))) := by
  obtain ⟨hx, hb, hml, htw, hown, hK, hA, hAZ, hin, hon, hZs⟩ := C
  simp only [sstep] at h
  split at h
  · next v hv =>
    simp only [Option.some.injEq, Prod.mk.injEq] at h
    obtain ⟨rfl, rfl, rfl, rfl⟩ := h
    obtain ⟨own, h1, h2⟩ := hPo.2.2.2.1 _ _ _ hv
    have ho : own = M.2.1.cls := Option.some.inj (h1.symm.trans hon)
    subst ho
    exact lv_ldc2 hx hb hown (htw _ h2) (hd.d rfl) (k.z ad H locs ls (adX_r _ _) hR (scS_c (scV_long _ _) hs))
  · cases h
theorem ss_iload_n {pp : pP} {F : pF} {tr : List (String × Nat × Nat)} {xs : Nat → Int32} {L : Nat} {M : pM} (hF : ClsOK F) (hPo : PoolOK pp tr) (C : Cx p s m args meth c G cI cZ cB cJ cE A Z0 M) {pc : Nat} {lc : pL} {st : List Value} {w : pW} {pc' : Nat} {lc' : pL} {st' : List Value} {w' : pW} {ad : Nat → Nat} {ls : Array Slot} (hX : EXf xs L tr Z0 ad s) {i : Fin 4} (hd : DecAt M.2.2.1 pc (.iload_n i)) (h : sstep pp F xs L M.1 M.2.2.2.1 (isInit M.2.1) (.iload_n i) pc lc st w = some (pc', lc', st', w')) (hR : Rn s G cI cZ cB cJ cE A M.2.2.2.1 ad H locs ls lc w) (hs : scS (w.length + 3) st) (hroom : cells + (w'.length - w.length) ≤ R.cells ∧ slots + (slW w' - slW w) ≤ R.slots)
    (k : Go p l e R s m args below meth c Q G cI cZ cB cJ cE A M (w.length + 3) ad (cells + (w'.length - w.length)) (slots + (slW w' - slW w)) pc' lc' st' w') : W p l e R s m args below meth c H locs cells slots Q (F0 m pc ls (st.map (cvV ad))) := by
  obtain ⟨hx, hb, hml, htw, hown, hK, hA, hAZ, hin, hon, hZs⟩ := C
  simp only [sstep] at h
  split at h
  · next v hv =>
    simp only [Option.some.injEq, Prod.mk.injEq] at h
    obtain ⟨rfl, rfl, rfl, rfl⟩ := h
    exact lv_iload_n hx hb (hd.d rfl) rfl (lv_get hR.2.2.2.1 hv) (k.z ad H locs ls (adX_r _ _) hR (scS_c (scV_int _ _) hs))
  · cases h
theorem ss_iload {pp : pP} {F : pF} {tr : List (String × Nat × Nat)} {xs : Nat → Int32} {L : Nat} {M : pM} (hF : ClsOK F) (hPo : PoolOK pp tr) (C : Cx p s m args meth c G cI cZ cB cJ cE A Z0 M) {pc : Nat} {lc : pL} {st : List Value} {w : pW} {pc' : Nat} {lc' : pL} {st' : List Value} {w' : pW} {ad : Nat → Nat} {ls : Array Slot} (hX : EXf xs L tr Z0 ad s) {i : Nat} (hd : DecAt M.2.2.1 pc (.iload i)) (h : sstep pp F xs L M.1 M.2.2.2.1 (isInit M.2.1) (.iload i) pc lc st w = some (pc', lc', st', w')) (hR : Rn s G cI cZ cB cJ cE A M.2.2.2.1 ad H locs ls lc w) (hs : scS (w.length + 3) st) (hroom : cells + (w'.length - w.length) ≤ R.cells ∧ slots + (slW w' - slW w) ≤ R.slots)
    (k : Go p l e R s m args below meth c Q G cI cZ cB cJ cE A M (w.length + 3) ad (cells + (w'.length - w.length)) (slots + (slW w' - slW w)) pc' lc' st' w') : W p l e R s m args below meth c H locs cells slots Q (F0 m pc ls (st.map (cvV ad))) := by
  obtain ⟨hx, hb, hml, htw, hown, hK, hA, hAZ, hin, hon, hZs⟩ := C
  simp only [sstep] at h
  split at h
  · next v hv =>
    simp only [Option.some.injEq, Prod.mk.injEq] at h
    obtain ⟨rfl, rfl, rfl, rfl⟩ := h
    exact lv_iload hx hb (hd.d rfl) (lv_get hR.2.2.2.1 hv) (k.z ad H locs ls (adX_r _ _) hR (scS_c (scV_int _ _) hs))
  · cases h
theorem ss_lload_n {pp : pP} {F : pF} {tr : List (String × Nat × Nat)} {xs : Nat → Int32} {L : Nat} {M : pM} (hF : ClsOK F) (hPo : PoolOK pp tr) (C : Cx p s m args meth c G cI cZ cB cJ cE A Z0 M) {pc : Nat} {lc : pL} {st : List Value} {w : pW} {pc' : Nat} {lc' : pL} {st' : List Value} {w' : pW} {ad : Nat → Nat} {ls : Array Slot} (hX : EXf xs L tr Z0 ad s) {i : Fin 4} (hd : DecAt M.2.2.1 pc (.lload_n i)) (h : sstep pp F xs L M.1 M.2.2.2.1 (isInit M.2.1) (.lload_n i) pc lc st w = some (pc', lc', st', w')) (hR : Rn s G cI cZ cB cJ cE A M.2.2.2.1 ad H locs ls lc w) (hs : scS (w.length + 3) st) (hroom : cells + (w'.length - w.length) ≤ R.cells ∧ slots + (slW w' - slW w) ≤ R.slots)
    (k : Go p l e R s m args below meth c Q G cI cZ cB cJ cE A M (w.length + 3) ad (cells + (w'.length - w.length)) (slots + (slW w' - slW w)) pc' lc' st' w') : W p l e R s m args below meth c H locs cells slots Q (F0 m pc ls (st.map (cvV ad))) := by
  obtain ⟨hx, hb, hml, htw, hown, hK, hA, hAZ, hin, hon, hZs⟩ := C
  simp only [sstep] at h
  split at h
  · next v hv =>
    simp only [Option.some.injEq, Prod.mk.injEq] at h
    obtain ⟨rfl, rfl, rfl, rfl⟩ := h
    exact lv_lload_n hx hb (hd.d rfl) rfl (lv_get hR.2.2.2.1 hv) (k.z ad H locs ls (adX_r _ _) hR (scS_c (scV_long _ _) hs))
  · cases h
theorem ss_aload_n {pp : pP} {F : pF} {tr : List (String × Nat × Nat)} {xs : Nat → Int32} {L : Nat} {M : pM} (hF : ClsOK F) (hPo : PoolOK pp tr) (C : Cx p s m args meth c G cI cZ cB cJ cE A Z0 M) {pc : Nat} {lc : pL} {st : List Value} {w : pW} {pc' : Nat} {lc' : pL} {st' : List Value} {w' : pW} {ad : Nat → Nat} {ls : Array Slot} (hX : EXf xs L tr Z0 ad s) {i : Fin 4} (hd : DecAt M.2.2.1 pc (.aload_n i)) (h : sstep pp F xs L M.1 M.2.2.2.1 (isInit M.2.1) (.aload_n i) pc lc st w = some (pc', lc', st', w')) (hR : Rn s G cI cZ cB cJ cE A M.2.2.2.1 ad H locs ls lc w) (hs : scS (w.length + 3) st) (hroom : cells + (w'.length - w.length) ≤ R.cells ∧ slots + (slW w' - slW w) ≤ R.slots)
    (k : Go p l e R s m args below meth c Q G cI cZ cB cJ cE A M (w.length + 3) ad (cells + (w'.length - w.length)) (slots + (slW w' - slW w)) pc' lc' st' w') : W p l e R s m args below meth c H locs cells slots Q (F0 m pc ls (st.map (cvV ad))) := by
  obtain ⟨hx, hb, hml, htw, hown, hK, hA, hAZ, hin, hon, hZs⟩ := C
  simp only [sstep] at h
  split at h
  · next v hv =>
    simp only [Option.some.injEq, Prod.mk.injEq] at h
    obtain ⟨rfl, rfl, rfl, rfl⟩ := h
    exact lv_aload_n hx hb (hd.d rfl) rfl (lv_get hR.2.2.2.1 hv) (k.z ad H locs ls (adX_r _ _) hR (scS_c (lGet_sc hR.2.2.2.2.2 hv) hs))
  · next hv =>
    simp only [Option.some.injEq, Prod.mk.injEq] at h
    obtain ⟨rfl, rfl, rfl, rfl⟩ := h
    exact lv_aload_nN hx hb (hd.d rfl) rfl (lv_get hR.2.2.2.1 hv) (k.z ad H locs ls (adX_r _ _) hR (scS_c (scV_null _) hs))
  · cases h
theorem ss_aload {pp : pP} {F : pF} {tr : List (String × Nat × Nat)} {xs : Nat → Int32} {L : Nat} {M : pM} (hF : ClsOK F) (hPo : PoolOK pp tr) (C : Cx p s m args meth c G cI cZ cB cJ cE A Z0 M) {pc : Nat} {lc : pL} {st : List Value} {w : pW} {pc' : Nat} {lc' : pL} {st' : List Value} {w' : pW} {ad : Nat → Nat} {ls : Array Slot} (hX : EXf xs L tr Z0 ad s) {i : Nat} (hd : DecAt M.2.2.1 pc (.aload i)) (h : sstep pp F xs L M.1 M.2.2.2.1 (isInit M.2.1) (.aload i) pc lc st w = some (pc', lc', st', w')) (hR : Rn s G cI cZ cB cJ cE A M.2.2.2.1 ad H locs ls lc w) (hs : scS (w.length + 3) st) (hroom : cells + (w'.length - w.length) ≤ R.cells ∧ slots + (slW w' - slW w) ≤ R.slots)
    (k : Go p l e R s m args below meth c Q G cI cZ cB cJ cE A M (w.length + 3) ad (cells + (w'.length - w.length)) (slots + (slW w' - slW w)) pc' lc' st' w') : W p l e R s m args below meth c H locs cells slots Q (F0 m pc ls (st.map (cvV ad))) := by
  obtain ⟨hx, hb, hml, htw, hown, hK, hA, hAZ, hin, hon, hZs⟩ := C
  simp only [sstep] at h
  split at h
  · next v hv =>
    simp only [Option.some.injEq, Prod.mk.injEq] at h
    obtain ⟨rfl, rfl, rfl, rfl⟩ := h
    exact lv_aload hx hb (hd.d rfl) (lv_get hR.2.2.2.1 hv) (k.z ad H locs ls (adX_r _ _) hR (scS_c (lGet_sc hR.2.2.2.2.2 hv) hs))
  · next hv =>
    simp only [Option.some.injEq, Prod.mk.injEq] at h
    obtain ⟨rfl, rfl, rfl, rfl⟩ := h
    exact lv_aloadN hx hb (hd.d rfl) (lv_get hR.2.2.2.1 hv) (k.z ad H locs ls (adX_r _ _) hR (scS_c (scV_null _) hs))
  · cases h
theorem ss_istore_n {pp : pP} {F : pF} {tr : List (String × Nat × Nat)} {xs : Nat → Int32} {L : Nat} {M : pM} (hF : ClsOK F) (hPo : PoolOK pp tr) (C : Cx p s m args meth c G cI cZ cB cJ cE A Z0 M) {pc : Nat} {lc : pL} {st : List Value} {w : pW} {pc' : Nat} {lc' : pL} {st' : List Value} {w' : pW} {ad : Nat → Nat} {ls : Array Slot} (hX : EXf xs L tr Z0 ad s) {i : Fin 4} (hd : DecAt M.2.2.1 pc (.istore_n i)) (h : sstep pp F xs L M.1 M.2.2.2.1 (isInit M.2.1) (.istore_n i) pc lc st w = some (pc', lc', st', w')) (hR : Rn s G cI cZ cB cJ cE A M.2.2.2.1 ad H locs ls lc w) (hs : scS (w.length + 3) st) (hroom : cells + (w'.length - w.length) ≤ R.cells ∧ slots + (slW w' - slW w) ≤ R.slots)
    (k : Go p l e R s m args below meth c Q G cI cZ cB cJ cE A M (w.length + 3) ad (cells + (w'.length - w.length)) (slots + (slW w' - slW w)) pc' lc' st' w') : W p l e R s m args below meth c H locs cells slots Q (F0 m pc ls (st.map (cvV ad))) := by
  obtain ⟨hx, hb, hml, htw, hown, hK, hA, hAZ, hin, hon, hZs⟩ := C
  simp only [sstep] at h
  split at h
  · next x r =>
    split at h
    · next hn =>
      simp only [Option.some.injEq, Prod.mk.injEq] at h
      obtain ⟨rfl, rfl, rfl, rfl⟩ := h
      exact lv_istore_n hx hb (hd.d rfl) rfl hR.2.2.2.1 (of_decide_eq_true hn) (cvL_set1 ad lc _ (.int x)) (fun ls' hl' => k.z ad H locs ls' (adX_r _ _) ⟨hR.1, hR.2.1, hR.2.2.1, hl', hR.2.2.2.2.1, scL_set1 hR.2.2.2.2.2 _ (scS_h hs)⟩ (scS_t hs))
    · cases h
  · cases h
theorem ss_istore {pp : pP} {F : pF} {tr : List (String × Nat × Nat)} {xs : Nat → Int32} {L : Nat} {M : pM} (hF : ClsOK F) (hPo : PoolOK pp tr) (C : Cx p s m args meth c G cI cZ cB cJ cE A Z0 M) {pc : Nat} {lc : pL} {st : List Value} {w : pW} {pc' : Nat} {lc' : pL} {st' : List Value} {w' : pW} {ad : Nat → Nat} {ls : Array Slot} (hX : EXf xs L tr Z0 ad s) {i : Nat} (hd : DecAt M.2.2.1 pc (.istore i)) (h : sstep pp F xs L M.1 M.2.2.2.1 (isInit M.2.1) (.istore i) pc lc st w = some (pc', lc', st', w')) (hR : Rn s G cI cZ cB cJ cE A M.2.2.2.1 ad H locs ls lc w) (hs : scS (w.length + 3) st) (hroom : cells + (w'.length - w.length) ≤ R.cells ∧ slots + (slW w' - slW w) ≤ R.slots)
    (k : Go p l e R s m args below meth c Q G cI cZ cB cJ cE A M (w.length + 3) ad (cells + (w'.length - w.length)) (slots + (slW w' - slW w)) pc' lc' st' w') : W p l e R s m args below meth c H locs cells slots Q (F0 m pc ls (st.map (cvV ad))) := by
  obtain ⟨hx, hb, hml, htw, hown, hK, hA, hAZ, hin, hon, hZs⟩ := C
  simp only [sstep] at h
  split at h
  · next x r =>
    split at h
    · next hn =>
      simp only [Option.some.injEq, Prod.mk.injEq] at h
      obtain ⟨rfl, rfl, rfl, rfl⟩ := h
      exact lv_istore hx hb (hd.d rfl) hR.2.2.2.1 (of_decide_eq_true hn) (cvL_set1 ad lc _ (.int x)) (fun ls' hl' => k.z ad H locs ls' (adX_r _ _) ⟨hR.1, hR.2.1, hR.2.2.1, hl', hR.2.2.2.2.1, scL_set1 hR.2.2.2.2.2 _ (scS_h hs)⟩ (scS_t hs))
    · cases h
  · cases h
theorem ss_astore_n {pp : pP} {F : pF} {tr : List (String × Nat × Nat)} {xs : Nat → Int32} {L : Nat} {M : pM} (hF : ClsOK F) (hPo : PoolOK pp tr) (C : Cx p s m args meth c G cI cZ cB cJ cE A Z0 M) {pc : Nat} {lc : pL} {st : List Value} {w : pW} {pc' : Nat} {lc' : pL} {st' : List Value} {w' : pW} {ad : Nat → Nat} {ls : Array Slot} (hX : EXf xs L tr Z0 ad s) {i : Fin 4} (hd : DecAt M.2.2.1 pc (.astore_n i)) (h : sstep pp F xs L M.1 M.2.2.2.1 (isInit M.2.1) (.astore_n i) pc lc st w = some (pc', lc', st', w')) (hR : Rn s G cI cZ cB cJ cE A M.2.2.2.1 ad H locs ls lc w) (hs : scS (w.length + 3) st) (hroom : cells + (w'.length - w.length) ≤ R.cells ∧ slots + (slW w' - slW w) ≤ R.slots)
    (k : Go p l e R s m args below meth c Q G cI cZ cB cJ cE A M (w.length + 3) ad (cells + (w'.length - w.length)) (slots + (slW w' - slW w)) pc' lc' st' w') : W p l e R s m args below meth c H locs cells slots Q (F0 m pc ls (st.map (cvV ad))) := by
  obtain ⟨hx, hb, hml, htw, hown, hK, hA, hAZ, hin, hon, hZs⟩ := C
  simp only [sstep] at h
  split at h
  · next x r =>
    split at h
    · next hn =>
      simp only [Option.some.injEq, Prod.mk.injEq] at h
      obtain ⟨rfl, rfl, rfl, rfl⟩ := h
      exact lv_astore_n hx hb (hd.d rfl) rfl hR.2.2.2.1 (of_decide_eq_true hn) (cvL_set1 ad lc _ (.ref x)) (fun ls' hl' => k.z ad H locs ls' (adX_r _ _) ⟨hR.1, hR.2.1, hR.2.2.1, hl', hR.2.2.2.2.1, scL_set1 hR.2.2.2.2.2 _ (scS_h hs)⟩ (scS_t hs))
    · cases h
  · cases h
theorem ss_astore {pp : pP} {F : pF} {tr : List (String × Nat × Nat)} {xs : Nat → Int32} {L : Nat} {M : pM} (hF : ClsOK F) (hPo : PoolOK pp tr) (C : Cx p s m args meth c G cI cZ cB cJ cE A Z0 M) {pc : Nat} {lc : pL} {st : List Value} {w : pW} {pc' : Nat} {lc' : pL} {st' : List Value} {w' : pW} {ad : Nat → Nat} {ls : Array Slot} (hX : EXf xs L tr Z0 ad s) {i : Nat} (hd : DecAt M.2.2.1 pc (.astore i)) (h : sstep pp F xs L M.1 M.2.2.2.1 (isInit M.2.1) (.astore i) pc lc st w = some (pc', lc', st', w')) (hR : Rn s G cI cZ cB cJ cE A M.2.2.2.1 ad H locs ls lc w) (hs : scS (w.length + 3) st) (hroom : cells + (w'.length - w.length) ≤ R.cells ∧ slots + (slW w' - slW w) ≤ R.slots)
    (k : Go p l e R s m args below meth c Q G cI cZ cB cJ cE A M (w.length + 3) ad (cells + (w'.length - w.length)) (slots + (slW w' - slW w)) pc' lc' st' w') : W p l e R s m args below meth c H locs cells slots Q (F0 m pc ls (st.map (cvV ad))) := by
  obtain ⟨hx, hb, hml, htw, hown, hK, hA, hAZ, hin, hon, hZs⟩ := C
  simp only [sstep] at h
  split at h
  · next x r =>
    split at h
    · next hn =>
      simp only [Option.some.injEq, Prod.mk.injEq] at h
      obtain ⟨rfl, rfl, rfl, rfl⟩ := h
      exact lv_astore hx hb (hd.d rfl) hR.2.2.2.1 (of_decide_eq_true hn) (cvL_set1 ad lc _ (.ref x)) (fun ls' hl' => k.z ad H locs ls' (adX_r _ _) ⟨hR.1, hR.2.1, hR.2.2.1, hl', hR.2.2.2.2.1, scL_set1 hR.2.2.2.2.2 _ (scS_h hs)⟩ (scS_t hs))
    · cases h
  · cases h
theorem ss_lstore_n {pp : pP} {F : pF} {tr : List (String × Nat × Nat)} {xs : Nat → Int32} {L : Nat} {M : pM} (hF : ClsOK F) (hPo : PoolOK pp tr) (C : Cx p s m args meth c G cI cZ cB cJ cE A Z0 M) {pc : Nat} {lc : pL} {st : List Value} {w : pW} {pc' : Nat} {lc' : pL} {st' : List Value} {w' : pW} {ad : Nat → Nat} {ls : Array Slot} (hX : EXf xs L tr Z0 ad s) {i : Fin 4} (hd : DecAt M.2.2.1 pc (.lstore_n i)) (h : sstep pp F xs L M.1 M.2.2.2.1 (isInit M.2.1) (.lstore_n i) pc lc st w = some (pc', lc', st', w')) (hR : Rn s G cI cZ cB cJ cE A M.2.2.2.1 ad H locs ls lc w) (hs : scS (w.length + 3) st) (hroom : cells + (w'.length - w.length) ≤ R.cells ∧ slots + (slW w' - slW w) ≤ R.slots)
    (k : Go p l e R s m args below meth c Q G cI cZ cB cJ cE A M (w.length + 3) ad (cells + (w'.length - w.length)) (slots + (slW w' - slW w)) pc' lc' st' w') : W p l e R s m args below meth c H locs cells slots Q (F0 m pc ls (st.map (cvV ad))) := by
  obtain ⟨hx, hb, hml, htw, hown, hK, hA, hAZ, hin, hon, hZs⟩ := C
  simp only [sstep] at h
  split at h
  · next x r =>
    split at h
    · next hn =>
      simp only [Option.some.injEq, Prod.mk.injEq] at h
      obtain ⟨rfl, rfl, rfl, rfl⟩ := h
      exact lv_lstore_n hx hb (hd.d rfl) rfl hR.2.2.2.1 (of_decide_eq_true hn) (cvL_set2 ad lc _ (.long x)) (fun ls' hl' => k.z ad H locs ls' (adX_r _ _) ⟨hR.1, hR.2.1, hR.2.2.1, hl', hR.2.2.2.2.1, scL_set2 hR.2.2.2.2.2 _ (scS_h hs)⟩ (scS_t hs))
    · cases h
  · cases h
theorem ss_iinc {pp : pP} {F : pF} {tr : List (String × Nat × Nat)} {xs : Nat → Int32} {L : Nat} {M : pM} (hF : ClsOK F) (hPo : PoolOK pp tr) (C : Cx p s m args meth c G cI cZ cB cJ cE A Z0 M) {pc : Nat} {lc : pL} {st : List Value} {w : pW} {pc' : Nat} {lc' : pL} {st' : List Value} {w' : pW} {ad : Nat → Nat} {ls : Array Slot} (hX : EXf xs L tr Z0 ad s) {i : Nat} {n : Int} (hd : DecAt M.2.2.1 pc (.iinc i n)) (h : sstep pp F xs L M.1 M.2.2.2.1 (isInit M.2.1) (.iinc i n) pc lc st w = some (pc', lc', st', w')) (hR : Rn s G cI cZ cB cJ cE A M.2.2.2.1 ad H locs ls lc w) (hs : scS (w.length + 3) st) (hroom : cells + (w'.length - w.length) ≤ R.cells ∧ slots + (slW w' - slW w) ≤ R.slots)
    (k : Go p l e R s m args below meth c Q G cI cZ cB cJ cE A M (w.length + 3) ad (cells + (w'.length - w.length)) (slots + (slW w' - slW w)) pc' lc' st' w') : W p l e R s m args below meth c H locs cells slots Q (F0 m pc ls (st.map (cvV ad))) := by
  obtain ⟨hx, hb, hml, htw, hown, hK, hA, hAZ, hin, hon, hZs⟩ := C
  simp only [sstep] at h
  split at h
  · next x hv =>
    split at h
    · next hn =>
      simp only [Option.some.injEq, Prod.mk.injEq] at h
      obtain ⟨rfl, rfl, rfl, rfl⟩ := h
      obtain ⟨k0, hk0⟩ := List.getElem?_of_mem (List.mem_map.mpr ⟨(i, Value.int x), lGet_mem hv, rfl⟩ : (i, cvV ad (.int x)) ∈ cvL ad lc)
      exact lv_iinc hx hb (hd.d rfl) hR.2.2.2.1 hk0 rfl (of_decide_eq_true hn) (cvL_set1 ad lc i (.int (x + Int32.ofInt n))) (fun ls' hl' => k.z ad H locs ls' (adX_r _ _) ⟨hR.1, hR.2.1, hR.2.2.1, hl', hR.2.2.2.2.1, scL_set1 hR.2.2.2.2.2 _ (scV_int _ _)⟩ hs)
    · cases h
  · cases h
theorem ss_iadd {pp : pP} {F : pF} {tr : List (String × Nat × Nat)} {xs : Nat → Int32} {L : Nat} {M : pM} (hF : ClsOK F) (hPo : PoolOK pp tr) (C : Cx p s m args meth c G cI cZ cB cJ cE A Z0 M) {pc : Nat} {lc : pL} {st : List Value} {w : pW} {pc' : Nat} {lc' : pL} {st' : List Value} {w' : pW} {ad : Nat → Nat} {ls : Array Slot} (hX : EXf xs L tr Z0 ad s)  (hd : DecAt M.2.2.1 pc (.iadd)) (h : sstep pp F xs L M.1 M.2.2.2.1 (isInit M.2.1) (.iadd) pc lc st w = some (pc', lc', st', w')) (hR : Rn s G cI cZ cB cJ cE A M.2.2.2.1 ad H locs ls lc w) (hs : scS (w.length + 3) st) (hroom : cells + (w'.length - w.length) ≤ R.cells ∧ slots + (slW w' - slW w) ≤ R.slots)
    (k : Go p l e R s m args below meth c Q G cI cZ cB cJ cE A M (w.length + 3) ad (cells + (w'.length - w.length)) (slots + (slW w' - slW w)) pc' lc' st' w') : W p l e R s m args below meth c H locs cells slots Q (F0 m pc ls (st.map (cvV ad))) := by
  obtain ⟨hx, hb, hml, htw, hown, hK, hA, hAZ, hin, hon, hZs⟩ := C
  simp only [sstep] at h
  split at h
  · next y x r =>
    simp only [Option.some.injEq, Prod.mk.injEq] at h
    obtain ⟨rfl, rfl, rfl, rfl⟩ := h
    exact lv_iadd hx hb (hd.d rfl) (k.z ad H locs ls (adX_r _ _) hR (scS_c (scV_int _ _) (scS_t (scS_t hs))))
  · cases h
theorem ss_isub {pp : pP} {F : pF} {tr : List (String × Nat × Nat)} {xs : Nat → Int32} {L : Nat} {M : pM} (hF : ClsOK F) (hPo : PoolOK pp tr) (C : Cx p s m args meth c G cI cZ cB cJ cE A Z0 M) {pc : Nat} {lc : pL} {st : List Value} {w : pW} {pc' : Nat} {lc' : pL} {st' : List Value} {w' : pW} {ad : Nat → Nat} {ls : Array Slot} (hX : EXf xs L tr Z0 ad s)  (hd : DecAt M.2.2.1 pc (.isub)) (h : sstep pp F xs L M.1 M.2.2.2.1 (isInit M.2.1) (.isub) pc lc st w = some (pc', lc', st', w')) (hR : Rn s G cI cZ cB cJ cE A M.2.2.2.1 ad H locs ls lc w) (hs : scS (w.length + 3) st) (hroom : cells + (w'.length - w.length) ≤ R.cells ∧ slots + (slW w' - slW w) ≤ R.slots)
    (k : Go p l e R s m args below meth c Q G cI cZ cB cJ cE A M (w.length + 3) ad (cells + (w'.length - w.length)) (slots + (slW w' - slW w)) pc' lc' st' w') : W p l e R s m args below meth c H locs cells slots Q (F0 m pc ls (st.map (cvV ad))) := by
  obtain ⟨hx, hb, hml, htw, hown, hK, hA, hAZ, hin, hon, hZs⟩ := C
  simp only [sstep] at h
  split at h
  · next y x r =>
    simp only [Option.some.injEq, Prod.mk.injEq] at h
    obtain ⟨rfl, rfl, rfl, rfl⟩ := h
    exact lv_isub hx hb (hd.d rfl) (k.z ad H locs ls (adX_r _ _) hR (scS_c (scV_int _ _) (scS_t (scS_t hs))))
  · cases h
theorem ss_imul {pp : pP} {F : pF} {tr : List (String × Nat × Nat)} {xs : Nat → Int32} {L : Nat} {M : pM} (hF : ClsOK F) (hPo : PoolOK pp tr) (C : Cx p s m args meth c G cI cZ cB cJ cE A Z0 M) {pc : Nat} {lc : pL} {st : List Value} {w : pW} {pc' : Nat} {lc' : pL} {st' : List Value} {w' : pW} {ad : Nat → Nat} {ls : Array Slot} (hX : EXf xs L tr Z0 ad s)  (hd : DecAt M.2.2.1 pc (.imul)) (h : sstep pp F xs L M.1 M.2.2.2.1 (isInit M.2.1) (.imul) pc lc st w = some (pc', lc', st', w')) (hR : Rn s G cI cZ cB cJ cE A M.2.2.2.1 ad H locs ls lc w) (hs : scS (w.length + 3) st) (hroom : cells + (w'.length - w.length) ≤ R.cells ∧ slots + (slW w' - slW w) ≤ R.slots)
    (k : Go p l e R s m args below meth c Q G cI cZ cB cJ cE A M (w.length + 3) ad (cells + (w'.length - w.length)) (slots + (slW w' - slW w)) pc' lc' st' w') : W p l e R s m args below meth c H locs cells slots Q (F0 m pc ls (st.map (cvV ad))) := by
  obtain ⟨hx, hb, hml, htw, hown, hK, hA, hAZ, hin, hon, hZs⟩ := C
  simp only [sstep] at h
  split at h
  · next y x r =>
    simp only [Option.some.injEq, Prod.mk.injEq] at h
    obtain ⟨rfl, rfl, rfl, rfl⟩ := h
    exact lv_imul hx hb (hd.d rfl) (k.z ad H locs ls (adX_r _ _) hR (scS_c (scV_int _ _) (scS_t (scS_t hs))))
  · cases h
theorem ss_iand {pp : pP} {F : pF} {tr : List (String × Nat × Nat)} {xs : Nat → Int32} {L : Nat} {M : pM} (hF : ClsOK F) (hPo : PoolOK pp tr) (C : Cx p s m args meth c G cI cZ cB cJ cE A Z0 M) {pc : Nat} {lc : pL} {st : List Value} {w : pW} {pc' : Nat} {lc' : pL} {st' : List Value} {w' : pW} {ad : Nat → Nat} {ls : Array Slot} (hX : EXf xs L tr Z0 ad s)  (hd : DecAt M.2.2.1 pc (.iand)) (h : sstep pp F xs L M.1 M.2.2.2.1 (isInit M.2.1) (.iand) pc lc st w = some (pc', lc', st', w')) (hR : Rn s G cI cZ cB cJ cE A M.2.2.2.1 ad H locs ls lc w) (hs : scS (w.length + 3) st) (hroom : cells + (w'.length - w.length) ≤ R.cells ∧ slots + (slW w' - slW w) ≤ R.slots)
    (k : Go p l e R s m args below meth c Q G cI cZ cB cJ cE A M (w.length + 3) ad (cells + (w'.length - w.length)) (slots + (slW w' - slW w)) pc' lc' st' w') : W p l e R s m args below meth c H locs cells slots Q (F0 m pc ls (st.map (cvV ad))) := by
  obtain ⟨hx, hb, hml, htw, hown, hK, hA, hAZ, hin, hon, hZs⟩ := C
  simp only [sstep] at h
  split at h
  · next y x r =>
    simp only [Option.some.injEq, Prod.mk.injEq] at h
    obtain ⟨rfl, rfl, rfl, rfl⟩ := h
    exact lv_iand hx hb (hd.d rfl) (k.z ad H locs ls (adX_r _ _) hR (scS_c (scV_int _ _) (scS_t (scS_t hs))))
  · cases h
theorem ss_ior {pp : pP} {F : pF} {tr : List (String × Nat × Nat)} {xs : Nat → Int32} {L : Nat} {M : pM} (hF : ClsOK F) (hPo : PoolOK pp tr) (C : Cx p s m args meth c G cI cZ cB cJ cE A Z0 M) {pc : Nat} {lc : pL} {st : List Value} {w : pW} {pc' : Nat} {lc' : pL} {st' : List Value} {w' : pW} {ad : Nat → Nat} {ls : Array Slot} (hX : EXf xs L tr Z0 ad s)  (hd : DecAt M.2.2.1 pc (.ior)) (h : sstep pp F xs L M.1 M.2.2.2.1 (isInit M.2.1) (.ior) pc lc st w = some (pc', lc', st', w')) (hR : Rn s G cI cZ cB cJ cE A M.2.2.2.1 ad H locs ls lc w) (hs : scS (w.length + 3) st) (hroom : cells + (w'.length - w.length) ≤ R.cells ∧ slots + (slW w' - slW w) ≤ R.slots)
    (k : Go p l e R s m args below meth c Q G cI cZ cB cJ cE A M (w.length + 3) ad (cells + (w'.length - w.length)) (slots + (slW w' - slW w)) pc' lc' st' w') : W p l e R s m args below meth c H locs cells slots Q (F0 m pc ls (st.map (cvV ad))) := by
  obtain ⟨hx, hb, hml, htw, hown, hK, hA, hAZ, hin, hon, hZs⟩ := C
  simp only [sstep] at h
  split at h
  · next y x r =>
    simp only [Option.some.injEq, Prod.mk.injEq] at h
    obtain ⟨rfl, rfl, rfl, rfl⟩ := h
    exact lv_ior hx hb (hd.d rfl) (k.z ad H locs ls (adX_r _ _) hR (scS_c (scV_int _ _) (scS_t (scS_t hs))))
  · cases h
theorem ss_ixor {pp : pP} {F : pF} {tr : List (String × Nat × Nat)} {xs : Nat → Int32} {L : Nat} {M : pM} (hF : ClsOK F) (hPo : PoolOK pp tr) (C : Cx p s m args meth c G cI cZ cB cJ cE A Z0 M) {pc : Nat} {lc : pL} {st : List Value} {w : pW} {pc' : Nat} {lc' : pL} {st' : List Value} {w' : pW} {ad : Nat → Nat} {ls : Array Slot} (hX : EXf xs L tr Z0 ad s)  (hd : DecAt M.2.2.1 pc (.ixor)) (h : sstep pp F xs L M.1 M.2.2.2.1 (isInit M.2.1) (.ixor) pc lc st w = some (pc', lc', st', w')) (hR : Rn s G cI cZ cB cJ cE A M.2.2.2.1 ad H locs ls lc w) (hs : scS (w.length + 3) st) (hroom : cells + (w'.length - w.length) ≤ R.cells ∧ slots + (slW w' - slW w) ≤ R.slots)
    (k : Go p l e R s m args below meth c Q G cI cZ cB cJ cE A M (w.length + 3) ad (cells + (w'.length - w.length)) (slots + (slW w' - slW w)) pc' lc' st' w') : W p l e R s m args below meth c H locs cells slots Q (F0 m pc ls (st.map (cvV ad))) := by
  obtain ⟨hx, hb, hml, htw, hown, hK, hA, hAZ, hin, hon, hZs⟩ := C
  simp only [sstep] at h
  split at h
  · next y x r =>
    simp only [Option.some.injEq, Prod.mk.injEq] at h
    obtain ⟨rfl, rfl, rfl, rfl⟩ := h
    exact lv_ixor hx hb (hd.d rfl) (k.z ad H locs ls (adX_r _ _) hR (scS_c (scV_int _ _) (scS_t (scS_t hs))))
  · cases h
theorem ss_ishl {pp : pP} {F : pF} {tr : List (String × Nat × Nat)} {xs : Nat → Int32} {L : Nat} {M : pM} (hF : ClsOK F) (hPo : PoolOK pp tr) (C : Cx p s m args meth c G cI cZ cB cJ cE A Z0 M) {pc : Nat} {lc : pL} {st : List Value} {w : pW} {pc' : Nat} {lc' : pL} {st' : List Value} {w' : pW} {ad : Nat → Nat} {ls : Array Slot} (hX : EXf xs L tr Z0 ad s)  (hd : DecAt M.2.2.1 pc (.ishl)) (h : sstep pp F xs L M.1 M.2.2.2.1 (isInit M.2.1) (.ishl) pc lc st w = some (pc', lc', st', w')) (hR : Rn s G cI cZ cB cJ cE A M.2.2.2.1 ad H locs ls lc w) (hs : scS (w.length + 3) st) (hroom : cells + (w'.length - w.length) ≤ R.cells ∧ slots + (slW w' - slW w) ≤ R.slots)
    (k : Go p l e R s m args below meth c Q G cI cZ cB cJ cE A M (w.length + 3) ad (cells + (w'.length - w.length)) (slots + (slW w' - slW w)) pc' lc' st' w') : W p l e R s m args below meth c H locs cells slots Q (F0 m pc ls (st.map (cvV ad))) := by
  obtain ⟨hx, hb, hml, htw, hown, hK, hA, hAZ, hin, hon, hZs⟩ := C
  simp only [sstep] at h
  split at h
  · next y x r =>
    simp only [Option.some.injEq, Prod.mk.injEq] at h
    obtain ⟨rfl, rfl, rfl, rfl⟩ := h
    exact lv_ishl hx hb (hd.d rfl) (k.z ad H locs ls (adX_r _ _) hR (scS_c (scV_int _ _) (scS_t (scS_t hs))))
  · cases h
theorem ss_ishr {pp : pP} {F : pF} {tr : List (String × Nat × Nat)} {xs : Nat → Int32} {L : Nat} {M : pM} (hF : ClsOK F) (hPo : PoolOK pp tr) (C : Cx p s m args meth c G cI cZ cB cJ cE A Z0 M) {pc : Nat} {lc : pL} {st : List Value} {w : pW} {pc' : Nat} {lc' : pL} {st' : List Value} {w' : pW} {ad : Nat → Nat} {ls : Array Slot} (hX : EXf xs L tr Z0 ad s)  (hd : DecAt M.2.2.1 pc (.ishr)) (h : sstep pp F xs L M.1 M.2.2.2.1 (isInit M.2.1) (.ishr) pc lc st w = some (pc', lc', st', w')) (hR : Rn s G cI cZ cB cJ cE A M.2.2.2.1 ad H locs ls lc w) (hs : scS (w.length + 3) st) (hroom : cells + (w'.length - w.length) ≤ R.cells ∧ slots + (slW w' - slW w) ≤ R.slots)
    (k : Go p l e R s m args below meth c Q G cI cZ cB cJ cE A M (w.length + 3) ad (cells + (w'.length - w.length)) (slots + (slW w' - slW w)) pc' lc' st' w') : W p l e R s m args below meth c H locs cells slots Q (F0 m pc ls (st.map (cvV ad))) := by
  obtain ⟨hx, hb, hml, htw, hown, hK, hA, hAZ, hin, hon, hZs⟩ := C
  simp only [sstep] at h
  split at h
  · next y x r =>
    simp only [Option.some.injEq, Prod.mk.injEq] at h
    obtain ⟨rfl, rfl, rfl, rfl⟩ := h
    exact lv_ishr hx hb (hd.d rfl) (k.z ad H locs ls (adX_r _ _) hR (scS_c (scV_int _ _) (scS_t (scS_t hs))))
  · cases h
theorem ss_iushr {pp : pP} {F : pF} {tr : List (String × Nat × Nat)} {xs : Nat → Int32} {L : Nat} {M : pM} (hF : ClsOK F) (hPo : PoolOK pp tr) (C : Cx p s m args meth c G cI cZ cB cJ cE A Z0 M) {pc : Nat} {lc : pL} {st : List Value} {w : pW} {pc' : Nat} {lc' : pL} {st' : List Value} {w' : pW} {ad : Nat → Nat} {ls : Array Slot} (hX : EXf xs L tr Z0 ad s)  (hd : DecAt M.2.2.1 pc (.iushr)) (h : sstep pp F xs L M.1 M.2.2.2.1 (isInit M.2.1) (.iushr) pc lc st w = some (pc', lc', st', w')) (hR : Rn s G cI cZ cB cJ cE A M.2.2.2.1 ad H locs ls lc w) (hs : scS (w.length + 3) st) (hroom : cells + (w'.length - w.length) ≤ R.cells ∧ slots + (slW w' - slW w) ≤ R.slots)
    (k : Go p l e R s m args below meth c Q G cI cZ cB cJ cE A M (w.length + 3) ad (cells + (w'.length - w.length)) (slots + (slW w' - slW w)) pc' lc' st' w') : W p l e R s m args below meth c H locs cells slots Q (F0 m pc ls (st.map (cvV ad))) := by
  obtain ⟨hx, hb, hml, htw, hown, hK, hA, hAZ, hin, hon, hZs⟩ := C
  simp only [sstep] at h
  split at h
  · next y x r =>
    simp only [Option.some.injEq, Prod.mk.injEq] at h
    obtain ⟨rfl, rfl, rfl, rfl⟩ := h
    exact lv_iushr hx hb (hd.d rfl) rfl (k.z ad H locs ls (adX_r _ _) hR (scS_c (scV_int _ _) (scS_t (scS_t hs))))
  · cases h
theorem ss_lor {pp : pP} {F : pF} {tr : List (String × Nat × Nat)} {xs : Nat → Int32} {L : Nat} {M : pM} (hF : ClsOK F) (hPo : PoolOK pp tr) (C : Cx p s m args meth c G cI cZ cB cJ cE A Z0 M) {pc : Nat} {lc : pL} {st : List Value} {w : pW} {pc' : Nat} {lc' : pL} {st' : List Value} {w' : pW} {ad : Nat → Nat} {ls : Array Slot} (hX : EXf xs L tr Z0 ad s)  (hd : DecAt M.2.2.1 pc (.lor)) (h : sstep pp F xs L M.1 M.2.2.2.1 (isInit M.2.1) (.lor) pc lc st w = some (pc', lc', st', w')) (hR : Rn s G cI cZ cB cJ cE A M.2.2.2.1 ad H locs ls lc w) (hs : scS (w.length + 3) st) (hroom : cells + (w'.length - w.length) ≤ R.cells ∧ slots + (slW w' - slW w) ≤ R.slots)
    (k : Go p l e R s m args below meth c Q G cI cZ cB cJ cE A M (w.length + 3) ad (cells + (w'.length - w.length)) (slots + (slW w' - slW w)) pc' lc' st' w') : W p l e R s m args below meth c H locs cells slots Q (F0 m pc ls (st.map (cvV ad))) := by
  obtain ⟨hx, hb, hml, htw, hown, hK, hA, hAZ, hin, hon, hZs⟩ := C
  simp only [sstep] at h
  split at h
  · next y x r =>
    simp only [Option.some.injEq, Prod.mk.injEq] at h
    obtain ⟨rfl, rfl, rfl, rfl⟩ := h
    exact lv_lor hx hb (hd.d rfl) (k.z ad H locs ls (adX_r _ _) hR (scS_c (scV_long _ _) (scS_t (scS_t hs))))
  · cases h
theorem ss_lshl {pp : pP} {F : pF} {tr : List (String × Nat × Nat)} {xs : Nat → Int32} {L : Nat} {M : pM} (hF : ClsOK F) (hPo : PoolOK pp tr) (C : Cx p s m args meth c G cI cZ cB cJ cE A Z0 M) {pc : Nat} {lc : pL} {st : List Value} {w : pW} {pc' : Nat} {lc' : pL} {st' : List Value} {w' : pW} {ad : Nat → Nat} {ls : Array Slot} (hX : EXf xs L tr Z0 ad s)  (hd : DecAt M.2.2.1 pc (.lshl)) (h : sstep pp F xs L M.1 M.2.2.2.1 (isInit M.2.1) (.lshl) pc lc st w = some (pc', lc', st', w')) (hR : Rn s G cI cZ cB cJ cE A M.2.2.2.1 ad H locs ls lc w) (hs : scS (w.length + 3) st) (hroom : cells + (w'.length - w.length) ≤ R.cells ∧ slots + (slW w' - slW w) ≤ R.slots)
    (k : Go p l e R s m args below meth c Q G cI cZ cB cJ cE A M (w.length + 3) ad (cells + (w'.length - w.length)) (slots + (slW w' - slW w)) pc' lc' st' w') : W p l e R s m args below meth c H locs cells slots Q (F0 m pc ls (st.map (cvV ad))) := by
  obtain ⟨hx, hb, hml, htw, hown, hK, hA, hAZ, hin, hon, hZs⟩ := C
  simp only [sstep] at h
  split at h
  · next y x r =>
    simp only [Option.some.injEq, Prod.mk.injEq] at h
    obtain ⟨rfl, rfl, rfl, rfl⟩ := h
    exact lv_lshl hx hb (hd.d rfl) rfl (k.z ad H locs ls (adX_r _ _) hR (scS_c (scV_long _ _) (scS_t (scS_t hs))))
  · cases h
theorem ss_lcmp {pp : pP} {F : pF} {tr : List (String × Nat × Nat)} {xs : Nat → Int32} {L : Nat} {M : pM} (hF : ClsOK F) (hPo : PoolOK pp tr) (C : Cx p s m args meth c G cI cZ cB cJ cE A Z0 M) {pc : Nat} {lc : pL} {st : List Value} {w : pW} {pc' : Nat} {lc' : pL} {st' : List Value} {w' : pW} {ad : Nat → Nat} {ls : Array Slot} (hX : EXf xs L tr Z0 ad s)  (hd : DecAt M.2.2.1 pc (.lcmp)) (h : sstep pp F xs L M.1 M.2.2.2.1 (isInit M.2.1) (.lcmp) pc lc st w = some (pc', lc', st', w')) (hR : Rn s G cI cZ cB cJ cE A M.2.2.2.1 ad H locs ls lc w) (hs : scS (w.length + 3) st) (hroom : cells + (w'.length - w.length) ≤ R.cells ∧ slots + (slW w' - slW w) ≤ R.slots)
    (k : Go p l e R s m args below meth c Q G cI cZ cB cJ cE A M (w.length + 3) ad (cells + (w'.length - w.length)) (slots + (slW w' - slW w)) pc' lc' st' w') : W p l e R s m args below meth c H locs cells slots Q (F0 m pc ls (st.map (cvV ad))) := by
  obtain ⟨hx, hb, hml, htw, hown, hK, hA, hAZ, hin, hon, hZs⟩ := C
  simp only [sstep] at h
  split at h
  · next y x r =>
    simp only [Option.some.injEq, Prod.mk.injEq] at h
    obtain ⟨rfl, rfl, rfl, rfl⟩ := h
    exact W.lcmp hx hb (hd.d rfl) (k.z ad H locs ls (adX_r _ _) hR (scS_c (scV_int _ _) (scS_t (scS_t hs))))
  · cases h
theorem ss_idiv {pp : pP} {F : pF} {tr : List (String × Nat × Nat)} {xs : Nat → Int32} {L : Nat} {M : pM} (hF : ClsOK F) (hPo : PoolOK pp tr) (C : Cx p s m args meth c G cI cZ cB cJ cE A Z0 M) {pc : Nat} {lc : pL} {st : List Value} {w : pW} {pc' : Nat} {lc' : pL} {st' : List Value} {w' : pW} {ad : Nat → Nat} {ls : Array Slot} (hX : EXf xs L tr Z0 ad s)  (hd : DecAt M.2.2.1 pc (.idiv)) (h : sstep pp F xs L M.1 M.2.2.2.1 (isInit M.2.1) (.idiv) pc lc st w = some (pc', lc', st', w')) (hR : Rn s G cI cZ cB cJ cE A M.2.2.2.1 ad H locs ls lc w) (hs : scS (w.length + 3) st) (hroom : cells + (w'.length - w.length) ≤ R.cells ∧ slots + (slW w' - slW w) ≤ R.slots)
    (k : Go p l e R s m args below meth c Q G cI cZ cB cJ cE A M (w.length + 3) ad (cells + (w'.length - w.length)) (slots + (slW w' - slW w)) pc' lc' st' w') : W p l e R s m args below meth c H locs cells slots Q (F0 m pc ls (st.map (cvV ad))) := by
  obtain ⟨hx, hb, hml, htw, hown, hK, hA, hAZ, hin, hon, hZs⟩ := C
  simp only [sstep] at h
  split at h
  · next y x r =>
    split at h
    · cases h
    · next hne =>
      simp only [Option.some.injEq, Prod.mk.injEq] at h
      obtain ⟨rfl, rfl, rfl, rfl⟩ := h
      exact lv_idiv hx hb (hd.d rfl) hne (k.z ad H locs ls (adX_r _ _) hR (scS_c (scV_int _ _) (scS_t (scS_t hs))))
  · cases h
theorem ss_irem {pp : pP} {F : pF} {tr : List (String × Nat × Nat)} {xs : Nat → Int32} {L : Nat} {M : pM} (hF : ClsOK F) (hPo : PoolOK pp tr) (C : Cx p s m args meth c G cI cZ cB cJ cE A Z0 M) {pc : Nat} {lc : pL} {st : List Value} {w : pW} {pc' : Nat} {lc' : pL} {st' : List Value} {w' : pW} {ad : Nat → Nat} {ls : Array Slot} (hX : EXf xs L tr Z0 ad s)  (hd : DecAt M.2.2.1 pc (.irem)) (h : sstep pp F xs L M.1 M.2.2.2.1 (isInit M.2.1) (.irem) pc lc st w = some (pc', lc', st', w')) (hR : Rn s G cI cZ cB cJ cE A M.2.2.2.1 ad H locs ls lc w) (hs : scS (w.length + 3) st) (hroom : cells + (w'.length - w.length) ≤ R.cells ∧ slots + (slW w' - slW w) ≤ R.slots)
    (k : Go p l e R s m args below meth c Q G cI cZ cB cJ cE A M (w.length + 3) ad (cells + (w'.length - w.length)) (slots + (slW w' - slW w)) pc' lc' st' w') : W p l e R s m args below meth c H locs cells slots Q (F0 m pc ls (st.map (cvV ad))) := by
  obtain ⟨hx, hb, hml, htw, hown, hK, hA, hAZ, hin, hon, hZs⟩ := C
  simp only [sstep] at h
  split at h
  · next y x r =>
    split at h
    · cases h
    · next hne =>
      simp only [Option.some.injEq, Prod.mk.injEq] at h
      obtain ⟨rfl, rfl, rfl, rfl⟩ := h
      exact lv_irem hx hb (hd.d rfl) hne (k.z ad H locs ls (adX_r _ _) hR (scS_c (scV_int _ _) (scS_t (scS_t hs))))
  · cases h
theorem ss_ineg {pp : pP} {F : pF} {tr : List (String × Nat × Nat)} {xs : Nat → Int32} {L : Nat} {M : pM} (hF : ClsOK F) (hPo : PoolOK pp tr) (C : Cx p s m args meth c G cI cZ cB cJ cE A Z0 M) {pc : Nat} {lc : pL} {st : List Value} {w : pW} {pc' : Nat} {lc' : pL} {st' : List Value} {w' : pW} {ad : Nat → Nat} {ls : Array Slot} (hX : EXf xs L tr Z0 ad s)  (hd : DecAt M.2.2.1 pc (.ineg)) (h : sstep pp F xs L M.1 M.2.2.2.1 (isInit M.2.1) (.ineg) pc lc st w = some (pc', lc', st', w')) (hR : Rn s G cI cZ cB cJ cE A M.2.2.2.1 ad H locs ls lc w) (hs : scS (w.length + 3) st) (hroom : cells + (w'.length - w.length) ≤ R.cells ∧ slots + (slW w' - slW w) ≤ R.slots)
    (k : Go p l e R s m args below meth c Q G cI cZ cB cJ cE A M (w.length + 3) ad (cells + (w'.length - w.length)) (slots + (slW w' - slW w)) pc' lc' st' w') : W p l e R s m args below meth c H locs cells slots Q (F0 m pc ls (st.map (cvV ad))) := by
  obtain ⟨hx, hb, hml, htw, hown, hK, hA, hAZ, hin, hon, hZs⟩ := C
  simp only [sstep] at h
  split at h
  · next x r =>
    simp only [Option.some.injEq, Prod.mk.injEq] at h
    obtain ⟨rfl, rfl, rfl, rfl⟩ := h
    exact lv_ineg hx hb (hd.d rfl) (k.z ad H locs ls (adX_r _ _) hR (scS_c (scV_int _ _) (scS_t hs)))
  · cases h
theorem ss_i2l {pp : pP} {F : pF} {tr : List (String × Nat × Nat)} {xs : Nat → Int32} {L : Nat} {M : pM} (hF : ClsOK F) (hPo : PoolOK pp tr) (C : Cx p s m args meth c G cI cZ cB cJ cE A Z0 M) {pc : Nat} {lc : pL} {st : List Value} {w : pW} {pc' : Nat} {lc' : pL} {st' : List Value} {w' : pW} {ad : Nat → Nat} {ls : Array Slot} (hX : EXf xs L tr Z0 ad s)  (hd : DecAt M.2.2.1 pc (.i2l)) (h : sstep pp F xs L M.1 M.2.2.2.1 (isInit M.2.1) (.i2l) pc lc st w = some (pc', lc', st', w')) (hR : Rn s G cI cZ cB cJ cE A M.2.2.2.1 ad H locs ls lc w) (hs : scS (w.length + 3) st) (hroom : cells + (w'.length - w.length) ≤ R.cells ∧ slots + (slW w' - slW w) ≤ R.slots)
    (k : Go p l e R s m args below meth c Q G cI cZ cB cJ cE A M (w.length + 3) ad (cells + (w'.length - w.length)) (slots + (slW w' - slW w)) pc' lc' st' w') : W p l e R s m args below meth c H locs cells slots Q (F0 m pc ls (st.map (cvV ad))) := by
  obtain ⟨hx, hb, hml, htw, hown, hK, hA, hAZ, hin, hon, hZs⟩ := C
  simp only [sstep] at h
  split at h
  · next x r =>
    simp only [Option.some.injEq, Prod.mk.injEq] at h
    obtain ⟨rfl, rfl, rfl, rfl⟩ := h
    exact lv_i2l hx hb (hd.d rfl) rfl (k.z ad H locs ls (adX_r _ _) hR (scS_c (scV_long _ _) (scS_t hs)))
  · cases h
theorem ss_i2b {pp : pP} {F : pF} {tr : List (String × Nat × Nat)} {xs : Nat → Int32} {L : Nat} {M : pM} (hF : ClsOK F) (hPo : PoolOK pp tr) (C : Cx p s m args meth c G cI cZ cB cJ cE A Z0 M) {pc : Nat} {lc : pL} {st : List Value} {w : pW} {pc' : Nat} {lc' : pL} {st' : List Value} {w' : pW} {ad : Nat → Nat} {ls : Array Slot} (hX : EXf xs L tr Z0 ad s)  (hd : DecAt M.2.2.1 pc (.i2b)) (h : sstep pp F xs L M.1 M.2.2.2.1 (isInit M.2.1) (.i2b) pc lc st w = some (pc', lc', st', w')) (hR : Rn s G cI cZ cB cJ cE A M.2.2.2.1 ad H locs ls lc w) (hs : scS (w.length + 3) st) (hroom : cells + (w'.length - w.length) ≤ R.cells ∧ slots + (slW w' - slW w) ≤ R.slots)
    (k : Go p l e R s m args below meth c Q G cI cZ cB cJ cE A M (w.length + 3) ad (cells + (w'.length - w.length)) (slots + (slW w' - slW w)) pc' lc' st' w') : W p l e R s m args below meth c H locs cells slots Q (F0 m pc ls (st.map (cvV ad))) := by
  obtain ⟨hx, hb, hml, htw, hown, hK, hA, hAZ, hin, hon, hZs⟩ := C
  simp only [sstep] at h
  split at h
  · next x r =>
    simp only [Option.some.injEq, Prod.mk.injEq] at h
    obtain ⟨rfl, rfl, rfl, rfl⟩ := h
    exact lv_i2b hx hb (hd.d rfl) rfl (k.z ad H locs ls (adX_r _ _) hR (scS_c (scV_int _ _) (scS_t hs)))
  · cases h
theorem ss_i2c {pp : pP} {F : pF} {tr : List (String × Nat × Nat)} {xs : Nat → Int32} {L : Nat} {M : pM} (hF : ClsOK F) (hPo : PoolOK pp tr) (C : Cx p s m args meth c G cI cZ cB cJ cE A Z0 M) {pc : Nat} {lc : pL} {st : List Value} {w : pW} {pc' : Nat} {lc' : pL} {st' : List Value} {w' : pW} {ad : Nat → Nat} {ls : Array Slot} (hX : EXf xs L tr Z0 ad s)  (hd : DecAt M.2.2.1 pc (.i2c)) (h : sstep pp F xs L M.1 M.2.2.2.1 (isInit M.2.1) (.i2c) pc lc st w = some (pc', lc', st', w')) (hR : Rn s G cI cZ cB cJ cE A M.2.2.2.1 ad H locs ls lc w) (hs : scS (w.length + 3) st) (hroom : cells + (w'.length - w.length) ≤ R.cells ∧ slots + (slW w' - slW w) ≤ R.slots)
    (k : Go p l e R s m args below meth c Q G cI cZ cB cJ cE A M (w.length + 3) ad (cells + (w'.length - w.length)) (slots + (slW w' - slW w)) pc' lc' st' w') : W p l e R s m args below meth c H locs cells slots Q (F0 m pc ls (st.map (cvV ad))) := by
  obtain ⟨hx, hb, hml, htw, hown, hK, hA, hAZ, hin, hon, hZs⟩ := C
  simp only [sstep] at h
  split at h
  · next x r =>
    simp only [Option.some.injEq, Prod.mk.injEq] at h
    obtain ⟨rfl, rfl, rfl, rfl⟩ := h
    exact lv_i2c hx hb (hd.d rfl) rfl (k.z ad H locs ls (adX_r _ _) hR (scS_c (scV_int _ _) (scS_t hs)))
  · cases h
theorem ss_dup {pp : pP} {F : pF} {tr : List (String × Nat × Nat)} {xs : Nat → Int32} {L : Nat} {M : pM} (hF : ClsOK F) (hPo : PoolOK pp tr) (C : Cx p s m args meth c G cI cZ cB cJ cE A Z0 M) {pc : Nat} {lc : pL} {st : List Value} {w : pW} {pc' : Nat} {lc' : pL} {st' : List Value} {w' : pW} {ad : Nat → Nat} {ls : Array Slot} (hX : EXf xs L tr Z0 ad s)  (hd : DecAt M.2.2.1 pc (.dup)) (h : sstep pp F xs L M.1 M.2.2.2.1 (isInit M.2.1) (.dup) pc lc st w = some (pc', lc', st', w')) (hR : Rn s G cI cZ cB cJ cE A M.2.2.2.1 ad H locs ls lc w) (hs : scS (w.length + 3) st) (hroom : cells + (w'.length - w.length) ≤ R.cells ∧ slots + (slW w' - slW w) ≤ R.slots)
    (k : Go p l e R s m args below meth c Q G cI cZ cB cJ cE A M (w.length + 3) ad (cells + (w'.length - w.length)) (slots + (slW w' - slW w)) pc' lc' st' w') : W p l e R s m args below meth c H locs cells slots Q (F0 m pc ls (st.map (cvV ad))) := by
  obtain ⟨hx, hb, hml, htw, hown, hK, hA, hAZ, hin, hon, hZs⟩ := C
  simp only [sstep] at h
  split at h
  · next v r =>
    split at h
    · next hc =>
      simp only [Option.some.injEq, Prod.mk.injEq] at h
      obtain ⟨rfl, rfl, rfl, rfl⟩ := h
      exact lv_dup hx hb (hd.d rfl) (cat1_cv hc) (k.z ad H locs ls (adX_r _ _) hR (scS_c (scS_h hs) hs))
    · cases h
  · cases h
theorem ss_pop {pp : pP} {F : pF} {tr : List (String × Nat × Nat)} {xs : Nat → Int32} {L : Nat} {M : pM} (hF : ClsOK F) (hPo : PoolOK pp tr) (C : Cx p s m args meth c G cI cZ cB cJ cE A Z0 M) {pc : Nat} {lc : pL} {st : List Value} {w : pW} {pc' : Nat} {lc' : pL} {st' : List Value} {w' : pW} {ad : Nat → Nat} {ls : Array Slot} (hX : EXf xs L tr Z0 ad s)  (hd : DecAt M.2.2.1 pc (.pop)) (h : sstep pp F xs L M.1 M.2.2.2.1 (isInit M.2.1) (.pop) pc lc st w = some (pc', lc', st', w')) (hR : Rn s G cI cZ cB cJ cE A M.2.2.2.1 ad H locs ls lc w) (hs : scS (w.length + 3) st) (hroom : cells + (w'.length - w.length) ≤ R.cells ∧ slots + (slW w' - slW w) ≤ R.slots)
    (k : Go p l e R s m args below meth c Q G cI cZ cB cJ cE A M (w.length + 3) ad (cells + (w'.length - w.length)) (slots + (slW w' - slW w)) pc' lc' st' w') : W p l e R s m args below meth c H locs cells slots Q (F0 m pc ls (st.map (cvV ad))) := by
  obtain ⟨hx, hb, hml, htw, hown, hK, hA, hAZ, hin, hon, hZs⟩ := C
  simp only [sstep] at h
  split at h
  · next v r =>
    split at h
    · next hc =>
      simp only [Option.some.injEq, Prod.mk.injEq] at h
      obtain ⟨rfl, rfl, rfl, rfl⟩ := h
      exact lv_pop hx hb (hd.d rfl) (cat1_cv hc) (k.z ad H locs ls (adX_r _ _) hR (scS_t hs))
    · cases h
  · cases h
theorem ss_dup2 {pp : pP} {F : pF} {tr : List (String × Nat × Nat)} {xs : Nat → Int32} {L : Nat} {M : pM} (hF : ClsOK F) (hPo : PoolOK pp tr) (C : Cx p s m args meth c G cI cZ cB cJ cE A Z0 M) {pc : Nat} {lc : pL} {st : List Value} {w : pW} {pc' : Nat} {lc' : pL} {st' : List Value} {w' : pW} {ad : Nat → Nat} {ls : Array Slot} (hX : EXf xs L tr Z0 ad s)  (hd : DecAt M.2.2.1 pc (.dup2)) (h : sstep pp F xs L M.1 M.2.2.2.1 (isInit M.2.1) (.dup2) pc lc st w = some (pc', lc', st', w')) (hR : Rn s G cI cZ cB cJ cE A M.2.2.2.1 ad H locs ls lc w) (hs : scS (w.length + 3) st) (hroom : cells + (w'.length - w.length) ≤ R.cells ∧ slots + (slW w' - slW w) ≤ R.slots)
    (k : Go p l e R s m args below meth c Q G cI cZ cB cJ cE A M (w.length + 3) ad (cells + (w'.length - w.length)) (slots + (slW w' - slW w)) pc' lc' st' w') : W p l e R s m args below meth c H locs cells slots Q (F0 m pc ls (st.map (cvV ad))) := by
  obtain ⟨hx, hb, hml, htw, hown, hK, hA, hAZ, hin, hon, hZs⟩ := C
  simp only [sstep] at h
  split at h
  · next v u r =>
    split at h
    · next hc =>
      simp only [Bool.and_eq_true] at hc
      simp only [Option.some.injEq, Prod.mk.injEq] at h
      obtain ⟨rfl, rfl, rfl, rfl⟩ := h
      exact lv_dup2_11 hx hb (hd.d rfl) (cat1_cv hc.1) (cat1_cv hc.2) (k.z ad H locs ls (adX_r _ _) hR (scS_c (scS_h hs) (scS_c (scS_h (scS_t hs)) hs)))
    · cases h
  · cases h
theorem ss_ifCond {pp : pP} {F : pF} {tr : List (String × Nat × Nat)} {xs : Nat → Int32} {L : Nat} {M : pM} (hF : ClsOK F) (hPo : PoolOK pp tr) (C : Cx p s m args meth c G cI cZ cB cJ cE A Z0 M) {pc : Nat} {lc : pL} {st : List Value} {w : pW} {pc' : Nat} {lc' : pL} {st' : List Value} {w' : pW} {ad : Nat → Nat} {ls : Array Slot} (hX : EXf xs L tr Z0 ad s) {cc : Jvm.ClassFile.Cond} {off : Int} (hd : DecAt M.2.2.1 pc (.ifCond cc off)) (h : sstep pp F xs L M.1 M.2.2.2.1 (isInit M.2.1) (.ifCond cc off) pc lc st w = some (pc', lc', st', w')) (hR : Rn s G cI cZ cB cJ cE A M.2.2.2.1 ad H locs ls lc w) (hs : scS (w.length + 3) st) (hroom : cells + (w'.length - w.length) ≤ R.cells ∧ slots + (slW w' - slW w) ≤ R.slots)
    (k : Go p l e R s m args below meth c Q G cI cZ cB cJ cE A M (w.length + 3) ad (cells + (w'.length - w.length)) (slots + (slW w' - slW w)) pc' lc' st' w') : W p l e R s m args below meth c H locs cells slots Q (F0 m pc ls (st.map (cvV ad))) := by
  obtain ⟨hx, hb, hml, htw, hown, hK, hA, hAZ, hin, hon, hZs⟩ := C
  simp only [sstep] at h
  split at h
  · next x r t ht =>
    simp only [Option.some.injEq, Prod.mk.injEq] at h
    obtain ⟨rfl, rfl, rfl, rfl⟩ := h
    have k1 := k.z ad H locs ls (adX_r _ _) hR (scS_t hs)
    clear k
    cases cc
    · exact lv_if_eq hx hb (hd.d rfl) (jmp_eq ht) (fun hc => by rw [show icmpB .eq x 0 = true by simpa [icmpB] using hc, if_pos rfl] at k1; exact k1) (fun hc => by rw [show icmpB .eq x 0 = false by simpa [icmpB] using hc, if_neg (by decide)] at k1; exact k1)
    · exact lv_if_ne hx hb (hd.d rfl) (jmp_eq ht) (fun hc => by rw [show icmpB .ne x 0 = true by simpa [icmpB] using hc, if_pos rfl] at k1; exact k1) (fun hc => by rw [show icmpB .ne x 0 = false by simpa [icmpB] using hc, if_neg (by decide)] at k1; exact k1)
    · exact lv_if_lt hx hb (hd.d rfl) (jmp_eq ht) (fun hc => by rw [show icmpB .lt x 0 = true by simpa [icmpB] using hc, if_pos rfl] at k1; exact k1) (fun hc => by rw [show icmpB .lt x 0 = false by simpa [icmpB] using hc, if_neg (by decide)] at k1; exact k1)
    · exact lv_if_ge hx hb (hd.d rfl) (jmp_eq ht) (fun hc => by rw [show icmpB .ge x 0 = true by simpa [icmpB] using hc, if_pos rfl] at k1; exact k1) (fun hc => by rw [show icmpB .ge x 0 = false by simpa [icmpB] using hc, if_neg (by decide)] at k1; exact k1)
    · exact lv_if_gt hx hb (hd.d rfl) (jmp_eq ht) (fun hc => by rw [show icmpB .gt x 0 = true by simpa [icmpB] using hc, if_pos rfl] at k1; exact k1) (fun hc => by rw [show icmpB .gt x 0 = false by simpa [icmpB] using hc, if_neg (by decide)] at k1; exact k1)
    · exact lv_if_le hx hb (hd.d rfl) (jmp_eq ht) (fun hc => by rw [show icmpB .le x 0 = true by simpa [icmpB] using hc, if_pos rfl] at k1; exact k1) (fun hc => by rw [show icmpB .le x 0 = false by simpa [icmpB] using hc, if_neg (by decide)] at k1; exact k1)
  · cases h
theorem ss_if_icmp {pp : pP} {F : pF} {tr : List (String × Nat × Nat)} {xs : Nat → Int32} {L : Nat} {M : pM} (hF : ClsOK F) (hPo : PoolOK pp tr) (C : Cx p s m args meth c G cI cZ cB cJ cE A Z0 M) {pc : Nat} {lc : pL} {st : List Value} {w : pW} {pc' : Nat} {lc' : pL} {st' : List Value} {w' : pW} {ad : Nat → Nat} {ls : Array Slot} (hX : EXf xs L tr Z0 ad s) {cc : Jvm.ClassFile.Cond} {off : Int} (hd : DecAt M.2.2.1 pc (.if_icmp cc off)) (h : sstep pp F xs L M.1 M.2.2.2.1 (isInit M.2.1) (.if_icmp cc off) pc lc st w = some (pc', lc', st', w')) (hR : Rn s G cI cZ cB cJ cE A M.2.2.2.1 ad H locs ls lc w) (hs : scS (w.length + 3) st) (hroom : cells + (w'.length - w.length) ≤ R.cells ∧ slots + (slW w' - slW w) ≤ R.slots)
    (k : Go p l e R s m args below meth c Q G cI cZ cB cJ cE A M (w.length + 3) ad (cells + (w'.length - w.length)) (slots + (slW w' - slW w)) pc' lc' st' w') : W p l e R s m args below meth c H locs cells slots Q (F0 m pc ls (st.map (cvV ad))) := by
  obtain ⟨hx, hb, hml, htw, hown, hK, hA, hAZ, hin, hon, hZs⟩ := C
  simp only [sstep] at h
  split at h
  · next y x r t ht =>
    simp only [Option.some.injEq, Prod.mk.injEq] at h
    obtain ⟨rfl, rfl, rfl, rfl⟩ := h
    have k1 := k.z ad H locs ls (adX_r _ _) hR (scS_t (scS_t hs))
    clear k
    cases cc
    · exact lv_icmp_eq hx hb (hd.d rfl) (jmp_eq ht) (fun hc => by rw [show icmpB .eq x y = true by simpa [icmpB] using hc, if_pos rfl] at k1; exact k1) (fun hc => by rw [show icmpB .eq x y = false by simpa [icmpB] using hc, if_neg (by decide)] at k1; exact k1)
    · exact lv_icmp_ne hx hb (hd.d rfl) (jmp_eq ht) (fun hc => by rw [show icmpB .ne x y = true by simpa [icmpB] using hc, if_pos rfl] at k1; exact k1) (fun hc => by rw [show icmpB .ne x y = false by simpa [icmpB] using hc, if_neg (by decide)] at k1; exact k1)
    · exact lv_icmp_lt hx hb (hd.d rfl) (jmp_eq ht) (fun hc => by rw [show icmpB .lt x y = true by simpa [icmpB] using hc, if_pos rfl] at k1; exact k1) (fun hc => by rw [show icmpB .lt x y = false by simpa [icmpB] using hc, if_neg (by decide)] at k1; exact k1)
    · exact lv_icmp_ge hx hb (hd.d rfl) (jmp_eq ht) (fun hc => by rw [show icmpB .ge x y = true by simpa [icmpB] using hc, if_pos rfl] at k1; exact k1) (fun hc => by rw [show icmpB .ge x y = false by simpa [icmpB] using hc, if_neg (by decide)] at k1; exact k1)
    · exact lv_icmp_gt hx hb (hd.d rfl) (jmp_eq ht) (fun hc => by rw [show icmpB .gt x y = true by simpa [icmpB] using hc, if_pos rfl] at k1; exact k1) (fun hc => by rw [show icmpB .gt x y = false by simpa [icmpB] using hc, if_neg (by decide)] at k1; exact k1)
    · exact lv_icmp_le hx hb (hd.d rfl) (jmp_eq ht) (fun hc => by rw [show icmpB .le x y = true by simpa [icmpB] using hc, if_pos rfl] at k1; exact k1) (fun hc => by rw [show icmpB .le x y = false by simpa [icmpB] using hc, if_neg (by decide)] at k1; exact k1)
  · cases h
theorem ss_goto {pp : pP} {F : pF} {tr : List (String × Nat × Nat)} {xs : Nat → Int32} {L : Nat} {M : pM} (hF : ClsOK F) (hPo : PoolOK pp tr) (C : Cx p s m args meth c G cI cZ cB cJ cE A Z0 M) {pc : Nat} {lc : pL} {st : List Value} {w : pW} {pc' : Nat} {lc' : pL} {st' : List Value} {w' : pW} {ad : Nat → Nat} {ls : Array Slot} (hX : EXf xs L tr Z0 ad s) {off : Int} (hd : DecAt M.2.2.1 pc (.goto off)) (h : sstep pp F xs L M.1 M.2.2.2.1 (isInit M.2.1) (.goto off) pc lc st w = some (pc', lc', st', w')) (hR : Rn s G cI cZ cB cJ cE A M.2.2.2.1 ad H locs ls lc w) (hs : scS (w.length + 3) st) (hroom : cells + (w'.length - w.length) ≤ R.cells ∧ slots + (slW w' - slW w) ≤ R.slots)
    (k : Go p l e R s m args below meth c Q G cI cZ cB cJ cE A M (w.length + 3) ad (cells + (w'.length - w.length)) (slots + (slW w' - slW w)) pc' lc' st' w') : W p l e R s m args below meth c H locs cells slots Q (F0 m pc ls (st.map (cvV ad))) := by
  obtain ⟨hx, hb, hml, htw, hown, hK, hA, hAZ, hin, hon, hZs⟩ := C
  simp only [sstep] at h
  split at h
  · next t ht =>
    simp only [Option.some.injEq, Prod.mk.injEq] at h
    obtain ⟨rfl, rfl, rfl, rfl⟩ := h
    exact lv_goto hx hb (hd.d rfl) (jmp_eq ht) (k.z ad H locs ls (adX_r _ _) hR hs)
  · cases h
theorem ss_ifnonnull {pp : pP} {F : pF} {tr : List (String × Nat × Nat)} {xs : Nat → Int32} {L : Nat} {M : pM} (hF : ClsOK F) (hPo : PoolOK pp tr) (C : Cx p s m args meth c G cI cZ cB cJ cE A Z0 M) {pc : Nat} {lc : pL} {st : List Value} {w : pW} {pc' : Nat} {lc' : pL} {st' : List Value} {w' : pW} {ad : Nat → Nat} {ls : Array Slot} (hX : EXf xs L tr Z0 ad s) {off : Int} (hd : DecAt M.2.2.1 pc (.ifnonnull off)) (h : sstep pp F xs L M.1 M.2.2.2.1 (isInit M.2.1) (.ifnonnull off) pc lc st w = some (pc', lc', st', w')) (hR : Rn s G cI cZ cB cJ cE A M.2.2.2.1 ad H locs ls lc w) (hs : scS (w.length + 3) st) (hroom : cells + (w'.length - w.length) ≤ R.cells ∧ slots + (slW w' - slW w) ≤ R.slots)
    (k : Go p l e R s m args below meth c Q G cI cZ cB cJ cE A M (w.length + 3) ad (cells + (w'.length - w.length)) (slots + (slW w' - slW w)) pc' lc' st' w') : W p l e R s m args below meth c H locs cells slots Q (F0 m pc ls (st.map (cvV ad))) := by
  obtain ⟨hx, hb, hml, htw, hown, hK, hA, hAZ, hin, hon, hZs⟩ := C
  simp only [sstep] at h
  split at h
  · next a r t ht =>
    simp only [Option.some.injEq, Prod.mk.injEq] at h
    obtain ⟨rfl, rfl, rfl, rfl⟩ := h
    exact lv_ifnonnull hx hb (hd.d rfl) (jmp_eq ht) (k.z ad H locs ls (adX_r _ _) hR (scS_t hs))
  · simp only [Option.some.injEq, Prod.mk.injEq] at h
    obtain ⟨rfl, rfl, rfl, rfl⟩ := h
    exact lv_ifnonnullN hx hb (hd.d rfl) (k.z ad H locs ls (adX_r _ _) hR (scS_t hs))
  · cases h
theorem ss_tableswitch {pp : pP} {F : pF} {tr : List (String × Nat × Nat)} {xs : Nat → Int32} {L : Nat} {M : pM} (hF : ClsOK F) (hPo : PoolOK pp tr) (C : Cx p s m args meth c G cI cZ cB cJ cE A Z0 M) {pc : Nat} {lc : pL} {st : List Value} {w : pW} {pc' : Nat} {lc' : pL} {st' : List Value} {w' : pW} {ad : Nat → Nat} {ls : Array Slot} (hX : EXf xs L tr Z0 ad s) {df lo hi : Int} {offs : Array Int} (hd : DecAt M.2.2.1 pc (.tableswitch df lo hi offs)) (h : sstep pp F xs L M.1 M.2.2.2.1 (isInit M.2.1) (.tableswitch df lo hi offs) pc lc st w = some (pc', lc', st', w')) (hR : Rn s G cI cZ cB cJ cE A M.2.2.2.1 ad H locs ls lc w) (hs : scS (w.length + 3) st) (hroom : cells + (w'.length - w.length) ≤ R.cells ∧ slots + (slW w' - slW w) ≤ R.slots)
    (k : Go p l e R s m args below meth c Q G cI cZ cB cJ cE A M (w.length + 3) ad (cells + (w'.length - w.length)) (slots + (slW w' - slW w)) pc' lc' st' w') : W p l e R s m args below meth c H locs cells slots Q (F0 m pc ls (st.map (cvV ad))) := by
  obtain ⟨hx, hb, hml, htw, hown, hK, hA, hAZ, hin, hon, hZs⟩ := C
  simp only [sstep] at h
  obtain ⟨len, hd, -⟩ := hd
  split at h
  · next x r =>
    split at h
    · next t ht =>
      simp only [Option.some.injEq, Prod.mk.injEq] at h
      obtain ⟨rfl, rfl, rfl, rfl⟩ := h
      unfold tsw at ht
      split at ht
      · next hc => exact lv_tableOut hx hb hd hc (jmp_eq ht) (k.z ad H locs ls (adX_r _ _) hR (scS_t hs))
      · next hc =>
        split at ht
        · next o ho => exact lv_tableIn hx hb hd (fun q => hc (Or.inl q)) (fun q => hc (Or.inr q)) ho (jmp_eq ht) (k.z ad H locs ls (adX_r _ _) hR (scS_t hs))
        · cases ht
    · cases h
  · cases h
theorem ss_lookupswitch {pp : pP} {F : pF} {tr : List (String × Nat × Nat)} {xs : Nat → Int32} {L : Nat} {M : pM} (hF : ClsOK F) (hPo : PoolOK pp tr) (C : Cx p s m args meth c G cI cZ cB cJ cE A Z0 M) {pc : Nat} {lc : pL} {st : List Value} {w : pW} {pc' : Nat} {lc' : pL} {st' : List Value} {w' : pW} {ad : Nat → Nat} {ls : Array Slot} (hX : EXf xs L tr Z0 ad s) {df : Int} {ps : Array (Int × Int)} (hd : DecAt M.2.2.1 pc (.lookupswitch df ps)) (h : sstep pp F xs L M.1 M.2.2.2.1 (isInit M.2.1) (.lookupswitch df ps) pc lc st w = some (pc', lc', st', w')) (hR : Rn s G cI cZ cB cJ cE A M.2.2.2.1 ad H locs ls lc w) (hs : scS (w.length + 3) st) (hroom : cells + (w'.length - w.length) ≤ R.cells ∧ slots + (slW w' - slW w) ≤ R.slots)
    (k : Go p l e R s m args below meth c Q G cI cZ cB cJ cE A M (w.length + 3) ad (cells + (w'.length - w.length)) (slots + (slW w' - slW w)) pc' lc' st' w') : W p l e R s m args below meth c H locs cells slots Q (F0 m pc ls (st.map (cvV ad))) := by
  obtain ⟨hx, hb, hml, htw, hown, hK, hA, hAZ, hin, hon, hZs⟩ := C
  simp only [sstep] at h
  obtain ⟨len, hd, -⟩ := hd
  split at h
  · next x r =>
    split at h
    · next hc =>
      split at h
      · next t ht =>
        simp only [Option.some.injEq, Prod.mk.injEq] at h
        obtain ⟨rfl, rfl, rfl, rfl⟩ := h
        exact lv_lookup hx hb hd hc rfl (jmp_eq ht) (k.z ad H locs ls (adX_r _ _) hR (scS_t hs))
      · cases h
    · cases h
  · cases h
theorem own_eq {pp : pP} {M : pM} {own : String} (h1 : owns[M.1]? = some own) (hon : owns[M.1]? = some M.2.1.cls) : own = M.2.1.cls := Option.some.inj (h1.symm.trans hon)
theorem own_cls {i : Nat} {a C : String} {T : u_T} {N : Nat} (h : owns[i]? = some a) (hc : classes[i]? = some (C, T, N)) : C = a := by
  have hi : i < 12 := (List.getElem?_eq_some_iff.mp hc).1
  match i, hi, h, hc with
  | 0, _, h, hc => cases h; cases hc; rfl
  | 1, _, h, hc => cases h; cases hc; rfl
  | 2, _, h, hc => cases h; cases hc; rfl
  | 3, _, h, hc => cases h; cases hc; rfl
  | 4, _, h, hc => cases h; cases hc; rfl
  | 5, _, h, hc => cases h; cases hc; rfl
  | 6, _, h, hc => cases h; cases hc; rfl
  | 7, _, h, hc => cases h; cases hc; rfl
  | 8, _, h, hc => cases h; cases hc; rfl
  | 9, _, h, hc => cases h; cases hc; rfl
  | 10, _, h, hc => cases h; cases hc; rfl
  | 11, _, h, hc => cases h; cases hc; rfl
theorem get_sc {n : Nat} {w : pW} {j ci k : Nat} {fs : List Value} {v : Value} (hw : scW n w) (h : w[j]? = some (.inr (ci, fs))) (hv : fs[k]? = some v) : scV n v := hw _ (List.mem_of_getElem? h) v (List.mem_of_getElem? hv)
theorem L_pos {i : Int32} {L : Nat} (h : vp_in i (L - 1)) : 0 < L := Nat.pos_of_ne_zero (fun e => h (Or.inr (by rw [e]; exact Nat.zero_le _)))
theorem ctL_ty (cI cZ cB cJ cE : ClassId) (t : Nat) (ht : t < 5) : ∃ ty : FieldType, (tyL cI cZ cB cJ cE)[t]? = some (ctL cI cZ cB cJ cE t, ty) := by
  match t, ht with
  | 0, _ => exact ⟨_, rfl⟩
  | 1, _ => exact ⟨_, rfl⟩
  | 2, _ => exact ⟨_, rfl⟩
  | 3, _ => exact ⟨_, rfl⟩
  | 4, _ => exact ⟨_, rfl⟩
theorem aldI_some {xs : Nat → Int32} {L : Nat} {w : pW} {a : Nat} {i : Int32} {ts : List Nat} {v : Int32} (h : aldI xs L w a i ts = some v) : (∃ (j t n : Nat) (f : Nat → Int32), a = j + 3 ∧ w[j]? = some (.inl (t, n, .inl f)) ∧ t ∈ ts ∧ vp_in i n ∧ v = f i.toNatClampNeg) ∨ (a = 0 ∧ 0 ∈ ts ∧ vp_in i (L - 1) ∧ v = xs i.toNatClampNeg) := by
  unfold aldI at h
  split at h
  · next t n f hw =>
    split at h
    · next hc =>
      simp only [Bool.and_eq_true, List.contains_iff_mem] at hc
      obtain ⟨j, h1, h2⟩ := wAt_some hw
      exact Or.inl ⟨j, t, n, f, h1, h2, hc.1, inB_in hc.2, (Option.some.inj h).symm⟩
    · cases h
  · cases h
  · split at h
    · next hc =>
      simp only [Bool.and_eq_true, List.contains_iff_mem, beq_iff_eq] at hc
      exact Or.inr ⟨hc.1.1, hc.1.2, inB_in hc.2, (Option.some.inj h).symm⟩
    · cases h
theorem astI_some {w w' : pW} {a : Nat} {i x : Int32} {ts : List Nat} (h : astI w a i x ts = some w') : ∃ (j t n : Nat) (f : Nat → Int32), a = j + 3 ∧ w[j]? = some (.inl (t, n, .inl f)) ∧ t ∈ ts ∧ vp_in i n ∧ w' = w.set j (.inl (t, n, .inl (upd f i.toNatClampNeg (naI t x)))) := by
  unfold astI at h
  split at h
  · next t n f hw =>
    split at h
    · next hc =>
      simp only [Bool.and_eq_true, List.contains_iff_mem] at hc
      obtain ⟨j, h1, h2⟩ := wAt_some hw
      subst h1
      exact ⟨j, t, n, f, rfl, h2, hc.1, inB_in hc.2, (Option.some.inj h).symm⟩
    · cases h
  · cases h
/-- behind a store of a cell of the same size -/
theorem Rn.set {nL : Nat} {ad : Nat → Nat} {ls : Array Slot} {lc : pL} {w : pW} {j : Nat} {x : pE} {H1 : Heap} {locs1 : List Loc} (hR : Rn s G cI cZ cB cJ cE A nL ad H locs ls lc w) (hx : scE (w.length + 3) x) (h1 : va_P G classes ((cW ad (ctL cI cZ cB cJ cE) w).set j (ad (j + 3), cvE ad (ctL cI cZ cB cJ cE) x)) H1) (h2 : va_D A ((cW ad (ctL cI cZ cB cJ cE) w).set j (ad (j + 3), cvE ad (ctL cI cZ cB cJ cE) x))) (h3 : va_S A s.heap H1 locs1) : Rn s G cI cZ cB cJ cE A nL ad H1 locs1 ls lc (w.set j x) := by
  refine ⟨by rw [cW_set]; exact h1, by rw [cW_set]; exact h2, h3, hR.2.2.2.1, ?_, ?_⟩
  · rw [List.length_set]
    exact scW_set hR.2.2.2.2.1 hx
  · rw [List.length_set]
    exact hR.2.2.2.2.2
theorem ss_getfield {pp : pP} {F : pF} {tr : List (String × Nat × Nat)} {xs : Nat → Int32} {L : Nat} {M : pM} (hF : ClsOK F) (hPo : PoolOK pp tr) (C : Cx p s m args meth c G cI cZ cB cJ cE A Z0 M) {pc : Nat} {lc : pL} {st : List Value} {w : pW} {pc' : Nat} {lc' : pL} {st' : List Value} {w' : pW} {ad : Nat → Nat} {ls : Array Slot} (hX : EXf xs L tr Z0 ad s) {i : Nat} (hd : DecAt M.2.2.1 pc (.getfield i)) (h : sstep pp F xs L M.1 M.2.2.2.1 (isInit M.2.1) (.getfield i) pc lc st w = some (pc', lc', st', w')) (hR : Rn s G cI cZ cB cJ cE A M.2.2.2.1 ad H locs ls lc w) (hs : scS (w.length + 3) st) (hroom : cells + (w'.length - w.length) ≤ R.cells ∧ slots + (slW w' - slW w) ≤ R.slots)
    (k : Go p l e R s m args below meth c Q G cI cZ cB cJ cE A M (w.length + 3) ad (cells + (w'.length - w.length)) (slots + (slW w' - slW w)) pc' lc' st' w') : W p l e R s m args below meth c H locs cells slots Q (F0 m pc ls (st.map (cvV ad))) := by
  obtain ⟨hx, hb, hml, htw, hown, hK, hA, hAZ, hin, hon, hZs⟩ := C
  simp only [sstep] at h
  split at h
  · next a r ci kf hp =>
    split at h
    · next v hv =>
      simp only [Option.some.injEq, Prod.mk.injEq] at h
      obtain ⟨rfl, rfl, rfl, rfl⟩ := h
      unfold getF at hv
      split at hv
      · next cj fs hw =>
        split at hv
        · next hc =>
          have hc : cj = ci := by simpa using hc
          subst hc
          obtain ⟨j, rfl, hj⟩ := wAt_some hw
          obtain ⟨own, h1, Cn, T, N, hcl, hkN, hlk⟩ := hPo.1 _ _ _ _ hp
          have ho := own_eq (pp := pp) h1 hon
          subst ho
          obtain ⟨ty0, c1, c2, c3, c4, -⟩ := hF cj Cn T N hcl
          have hv' : (fs.map (cvV ad))[kf]? = some (cvV ad v) := by rw [List.getElem?_map, hv]; rfl
          have kk := k.z ad H locs ls (adX_r _ _) hR (scS_c (get_sc hR.2.2.2.2.1 hj hv) (scS_t hs))
          rcases hlk with hlk | ⟨host, hlk, hcne⟩
          · exact va_get hx hb htw c1 hown hK.1 hR.1 j (cW_at hj) hcl kf hkN (htw _ hlk) (by rw [c4 kf hkN]; exact fun _ h => h) hv' (hd.d rfl) kk
          · exact va_getN hx hb htw c1 hown hK.1 hR.1 j (cW_at hj) hcl kf hkN (va_Nw.use rfl (hK.2.1 _ hlk)) (by rw [c4 kf hkN]; exact fun _ h => h) hv' (hd.d rfl) kk
        · cases hv
      · cases hv
    · cases h
  · cases h
theorem ss_putfield {pp : pP} {F : pF} {tr : List (String × Nat × Nat)} {xs : Nat → Int32} {L : Nat} {M : pM} (hF : ClsOK F) (hPo : PoolOK pp tr) (C : Cx p s m args meth c G cI cZ cB cJ cE A Z0 M) {pc : Nat} {lc : pL} {st : List Value} {w : pW} {pc' : Nat} {lc' : pL} {st' : List Value} {w' : pW} {ad : Nat → Nat} {ls : Array Slot} (hX : EXf xs L tr Z0 ad s) {i : Nat} (hd : DecAt M.2.2.1 pc (.putfield i)) (h : sstep pp F xs L M.1 M.2.2.2.1 (isInit M.2.1) (.putfield i) pc lc st w = some (pc', lc', st', w')) (hR : Rn s G cI cZ cB cJ cE A M.2.2.2.1 ad H locs ls lc w) (hs : scS (w.length + 3) st) (hroom : cells + (w'.length - w.length) ≤ R.cells ∧ slots + (slW w' - slW w) ≤ R.slots)
    (k : Go p l e R s m args below meth c Q G cI cZ cB cJ cE A M (w.length + 3) ad (cells + (w'.length - w.length)) (slots + (slW w' - slW w)) pc' lc' st' w') : W p l e R s m args below meth c H locs cells slots Q (F0 m pc ls (st.map (cvV ad))) := by
  obtain ⟨hx, hb, hml, htw, hown, hK, hA, hAZ, hin, hon, hZs⟩ := C
  simp only [sstep] at h
  split at h
  · next v a r ci kf hp =>
    split at h
    · next w1 hv =>
      simp only [Option.some.injEq, Prod.mk.injEq] at h
      obtain ⟨rfl, rfl, rfl, rfl⟩ := h
      unfold putF at hv
      split at hv
      · next cj fs ty fin hw hty =>
        split at hv
        · next hc =>
          simp only [Bool.and_eq_true, decide_eq_true_eq, beq_iff_eq, Bool.or_eq_true, Bool.not_eq_true'] at hc
          obtain ⟨⟨⟨rfl, hok⟩, hkl⟩, hfi⟩ := hc
          obtain ⟨j, rfl, hj⟩ := wAt_some hw
          obtain ⟨own, h1, Cn, T, N, hcl, hkN, hlk⟩ := hPo.1 _ _ _ _ hp
          have ho := own_eq (pp := pp) h1 hon
          subst ho
          obtain ⟨ty0, c1, c2, c3, c4, c5, c6, c7, c8, c9⟩ := hF cj Cn T N hcl
          have h8 := (c8 kf hkN).symm.trans hty
          simp only [Option.some.injEq, Prod.mk.injEq] at h8
          obtain ⟨rfl, h8⟩ := h8
          obtain ⟨hn, hfit⟩ := okPut_ok hok ad
          have hw1 := Option.some.inj hv
          have hw1 : w1 = w.set j (.inr (cj, fs.set kf v)) := hw1.symm
          subst hw1
          have hsc : scE (w.length + 3) (.inr (cj, fs.set kf v)) := fun x hx => by
            rcases List.mem_or_eq_of_mem_set hx with h | h
            · exact hR.2.2.2.2.1 _ (List.mem_of_getElem? hj) x h
            · rw [h]; exact scS_h hs
          have kk := k.zs (by rw [List.length_set]) (slW_set hj (by simp [slE]))
          have ee : cvE ad (ctL cI cZ cB cJ cE) (.inr (cj, fs.set kf v)) = .inr (cj, (fs.map (cvV ad)).set kf (cvV ad v)) := by simp only [cvE, List.map_set]
          have fin1 : ∀ (H1 : Heap) (locs1 : List Loc), va_P G classes ((cW ad (ctL cI cZ cB cJ cE) w).set j (ad (j + 3), .inr (cj, (fs.map (cvV ad)).set kf (cvV ad v)))) H1 → va_D A ((cW ad (ctL cI cZ cB cJ cE) w).set j (ad (j + 3), .inr (cj, (fs.map (cvV ad)).set kf (cvV ad v)))) → va_S A s.heap H1 locs1 → W p l e R s m args below meth c H1 locs1 cells slots Q (F0 m (pc + 3) ls (r.map (cvV ad))) := by
            intro H1 locs1 q1 q2 q3
            refine kk ad H1 locs1 ls (adX_r _ _) (hR.set hsc (by rw [ee]; exact q1) (by rw [ee]; exact q2) q3) ?_
            rw [List.length_set]
            exact scS_t (scS_t hs)
          by_cases hff : fin = true
          · subst hff
            rcases hfi with hfi | ⟨hini, hoc⟩
            · cases hfi
            · rcases hlk with hlk | ⟨host, hlk, hcne⟩
              · have hdecl : (T kf).1 = M.2.1.cls := by
                  rw [c4 kf hkN]
                  subst hoc
                  exact own_cls hon hcl
                exact va_putF hx hb htw c1 ty0 c2 c3 hown hK.1 hR.1 hR.2.1 hR.2.2.1 j (cW_at hj) hcl kf hkN (htw _ hlk) (by rw [c4 kf hkN]; exact fun _ h => h) h8 (by rw [hin]; simpa [isInit] using hini) hdecl (c2 kf hkN) hn hfit (by rw [List.length_map]; exact hkl) (hd.d rfl) fin1
              · have hcn : Cn = M.2.1.cls := by
                  subst hoc
                  exact own_cls hon hcl
                exact absurd hcn hcne
          · have hff : fin = false := by simpa using hff
            subst hff
            rcases hlk with hlk | ⟨host, hlk, hcne⟩
            · exact va_put hx hb htw c1 ty0 c2 c3 hown hK.1 hR.1 hR.2.1 hR.2.2.1 j (cW_at hj) hcl kf hkN (htw _ hlk) (by rw [c4 kf hkN]; exact fun _ h => h) h8 (c2 kf hkN) hn hfit (by rw [List.length_map]; exact hkl) (hd.d rfl) fin1
            · exact va_putN hx hb htw c1 ty0 c2 c3 hown hK.1 hR.1 hR.2.1 hR.2.2.1 j (cW_at hj) hcl kf hkN (va_Nw.use rfl (hK.2.1 _ hlk)) (by rw [c4 kf hkN]; exact fun _ h => h) h8 (c2 kf hkN) hn hfit (by rw [List.length_map]; exact hkl) (hd.d rfl) fin1
        · cases hv
      · cases hv
    · cases h
  · cases h
theorem ss_iaload {pp : pP} {F : pF} {tr : List (String × Nat × Nat)} {xs : Nat → Int32} {L : Nat} {M : pM} (hF : ClsOK F) (hPo : PoolOK pp tr) (C : Cx p s m args meth c G cI cZ cB cJ cE A Z0 M) {pc : Nat} {lc : pL} {st : List Value} {w : pW} {pc' : Nat} {lc' : pL} {st' : List Value} {w' : pW} {ad : Nat → Nat} {ls : Array Slot} (hX : EXf xs L tr Z0 ad s)  (hd : DecAt M.2.2.1 pc (.iaload)) (h : sstep pp F xs L M.1 M.2.2.2.1 (isInit M.2.1) (.iaload) pc lc st w = some (pc', lc', st', w')) (hR : Rn s G cI cZ cB cJ cE A M.2.2.2.1 ad H locs ls lc w) (hs : scS (w.length + 3) st) (hroom : cells + (w'.length - w.length) ≤ R.cells ∧ slots + (slW w' - slW w) ≤ R.slots)
    (k : Go p l e R s m args below meth c Q G cI cZ cB cJ cE A M (w.length + 3) ad (cells + (w'.length - w.length)) (slots + (slW w' - slW w)) pc' lc' st' w') : W p l e R s m args below meth c H locs cells slots Q (F0 m pc ls (st.map (cvV ad))) := by
  obtain ⟨hx, hb, hml, htw, hown, hK, hA, hAZ, hin, hon, hZs⟩ := C
  simp only [sstep] at h
  split at h
  · next i a r =>
    split at h
    · next v hv =>
      simp only [Option.some.injEq, Prod.mk.injEq] at h
      obtain ⟨rfl, rfl, rfl, rfl⟩ := h
      have kk := k.z ad H locs ls (adX_r _ _) hR (scS_c (scV_int _ _) (scS_t (scS_t hs)))
      rcases aldI_some hv with ⟨j, t, n, f, rfl, hj, ht, hin', rfl⟩ | ⟨rfl, h0, hin', rfl⟩
      · have ht : t = 0 := by simpa using ht
        subst ht
        exact va_iald hx hb hK.1 hR.1 j 0 (cW_at hj) rfl hin' (hd.d rfl) kk
      · exact va_sld hx hb (hX.2.1 (L_pos hin')) (Nat.lt_of_lt_of_le hX.1 hZs) (fun q => absurd (hAZ _ q) (Nat.not_le.mpr hX.1)) hR.2.2.1 hin' (hd.d rfl) kk
    · cases h
  · cases h
theorem ss_baload {pp : pP} {F : pF} {tr : List (String × Nat × Nat)} {xs : Nat → Int32} {L : Nat} {M : pM} (hF : ClsOK F) (hPo : PoolOK pp tr) (C : Cx p s m args meth c G cI cZ cB cJ cE A Z0 M) {pc : Nat} {lc : pL} {st : List Value} {w : pW} {pc' : Nat} {lc' : pL} {st' : List Value} {w' : pW} {ad : Nat → Nat} {ls : Array Slot} (hX : EXf xs L tr Z0 ad s)  (hd : DecAt M.2.2.1 pc (.baload)) (h : sstep pp F xs L M.1 M.2.2.2.1 (isInit M.2.1) (.baload) pc lc st w = some (pc', lc', st', w')) (hR : Rn s G cI cZ cB cJ cE A M.2.2.2.1 ad H locs ls lc w) (hs : scS (w.length + 3) st) (hroom : cells + (w'.length - w.length) ≤ R.cells ∧ slots + (slW w' - slW w) ≤ R.slots)
    (k : Go p l e R s m args below meth c Q G cI cZ cB cJ cE A M (w.length + 3) ad (cells + (w'.length - w.length)) (slots + (slW w' - slW w)) pc' lc' st' w') : W p l e R s m args below meth c H locs cells slots Q (F0 m pc ls (st.map (cvV ad))) := by
  obtain ⟨hx, hb, hml, htw, hown, hK, hA, hAZ, hin, hon, hZs⟩ := C
  simp only [sstep] at h
  split at h
  · next i a r =>
    split at h
    · next v hv =>
      simp only [Option.some.injEq, Prod.mk.injEq] at h
      obtain ⟨rfl, rfl, rfl, rfl⟩ := h
      have kk := k.z ad H locs ls (adX_r _ _) hR (scS_c (scV_int _ _) (scS_t (scS_t hs)))
      rcases aldI_some hv with ⟨j, t, n, f, rfl, hj, ht, hin', rfl⟩ | ⟨rfl, h0, hin', rfl⟩
      · have ht : t = 1 ∨ t = 2 := by simpa using ht
        rcases ht with rfl | rfl
        · exact va_zald hx hb hK.1 hR.1 j 1 (cW_at hj) rfl hin' (hd.d rfl) kk
        · exact va_bald hx hb hK.1 hR.1 j 2 (cW_at hj) rfl hin' (hd.d rfl) kk
      · simp at h0
    · cases h
  · cases h
theorem ss_laload {pp : pP} {F : pF} {tr : List (String × Nat × Nat)} {xs : Nat → Int32} {L : Nat} {M : pM} (hF : ClsOK F) (hPo : PoolOK pp tr) (C : Cx p s m args meth c G cI cZ cB cJ cE A Z0 M) {pc : Nat} {lc : pL} {st : List Value} {w : pW} {pc' : Nat} {lc' : pL} {st' : List Value} {w' : pW} {ad : Nat → Nat} {ls : Array Slot} (hX : EXf xs L tr Z0 ad s)  (hd : DecAt M.2.2.1 pc (.laload)) (h : sstep pp F xs L M.1 M.2.2.2.1 (isInit M.2.1) (.laload) pc lc st w = some (pc', lc', st', w')) (hR : Rn s G cI cZ cB cJ cE A M.2.2.2.1 ad H locs ls lc w) (hs : scS (w.length + 3) st) (hroom : cells + (w'.length - w.length) ≤ R.cells ∧ slots + (slW w' - slW w) ≤ R.slots)
    (k : Go p l e R s m args below meth c Q G cI cZ cB cJ cE A M (w.length + 3) ad (cells + (w'.length - w.length)) (slots + (slW w' - slW w)) pc' lc' st' w') : W p l e R s m args below meth c H locs cells slots Q (F0 m pc ls (st.map (cvV ad))) := by
  obtain ⟨hx, hb, hml, htw, hown, hK, hA, hAZ, hin, hon, hZs⟩ := C
  simp only [sstep] at h
  split at h
  · next i a r =>
    split at h
    · next n f hw =>
      split at h
      · next hc =>
        simp only [Option.some.injEq, Prod.mk.injEq] at h
        obtain ⟨rfl, rfl, rfl, rfl⟩ := h
        obtain ⟨j, rfl, hj⟩ := wAt_some hw
        exact va_lald hx hb hK.1 hR.1 j 3 (cW_at hj) rfl (inB_in hc) (hd.d rfl) (k.z ad H locs ls (adX_r _ _) hR (scS_c (scV_long _ _) (scS_t (scS_t hs))))
      · cases h
    · cases h
  · cases h
theorem cv_rf (ad : Nat → Nat) (o : Option Nat) : va_rf (o.map ad) = cvV ad (va_rf o) := by cases o <;> rfl
theorem sc_rf {n : Nat} {o : Option Nat} (h : ∀ r, o = some r → r < n) : scV n (va_rf o) := by
  cases o with
  | none => exact scV_null n
  | some r => exact fun i hi => by cases hi; exact h r rfl
theorem ss_aaload {pp : pP} {F : pF} {tr : List (String × Nat × Nat)} {xs : Nat → Int32} {L : Nat} {M : pM} (hF : ClsOK F) (hPo : PoolOK pp tr) (C : Cx p s m args meth c G cI cZ cB cJ cE A Z0 M) {pc : Nat} {lc : pL} {st : List Value} {w : pW} {pc' : Nat} {lc' : pL} {st' : List Value} {w' : pW} {ad : Nat → Nat} {ls : Array Slot} (hX : EXf xs L tr Z0 ad s)  (hd : DecAt M.2.2.1 pc (.aaload)) (h : sstep pp F xs L M.1 M.2.2.2.1 (isInit M.2.1) (.aaload) pc lc st w = some (pc', lc', st', w')) (hR : Rn s G cI cZ cB cJ cE A M.2.2.2.1 ad H locs ls lc w) (hs : scS (w.length + 3) st) (hroom : cells + (w'.length - w.length) ≤ R.cells ∧ slots + (slW w' - slW w) ≤ R.slots)
    (k : Go p l e R s m args below meth c Q G cI cZ cB cJ cE A M (w.length + 3) ad (cells + (w'.length - w.length)) (slots + (slW w' - slW w)) pc' lc' st' w') : W p l e R s m args below meth c H locs cells slots Q (F0 m pc ls (st.map (cvV ad))) := by
  obtain ⟨hx, hb, hml, htw, hown, hK, hA, hAZ, hin, hon, hZs⟩ := C
  simp only [sstep] at h
  split at h
  · next i a r =>
    split at h
    · next n f hw =>
      split at h
      · next hc =>
        simp only [Option.some.injEq, Prod.mk.injEq] at h
        obtain ⟨rfl, rfl, rfl, rfl⟩ := h
        obtain ⟨j, rfl, hj⟩ := wAt_some hw
        refine va_aldq (C := "IceTunes$Evening") hx hb hK.1 hR.1 j 4 (cW_at hj) rfl (inB_in hc) (hd.d rfl) ?_
        rw [cv_rf]
        exact k.z ad H locs ls (adX_r _ _) hR (scS_c (sc_rf (hR.2.2.2.2.1 _ (List.mem_of_getElem? hj) _)) (scS_t (scS_t hs)))
      · cases h
    · cases h
  · cases h
theorem ss_iastore {pp : pP} {F : pF} {tr : List (String × Nat × Nat)} {xs : Nat → Int32} {L : Nat} {M : pM} (hF : ClsOK F) (hPo : PoolOK pp tr) (C : Cx p s m args meth c G cI cZ cB cJ cE A Z0 M) {pc : Nat} {lc : pL} {st : List Value} {w : pW} {pc' : Nat} {lc' : pL} {st' : List Value} {w' : pW} {ad : Nat → Nat} {ls : Array Slot} (hX : EXf xs L tr Z0 ad s)  (hd : DecAt M.2.2.1 pc (.iastore)) (h : sstep pp F xs L M.1 M.2.2.2.1 (isInit M.2.1) (.iastore) pc lc st w = some (pc', lc', st', w')) (hR : Rn s G cI cZ cB cJ cE A M.2.2.2.1 ad H locs ls lc w) (hs : scS (w.length + 3) st) (hroom : cells + (w'.length - w.length) ≤ R.cells ∧ slots + (slW w' - slW w) ≤ R.slots)
    (k : Go p l e R s m args below meth c Q G cI cZ cB cJ cE A M (w.length + 3) ad (cells + (w'.length - w.length)) (slots + (slW w' - slW w)) pc' lc' st' w') : W p l e R s m args below meth c H locs cells slots Q (F0 m pc ls (st.map (cvV ad))) := by
  obtain ⟨hx, hb, hml, htw, hown, hK, hA, hAZ, hin, hon, hZs⟩ := C
  simp only [sstep] at h
  split at h
  · next x i a r =>
    split at h
    · next w1 hv =>
      simp only [Option.some.injEq, Prod.mk.injEq] at h
      obtain ⟨rfl, rfl, rfl, rfl⟩ := h
      obtain ⟨j, t, n, f, rfl, hj, ht, hin', rfl⟩ := astI_some hv
      have kk : ∀ (H1 : Heap) (locs1 : List Loc), va_P G classes ((cW ad (ctL cI cZ cB cJ cE) w).set j (ad (j + 3), .inl (ctL cI cZ cB cJ cE t, n, .inl (upd f i.toNatClampNeg (naI t x))))) H1 → va_D A ((cW ad (ctL cI cZ cB cJ cE) w).set j (ad (j + 3), .inl (ctL cI cZ cB cJ cE t, n, .inl (upd f i.toNatClampNeg (naI t x))))) → va_S A s.heap H1 locs1 → W p l e R s m args below meth c H1 locs1 cells slots Q (F0 m (pc + 1) ls (r.map (cvV ad))) := by
        intro H1 locs1 q1 q2 q3
        refine (k.zs (w' := w.set j (.inl (t, n, .inl (upd f i.toNatClampNeg (naI t x))))) (by rw [List.length_set]) (slW_set hj rfl)) ad H1 locs1 ls (adX_r _ _) (hR.set (x := .inl (t, n, .inl (upd f i.toNatClampNeg (naI t x)))) trivial q1 q2 q3) ?_
        rw [List.length_set]
        exact scS_t (scS_t (scS_t hs))
      have ht : t = 0 := by simpa using ht
      subst ht
      exact va_iast hx hb hK.1 hR.1 hR.2.1 hR.2.2.1 j 0 (cW_at hj) rfl hin' (hd.d rfl) kk
    · cases h
  · cases h
theorem ss_bastore {pp : pP} {F : pF} {tr : List (String × Nat × Nat)} {xs : Nat → Int32} {L : Nat} {M : pM} (hF : ClsOK F) (hPo : PoolOK pp tr) (C : Cx p s m args meth c G cI cZ cB cJ cE A Z0 M) {pc : Nat} {lc : pL} {st : List Value} {w : pW} {pc' : Nat} {lc' : pL} {st' : List Value} {w' : pW} {ad : Nat → Nat} {ls : Array Slot} (hX : EXf xs L tr Z0 ad s)  (hd : DecAt M.2.2.1 pc (.bastore)) (h : sstep pp F xs L M.1 M.2.2.2.1 (isInit M.2.1) (.bastore) pc lc st w = some (pc', lc', st', w')) (hR : Rn s G cI cZ cB cJ cE A M.2.2.2.1 ad H locs ls lc w) (hs : scS (w.length + 3) st) (hroom : cells + (w'.length - w.length) ≤ R.cells ∧ slots + (slW w' - slW w) ≤ R.slots)
    (k : Go p l e R s m args below meth c Q G cI cZ cB cJ cE A M (w.length + 3) ad (cells + (w'.length - w.length)) (slots + (slW w' - slW w)) pc' lc' st' w') : W p l e R s m args below meth c H locs cells slots Q (F0 m pc ls (st.map (cvV ad))) := by
  obtain ⟨hx, hb, hml, htw, hown, hK, hA, hAZ, hin, hon, hZs⟩ := C
  simp only [sstep] at h
  split at h
  · next x i a r =>
    split at h
    · next w1 hv =>
      simp only [Option.some.injEq, Prod.mk.injEq] at h
      obtain ⟨rfl, rfl, rfl, rfl⟩ := h
      obtain ⟨j, t, n, f, rfl, hj, ht, hin', rfl⟩ := astI_some hv
      have kk : ∀ (H1 : Heap) (locs1 : List Loc), va_P G classes ((cW ad (ctL cI cZ cB cJ cE) w).set j (ad (j + 3), .inl (ctL cI cZ cB cJ cE t, n, .inl (upd f i.toNatClampNeg (naI t x))))) H1 → va_D A ((cW ad (ctL cI cZ cB cJ cE) w).set j (ad (j + 3), .inl (ctL cI cZ cB cJ cE t, n, .inl (upd f i.toNatClampNeg (naI t x))))) → va_S A s.heap H1 locs1 → W p l e R s m args below meth c H1 locs1 cells slots Q (F0 m (pc + 1) ls (r.map (cvV ad))) := by
        intro H1 locs1 q1 q2 q3
        refine (k.zs (w' := w.set j (.inl (t, n, .inl (upd f i.toNatClampNeg (naI t x))))) (by rw [List.length_set]) (slW_set hj rfl)) ad H1 locs1 ls (adX_r _ _) (hR.set (x := .inl (t, n, .inl (upd f i.toNatClampNeg (naI t x)))) trivial q1 q2 q3) ?_
        rw [List.length_set]
        exact scS_t (scS_t (scS_t hs))
      have ht : t = 1 ∨ t = 2 := by simpa using ht
      rcases ht with rfl | rfl
      · exact va_zast hx hb hK.1 hR.1 hR.2.1 hR.2.2.1 j 1 (cW_at hj) rfl hin' (hd.d rfl) kk
      · exact va_bast hx hb hK.1 hR.1 hR.2.1 hR.2.2.1 j 2 (cW_at hj) rfl hin' (hd.d rfl) kk
    · cases h
  · cases h
theorem ss_lastore {pp : pP} {F : pF} {tr : List (String × Nat × Nat)} {xs : Nat → Int32} {L : Nat} {M : pM} (hF : ClsOK F) (hPo : PoolOK pp tr) (C : Cx p s m args meth c G cI cZ cB cJ cE A Z0 M) {pc : Nat} {lc : pL} {st : List Value} {w : pW} {pc' : Nat} {lc' : pL} {st' : List Value} {w' : pW} {ad : Nat → Nat} {ls : Array Slot} (hX : EXf xs L tr Z0 ad s)  (hd : DecAt M.2.2.1 pc (.lastore)) (h : sstep pp F xs L M.1 M.2.2.2.1 (isInit M.2.1) (.lastore) pc lc st w = some (pc', lc', st', w')) (hR : Rn s G cI cZ cB cJ cE A M.2.2.2.1 ad H locs ls lc w) (hs : scS (w.length + 3) st) (hroom : cells + (w'.length - w.length) ≤ R.cells ∧ slots + (slW w' - slW w) ≤ R.slots)
    (k : Go p l e R s m args below meth c Q G cI cZ cB cJ cE A M (w.length + 3) ad (cells + (w'.length - w.length)) (slots + (slW w' - slW w)) pc' lc' st' w') : W p l e R s m args below meth c H locs cells slots Q (F0 m pc ls (st.map (cvV ad))) := by
  obtain ⟨hx, hb, hml, htw, hown, hK, hA, hAZ, hin, hon, hZs⟩ := C
  simp only [sstep] at h
  split at h
  · next x i a r =>
    split at h
    · next n f hw =>
      split at h
      · next hc =>
        simp only [Option.some.injEq, Prod.mk.injEq] at h
        obtain ⟨rfl, rfl, rfl, rfl⟩ := h
        obtain ⟨j, rfl, hj⟩ := wAt_some hw
        refine va_last hx hb hK.1 hR.1 hR.2.1 hR.2.2.1 j 3 (cW_at hj) rfl (inB_in hc) (hd.d rfl) (fun H1 locs1 q1 q2 q3 => ?_)
        have kk := k.zs (w' := w.set j (.inl (3, n, .inr (.inl (vp_updL f i.toNatClampNeg x))))) (by rw [List.length_set]) (slW_set hj rfl)
        refine kk ad H1 locs1 ls (adX_r _ _) (hR.set (x := .inl (3, n, .inr (.inl (vp_updL f i.toNatClampNeg x)))) trivial q1 q2 q3) ?_
        rw [List.length_set]
        exact scS_t (scS_t (scS_t hs))
      · cases h
    · cases h
  · cases h
theorem ss_aastore {pp : pP} {F : pF} {tr : List (String × Nat × Nat)} {xs : Nat → Int32} {L : Nat} {M : pM} (hF : ClsOK F) (hPo : PoolOK pp tr) (C : Cx p s m args meth c G cI cZ cB cJ cE A Z0 M) {pc : Nat} {lc : pL} {st : List Value} {w : pW} {pc' : Nat} {lc' : pL} {st' : List Value} {w' : pW} {ad : Nat → Nat} {ls : Array Slot} (hX : EXf xs L tr Z0 ad s)  (hd : DecAt M.2.2.1 pc (.aastore)) (h : sstep pp F xs L M.1 M.2.2.2.1 (isInit M.2.1) (.aastore) pc lc st w = some (pc', lc', st', w')) (hR : Rn s G cI cZ cB cJ cE A M.2.2.2.1 ad H locs ls lc w) (hs : scS (w.length + 3) st) (hroom : cells + (w'.length - w.length) ≤ R.cells ∧ slots + (slW w' - slW w) ≤ R.slots)
    (k : Go p l e R s m args below meth c Q G cI cZ cB cJ cE A M (w.length + 3) ad (cells + (w'.length - w.length)) (slots + (slW w' - slW w)) pc' lc' st' w') : W p l e R s m args below meth c H locs cells slots Q (F0 m pc ls (st.map (cvV ad))) := by
  obtain ⟨hx, hb, hml, htw, hown, hK, hA, hAZ, hin, hon, hZs⟩ := C
  simp only [sstep] at h
  split at h
  · next v i a r =>
    split at h
    · next n f fs hw hw2 =>
      split at h
      · next hc =>
        simp only [Option.some.injEq, Prod.mk.injEq] at h
        obtain ⟨rfl, rfl, rfl, rfl⟩ := h
        obtain ⟨j, rfl, hj⟩ := wAt_some hw
        obtain ⟨j2, rfl, hj2⟩ := wAt_some hw2
        refine va_astq (r := (RX2, TX2, 7)) hx hb hK.1 hR.1 hR.2.1 hR.2.2.1 j 4 j2 2 (cW_at hj) rfl (cW_at hj2) rfl (inB_in hc) (hd.d rfl) (fun H1 locs1 q1 q2 q3 => ?_)
        have kk := k.zs (w' := w.set j (.inl (4, n, .inr (.inr (.inr (.inr (va_up f i.toNatClampNeg (some (j2 + 3))))))))) (by rw [List.length_set]) (slW_set hj rfl)
        have ee : cvE ad (ctL cI cZ cB cJ cE) (.inl (4, n, .inr (.inr (.inr (.inr (va_up f i.toNatClampNeg (some (j2 + 3)))))))) = .inl (cE, n, .inr (.inr (.inr (.inr (va_up (fun j => (f j).map ad) i.toNatClampNeg (some (ad (j2 + 3)))))))) := by
          simp only [cvE, cvA, ctL]
          congr 7
          funext q
          by_cases hq : q = i.toNatClampNeg
          · simp [va_up, hq]
          · simp [va_up, hq]
        refine kk ad H1 locs1 ls (adX_r _ _) (hR.set (x := .inl (4, n, .inr (.inr (.inr (.inr (va_up f i.toNatClampNeg (some (j2 + 3)))))))) ?_ (by rw [ee]; exact q1) (by rw [ee]; exact q2) q3) ?_
        · intro q r' hq
          by_cases hq2 : q = i.toNatClampNeg
          · simp only [va_up, hq2, if_true, Option.some.injEq] at hq
            have := scS_h hs _ rfl
            rw [← hq]; exact this
          · simp only [va_up, hq2, if_false] at hq
            exact hR.2.2.2.2.1 _ (List.mem_of_getElem? hj) q r' hq
        · rw [List.length_set]
          exact scS_t (scS_t (scS_t hs))
      · cases h
    · cases h
  · cases h
theorem ss_arraylength {pp : pP} {F : pF} {tr : List (String × Nat × Nat)} {xs : Nat → Int32} {L : Nat} {M : pM} (hF : ClsOK F) (hPo : PoolOK pp tr) (C : Cx p s m args meth c G cI cZ cB cJ cE A Z0 M) {pc : Nat} {lc : pL} {st : List Value} {w : pW} {pc' : Nat} {lc' : pL} {st' : List Value} {w' : pW} {ad : Nat → Nat} {ls : Array Slot} (hX : EXf xs L tr Z0 ad s)  (hd : DecAt M.2.2.1 pc (.arraylength)) (h : sstep pp F xs L M.1 M.2.2.2.1 (isInit M.2.1) (.arraylength) pc lc st w = some (pc', lc', st', w')) (hR : Rn s G cI cZ cB cJ cE A M.2.2.2.1 ad H locs ls lc w) (hs : scS (w.length + 3) st) (hroom : cells + (w'.length - w.length) ≤ R.cells ∧ slots + (slW w' - slW w) ≤ R.slots)
    (k : Go p l e R s m args below meth c Q G cI cZ cB cJ cE A M (w.length + 3) ad (cells + (w'.length - w.length)) (slots + (slW w' - slW w)) pc' lc' st' w') : W p l e R s m args below meth c H locs cells slots Q (F0 m pc ls (st.map (cvV ad))) := by
  obtain ⟨hx, hb, hml, htw, hown, hK, hA, hAZ, hin, hon, hZs⟩ := C
  simp only [sstep] at h
  split at h
  · next a r =>
    split at h
    · next n hv =>
      simp only [Option.some.injEq, Prod.mk.injEq] at h
      obtain ⟨rfl, rfl, rfl, rfl⟩ := h
      have kk := k.z ad H locs ls (adX_r _ _) hR (scS_c (scV_int _ _) (scS_t hs))
      unfold alen at hv
      split at hv
      · next t n' x hw =>
        obtain ⟨j, rfl, hj⟩ := wAt_some hw
        obtain ⟨t', ty, ht⟩ : ∃ (t' : Nat) (ty : FieldType), (tyL cI cZ cB cJ cE)[t']? = some (ctL cI cZ cB cJ cE t, ty) := by
          match t with
          | 0 => exact ⟨0, _, rfl⟩
          | 1 => exact ⟨1, _, rfl⟩
          | 2 => exact ⟨2, _, rfl⟩
          | 3 => exact ⟨3, _, rfl⟩
          | _ + 4 => exact ⟨4, _, rfl⟩
        have hn := Option.some.inj hv
        subst hn
        have e1 : (cvA ad (n', x)).1 = n' := by rcases x with f | f | f | f | f <;> rfl
        exact va_alen hx hb hK.1 hR.1 j t' (cW_at hj) ht (by show Int32.ofNat (cvA ad (n', x)).1 = _; rw [e1]) (hd.d rfl) kk
      · cases hv
      · split at hv
        · next h0 =>
          simp only [Bool.and_eq_true, beq_iff_eq, decide_eq_true_eq] at h0
          obtain ⟨h0, hLp⟩ := h0
          subst h0
          have hn := Option.some.inj hv
          subst hn
          exact va_slen hx hb (hX.2.1 hLp) (Nat.lt_of_lt_of_le hX.1 hZs) (fun q => absurd (hAZ _ q) (Nat.not_le.mpr hX.1)) hR.2.2.1 (hd.d rfl) kk
        · cases hv
    · cases h
  · cases h
/-- a new cell -/
def adN (ad : Nat → Nat) (i q : Nat) : Nat → Nat := fun j => if j = i then q else ad j
theorem adN_x (ad : Nat → Nat) (i q : Nat) : adX i ad (adN ad i q) := fun j hj => by simp only [adN]; rw [if_neg (by omega)]
theorem cW_new {ad : Nat → Nat} {ct : Nat → ClassId} {w : pW} {e : pE} {q : Nat} (hw : scW (w.length + 3) w) (he : ∀ ad1 ad2 : Nat → Nat, cvE ad1 ct e = cvE ad2 ct e) : cW (adN ad (w.length + 3) q) ct (w ++ [e]) = cW ad ct w ++ [(q, cvE ad ct e)] := by
  rw [cW_push, cW_x (adN_x ad (w.length + 3) q) hw (Nat.le_refl _), he (adN ad (w.length + 3) q) ad]
  simp only [adN, if_true]
theorem Rn.push {nL : Nat} {ad : Nat → Nat} {ls : Array Slot} {lc : pL} {w : pW} {x : pE} {q : Nat} {H1 : Heap} {locs1 : List Loc} (hR : Rn s G cI cZ cB cJ cE A nL ad H locs ls lc w) (hsc : ∀ n, scE n x) (he : ∀ ad1 ad2 : Nat → Nat, cvE ad1 (ctL cI cZ cB cJ cE) x = cvE ad2 (ctL cI cZ cB cJ cE) x) (h1 : va_P G classes (cW ad (ctL cI cZ cB cJ cE) w ++ [(q, cvE ad (ctL cI cZ cB cJ cE) x)]) H1) (h2 : va_D A (cW ad (ctL cI cZ cB cJ cE) w ++ [(q, cvE ad (ctL cI cZ cB cJ cE) x)])) (h3 : va_S A s.heap H1 locs1) : Rn s G cI cZ cB cJ cE A nL (adN ad (w.length + 3) q) H1 locs1 ls lc (w ++ [x]) := by
  have hle : w.length + 3 ≤ (w ++ [x]).length + 3 := by simp
  refine ⟨by rw [cW_new hR.2.2.2.2.1 he]; exact h1, by rw [cW_new hR.2.2.2.2.1 he]; exact h2, h3, ?_, ?_, scL_up hle hR.2.2.2.2.2⟩
  · rw [cL_x (adN_x ad _ q) hR.2.2.2.2.2]
    exact hR.2.2.2.1
  · intro y hy
    rcases List.mem_append.mp hy with h | h
    · exact scE_up hle (hR.2.2.2.2.1 y h)
    · rw [List.mem_singleton.mp h]; exact hsc _
theorem scS_new {w : pW} {x : pE} {st : List Value} (hs : scS (w.length + 3) st) : scS ((w ++ [x]).length + 3) (.ref (w.length + 3) :: st) := scS_c (fun i hi => by cases hi; simp) (scS_up (by simp) hs)
theorem cS_new {ad : Nat → Nat} {w : pW} {st : List Value} {q : Nat} (hs : scS (w.length + 3) st) : (Value.ref (w.length + 3) :: st).map (cvV (adN ad (w.length + 3) q)) = .ref q :: st.map (cvV ad) := by
  rw [List.map_cons, cS_x (adN_x ad _ q) hs]
  simp [cvV, adN]
theorem dflt_sc (n : Nat) (ty : FieldType) : scV n (dflt ty) := by cases ty <;> (intro i hi; cases hi)
theorem dflt_cv (ad : Nat → Nat) (ty : FieldType) : cvV ad (dflt ty) = dflt ty := by cases ty <;> rfl
theorem ss_new {pp : pP} {F : pF} {tr : List (String × Nat × Nat)} {xs : Nat → Int32} {L : Nat} {M : pM} (hF : ClsOK F) (hPo : PoolOK pp tr) (C : Cx p s m args meth c G cI cZ cB cJ cE A Z0 M) {pc : Nat} {lc : pL} {st : List Value} {w : pW} {pc' : Nat} {lc' : pL} {st' : List Value} {w' : pW} {ad : Nat → Nat} {ls : Array Slot} (hX : EXf xs L tr Z0 ad s) {i : Nat} (hd : DecAt M.2.2.1 pc (.new i)) (h : sstep pp F xs L M.1 M.2.2.2.1 (isInit M.2.1) (.new i) pc lc st w = some (pc', lc', st', w')) (hR : Rn s G cI cZ cB cJ cE A M.2.2.2.1 ad H locs ls lc w) (hs : scS (w.length + 3) st) (hroom : cells + (w'.length - w.length) ≤ R.cells ∧ slots + (slW w' - slW w) ≤ R.slots)
    (k : Go p l e R s m args below meth c Q G cI cZ cB cJ cE A M (w.length + 3) ad (cells + (w'.length - w.length)) (slots + (slW w' - slW w)) pc' lc' st' w') : W p l e R s m args below meth c H locs cells slots Q (F0 m pc ls (st.map (cvV ad))) := by
  obtain ⟨hx, hb, hml, htw, hown, hK, hA, hAZ, hin, hon, hZs⟩ := C
  simp only [sstep] at h
  split at h
  · next ci hp =>
    simp only [Option.some.injEq, Prod.mk.injEq] at h
    obtain ⟨rfl, rfl, rfl, rfl⟩ := h
    obtain ⟨own, h1, Cn, T, N, hcl, hlk⟩ := hPo.2.1 _ _ _ hp
    have ho := own_eq (pp := pp) h1 hon
    subst ho
    obtain ⟨ty0, c1, c2, c3, c4, c5, c6, c7, c8, c9⟩ := hF ci Cn T N hcl
    have hfs : ∀ j, j < N → defaultValue (ty0 j) = vp_V ((F.getD ci []).map (fun q => dflt q.1)) j := by
      intro j hj
      show defaultValue (ty0 j) = ((F.getD ci []).map (fun q => dflt q.1)).getD j .null
      rw [List.getD_eq_getElem?_getD (l := (F.getD ci []).map (fun q => dflt q.1)), List.getElem?_map, c8 j hj]
      exact c9 j hj
    have he : ∀ ad1 ad2 : Nat → Nat, cvE ad1 (ctL cI cZ cB cJ cE) (.inr (ci, (F.getD ci []).map (fun q => dflt q.1))) = cvE ad2 (ctL cI cZ cB cJ cE) (.inr (ci, (F.getD ci []).map (fun q => dflt q.1))) := by
      intro ad1 ad2
      simp only [cvE, List.map_map]
      congr 2
      exact List.map_congr_left (fun q _ => by simp only [Function.comp, dflt_cv])
    have ee : cvE ad (ctL cI cZ cB cJ cE) (.inr (ci, (F.getD ci []).map (fun q => dflt q.1))) = .inr (ci, (F.getD ci []).map (fun q => dflt q.1)) := by
      simp only [cvE, List.map_map]
      congr 2
      exact List.map_congr_left (fun q _ => by simp only [Function.comp, dflt_cv])
    have e1 : (w ++ [.inr (ci, (F.getD ci []).map (fun q => dflt q.1))] : pW).length - w.length = 1 := by simp
    have e2 : slW (w ++ [.inr (ci, (F.getD ci []).map (fun q => dflt q.1))]) - slW w = N := by rw [slW_push]; simp only [slE, List.length_map, c7]; omega
    rw [e1, e2] at k hroom
    refine va_new hx hb htw c1 ty0 c2 hown (htw _ hlk) (htw _ c5) (htw _ c6) hK.1 hR.1 hR.2.1 hR.2.2.1 hA hcl hfs hroom.1 hroom.2 (hd.d rfl) (fun q H1 q1 q2 q3 => ?_)
    have kk := k (adN ad (w.length + 3) q) H1 locs ls (adN_x _ _ _) (hR.push (x := .inr (ci, (F.getD ci []).map (fun q => dflt q.1))) (fun n v hv => by obtain ⟨z, -, rfl⟩ := List.mem_map.mp hv; exact dflt_sc n _) he (by rw [ee]; exact q1) (by rw [ee]; exact q2) q3) (scS_new hs)
    rw [cS_new hs] at kk
    exact kk
  · cases h
theorem bytes_ok {n k : Nat} (h : n ≤ 4000) (hk : k ≤ 8) : n * k ≤ 536870912 := Nat.le_trans (Nat.mul_le_mul h hk) (by decide)
theorem wm_ac_byte : Cond.arrayClass Jvm.ClassFile.FieldType.byte ∈ wt := wm_287
theorem wm_ac_int : Cond.arrayClass Jvm.ClassFile.FieldType.int ∈ wt := wm_288
theorem wm_ac_boolean : Cond.arrayClass Jvm.ClassFile.FieldType.boolean ∈ wt := wm_289
theorem wm_ac_long : Cond.arrayClass Jvm.ClassFile.FieldType.long ∈ wt := wm_1463
theorem ss_newarray {pp : pP} {F : pF} {tr : List (String × Nat × Nat)} {xs : Nat → Int32} {L : Nat} {M : pM} (hF : ClsOK F) (hPo : PoolOK pp tr) (C : Cx p s m args meth c G cI cZ cB cJ cE A Z0 M) {pc : Nat} {lc : pL} {st : List Value} {w : pW} {pc' : Nat} {lc' : pL} {st' : List Value} {w' : pW} {ad : Nat → Nat} {ls : Array Slot} (hX : EXf xs L tr Z0 ad s) {t : ArrayType} (hd : DecAt M.2.2.1 pc (.newarray t)) (h : sstep pp F xs L M.1 M.2.2.2.1 (isInit M.2.1) (.newarray t) pc lc st w = some (pc', lc', st', w')) (hR : Rn s G cI cZ cB cJ cE A M.2.2.2.1 ad H locs ls lc w) (hs : scS (w.length + 3) st) (hroom : cells + (w'.length - w.length) ≤ R.cells ∧ slots + (slW w' - slW w) ≤ R.slots)
    (k : Go p l e R s m args below meth c Q G cI cZ cB cJ cE A M (w.length + 3) ad (cells + (w'.length - w.length)) (slots + (slW w' - slW w)) pc' lc' st' w') : W p l e R s m args below meth c H locs cells slots Q (F0 m pc ls (st.map (cvV ad))) := by
  obtain ⟨hx, hb, hml, htw, hown, hK, hA, hAZ, hin, hon, hZs⟩ := C
  simp only [sstep] at h
  split at h
  · next n r =>
    split at h
    · next hc =>
      simp only [Bool.and_eq_true, decide_eq_true_eq] at hc
      have hpos : ¬ n < 0 := by simpa using hc.1
      split at h
      · simp only [Option.some.injEq, Prod.mk.injEq] at h
        obtain ⟨rfl, rfl, rfl, rfl⟩ := h
        have e1 : (w ++ [.inl (0, n.toNatClampNeg, .inl (fun _ => 0))] : pW).length - w.length = 1 := by simp
        have e2 : slW (w ++ [.inl (0, n.toNatClampNeg, .inl (fun _ => 0))]) - slW w = n.toNatClampNeg := by rw [slW_push]; simp only [slE]; omega
        rw [e1, e2] at k hroom
        refine new_a (atype := .int) hx hb (htw _ wm_ac_int) rfl hK 0 rfl hR.1 hR.2.1 hR.2.2.1 hA (a0 := (n.toNatClampNeg, .inl (fun _ => 0))) (fun _ => rfl) hpos rfl (bytes_ok hc.2 (by decide)) hroom.1 hroom.2 (hd.d rfl) (fun q H1 q1 q2 q3 => ?_)
        have kk := k (adN ad (w.length + 3) q) H1 locs ls (adN_x _ _ _) (hR.push (x := .inl (0, n.toNatClampNeg, .inl (fun _ => 0))) (fun _ => trivial) (fun _ _ => rfl) q1 q2 q3) (scS_new (scS_t hs))
        rw [cS_new (scS_t hs)] at kk
        exact kk
      · simp only [Option.some.injEq, Prod.mk.injEq] at h
        obtain ⟨rfl, rfl, rfl, rfl⟩ := h
        have e1 : (w ++ [.inl (1, n.toNatClampNeg, .inl (fun _ => 0))] : pW).length - w.length = 1 := by simp
        have e2 : slW (w ++ [.inl (1, n.toNatClampNeg, .inl (fun _ => 0))]) - slW w = n.toNatClampNeg := by rw [slW_push]; simp only [slE]; omega
        rw [e1, e2] at k hroom
        refine new_a (atype := .boolean) hx hb (htw _ wm_ac_boolean) rfl hK 1 rfl hR.1 hR.2.1 hR.2.2.1 hA (a0 := (n.toNatClampNeg, .inl (fun _ => 0))) (fun _ => rfl) hpos rfl (bytes_ok hc.2 (by decide)) hroom.1 hroom.2 (hd.d rfl) (fun q H1 q1 q2 q3 => ?_)
        have kk := k (adN ad (w.length + 3) q) H1 locs ls (adN_x _ _ _) (hR.push (x := .inl (1, n.toNatClampNeg, .inl (fun _ => 0))) (fun _ => trivial) (fun _ _ => rfl) q1 q2 q3) (scS_new (scS_t hs))
        rw [cS_new (scS_t hs)] at kk
        exact kk
      · simp only [Option.some.injEq, Prod.mk.injEq] at h
        obtain ⟨rfl, rfl, rfl, rfl⟩ := h
        have e1 : (w ++ [.inl (2, n.toNatClampNeg, .inl (fun _ => 0))] : pW).length - w.length = 1 := by simp
        have e2 : slW (w ++ [.inl (2, n.toNatClampNeg, .inl (fun _ => 0))]) - slW w = n.toNatClampNeg := by rw [slW_push]; simp only [slE]; omega
        rw [e1, e2] at k hroom
        refine new_a (atype := .byte) hx hb (htw _ wm_ac_byte) rfl hK 2 rfl hR.1 hR.2.1 hR.2.2.1 hA (a0 := (n.toNatClampNeg, .inl (fun _ => 0))) (fun _ => rfl) hpos rfl (bytes_ok hc.2 (by decide)) hroom.1 hroom.2 (hd.d rfl) (fun q H1 q1 q2 q3 => ?_)
        have kk := k (adN ad (w.length + 3) q) H1 locs ls (adN_x _ _ _) (hR.push (x := .inl (2, n.toNatClampNeg, .inl (fun _ => 0))) (fun _ => trivial) (fun _ _ => rfl) q1 q2 q3) (scS_new (scS_t hs))
        rw [cS_new (scS_t hs)] at kk
        exact kk
      · simp only [Option.some.injEq, Prod.mk.injEq] at h
        obtain ⟨rfl, rfl, rfl, rfl⟩ := h
        have e1 : (w ++ [.inl (3, n.toNatClampNeg, .inr (.inl (fun _ => 0)))] : pW).length - w.length = 1 := by simp
        have e2 : slW (w ++ [.inl (3, n.toNatClampNeg, .inr (.inl (fun _ => 0)))]) - slW w = n.toNatClampNeg := by rw [slW_push]; simp only [slE]; omega
        rw [e1, e2] at k hroom
        refine new_a (atype := .long) hx hb (htw _ wm_ac_long) rfl hK 3 rfl hR.1 hR.2.1 hR.2.2.1 hA (a0 := (n.toNatClampNeg, .inr (.inl (fun _ => 0)))) (fun _ => rfl) hpos rfl (bytes_ok hc.2 (by decide)) hroom.1 hroom.2 (hd.d rfl) (fun q H1 q1 q2 q3 => ?_)
        have kk := k (adN ad (w.length + 3) q) H1 locs ls (adN_x _ _ _) (hR.push (x := .inl (3, n.toNatClampNeg, .inr (.inl (fun _ => 0)))) (fun _ => trivial) (fun _ _ => rfl) q1 q2 q3) (scS_new (scS_t hs))
        rw [cS_new (scS_t hs)] at kk
        exact kk
      · cases h
    · cases h
  · cases h
theorem ss_anewarray {pp : pP} {F : pF} {tr : List (String × Nat × Nat)} {xs : Nat → Int32} {L : Nat} {M : pM} (hF : ClsOK F) (hPo : PoolOK pp tr) (C : Cx p s m args meth c G cI cZ cB cJ cE A Z0 M) {pc : Nat} {lc : pL} {st : List Value} {w : pW} {pc' : Nat} {lc' : pL} {st' : List Value} {w' : pW} {ad : Nat → Nat} {ls : Array Slot} (hX : EXf xs L tr Z0 ad s) {i : Nat} (hd : DecAt M.2.2.1 pc (.anewarray i)) (h : sstep pp F xs L M.1 M.2.2.2.1 (isInit M.2.1) (.anewarray i) pc lc st w = some (pc', lc', st', w')) (hR : Rn s G cI cZ cB cJ cE A M.2.2.2.1 ad H locs ls lc w) (hs : scS (w.length + 3) st) (hroom : cells + (w'.length - w.length) ≤ R.cells ∧ slots + (slW w' - slW w) ≤ R.slots)
    (k : Go p l e R s m args below meth c Q G cI cZ cB cJ cE A M (w.length + 3) ad (cells + (w'.length - w.length)) (slots + (slW w' - slW w)) pc' lc' st' w') : W p l e R s m args below meth c H locs cells slots Q (F0 m pc ls (st.map (cvV ad))) := by
  obtain ⟨hx, hb, hml, htw, hown, hK, hA, hAZ, hin, hon, hZs⟩ := C
  simp only [sstep] at h
  split at h
  · next n r hp =>
    split at h
    · next hc =>
      simp only [Bool.and_eq_true, decide_eq_true_eq] at hc
      have hpos : ¬ n < 0 := by simpa using hc.1
      simp only [Option.some.injEq, Prod.mk.injEq] at h
      obtain ⟨rfl, rfl, rfl, rfl⟩ := h
      obtain ⟨own, h1, Cn, T, N, hcl, hlk⟩ := hPo.2.1 _ _ _ hp
      have ho := own_eq (pp := pp) h1 hon
      subst ho
      cases hcl
      have e1 : (w ++ [.inl (4, n.toNatClampNeg, .inr (.inr (.inr (.inr (fun _ => none)))))] : pW).length - w.length = 1 := by simp
      have e2 : slW (w ++ [.inl (4, n.toNatClampNeg, .inr (.inr (.inr (.inr (fun _ => none)))))]) - slW w = n.toNatClampNeg := by rw [slW_push]; simp only [slE]; omega
      rw [e1, e2] at k hroom
      refine new_q hx hb hown (htw _ hlk) hK hR.1 hR.2.1 hR.2.2.1 hA hpos rfl (bytes_ok hc.2 (by decide)) hroom.1 hroom.2 (hd.d rfl) (fun q H1 q1 q2 q3 => ?_)
      have kk := k (adN ad (w.length + 3) q) H1 locs ls (adN_x _ _ _) (hR.push (x := .inl (4, n.toNatClampNeg, .inr (.inr (.inr (.inr (fun _ => none)))))) (fun _ _ _ h => by cases h) (fun _ _ => rfl) q1 q2 q3) (scS_new (scS_t hs))
      rw [cS_new (scS_t hs)] at kk
      exact kk
    · cases h
  · cases h
end STEP

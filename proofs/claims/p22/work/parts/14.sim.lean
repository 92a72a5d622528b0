/-! THE MACHINE DOES WHAT THE PURE ONE DOES: runs -/
def MOK (M : pM) (na : Nat) : Prop := (∀ pc ins, instrAt M pc = some ins → DecAt M.2.2.1 pc ins) ∧ Cond.code M.2.1 M.2.2.1 M.2.2.2.1 M.2.2.2.2.1 ∈ wt ∧ plainName M.2.1.cls = true ∧ owns[M.1]? = some M.2.1.cls ∧ (M.2.1.cls ≠ "java/lang/invoke/MethodHandle" ∧ M.2.1.cls ≠ "java/lang/invoke/VarHandle" ∧ (parseMethodDescriptor M.2.1.desc).map (fun d => d.parameters.length) = some na) ∧ Cond.initialized M.2.1.cls ∈ wt ∧ M.2.2.2.1 ≤ 40
def LnkOK (own : String) (i : Nat) (y : MethodName) : Prop := Cond.methodLink own i y ∈ wt ∨ ∃ host : String, Cond.methodLinkNest own i y host ∈ nw
def CallsOK (pp : pP) (Gm : pG) : Prop := (∀ (j : Nat) (M : pM) (na : Nat), Gm[j]? = some (M, na) → MOK M na) ∧
  (∀ (o i j : Nat) (M : pM) (na : Nat), pp.2.2.2 o i = some (0, j) → Gm[j]? = some (M, na) → ∃ own, owns[o]? = some own ∧ LnkOK own i M.2.1 ∧ Cond.instanceMethod M.2.1 ∈ wt ∧ Cond.selects M.2.1.cls M.2.1 M.2.1 ∈ wt ∧ M.1 < 12) ∧
  (∀ (o i j : Nat) (M : pM) (na : Nat), pp.2.2.2 o i = some (6, j) → Gm[j]? = some (M, na) → ∃ own, owns[o]? = some own ∧ LnkOK own i M.2.1 ∧ Cond.static M.2.1 ∈ wt) ∧
  (∀ (o i j : Nat) (M : pM) (na : Nat), pp.2.2.2 o i = some (7, j) → Gm[j]? = some (M, na) → ∃ own, owns[o]? = some own ∧ LnkOK own i M.2.1 ∧ Cond.instanceMethod M.2.1 ∈ wt ∧ M.2.2.2.2.1 = none) ∧
  (∀ (o i j : Nat), pp.2.2.2 o i = some (2, j) → ∃ own, owns[o]? = some own ∧ Cond.methodLink own i Lib.objectInit ∈ wt ∧ Cond.instanceMethod Lib.objectInit ∈ wt ∧ Cond.code Lib.objectInit ⟨#[0xb1]⟩ 1 none ∈ wt) ∧
  (∀ (o i j : Nat), pp.2.2.2 o i = some (1, j) → ∃ own, owns[o]? = some own ∧ Cond.methodLink own i arraycopyName ∈ wt ∧ Cond.native arraycopyName ∈ wt ∧ Cond.static arraycopyName ∈ wt ∧ Cond.initialized "java/lang/System" ∈ wt) ∧
  (∀ (o i j : Nat), pp.2.2.2 o i = some (8, j) → ∃ own, owns[o]? = some own ∧ Cond.methodLink own i Lib.Math.max.name ∈ wt ∧ Cond.static Lib.Math.max.name ∈ wt ∧ Cond.initialized "java/lang/Math" ∈ wt ∧ Cond.code Lib.Math.max.name Lib.Math.max.code 2 (some .int) ∈ wt) ∧
  (∀ (o i j : Nat), pp.2.2.2 o i = some (9, j) → ∃ own, owns[o]? = some own ∧ Cond.methodLink own i Lib.Math.min.name ∈ wt ∧ Cond.static Lib.Math.min.name ∈ wt ∧ Cond.initialized "java/lang/Math" ∈ wt ∧ Cond.code Lib.Math.min.name Lib.Math.min.code 2 (some .int) ∈ wt)
/-- facts of the texts stay -/
def SXok (Z0 : Nat) (SX : pX) : Prop := ∀ (ad ad' : Nat → Nat) (s U : State), adX 3 ad ad' → (s.WarmedH U.vm ∨ s.vm = U.vm) → (∀ q, q < Z0 → U.heap[q]? = s.heap[q]?) → SX ad s → SX ad' U
theorem EXf.mv {xs : Nat → Int32} {L : Nat} {tr : List (String × Nat × Nat)} {Z0 : Nat} {ad ad' : Nat → Nat} {s U : State} (h : EXf xs L tr Z0 ad s) (ha : adX 3 ad ad') (hW : s.WarmedH U.vm ∨ s.vm = U.vm) (hh : ∀ q, q < Z0 → U.heap[q]? = s.heap[q]?) : EXf xs L tr Z0 ad' U := by
  obtain ⟨h1, h2, h3⟩ := h
  have e0 : ad' 0 = ad 0 := ha 0 (by decide)
  have hal : s.vm.Alike U.vm := by
    rcases hW with h | h
    · exact h.alike
    · rw [h]; exact Vm.Alike.refl _
  refine ⟨by rw [e0]; exact h1, fun hp => by rw [e0]; exact ((h2 hp).moved hal).kept (hh _ h1), fun own i a ht => ?_⟩
  obtain ⟨g1, txt, g2⟩ := h3 own i a ht
  refine ⟨g1, txt, ?_⟩
  rw [ha a g1]
  rcases hW with h | h
  · exact g2.warm h
  · exact vk_R.same h.symm g2
def PreP (SX : pX) (xs : Nat → Int32) (L : Nat) (tr : List (String × Nat × Nat)) (Z0 : Nat) (G : va_G) (cI cZ cB cJ cE : ClassId) (ad : Nat → Nat) (w : pW) (sz : Nat) (U : State) : Prop :=
  U.heap.size = sz ∧ va_P G classes (cW ad (ctL cI cZ cB cJ cE) w) U.heap ∧ kx G cI cZ cB cJ cE U ∧ va_D (fun q => Z0 ≤ q) (cW ad (ctL cI cZ cB cJ cE) w) ∧ EXf xs L tr Z0 ad U ∧ SX ad U ∧ Z0 ≤ sz
theorem PreP.blind {SX : pX} {xs : Nat → Int32} {L : Nat} {tr : List (String × Nat × Nat)} {Z0 : Nat} (hSX : SXok Z0 SX) {G : va_G} {cI cZ cB cJ cE : ClassId} {ad : Nat → Nat} {w : pW} {sz : Nat} {av : List Value} : FrameBlind (va_Pc av (PreP SX xs L tr Z0 G cI cZ cB cJ cE ad w sz)) := fun a U g mk q =>
  ⟨q.1, q.2.1, q.2.2.1, ⟨va_K.moved (u := U) (U := U.calling g mk a) (Vm.Alike.refl U.vm) q.2.2.2.1.1, nx_same (s := U) (U := U.calling g mk a) rfl q.2.2.2.1.2.1, va_AO.moved (u := U) (U := U.calling g mk a) (Vm.Alike.refl U.vm) q.2.2.2.1.2.2⟩, q.2.2.2.2.1, EXf.mv (U := U.calling g mk a) q.2.2.2.2.2.1 (adX_r _ _) (Or.inr rfl) (fun _ _ => rfl), hSX ad ad U (U.calling g mk a) (adX_r _ _) (Or.inr rfl) (fun _ _ => rfl) q.2.2.2.2.2.2.1, q.2.2.2.2.2.2.2⟩
def QP (G : va_G) (cI cZ cB cJ cE : ClassId) (ad : Nat → Nat) (w : pW) (sz : Nat) (v : Option Value) (w' : pW) : Array Value → State → Outcome → State → Prop := fun _ st oc t =>
  (∃ ad' : Nat → Nat, adX (w.length + 3) ad ad' ∧ oc = .returned (v.map (cvV ad')) ∧ va_P G classes (cW ad' (ctL cI cZ cB cJ cE) w') t.heap ∧ va_D (va_A (cW ad (ctL cI cZ cB cJ cE) w) sz) (cW ad' (ctL cI cZ cB cJ cE) w') ∧ scW (w'.length + 3) w' ∧ ∀ x, v = some x → scV (w'.length + 3) x) ∧ va_F (va_A (cW ad (ctL cI cZ cB cJ cE) w) sz) st t
section SIM
variable {p : Program} {l : Launch} {e : Env} {R : Room} {s : State} {m : MethodId} {args : Array Value} {below : List Frame} {meth : Method} {c : Code} {H : Heap} {locs : List Loc} {cells slots : Nat} {Q : State → Prop}
variable {G : va_G} {cI cZ cB cJ cE : ClassId} {A : Nat → Prop} {Z0 : Nat}
/-- a call, whatever it answers -/
theorem va_callX {pc : Nat} {ls : Array Slot} {rest st0 : List Value} {A0 A1 : Nat → Prop} {H0 : Heap} {mc ms : Nat} {free : Addr → Prop} {Qa : State → Outcome → State → Prop} (hr : va_Run p l e R s m args below meth c H locs cells slots mc ms (F0 m pc ls st0) rest Qa free) (hS : va_S A0 H0 H locs) (hA : ∀ q, q < H.size → A1 q → A0 q) (hf : ∀ q, free q → A0 q) (hF : ∀ st oc t, Qa st oc t → va_F A1 st t)
    (kk : ∀ (v : Option Value) (st t : State) (H1 : Heap) (locs1 : List Loc), t.heap = H1 → Qa st (.returned v) t → H.size ≤ H1.size → (∀ q : Nat, q < H.size → ¬ A1 q → H1[q]? = H[q]?) → va_S A0 H0 H1 locs1 → W p l e R s m args below meth c H1 locs1 (cells + mc) (slots + ms) Q (F0 m (pc + 3) ls (v.toList ++ rest))) : W p l e R s m args below meth c H locs cells slots Q (F0 m pc ls st0) := by
  intro T hT X
  obtain ⟨v, st₀, t, T', L, h0, X', hL, e1, e2, hq, st⟩ := hr T hT X
  obtain ⟨hz, hk⟩ := hF _ _ _ hq
  rw [h0] at hz hk
  obtain ⟨t2, a1, b1⟩ := kk v st₀ t T'.heap (locs ++ L) e1.symm hq (by rw [e1]; exact hz) (fun q h1 h2 => by rw [e1]; exact hk q h1 h2)
    ⟨Nat.le_trans hS.1 (by rw [e1]; exact hz), fun q h1 h2 => by rw [e1, hk q (Nat.lt_of_lt_of_le h1 hS.1) (fun z => h2 (hA q (Nat.lt_of_lt_of_le h1 hS.1) z))]; exact hS.2.1 q h1 h2, fun q hq => by
      rcases List.mem_append.mp hq with h | h
      · exact hS.2.2 q h
      · exact hf _ (hL q h)⟩ T' rfl X'
  exact ⟨t2, st t2 a1, b1⟩
theorem astep_sz {pp : pP} {F : pF} {Gm : pG} {tx : pT} {xs : Nat → Int32} {L : Nat} {M : pM} {d : Nat} {ins : Instr} {pc : Nat} {lc : pL} {st : List Value} {w : pW} {pc' : Nat} {lc' : pL} {st' : List Value} {w' : pW} (h : astep pp F Gm tx xs L M d ins pc lc st w = some (.inr (.inl (pc', lc', st', w')))) : szOK w w' := by
  have key : (sstep pp F xs L M.1 M.2.2.2.1 (isInit M.2.1) ins pc lc st w).map (fun c => (Sum.inr (Sum.inl c) : pA)) = some (.inr (.inl (pc', lc', st', w'))) → szOK w w' := by
    intro h
    cases hs : sstep pp F xs L M.1 M.2.2.2.1 (isInit M.2.1) ins pc lc st w with
    | none => rw [hs] at h; cases h
    | some c1 =>
      rw [hs] at h
      simp only [Option.map_some, Option.some.injEq, Sum.inr.injEq, Sum.inl.injEq] at h
      subst h
      exact sstep_sz hs
  have kr : ∀ x : Option (Option Value), x.map (fun v => (Sum.inl v : pA)) = some (.inr (.inl (pc', lc', st', w'))) → szOK w w' := by
    intro x h
    cases x <;> cases h
  unfold astep at h
  split at h
  · exact kr _ h
  · exact kr _ h
  · exact kr _ h
  · exact kr _ h
  · unfold acallV at h
    repeat' split at h
    all_goals first
      | (cases h; done)
      | (simp only [Option.some.injEq, Sum.inr.injEq, Sum.inl.injEq, Prod.mk.injEq] at h; obtain ⟨-, -, -, rfl⟩ := h; exact szOK.r _)
  · unfold acallS at h
    repeat' split at h
    all_goals first
      | (cases h; done)
      | (simp only [Option.some.injEq, Sum.inr.injEq, Sum.inl.injEq, Prod.mk.injEq] at h; obtain ⟨-, -, -, rfl⟩ := h; exact szOK.r _)
      | (next hv => simp only [Option.some.injEq, Sum.inr.injEq, Sum.inl.injEq, Prod.mk.injEq] at h; obtain ⟨-, -, -, rfl⟩ := h; exact acpy_sz hv)
  · unfold acallI at h
    repeat' split at h
    all_goals first
      | (cases h; done)
      | (simp only [Option.some.injEq, Sum.inr.injEq, Sum.inl.injEq, Prod.mk.injEq] at h; obtain ⟨-, -, -, rfl⟩ := h; exact szOK.r _)
  · exact key h
theorem run_sz {pp : pP} {F : pF} {Gm : pG} {tx : pT} {xs : Nat → Int32} {L : Nat} : ∀ (n d : Nat) (M : pM) (pc : Nat) (lc : pL) (st : List Value) (w : pW) (v : Option Value) (w' : pW), run pp F Gm tx xs L n d M pc lc st w = some (v, w') → szOK w w' := by
  intro n
  induction n with
  | zero => intro d M pc lc st w v w' h; cases h
  | succ n ih =>
    intro d M pc lc st w v w' h
    simp only [run] at h
    split at h
    · cases h
    · split at h
      · simp only [Option.some.injEq, Prod.mk.injEq] at h
        rw [← h.2]
        exact szOK.r _
      · next hA => exact (astep_sz hA).t (ih _ _ _ _ _ _ _ _ h)
      · split at h
        · cases h
        · split at h
          · next hc => exact (ih _ _ _ _ _ _ _ _ hc).t (ih _ _ _ _ _ _ _ _ h)
          · cases h
      · cases h
/-- what a run of n steps gives the machine -/
def Sim (l : Launch) (pp : pP) (F : pF) (Gm : pG) (tx : pT) (xs : Nat → Int32) (L : Nat) (SX : pX) (tr : List (String × Nat × Nat)) (Z0 : Nat) (G : va_G) (cI cZ cB cJ cE : ClassId) (n : Nat) : Prop :=
  ∀ (d : Nat) (M : pM) (pc : Nat) (lc : pL) (st : List Value) (w : pW) (v : Option Value) (w' : pW), (∀ pc ins, instrAt M pc = some ins → DecAt M.2.2.1 pc ins) → run pp F Gm tx xs L n d M pc lc st w = some (v, w') →
  ∀ (p : Program) (e : Env) (R : Room) (s : State) (m : MethodId) (args : Array Value) (below : List Frame) (meth : Method) (c : Code) (H : Heap) (locs : List Loc) (cells slots : Nat) (Q : State → Prop) (A : Nat → Prop) (ls : Array Slot) (ad : Nat → Nat),
    Cx p s m args meth c G cI cZ cB cJ cE A Z0 M → EXf xs L tr Z0 ad s → SX ad s → d ≤ R.frames ∧ 60 * d ≤ R.locals → cells + (w'.length - w.length) ≤ R.cells ∧ slots + (slW w' - slW w) ≤ R.slots → Rn s G cI cZ cB cJ cE A M.2.2.2.1 ad H locs ls lc w → scS (w.length + 3) st →
    (∀ (ad' : Nat → Nat) (H1 : Heap) (locs1 : List Loc) (pc1 : Nat) (ls1 : Array Slot) (ins : Instr) (st1 : List Value), adX (w.length + 3) ad ad' → DecAt M.2.2.1 pc1 ins → aret M ins st1 = some v → va_P G classes (cW ad' (ctL cI cZ cB cJ cE) w') H1 → va_D A (cW ad' (ctL cI cZ cB cJ cE) w') → va_S A s.heap H1 locs1 → scW (w'.length + 3) w' → scS (w'.length + 3) st1 →
      W p l e R s m args below meth c H1 locs1 (cells + (w'.length - w.length)) (slots + (slW w' - slW w)) Q (F0 m pc1 ls1 (st1.map (cvV ad')))) →
    W p l e R s m args below meth c H locs cells slots Q (F0 m pc ls (st.map (cvV ad)))
theorem aret_ins {M : pM} {ins : Instr} {st : List Value} {v : Option Value} (h : aret M ins st = some v) : (ins = .ireturn ∧ ∃ (x : Int32) (ty : FieldType), st = [.int x] ∧ v = some (.int x) ∧ M.2.2.2.2.1 = some ty ∧ narrow ty (.int x) = .int x) ∨ (ins = .lreturn ∧ ∃ x : Int64, st = [.long x] ∧ v = some (.long x) ∧ M.2.2.2.2.1 = some .long) ∨ (ins = .areturn ∧ ∃ (x : Nat) (C : String), st = [.ref x] ∧ v = some (.ref x) ∧ M.2.2.2.2.1 = some (.object C)) ∨ (ins = .return_ ∧ st = [] ∧ v = none ∧ M.2.2.2.2.1 = none) := by
  unfold aret at h
  split at h
  · next x hm => exact Or.inl ⟨rfl, x, .int, rfl, (Option.some.inj h).symm, hm, rfl⟩
  · next x hm =>
    split at h
    · next hx =>
      refine Or.inl ⟨rfl, x, .boolean, rfl, (Option.some.inj h).symm, hm, ?_⟩
      rcases hx with rfl | rfl <;> decide
    · cases h
  · next x hm => exact Or.inr (Or.inl ⟨rfl, x, rfl, (Option.some.inj h).symm, hm⟩)
  · next x C hm => exact Or.inr (Or.inr (Or.inl ⟨rfl, x, C, rfl, (Option.some.inj h).symm, hm⟩))
  · next hm => exact Or.inr (Or.inr (Or.inr ⟨rfl, rfl, (Option.some.inj h).symm, hm⟩))
  · cases h
theorem va_A.z {ad : Nat → Nat} {ct : Nat → ClassId} {w : pW} {sz Z0 : Nat} (hD : va_D (fun q => Z0 ≤ q) (cW ad ct w)) (hz : Z0 ≤ sz) : ∀ q, va_A (cW ad ct w) sz q → Z0 ≤ q := by
  intro q h
  rcases h with ⟨k, e, h⟩ | h
  · exact hD.2 k (q, e) h
  · exact Nat.le_trans hz h
/-- a run is a contract -/
theorem met_of {l : Launch} {pp : pP} {F : pF} {Gm : pG} {tx : pT} {xs : Nat → Int32} {L : Nat} {SX : pX} {tr : List (String × Nat × Nat)} {Z0 : Nat} {G : va_G} {cI cZ cB cJ cE : ClassId} {n : Nat} (hS : Sim l pp F Gm tx xs L SX tr Z0 G cI cZ cB cJ cE n) {d : Nat} {M : pM} {na : Nat} {as : List Value} {w : pW} {v : Option Value} {w' : pW} (hM : MOK M na) (hr : run pp F Gm tx xs L n d M 0 (lArgs 0 as) [] w = some (v, w')) (hc : cats as ≤ M.2.2.2.1) (hsw : scW (w.length + 3) w) (hsa : scS (w.length + 3) as) (ad : Nat → Nat) (sz : Nat) :
    Met l M.2.1 (.code M.2.1 M.2.2.1 M.2.2.2.1 M.2.2.2.2.1 :: wt) { frames := d, cells := w'.length - w.length, slots := slW w' - slW w, locals := 60 * d } (va_Pc (as.map (cvV ad)) (PreP SX xs L tr Z0 G cI cZ cB cJ cE ad w sz)) (QP G cI cZ cB cJ cE ad w sz v w') (w'.length - w.length) (slW w' - slW w) (va_A (cW ad (ctL cI cZ cB cJ cE) w) sz) := by
  refine Met.ofW (cc := M.2.2.1) (maxL := M.2.2.2.1) (ret := M.2.2.2.2.1) hM.2.2.1 rfl ?_
  intro p e s m args below meth c s₁ B hml hv
  obtain ⟨ha, hsz, hP, hK, hD, hX, hSx, hZ⟩ := hv
  subst hsz
  have hlocks := B.notSynchronized
  have hts := atoms_spec (ws := .code M.2.1 M.2.2.1 M.2.2.2.1 M.2.2.2.2.1 :: wt) B.pre
  have hlen : (lg_sl (as.map (cvV ad))).length ≤ M.2.2.2.1 := by rw [lg_len]; unfold cats; rw [cats_cv]; exact hc
  have hl := lv_entry (as.map (cvV ad)) hlen
  have hfr : entryFrame m args M.2.2.2.1 = F0 m 0 ((lg_sl (as.map (cvV ad)) ++ List.replicate (M.2.2.2.1 - (lg_sl (as.map (cvV ad))).length) Slot.unset).toArray) [] := by rw [ha]; exact lg_entry_eq m (as.map (cvV ad)) M.2.2.2.1
  rw [hfr]
  rw [lArgs_cv] at hl
  have C : Cx p s m args meth c G cI cZ cB cJ cE (va_A (cW ad (ctL cI cZ cB cJ cE) w) s.heap.size) Z0 M := ⟨B.exec, B.bytes, hml, fun w hw => hts w (List.mem_cons_of_mem _ hw), findClass_of_methodNamed B.named, hK, fun q h => Or.inr h, va_A.z hD hZ, (name_of_methodNamed B.named B.method).1, hM.2.2.2.1, hZ⟩
  refine hS d M 0 (lArgs 0 as) [] w v w' hM.1 hr p e _ s m args below meth c s.heap [] 0 0 _ (va_A (cW ad (ctL cI cZ cB cJ cE) w) s.heap.size) _ ad C hX hSx ⟨Nat.le_refl _, Nat.le_refl _⟩ ⟨Nat.le_of_eq (Nat.zero_add _), Nat.le_of_eq (Nat.zero_add _)⟩ ⟨hP, hD.self, va_S.rf, hl, hsw, lArgs_sc hsa⟩ (fun _ h => by cases h) ?_
  intro ad' H1 locs1 pc1 ls1 ins st1 hadx hd hret q1 q2 q3 q4 q5
  rw [Nat.zero_add, Nat.zero_add]
  have hq : ∀ t : State, t.heap = H1 → (∀ x, v = some x → scV (w'.length + 3) x) → QP G cI cZ cB cJ cE ad w s.heap.size v w' args s (.returned (v.map (cvV ad'))) t := fun t ht hx => ⟨⟨ad', hadx, rfl, by rw [ht]; exact q1, q2, q4, hx⟩, q3.F ht⟩
  rcases aret_ins hret with ⟨rfl, x, ty, rfl, rfl, hm, hn⟩ | ⟨rfl, x, rfl, rfl, hm⟩ | ⟨rfl, x, Cn, rfl, rfl, hm⟩ | ⟨rfl, rfl, rfl, hm⟩
  · exact W.zret B.exec B.bytes (B.returns.trans hm) hn (fun t ht _ => hq t ht (fun y hy => by cases hy; exact scV_int _ _)) q3.2.2 (hd.d rfl)
  · exact W.lret B.exec B.bytes (B.returns.trans hm) (fun t ht _ => hq t ht (fun y hy => by cases hy; exact scV_long _ _)) q3.2.2 (hd.d rfl)
  · exact W.aret B.exec B.bytes (B.returns.trans hm) (Or.inl ⟨Cn, rfl⟩) (Or.inr ⟨_, rfl⟩) (fun t ht _ => hq t ht (fun y hy => by cases hy; exact scS_h q5)) q3.2.2 (hd.d rfl)
  · exact W.vret B.exec B.bytes (B.returns.trans hm) (fun t ht _ => hq t ht (fun y hy => by cases hy)) q3.2.2 (hd.d rfl)
end SIM

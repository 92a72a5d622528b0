/-! what is frozen, and writes of it: a log among the facts (100 + k: row k at a is b; 300 + f: field f is a) -/
abbrev pR : Type := (Nat → Nat → Int32) × (Nat → Int32)
def FZ (KT : List Kd) (ks : List Nat) (R : pR) (w : pW) : Prop := (∀ (i k n : Nat) (d : Ds), ks[i]? = some k → KT[k]? = some (.inr (0, n, d)) → d.1 = 5 → w[i]? = some (.inl (0, n, .inl (R.1 k)))) ∧ ∀ (i k ci : Nat) (fds : List Ds), ks[i]? = some k → KT[k]? = some (.inl (ci, fds)) → ∃ fs : List Value, w[i]? = some (.inr (ci, fs)) ∧ ∀ (f : Nat) (d : Ds), fds[f]? = some d → d.1 = 5 → fs[f]? = some (.int (R.2 f))
def intV (v : Value) : Int32 := match v with
  | .int x => x
  | _ => 0
def wrR (ρ : Nat → Value) (f : Fa) (R : pR) : pR := if f.1 < 300 then (fun k => if k = f.1 - 100 then upd (R.1 k) (intV (ρ f.2.1)).toNatClampNeg (intV (ρ f.2.2.1)) else R.1 k, R.2) else (R.1, fun g => if g = f.1 - 300 then intV (ρ f.2.1) else R.2 g)
def lgF (me : List Fa) : List Fa := me.filter (fun f => Nat.ble 100 f.1 && Nat.ble f.1 999)
def evL (ρ : Nat → Value) : List Fa → pR → pR
  | [], R => R
  | f :: l, R => wrR ρ f (evL ρ l R)
def lgEq (a b : aS) : Bool := lgF a.2.2.2.1 == lgF b.2.2.2.1
/-- kinds with nothing frozen -/
def thD (d : Ds) : Ds := if Nat.beq d.1 5 then (0, d.2.1, d.2.2) else d
def thK (kd : Kd) : Kd := match kd with
  | .inl o => .inl (o.1, o.2.map thD)
  | .inr r => .inr (r.1, r.2.1, thD r.2.2)
def thaw (KT : List Kd) : List Kd := KT.map thK
def logS (f : Fa) (q : Nat × aS) : Nat × aS := (q.1, (q.2.1, q.2.2.1, q.2.2.2.1, f :: q.2.2.2.2.1, q.2.2.2.2.2))
def zSt (E : Env) (M : pM) (σ : aS) (ins : Instr) (pc : Nat) : Option (Nat × aS) := match ins with
  | .iastore => match σ.2.2.1 with
    | v :: i :: a :: _ => match kdS σ.1 a with
      | some k => match E.1[k]? with
        | some (.inr (0, _, (5, _, _))) => if Nat.ble k 199 then (match astA (thaw E.1) E.2.2.2.2.1 σ [0] (pc + 1) with
          | some [q] => if lgEq q.2 σ then some (logS (100 + k, i, v, 0) q) else none
          | _ => none) else none
        | _ => none
      | none => none
    | _ => none
  | .putfield ix => match σ.2.2.1, E.2.2.1.1 M.1 ix with
    | v :: o :: _, some (_, f) => match kdS σ.1 o with
      | some k => match E.1[k]? with
        | some (.inl (_, fds)) => match fds[f]? with
          | some (5, _, _) => if Nat.ble f 699 && isI σ.1 v then (match putA (thaw E.1) E.2.1 E.2.2.1 E.2.2.2.2.1 M.1 σ ix (pc + 3) with
            | some [q] => if lgEq q.2 σ then some (logS (300 + f, v, v, 0) q) else none
            | _ => none) else none
          | _ => none
        | _ => none
      | none => none
    | _, _ => none
  | _ => none
def ezI (E : Env) (ih : ExT) (d : Nat) (M : pM) (an : List (Nat × List An)) (cuts : List Nat) (pr : Bool) (pc : Nat) (σ : aS) : Option (List Out) := match insA M pc with
  | none => none
  | some ins => if isRet ins then (match retA M ins σ with
      | some o => some [o]
      | none => none)
    else match isInv ins with
    | some i => match E.2.2.1.2.2.2 M.1 i with
      | some (op, j) => if opOK ins op then (if Nat.beq op 0 || Nat.beq op 6 then (match calA E.1 E.2.2.2.1 σ op j with
          | some (M', args, r) => match d with
            | 0 => none
            | d' + 1 => match tkC σ E.2.2.2.2.1 d j args r E.2.2.2.2.2.1 with
              | some l => if l.all (fun τ => lgEq τ σ) then cat (fun τ => ih d M an cuts false (pc + 3) τ) l else none
              | none => match ih d' M' (asL E.2.2.2.2.2.2.1 j) [] true 0 (σ.1, lArgsA σ.1 0 args, [], σ.2.2.2.1, σ.2.2.2.2) with
                | some outs => match backI σ (pc + 3) r outs with
                  | some l => cat (fun q => ih d M an cuts false q.1 q.2) l
                  | none => none
                | none => none
          | none => none)
        else (match jdkA E.1 E.2.2.2.2.1 σ op d with
          | some τ => if lgEq τ σ then ih d M an cuts false (pc + 3) τ else none
          | none => none)) else none
      | none => none
    | none => match zSt E M σ ins pc with
      | some q => ih d M an cuts false q.1 q.2
      | none => match (if pr then prA σ ins pc else ai1 E.1 E.2.1 E.2.2.1 E.2.2.2.2.1 M.1 M.2.2.2.1 σ ins pc) with
        | some l => if l.all (fun q => lgEq q.2 σ) then cat (fun q => ih d M an cuts false q.1 q.2) l else none
        | none => none
def ezB (E : Env) (ih : ExT) : ExT := fun d M an cuts first pc σ => if !first && cuts.any (fun p => Nat.beq p pc) then some [(.inl pc, σ)] else match anL E.1 (asL an pc) σ with
  | some l => if l.all (fun τ => lgEq τ σ) then cat (fun τ => ezI E ih d M an cuts (isPr (asL an pc)) pc τ) l else none
  | none => none
noncomputable def ez (E : Env) (n : Nat) : ExT := Nat.rec (motive := fun _ => ExT) (fun _ _ _ _ _ _ _ => none) (fun _ ih => ezB E ih) n
section EZO
variable {KT : List Kd} {ks : List Nat} {P n0 : Nat} {ρ0 : Nat → Value} {eff : List (Nat × Nat)} {w0 : pW} {σ : aS} {ρ : Nat → Value} {lc : pL} {st : List Value} {w : pW}
variable {pp : pP} {F : pF} {Gm : pG} {xs : Nat → Int32} {L d : Nat} {M : pM} {pc : Nat} {R R0 : pR} {E : Env}
theorem FZ_xs : XS KT ks (FZ KT ks R) := by
  intro w w' hF hR
  obtain ⟨h1, h2⟩ := hR
  refine ⟨fun i k n d hi hK hd => ?_, fun i k ci fds hi hK => ?_⟩
  · have := hF i k _ hi hK
    simp only at this
    rw [this hd]
    exact h1 i k n d hi hK hd
  · obtain ⟨fs, e1, e2⟩ := h2 i k ci fds hi hK
    have := hF i k _ hi hK
    simp only at this
    obtain ⟨fs', e3, e4⟩ := this ci fs e1
    exact ⟨fs', e3, fun f d hf hd => by rw [e4 f d hf hd]; exact e2 f d hf hd⟩
/-- frozen rows are there once, and one object alone has frozen fields, once -/
def Uq (KT : List Kd) (ks : List Nat) : Prop := (∀ (i j k n : Nat) (d : Ds), ks[i]? = some k → ks[j]? = some k → KT[k]? = some (.inr (0, n, d)) → d.1 = 5 → i = j) ∧ ∀ (i j k k' ci ci' f f' : Nat) (fds fds' : List Ds) (d d' : Ds), ks[i]? = some k → ks[j]? = some k' → KT[k]? = some (.inl (ci, fds)) → KT[k']? = some (.inl (ci', fds')) → fds[f]? = some d → d.1 = 5 → fds'[f']? = some d' → d'.1 = 5 → i = j
def GZ (KT : List Kd) (ks : List Nat) (R0 : pR) (P n0 : Nat) (ρ0 : Nat → Value) (eff : List (Nat × Nat)) (w0 : pW) (σ : aS) (ρ : Nat → Value) (lc : pL) (st : List Value) (w : pW) : Prop := Ga KT (FZ KT ks (evL ρ (lgF σ.2.2.2.1) R0)) ks P n0 ρ0 eff w0 σ ρ lc st w
theorem evL_ext {ρ' : Nat → Value} {n : Nat} (h : ∀ s, s < n → ρ' s = ρ s) : ∀ {l : List Fa}, (∀ f ∈ l, f.2.1 < n ∧ f.2.2.1 < n) → evL ρ' l R0 = evL ρ l R0
  | [], _ => rfl
  | f :: l, hl => by
    have h1 := hl f List.mem_cons_self
    rw [evL, evL, evL_ext h (fun g hg => hl g (List.mem_cons_of_mem _ hg))]
    unfold wrR
    rw [h _ h1.1, h _ h1.2]
theorem lgF_mem {me : List Fa} {f : Fa} (h : f ∈ lgF me) : f ∈ me := (List.mem_filter.mp h).1
/-- a step that leaves the log -/
theorem GZ.go (hG : GZ KT ks R0 P n0 ρ0 eff w0 σ ρ lc st w) {τ : aS} {ρ' : Nat → Value} {lc' : pL} {st' : List Value} {w' : pW} (k : Ga KT (FZ KT ks (evL ρ (lgF σ.2.2.2.1) R0)) ks P σ.1.length ρ eff w0 τ ρ' lc' st' w') (hl : lgEq τ σ = true) : GZ KT ks R0 P n0 ρ0 eff w0 τ ρ' lc' st' w' := by
  unfold lgEq at hl
  have hl := eq_of_beq hl
  have e8 := k.2.2.2.2.2.2.2.1
  have e : evL ρ' (lgF τ.2.2.2.1) R0 = evL ρ (lgF σ.2.2.2.1) R0 := by
    rw [hl]
    exact evL_ext e8 (fun f hf => ⟨(hG.2.2.2.1 f (lgF_mem hf)).2.1, (hG.2.2.2.1 f (lgF_mem hf)).2.2.1⟩)
  unfold GZ
  rw [e]
  exact Ga.ub hG k
end EZO

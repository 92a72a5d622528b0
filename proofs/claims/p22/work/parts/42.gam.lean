/-! what an abstract state means -/
theorem nbe {a b : Nat} : Nat.beq a b = true ↔ a = b := ⟨Nat.eq_of_beq_eq_true, fun h => by rw [h]; exact Nat.beq_refl b⟩
theorem nbl {a b : Nat} : Nat.ble a b = true ↔ a ≤ b := ⟨Nat.le_of_ble_eq_true, Nat.ble_eq_true_of_le⟩
def iv (v : Value) : Int := match v with
  | .int x => x.toInt
  | _ => 0
def okI (a b : Nat) (v : Value) : Prop := ∃ x : Int32, v = .int x ∧ (a : Int) ≤ x.toInt + 2147483648 ∧ x.toInt + 2147483648 ≤ (b : Int)
def okD (ks : List Nat) (B : Nat) (d : Ds) (v : Value) : Prop := match d.1 with
  | 0 => okI d.2.1 d.2.2 v
  | 1 => ∃ i : Nat, v = .ref (i + 3) ∧ ks[i]? = some d.2.1
  | 2 => v = .null ∨ ∃ i : Nat, v = .ref (i + 3) ∧ ks[i]? = some d.2.1
  | 3 => ∃ x : Int32, v = .int x ∧ 0 ≤ x.toInt ∧ x.toInt ≤ (B : Int) + (d.2.1 : Int)
  | 4 => ∃ x : Int64, v = .long x ∧ (1 ≤ d.2.1 → (d.2.2 : Int) ≤ x.toInt ∧ x.toInt < (d.2.1 : Int))
  | 5 => okI d.2.1 d.2.2 v
  | 7 => v = .null
  | 8 => v = .ref d.2.1
  | _ => False
def okE (ks : List Nat) (B : Nat) (kd : Kd) (e : pE) : Prop := match kd, e with
  | .inl o, .inr c => c.1 = o.1 ∧ c.2.length = o.2.length ∧ ∀ (j : Nat) (d : Ds), o.2[j]? = some d → ∃ v : Value, c.2[j]? = some v ∧ okD ks B d v
  | .inr r, .inl c => c.1 = r.1 ∧ c.2.1 = r.2.1 ∧ match c.2.2 with
    | .inl f => (r.1 = 0 ∨ r.1 = 1 ∨ r.1 = 2) ∧ ∀ j : Nat, j < r.2.1 → okD ks B (elD r.2.2 j) (.int (f j))
    | .inr (.inl _) => r.1 = 3
    | .inr (.inr (.inr (.inr f))) => r.1 = 4 ∧ ∀ j : Nat, j < r.2.1 → ∃ i : Nat, f j = some (i + 3) ∧ ks[i]? = some r.2.2.2.1
    | _ => False
  | _, _ => False
def Typed (KT : List Kd) (ks : List Nat) (B : Nat) (w : pW) : Prop := w.length = ks.length ∧ ∀ (i k : Nat), ks[i]? = some k → ∃ (kd : Kd) (e : pE), KT[k]? = some kd ∧ w[i]? = some e ∧ okE ks B kd e
/-- a value may stand at place j of a row by places -/
def okH (B : Nat) (j : Int) (v : Int) : Prop := 0 ≤ j ∧ match hcls (j.toNat % 62) with
  | (3, _, _) => 0 ≤ v ∧ v ≤ (B : Int)
  | d => (d.2.1 : Int) ≤ v + 2147483648 ∧ v + 2147483648 ≤ (d.2.2 : Int)
def okF (P : Nat) (ρ : Nat → Value) (w : pW) (f : Fa) : Prop :=
  (f.1 = 2 → ∃ (i : Nat) (x : Int32) (t n : Nat) (g : Nat → Int32), ρ f.2.1 = .ref i ∧ ρ f.2.2.1 = .int x ∧ wAt w i = some (.inl (t, n, .inl g)) ∧ ρ f.2.2.2 = .int (g x.toNatClampNeg) ∧ 0 ≤ x.toInt) ∧
  (f.1 = 3 → (∃ y : Int32, ρ f.2.2.2 = .int y) ∧ iv (ρ f.2.2.2) = iv (ρ f.2.1) + iv (ρ f.2.2.1)) ∧ (f.1 = 4 → (∃ y : Int32, ρ f.2.2.2 = .int y) ∧ iv (ρ f.2.2.2) = iv (ρ f.2.1) - iv (ρ f.2.2.1)) ∧ (f.1 = 5 → (∃ y : Int32, ρ f.2.2.2 = .int y) ∧ iv (ρ f.2.2.2) = iv (ρ f.2.1) * iv (ρ f.2.2.1)) ∧
  (f.1 = 10 → iv (ρ f.2.1) ≤ iv (ρ f.2.2.1) + (f.2.2.2 : Int) - 2147483648) ∧ (f.1 = 11 → iv (ρ f.2.1) ≠ iv (ρ f.2.2.1)) ∧
  (f.1 = 12 → okH (P + f.2.2.2) (iv (ρ f.2.2.1)) (iv (ρ f.2.1))) ∧
  (1000 ≤ f.1 → ∃ (i ci : Nat) (fs : List Value), ρ f.2.1 = .ref i ∧ wAt w i = some (.inr (ci, fs)) ∧ fs[f.1 - 1000]? = some (ρ f.2.2.2))
def fsc (n : Nat) (f : Fa) : Prop := f.2.1 < n ∧ f.2.2.1 < n ∧ (f.1 = 10 ∨ f.1 = 11 ∨ f.1 = 12 ∨ f.2.2.2 < n)
/-- what a run may have changed -/
def Ef (ks : List Nat) (eff : List (Nat × Nat)) (w w' : pW) : Prop := ∀ (i k : Nat), ks[i]? = some k → ((k, 999) ∉ eff → (∀ a : Nat × vp_A, w[i]? = some (.inl a) → w'[i]? = some (.inl a))) ∧ ∀ (ci : Nat) (fs : List Value), w[i]? = some (.inr (ci, fs)) → ∃ fs' : List Value, w'[i]? = some (.inr (ci, fs')) ∧ ∀ j : Nat, (k, j) ∉ eff → fs'[j]? = fs[j]?
def Frz (KT : List Kd) (ks : List Nat) (w w' : pW) : Prop := ∀ (i k : Nat) (kd : Kd), ks[i]? = some k → KT[k]? = some kd → match kd with
  | .inl o => ∀ (ci : Nat) (fs : List Value), w[i]? = some (.inr (ci, fs)) → ∃ fs' : List Value, w'[i]? = some (.inr (ci, fs')) ∧ ∀ (j : Nat) (d : Ds), o.2[j]? = some d → d.1 = 5 → fs'[j]? = fs[j]?
  | .inr r => r.2.2.1 = 5 → w'[i]? = w[i]?
def PMax : Nat := 2130706432
def Ga (KT : List Kd) (X : pW → Prop) (ks : List Nat) (P n0 : Nat) (ρ0 : Nat → Value) (eff : List (Nat × Nat)) (w0 : pW) (σ : aS) (ρ : Nat → Value) (lc : pL) (st : List Value) (w : pW) : Prop :=
  (∀ (s : Nat) (d : Ds), σ.1[s]? = some d → okD ks P d (ρ s)) ∧ (∀ q ∈ σ.2.1, lGet lc q.1 = some (ρ q.2) ∧ q.2 < σ.1.length) ∧ (st = σ.2.2.1.map ρ ∧ ∀ s : Nat, s ∈ σ.2.2.1 → s < σ.1.length) ∧ (∀ f ∈ σ.2.2.2.1, okF P ρ w f ∧ fsc σ.1.length f) ∧
  Typed KT ks (P + σ.2.2.2.2) w ∧ X w ∧ Ef ks eff w0 w ∧ (∀ s, s < n0 → ρ s = ρ0 s) ∧ n0 ≤ σ.1.length ∧ P ≤ PMax ∧ σ.2.2.2.2 ≤ CrMax
def upS (ρ : Nat → Value) (n : Nat) (v : Value) : Nat → Value := fun s => if s = n then v else ρ s
theorem upS_eq (ρ : Nat → Value) (n : Nat) (v : Value) : upS ρ n v n = v := by simp [upS]
theorem upS_ne {ρ : Nat → Value} {n s : Nat} {v : Value} (h : s < n) : upS ρ n v s = ρ s := by simp only [upS]; rw [if_neg (by omega)]
theorem okF_x {P : Nat} {ρ ρ' : Nat → Value} {w : pW} {f : Fa} {n : Nat} (hf : fsc n f) (hx : ∀ s, s < n → ρ' s = ρ s) (h : okF P ρ w f) : okF P ρ' w f := by
  obtain ⟨s1, s2, s3⟩ := hf
  obtain ⟨h2, h3, h4, h5, h10, h11, h12, hk⟩ := h
  have e1 := hx _ s1
  have e2 := hx _ s2
  have e3 : f.1 = 10 ∨ f.1 = 11 ∨ f.1 = 12 ∨ ρ' f.2.2.2 = ρ f.2.2.2 := by
    rcases s3 with h | h | h | h
    · exact Or.inl h
    · exact Or.inr (Or.inl h)
    · exact Or.inr (Or.inr (Or.inl h))
    · exact Or.inr (Or.inr (Or.inr (hx _ h)))
  have e4 : ∀ {c : Nat}, c ≠ 10 → c ≠ 11 → c ≠ 12 → f.1 = c → ρ' f.2.2.2 = ρ f.2.2.2 := by
    intro c c1 c2 c3 hc
    rcases e3 with h | h | h | h
    · exact absurd (hc.symm.trans h) c1
    · exact absurd (hc.symm.trans h) c2
    · exact absurd (hc.symm.trans h) c3
    · exact h
  refine ⟨fun q => ?_, fun q => ?_, fun q => ?_, fun q => ?_, fun q => ?_, fun q => ?_, fun q => ?_, fun q => ?_⟩
  · rw [e1, e2, e4 (by decide) (by decide) (by decide) q]; exact h2 q
  · rw [e1, e2, e4 (by decide) (by decide) (by decide) q]; exact h3 q
  · rw [e1, e2, e4 (by decide) (by decide) (by decide) q]; exact h4 q
  · rw [e1, e2, e4 (by decide) (by decide) (by decide) q]; exact h5 q
  · rw [e1, e2]; exact h10 q
  · rw [e1, e2]; exact h11 q
  · rw [e1, e2]; exact h12 q
  · rw [e1, e4 (c := f.1) (by omega) (by omega) (by omega) rfl]; exact hk q
theorem fsc_up {n n' : Nat} {f : Fa} (h : fsc n f) (hn : n ≤ n') : fsc n' f := ⟨Nat.lt_of_lt_of_le h.1 hn, Nat.lt_of_lt_of_le h.2.1 hn, h.2.2.elim Or.inl (fun h => Or.inr (h.elim Or.inl (fun h => Or.inr (h.elim Or.inl (fun h => Or.inr (Nat.lt_of_lt_of_le h hn))))))⟩
section GAM
variable {KT : List Kd} {X : pW → Prop} {ks : List Nat} {P n0 : Nat} {ρ0 : Nat → Value} {eff : List (Nat × Nat)} {w0 : pW} {σ : aS} {ρ : Nat → Value} {lc : pL} {st : List Value} {w : pW}
theorem Ga.ds (h : Ga KT X ks P n0 ρ0 eff w0 σ ρ lc st w) {s : Nat} {d : Ds} (hs : σ.1[s]? = some d) : okD ks P d (ρ s) := h.1 s d hs
theorem Ga.pu (h : Ga KT X ks P n0 ρ0 eff w0 σ ρ lc st w) {d : Ds} {v : Value} (hd : okD ks P d v) {fs : Nat → List Fa} (hf : ∀ f ∈ fs σ.1.length, okF P (upS ρ σ.1.length v) w f ∧ fsc (σ.1.length + 1) f) : Ga KT X ks P n0 ρ0 eff w0 (push σ d fs) (upS ρ σ.1.length v) lc (v :: st) w := by
  obtain ⟨g1, g2, ⟨g3, g3'⟩, g4, g5, g6, g7, g8, g9, g10, g11⟩ := h
  have hx : ∀ s, s < σ.1.length → upS ρ σ.1.length v s = ρ s := fun s hs => upS_ne hs
  have hlen : (σ.1 ++ [d]).length = σ.1.length + 1 := by simp
  refine ⟨?_, ?_, ⟨?_, ?_⟩, ?_, g5, g6, g7, ?_, ?_, g10, g11⟩
  · intro s e hs
    simp only [push] at hs
    by_cases hl : s < σ.1.length
    · rw [List.getElem?_append_left hl] at hs
      rw [hx s hl]
      exact g1 s e hs
    · rw [List.getElem?_append_right (by omega)] at hs
      have hz : s - σ.1.length < 1 := (List.getElem?_eq_some_iff.mp hs).1
      have he : s = σ.1.length := by omega
      subst he
      rw [Nat.sub_self] at hs
      cases hs
      rw [upS_eq]
      exact hd
  · intro q hq
    obtain ⟨a1, a2⟩ := g2 q hq
    simp only [push]
    rw [hlen]
    exact ⟨by rw [hx _ a2]; exact a1, by omega⟩
  · simp only [push, List.map_cons, upS_eq]
    rw [g3]
    congr 1
    exact List.map_congr_left (fun s hs => (hx s (g3' s hs)).symm)
  · intro s hs
    simp only [push] at hs ⊢
    rw [hlen]
    rcases List.mem_cons.mp hs with rfl | hs
    · omega
    · have := g3' s hs
      omega
  · intro f hf'
    simp only [push] at hf' ⊢
    rw [hlen]
    rcases List.mem_append.mp hf' with h | h
    · exact hf f h
    · obtain ⟨a1, a2⟩ := g4 f h
      exact ⟨okF_x a2 hx a1, fsc_up a2 (by omega)⟩
  · intro s hs
    rw [hx s (Nat.lt_of_lt_of_le hs g9)]
    exact g8 s hs
  · simp only [push]
    rw [hlen]
    omega
theorem Ga.st1 (h : Ga KT X ks P n0 ρ0 eff w0 σ ρ lc st w) {r : List Nat} (hr : ∀ s ∈ r, s ∈ σ.2.2.1) : Ga KT X ks P n0 ρ0 eff w0 (setSt σ r) ρ lc (r.map ρ) w :=
  ⟨h.1, h.2.1, ⟨rfl, fun s hs => h.2.2.1.2 s (hr s hs)⟩, h.2.2.2.1, h.2.2.2.2⟩
theorem Ga.stk (h : Ga KT X ks P n0 ρ0 eff w0 σ ρ lc st w) {r : List Nat} (hr : ∀ s ∈ r, s < σ.1.length) : Ga KT X ks P n0 ρ0 eff w0 (setSt σ r) ρ lc (r.map ρ) w :=
  ⟨h.1, h.2.1, ⟨rfl, hr⟩, h.2.2.2.1, h.2.2.2.2⟩
theorem okD_int {B : Nat} {d : Ds} {v : Value} (h : okD ks B d v) (ht : d.1 = 0 ∨ d.1 = 3) : ∃ x : Int32, v = .int x := by
  obtain ⟨t, a, b⟩ := d
  rcases ht with rfl | rfl
  · obtain ⟨x, h, -⟩ := h; exact ⟨x, h⟩
  · obtain ⟨x, h, -⟩ := h; exact ⟨x, h⟩
theorem i32_lo (x : Int32) : -2147483648 ≤ x.toInt ∧ x.toInt ≤ 2147483647 := by
  have h1 := Int32.le_toInt x
  have h2 := Int32.toInt_lt x
  constructor <;> omega
theorem okI_full (x : Int32) : okI 0 Mx (.int x) := ⟨x, rfl, by have := i32_lo x; omega, by have := i32_lo x; simp only [Mx]; omega⟩
theorem rng_ok {B : Nat} {d : Ds} {v : Value} {a b : Nat} (h : okD ks B d v) (hr : rng d = some (a, b)) : okI a b v := by
  obtain ⟨t, p, q⟩ := d
  unfold rng at hr
  split at hr
  · next ht =>
    simp only at ht
    subst ht
    simp only [Option.some.injEq, Prod.mk.injEq] at hr
    obtain ⟨rfl, rfl⟩ := hr
    exact h
  · next ht =>
    simp only at ht
    subst ht
    simp only [Option.some.injEq, Prod.mk.injEq] at hr
    obtain ⟨rfl, rfl⟩ := hr
    obtain ⟨x, rfl, h1, h2⟩ := h
    refine ⟨x, rfl, ?_, ?_⟩
    · simp only [Zb]; omega
    · have := i32_lo x; simp only [Mx]; omega
  · cases hr
theorem Ga.rg (h : Ga KT X ks P n0 ρ0 eff w0 σ ρ lc st w) {s a b : Nat} (hr : rngS σ.1 s = some (a, b)) : okI a b (ρ s) := by
  unfold rngS at hr
  split at hr
  · next d hd => exact rng_ok (h.1 s d hd) hr
  · cases hr
theorem Ga.tI (h : Ga KT X ks P n0 ρ0 eff w0 σ ρ lc st w) {s : Nat} (hs : isI σ.1 s = true) : ∃ x : Int32, ρ s = .int x := by
  unfold isI tagS at hs
  cases hd : σ.1[s]? with
  | none => rw [hd] at hs; simp at hs
  | some d =>
    rw [hd] at hs
    simp only [Bool.or_eq_true, nbe] at hs
    exact okD_int (h.1 s d hd) hs
theorem Ga.tJ (h : Ga KT X ks P n0 ρ0 eff w0 σ ρ lc st w) {s : Nat} (hs : isJ σ.1 s = true) : ∃ x : Int64, ρ s = .long x := by
  unfold isJ tagS at hs
  cases hd : σ.1[s]? with
  | none => rw [hd] at hs; simp at hs
  | some d =>
    rw [hd] at hs
    simp only [nbe] at hs
    have := h.1 s d hd
    obtain ⟨t, a, b⟩ := d
    simp only at hs
    subst hs
    obtain ⟨x, e, -⟩ := this
    exact ⟨x, e⟩
theorem Ga.tA (h : Ga KT X ks P n0 ρ0 eff w0 σ ρ lc st w) {s : Nat} (hs : isA σ.1 s = true) : ρ s = .null ∨ ∃ i, ρ s = .ref i := by
  unfold isA tagS at hs
  cases hd : σ.1[s]? with
  | none => rw [hd] at hs; simp at hs
  | some d =>
    rw [hd] at hs
    have hk := h.1 s d hd
    obtain ⟨t, a, b⟩ := d
    simp only [Bool.or_eq_true, nbe] at hs
    rcases hs with hs | hs | hs | hs <;> subst hs
    · obtain ⟨i, e, -⟩ := hk; exact Or.inr ⟨_, e⟩
    · exact Or.inr ⟨_, hk⟩
    · rcases hk with e | ⟨i, e, -⟩
      · exact Or.inl e
      · exact Or.inr ⟨_, e⟩
    · exact Or.inl hk
theorem Ga.tN (h : Ga KT X ks P n0 ρ0 eff w0 σ ρ lc st w) {s : Nat} (hs : isNN σ.1 s = true) : ∃ i, ρ s = .ref i := by
  unfold isNN tagS at hs
  cases hd : σ.1[s]? with
  | none => rw [hd] at hs; simp at hs
  | some d =>
    rw [hd] at hs
    have hk := h.1 s d hd
    obtain ⟨t, a, b⟩ := d
    simp only [Bool.or_eq_true, nbe] at hs
    rcases hs with hs | hs <;> subst hs
    · obtain ⟨i, e, -⟩ := hk; exact ⟨_, e⟩
    · exact ⟨_, hk⟩
theorem Ga.t1 (h : Ga KT X ks P n0 ρ0 eff w0 σ ρ lc st w) {s : Nat} (hs : is1 σ.1 s = true) : isCat1 (ρ s) = true := by
  unfold is1 at hs
  simp only [Bool.or_eq_true] at hs
  rcases hs with hs | hs
  · obtain ⟨x, e⟩ := h.tI hs; rw [e]; rfl
  · rcases h.tA hs with e | ⟨i, e⟩ <;> rw [e] <;> rfl
theorem Ga.kd (h : Ga KT X ks P n0 ρ0 eff w0 σ ρ lc st w) {s k : Nat} (hs : kdS σ.1 s = some k) : ∃ i, ρ s = .ref (i + 3) ∧ ks[i]? = some k := by
  unfold kdS at hs
  split at hs
  · next hd =>
    have := h.1 s _ hd
    simp only [Option.some.injEq] at hs
    subst hs
    exact this
  · cases hs
end GAM

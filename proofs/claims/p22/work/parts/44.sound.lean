/-! each step of the abstract machine is a step of the pure one -/
def Nx (KT : List Kd) (X : pW → Prop) (ks : List Nat) (P n0 : Nat) (ρ0 : Nat → Value) (eff : List (Nat × Nat)) (w0 : pW) (pp : pP) (F : pF) (xs : Nat → Int32) (L own nL : Nat) (ini : Bool) (ins : Instr) (pc : Nat) (lc : pL) (st : List Value) (w : pW) (l : List (Nat × aS)) : Prop :=
  ∃ q ∈ l, ∃ (ρ' : Nat → Value) (lc' : pL) (st' : List Value) (w' : pW), sstep pp F xs L own nL ini ins pc lc st w = some (q.1, lc', st', w') ∧ Ga KT X ks P n0 ρ0 eff w0 q.2 ρ' lc' st' w'
theorem lGet_eq (lc : pL) (i : Nat) (v : Value) : lGet (lSet1 lc i v) i = some v := by simp [lGet, lSet1]
theorem find_flt {α : Type} {p f : α → Bool} : ∀ {l : List α} {a : α}, l.find? p = some a → f a = true → (l.filter f).find? p = some a
  | [], _, h, _ => by cases h
  | b :: t, a, h, hf => by
    by_cases hb : p b = true
    · rw [List.find?_cons, hb] at h
      simp only [Option.some.injEq] at h
      subst h
      rw [List.filter_cons, if_pos hf, List.find?_cons, hb]
    · have hb : p b = false := by simpa using hb
      rw [List.find?_cons, hb] at h
      have ih := find_flt (l := t) h hf
      rw [List.filter_cons]
      split
      · rw [List.find?_cons, hb]; exact ih
      · exact ih
theorem lGet_ne {lc : pL} {i j : Nat} {u v : Value} (hj : j ≠ i) (h : lGet lc j = some u) (hc : ¬ (j + 1 = i ∧ u.category = 2)) : lGet (lSet1 lc i v) j = some u := by
  unfold lGet at h ⊢
  cases hf : lc.find? (fun q => q.1 == j) with
  | none => rw [hf] at h; cases h
  | some q =>
    rw [hf] at h
    have h1 := List.find?_some hf
    have h1 : q.1 = j := by simpa using h1
    have h2 : q.2 = u := Option.some.inj h
    have h3 := find_flt (f := (fun q => !(q.1 == i) && !(q.1 + 1 == i && q.2.category == 2))) hf (by
      simp only [Bool.and_eq_true, Bool.not_eq_true', beq_eq_false_iff_ne, ne_eq, Bool.and_eq_false_iff, h1, h2]
      refine ⟨hj, ?_⟩
      by_cases h1 : j + 1 = i
      · exact Or.inr (fun h2 => hc ⟨h1, h2⟩)
      · exact Or.inl h1)
    have h0 : (i == j) = false := by simp; exact Ne.symm hj
    show Option.map (fun q => q.2) (((i, v) :: lc.filter (fun q => !(q.1 == i) && !(q.1 + 1 == i && q.2.category == 2))).find? (fun q => q.1 == j)) = some u
    rw [List.find?_cons, h0]
    simp only [h3, Option.map_some, h2]
theorem lGet_eq2 (lc : pL) (i : Nat) (v : Value) : lGet (lSet2 lc i v) i = some v := by simp [lGet, lSet2]
theorem lGet_ne2 {lc : pL} {i j : Nat} {u v : Value} (hj : j ≠ i) (hj1 : j ≠ i + 1) (h : lGet lc j = some u) (hc : ¬ (j + 1 = i ∧ u.category = 2)) : lGet (lSet2 lc i v) j = some u := by
  unfold lGet at h ⊢
  cases hf : lc.find? (fun q => q.1 == j) with
  | none => rw [hf] at h; cases h
  | some q =>
    rw [hf] at h
    have h1 := List.find?_some hf
    have h1 : q.1 = j := by simpa using h1
    have h2 : q.2 = u := Option.some.inj h
    have h3 := find_flt (f := (fun q => !(q.1 == i) && (!(q.1 == i + 1) && !(q.1 + 1 == i && q.2.category == 2)))) hf (by
      simp only [Bool.and_eq_true, Bool.not_eq_true', beq_eq_false_iff_ne, ne_eq, Bool.and_eq_false_iff, h1, h2]
      refine ⟨hj, hj1, ?_⟩
      by_cases h1 : j + 1 = i
      · exact Or.inr (fun h2 => hc ⟨h1, h2⟩)
      · exact Or.inl h1)
    have h0 : (i == j) = false := by simp; exact Ne.symm hj
    show Option.map (fun q => q.2) (((i, v) :: lc.filter (fun q => !(q.1 == i) && (!(q.1 == i + 1) && !(q.1 + 1 == i && q.2.category == 2)))).find? (fun q => q.1 == j)) = some u
    rw [List.find?_cons, h0]
    simp only [h3, Option.map_some, h2]
section SND
variable {KT : List Kd} {X : pW → Prop} {ks : List Nat} {P n0 : Nat} {ρ0 : Nat → Value} {eff : List (Nat × Nat)} {w0 : pW} {σ : aS} {ρ : Nat → Value} {lc : pL} {st : List Value} {w : pW}
variable {pp : pP} {F : pF} {xs : Nat → Int32} {L own nL : Nat} {ini : Bool} {pc : Nat} {l : List (Nat × aS)}
theorem okD_cI {B : Nat} (x : Int32) : okD ks B (cI x) (.int x) := okI_cI x
theorem nof {P : Nat} {ρ : Nat → Value} {w : pW} {n m : Nat} : ∀ f ∈ nf0 n, okF P ρ w f ∧ fsc m f := fun _ h => by cases h
theorem Ga.stq (h : Ga KT X ks P n0 ρ0 eff w0 σ ρ lc st w) : st = σ.2.2.1.map ρ := h.2.2.1.1
theorem Ga.lg (h : Ga KT X ks P n0 ρ0 eff w0 σ ρ lc st w) {i s : Nat} (hs : lgetA σ.2.1 i = some s) : lGet lc i = some (ρ s) ∧ s < σ.1.length := by
  unfold lgetA at hs
  split at hs
  · next q hq =>
    have h1 := List.mem_of_find?_eq_some hq
    have h2 := List.find?_some hq
    simp only [nbe] at h2
    simp only [Option.some.injEq] at hs
    have := h.2.1 q h1
    rw [h2, hs] at this
    exact this
  · cases hs
theorem isLng_no (h : Ga KT X ks P n0 ρ0 eff w0 σ ρ lc st w) {s : Nat} (hl : isLng σ.1 s = false) : ¬ (ρ s).category = 2 := by
  unfold isLng at hl
  split at hl
  · cases hl
  · next d hnd hd =>
    have hk := h.1 s d hd
    obtain ⟨t, a, b⟩ := d
    intro hc
    unfold okD at hk
    split at hk
    · obtain ⟨x, e, -⟩ := hk; rw [e] at hc; cases hc
    · obtain ⟨x, e, -⟩ := hk; rw [e] at hc; cases hc
    · rcases hk with e | ⟨i, e, -⟩ <;> rw [e] at hc <;> cases hc
    · obtain ⟨x, e, -⟩ := hk; rw [e] at hc; cases hc
    · next ht =>
      simp only at ht
      subst ht
      exact hnd _ _ rfl
    · obtain ⟨x, e, -⟩ := hk; rw [e] at hc; cases hc
    · rw [hk] at hc; cases hc
    · rw [hk] at hc; cases hc
    · exact hk
  · cases hl
theorem Ga.ls (h : Ga KT X ks P n0 ρ0 eff w0 σ ρ lc st w) {i s : Nat} {r : List Nat} (hs : s < σ.1.length) (hr : ∀ s ∈ r, s < σ.1.length) : Ga KT X ks P n0 ρ0 eff w0 (σ.1, lsetA σ.1 σ.2.1 i s, r, σ.2.2.2.1, σ.2.2.2.2) ρ (lSet1 lc i (ρ s)) (r.map ρ) w := by
  refine ⟨h.1, ?_, ⟨rfl, hr⟩, h.2.2.2.1, h.2.2.2.2⟩
  intro q hq
  rcases List.mem_cons.mp hq with rfl | hq
  · exact ⟨lGet_eq _ _ _, hs⟩
  · obtain ⟨h1, h2⟩ := List.mem_filter.mp hq
    obtain ⟨g1, g2⟩ := h.2.1 q h1
    simp only [Bool.and_eq_true, Bool.not_eq_true', Bool.and_eq_false_iff] at h2
    have hne : q.1 ≠ i := fun e => by rw [nbe.mpr e] at h2; exact absurd h2.1 (by decide)
    refine ⟨lGet_ne hne g1 (fun e => ?_), g2⟩
    rcases h2.2 with h3 | h3
    · rw [nbe.mpr e.1] at h3; cases h3
    · exact isLng_no h h3 e.2
theorem Ga.ls2 (h : Ga KT X ks P n0 ρ0 eff w0 σ ρ lc st w) {i s : Nat} {r : List Nat} (hs : s < σ.1.length) (hr : ∀ s ∈ r, s < σ.1.length) : Ga KT X ks P n0 ρ0 eff w0 (σ.1, lsetA2 σ.1 σ.2.1 i s, r, σ.2.2.2.1, σ.2.2.2.2) ρ (lSet2 lc i (ρ s)) (r.map ρ) w := by
  refine ⟨h.1, ?_, ⟨rfl, hr⟩, h.2.2.2.1, h.2.2.2.2⟩
  intro q hq
  rcases List.mem_cons.mp hq with rfl | hq
  · exact ⟨lGet_eq2 _ _ _, hs⟩
  · obtain ⟨h1, h2⟩ := List.mem_filter.mp hq
    obtain ⟨g1, g2⟩ := h.2.1 q h1
    simp only [Bool.and_eq_true, Bool.not_eq_true', Bool.and_eq_false_iff] at h2
    have hne : q.1 ≠ i := fun e => by rw [nbe.mpr e] at h2; exact absurd h2.1 (by decide)
    have hne2 : q.1 ≠ i + 1 := fun e => by rw [nbe.mpr e] at h2; exact absurd h2.2.1 (by decide)
    refine ⟨lGet_ne2 hne hne2 g1 (fun e => ?_), g2⟩
    rcases h2.2.2 with h3 | h3
    · rw [nbe.mpr e.1] at h3; cases h3
    · exact isLng_no h h3 e.2
theorem Ga.sl (h : Ga KT X ks P n0 ρ0 eff w0 σ ρ lc st w) {s : Nat} (hs : s ∈ σ.2.2.1) : s < σ.1.length := h.2.2.1.2 s hs
theorem okD_cJ {B : Nat} (v : Int64) : okD ks B (cJ v) (.long v) := by
  unfold cJ
  split
  · next h =>
    have h := of_decide_eq_true h
    exact ⟨v, rfl, fun _ => by simp only; omega⟩
  · exact ⟨v, rfl, fun h => absurd h (by simp only; omega)⟩
theorem k_iconst {n : Int} (hG : Ga KT X ks P n0 ρ0 eff w0 σ ρ lc st w) (h : ai1 KT F pp eff own nL σ (.iconst n) pc = some l) : Nx KT X ks P n0 ρ0 eff w0 pp F xs L own nL ini (.iconst n) pc lc st w l := by
  simp only [ai1, Option.some.injEq] at h
  subst h
  exact ⟨_, List.mem_singleton_self _, _, lc, _, w, rfl, hG.pu (okD_cI _) nof⟩
theorem k_bipush {n : Int} (hG : Ga KT X ks P n0 ρ0 eff w0 σ ρ lc st w) (h : ai1 KT F pp eff own nL σ (.bipush n) pc = some l) : Nx KT X ks P n0 ρ0 eff w0 pp F xs L own nL ini (.bipush n) pc lc st w l := by
  simp only [ai1, Option.some.injEq] at h
  subst h
  exact ⟨_, List.mem_singleton_self _, _, lc, _, w, rfl, hG.pu (okD_cI _) nof⟩
theorem k_sipush {n : Int} (hG : Ga KT X ks P n0 ρ0 eff w0 σ ρ lc st w) (h : ai1 KT F pp eff own nL σ (.sipush n) pc = some l) : Nx KT X ks P n0 ρ0 eff w0 pp F xs L own nL ini (.sipush n) pc lc st w l := by
  simp only [ai1, Option.some.injEq] at h
  subst h
  exact ⟨_, List.mem_singleton_self _, _, lc, _, w, rfl, hG.pu (okD_cI _) nof⟩
theorem k_lconst {n : Fin 2} (hG : Ga KT X ks P n0 ρ0 eff w0 σ ρ lc st w) (h : ai1 KT F pp eff own nL σ (.lconst n) pc = some l) : Nx KT X ks P n0 ρ0 eff w0 pp F xs L own nL ini (.lconst n) pc lc st w l := by
  simp only [ai1, Option.some.injEq] at h
  subst h
  have e1 : (Int64.ofNat (n : Nat)).toInt = ((n : Nat) : Int) := by
    rcases n with ⟨n, hn⟩
    have : n = 0 ∨ n = 1 := by omega
    rcases this with rfl | rfl <;> rfl
  have hd : okD ks P (4, (n : Nat) + 1, (n : Nat)) (.long (Int64.ofNat (n : Nat))) := by
    refine ⟨_, rfl, fun _ => ?_⟩
    rw [e1]
    exact ⟨Int.le_refl _, by simp only; omega⟩
  exact ⟨_, List.mem_singleton_self _, _, lc, _, w, rfl, hG.pu hd nof⟩
theorem k_ldc {i : Nat} (hG : Ga KT X ks P n0 ρ0 eff w0 σ ρ lc st w) (h : ai1 KT F pp eff own nL σ (.ldc i) pc = some l) : Nx KT X ks P n0 ρ0 eff w0 pp F xs L own nL ini (.ldc i) pc lc st w l := by
  simp only [ai1] at h
  split at h
  · next v hv =>
    simp only [Option.some.injEq] at h
    subst h
    exact ⟨_, List.mem_singleton_self _, _, lc, _, w, by simp only [sstep, hv], hG.pu (okD_cI _) nof⟩
  · next a hv =>
    simp only [Option.some.injEq] at h
    subst h
    exact ⟨_, List.mem_singleton_self _, _, lc, _, w, by simp only [sstep, hv], hG.pu (d := (8, a, 0)) rfl nof⟩
  · cases h
theorem k_ldc_w {i : Nat} (hG : Ga KT X ks P n0 ρ0 eff w0 σ ρ lc st w) (h : ai1 KT F pp eff own nL σ (.ldc_w i) pc = some l) : Nx KT X ks P n0 ρ0 eff w0 pp F xs L own nL ini (.ldc_w i) pc lc st w l := by
  simp only [ai1] at h
  split at h
  · next v hv =>
    simp only [Option.some.injEq] at h
    subst h
    exact ⟨_, List.mem_singleton_self _, _, lc, _, w, by simp only [sstep, hv], hG.pu (okD_cI _) nof⟩
  · cases h
theorem k_ldc2_w {i : Nat} (hG : Ga KT X ks P n0 ρ0 eff w0 σ ρ lc st w) (h : ai1 KT F pp eff own nL σ (.ldc2_w i) pc = some l) : Nx KT X ks P n0 ρ0 eff w0 pp F xs L own nL ini (.ldc2_w i) pc lc st w l := by
  simp only [ai1] at h
  split at h
  · next v hv =>
    simp only [Option.some.injEq] at h
    subst h
    exact ⟨_, List.mem_singleton_self _, _, lc, _, w, by simp only [sstep, hv], hG.pu (okD_cJ v) nof⟩
  · cases h
end SND

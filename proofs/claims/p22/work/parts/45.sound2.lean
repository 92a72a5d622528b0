section SND2
variable {KT : List Kd} {X : pW → Prop} {ks : List Nat} {P n0 : Nat} {ρ0 : Nat → Value} {eff : List (Nat × Nat)} {w0 : pW} {σ : aS} {ρ : Nat → Value} {lc : pL} {st : List Value} {w : pW}
variable {pp : pP} {F : pF} {xs : Nat → Int32} {L own nL : Nat} {ini : Bool} {pc : Nat} {l : List (Nat × aS)}
theorem loadA_ok {i pc1 : Nat} {ok : List Ds → Nat → Bool} (hG : Ga KT X ks P n0 ρ0 eff w0 σ ρ lc st w) (h : loadA σ i pc1 ok = some l) : ∃ s, lGet lc i = some (ρ s) ∧ ok σ.1 s = true ∧ l = [(pc1, setSt σ (s :: σ.2.2.1))] ∧ Ga KT X ks P n0 ρ0 eff w0 (setSt σ (s :: σ.2.2.1)) ρ lc (ρ s :: st) w := by
  unfold loadA at h
  split at h
  · next s hs =>
    split at h
    · next hok =>
      obtain ⟨g1, g2⟩ := hG.lg hs
      refine ⟨s, g1, hok, (Option.some.inj h).symm, ?_⟩
      have := hG.stk (r := s :: σ.2.2.1) (fun x hx => by
        rcases List.mem_cons.mp hx with rfl | hx
        · exact g2
        · exact hG.sl hx)
      rw [List.map_cons, ← hG.stq] at this
      exact this
    · cases h
  · cases h
theorem storeA_ok {i pc1 : Nat} {ok : List Ds → Nat → Bool} (hG : Ga KT X ks P n0 ρ0 eff w0 σ ρ lc st w) (h : storeA σ i nL pc1 ok = some l) : ∃ s r, st = ρ s :: r ∧ ok σ.1 s = true ∧ i < nL ∧ ∃ τ, l = [(pc1, τ)] ∧ Ga KT X ks P n0 ρ0 eff w0 τ ρ (lSet1 lc i (ρ s)) r w := by
  unfold storeA at h
  split at h
  · next s r hst =>
    split at h
    · next hok =>
      simp only [Bool.and_eq_true, nbl] at hok
      refine ⟨s, r.map ρ, by rw [hG.stq, hst]; rfl, hok.1, hok.2, _, (Option.some.inj h).symm, ?_⟩
      exact hG.ls (hG.sl (by rw [hst]; exact List.mem_cons_self)) (fun x hx => hG.sl (by rw [hst]; exact List.mem_cons_of_mem _ hx))
    · cases h
  · cases h
theorem k_iload_n {i : Fin 4} (hG : Ga KT X ks P n0 ρ0 eff w0 σ ρ lc st w) (h : ai1 KT F pp eff own nL σ (.iload_n i) pc = some l) : Nx KT X ks P n0 ρ0 eff w0 pp F xs L own nL ini (.iload_n i) pc lc st w l := by
  simp only [ai1] at h
  obtain ⟨s, g1, g2, rfl, g3⟩ := loadA_ok hG h
  obtain ⟨x, hx⟩ := hG.tI g2
  refine ⟨_, List.mem_singleton_self _, ρ, lc, _, w, ?_, g3⟩
  rw [hx] at g1 ⊢
  simp only [sstep, g1]
theorem k_iload {i : Nat} (hG : Ga KT X ks P n0 ρ0 eff w0 σ ρ lc st w) (h : ai1 KT F pp eff own nL σ (.iload i) pc = some l) : Nx KT X ks P n0 ρ0 eff w0 pp F xs L own nL ini (.iload i) pc lc st w l := by
  simp only [ai1] at h
  obtain ⟨s, g1, g2, rfl, g3⟩ := loadA_ok hG h
  obtain ⟨x, hx⟩ := hG.tI g2
  refine ⟨_, List.mem_singleton_self _, ρ, lc, _, w, ?_, g3⟩
  rw [hx] at g1 ⊢
  simp only [sstep, g1]
theorem k_lload_n {i : Fin 4} (hG : Ga KT X ks P n0 ρ0 eff w0 σ ρ lc st w) (h : ai1 KT F pp eff own nL σ (.lload_n i) pc = some l) : Nx KT X ks P n0 ρ0 eff w0 pp F xs L own nL ini (.lload_n i) pc lc st w l := by
  simp only [ai1] at h
  obtain ⟨s, g1, g2, rfl, g3⟩ := loadA_ok hG h
  obtain ⟨x, hx⟩ := hG.tJ g2
  refine ⟨_, List.mem_singleton_self _, ρ, lc, _, w, ?_, g3⟩
  rw [hx] at g1 ⊢
  simp only [sstep, g1]
theorem k_aload_n {i : Fin 4} (hG : Ga KT X ks P n0 ρ0 eff w0 σ ρ lc st w) (h : ai1 KT F pp eff own nL σ (.aload_n i) pc = some l) : Nx KT X ks P n0 ρ0 eff w0 pp F xs L own nL ini (.aload_n i) pc lc st w l := by
  simp only [ai1] at h
  obtain ⟨s, g1, g2, rfl, g3⟩ := loadA_ok hG h
  refine ⟨_, List.mem_singleton_self _, ρ, lc, _, w, ?_, g3⟩
  rcases hG.tA g2 with hx | ⟨x, hx⟩
  · rw [hx] at g1 ⊢
    simp only [sstep, g1]
  · rw [hx] at g1 ⊢
    simp only [sstep, g1]
theorem k_aload {i : Nat} (hG : Ga KT X ks P n0 ρ0 eff w0 σ ρ lc st w) (h : ai1 KT F pp eff own nL σ (.aload i) pc = some l) : Nx KT X ks P n0 ρ0 eff w0 pp F xs L own nL ini (.aload i) pc lc st w l := by
  simp only [ai1] at h
  obtain ⟨s, g1, g2, rfl, g3⟩ := loadA_ok hG h
  refine ⟨_, List.mem_singleton_self _, ρ, lc, _, w, ?_, g3⟩
  rcases hG.tA g2 with hx | ⟨x, hx⟩
  · rw [hx] at g1 ⊢
    simp only [sstep, g1]
  · rw [hx] at g1 ⊢
    simp only [sstep, g1]
theorem k_istore_n {i : Fin 4} (hG : Ga KT X ks P n0 ρ0 eff w0 σ ρ lc st w) (h : ai1 KT F pp eff own nL σ (.istore_n i) pc = some l) : Nx KT X ks P n0 ρ0 eff w0 pp F xs L own nL ini (.istore_n i) pc lc st w l := by
  simp only [ai1] at h
  obtain ⟨s, r, g1, g2, g3, τ, rfl, g4⟩ := storeA_ok hG h
  obtain ⟨x, hx⟩ := hG.tI g2
  refine ⟨_, List.mem_singleton_self _, ρ, _, _, w, ?_, g4⟩
  rw [g1, hx]
  simp only [sstep, decide_eq_true g3, if_true]
theorem k_istore {i : Nat} (hG : Ga KT X ks P n0 ρ0 eff w0 σ ρ lc st w) (h : ai1 KT F pp eff own nL σ (.istore i) pc = some l) : Nx KT X ks P n0 ρ0 eff w0 pp F xs L own nL ini (.istore i) pc lc st w l := by
  simp only [ai1] at h
  obtain ⟨s, r, g1, g2, g3, τ, rfl, g4⟩ := storeA_ok hG h
  obtain ⟨x, hx⟩ := hG.tI g2
  refine ⟨_, List.mem_singleton_self _, ρ, _, _, w, ?_, g4⟩
  rw [g1, hx]
  simp only [sstep, decide_eq_true g3, if_true]
theorem k_astore_n {i : Fin 4} (hG : Ga KT X ks P n0 ρ0 eff w0 σ ρ lc st w) (h : ai1 KT F pp eff own nL σ (.astore_n i) pc = some l) : Nx KT X ks P n0 ρ0 eff w0 pp F xs L own nL ini (.astore_n i) pc lc st w l := by
  simp only [ai1] at h
  obtain ⟨s, r, g1, g2, g3, τ, rfl, g4⟩ := storeA_ok hG h
  obtain ⟨x, hx⟩ := hG.tN g2
  refine ⟨_, List.mem_singleton_self _, ρ, _, _, w, ?_, g4⟩
  rw [g1, hx]
  simp only [sstep, decide_eq_true g3, if_true]
theorem k_astore {i : Nat} (hG : Ga KT X ks P n0 ρ0 eff w0 σ ρ lc st w) (h : ai1 KT F pp eff own nL σ (.astore i) pc = some l) : Nx KT X ks P n0 ρ0 eff w0 pp F xs L own nL ini (.astore i) pc lc st w l := by
  simp only [ai1] at h
  obtain ⟨s, r, g1, g2, g3, τ, rfl, g4⟩ := storeA_ok hG h
  obtain ⟨x, hx⟩ := hG.tN g2
  refine ⟨_, List.mem_singleton_self _, ρ, _, _, w, ?_, g4⟩
  rw [g1, hx]
  simp only [sstep, decide_eq_true g3, if_true]
theorem k_lstore_n {i : Fin 4} (hG : Ga KT X ks P n0 ρ0 eff w0 σ ρ lc st w) (h : ai1 KT F pp eff own nL σ (.lstore_n i) pc = some l) : Nx KT X ks P n0 ρ0 eff w0 pp F xs L own nL ini (.lstore_n i) pc lc st w l := by
  simp only [ai1] at h
  split at h
  · next s r hst =>
    split at h
    · next hok =>
      simp only [Bool.and_eq_true, nbl] at hok
      simp only [Option.some.injEq] at h
      subst h
      obtain ⟨x, hx⟩ := hG.tJ hok.1
      refine ⟨_, List.mem_singleton_self _, ρ, _, _, w, ?_, hG.ls2 (hG.sl (by rw [hst]; exact List.mem_cons_self)) (fun x hx => hG.sl (by rw [hst]; exact List.mem_cons_of_mem _ hx))⟩
      rw [hG.stq, hst, List.map_cons, hx]
      simp only [sstep, decide_eq_true (show (i : Nat) + 1 < nL by omega), if_true]
    · cases h
  · cases h
theorem oD0 {B a b : Nat} {v : Value} (h : okI a b v) : okD ks B (0, a, b) v := h
theorem iv_int (x : Int32) : iv (.int x) = x.toInt := rfl
theorem f3 {P : Nat} {ρ : Nat → Value} {w : pW} {a b r : Nat} (h : (∃ y : Int32, ρ r = .int y) ∧ iv (ρ r) = iv (ρ a) + iv (ρ b)) : okF P ρ w (3, a, b, r) := by
  refine ⟨?_, ?_, ?_, ?_, ?_, ?_, ?_, ?_⟩ <;> intro e <;> first | exact h | (exact absurd e (by simp))
theorem f4 {P : Nat} {ρ : Nat → Value} {w : pW} {a b r : Nat} (h : (∃ y : Int32, ρ r = .int y) ∧ iv (ρ r) = iv (ρ a) - iv (ρ b)) : okF P ρ w (4, a, b, r) := by
  refine ⟨?_, ?_, ?_, ?_, ?_, ?_, ?_, ?_⟩ <;> intro e <;> first | exact h | (exact absurd e (by simp))
theorem f5 {P : Nat} {ρ : Nat → Value} {w : pW} {a b r : Nat} (h : (∃ y : Int32, ρ r = .int y) ∧ iv (ρ r) = iv (ρ a) * iv (ρ b)) : okF P ρ w (5, a, b, r) := by
  refine ⟨?_, ?_, ?_, ?_, ?_, ?_, ?_, ?_⟩ <;> intro e <;> first | exact h | (exact absurd e (by simp))
theorem f10 {P : Nat} {ρ : Nat → Value} {w : pW} {a b r : Nat} (h : iv (ρ a) ≤ iv (ρ b) + (r : Int) - 2147483648) : okF P ρ w (10, a, b, r) := by
  refine ⟨?_, ?_, ?_, ?_, ?_, ?_, ?_, ?_⟩ <;> intro e <;> first | exact h | (exact absurd e (by simp))
theorem f11 {P : Nat} {ρ : Nat → Value} {w : pW} {a b r : Nat} (h : iv (ρ a) ≠ iv (ρ b)) : okF P ρ w (11, a, b, r) := by
  refine ⟨?_, ?_, ?_, ?_, ?_, ?_, ?_, ?_⟩ <;> intro e <;> first | exact h | (exact absurd e (by simp))
theorem f12 {P : Nat} {ρ : Nat → Value} {w : pW} {a b r : Nat} (h : okH (P + r) (iv (ρ b)) (iv (ρ a))) : okF P ρ w (12, a, b, r) := by
  refine ⟨?_, ?_, ?_, ?_, ?_, ?_, ?_, ?_⟩ <;> intro e <;> first | exact h | (exact absurd e (by simp))
theorem f2 {P : Nat} {ρ : Nat → Value} {w : pW} {a b r : Nat} (h : ∃ (i : Nat) (x : Int32) (t n : Nat) (g : Nat → Int32), ρ a = .ref i ∧ ρ b = .int x ∧ wAt w i = some (.inl (t, n, .inl g)) ∧ ρ r = .int (g x.toNatClampNeg) ∧ 0 ≤ x.toInt) : okF P ρ w (2, a, b, r) := by
  refine ⟨?_, ?_, ?_, ?_, ?_, ?_, ?_, ?_⟩ <;> intro e <;> first | exact h | (exact absurd e (by simp))
theorem fk {P : Nat} {ρ : Nat → Value} {w : pW} {k a b r : Nat} (h : ∃ (i ci : Nat) (fs : List Value), ρ a = .ref i ∧ wAt w i = some (.inr (ci, fs)) ∧ fs[k]? = some (ρ r)) : okF P ρ w (1000 + k, a, b, r) := ⟨fun e => absurd e (by simp only; omega), fun e => absurd e (by simp only; omega), fun e => absurd e (by simp only; omega), fun e => absurd e (by simp only; omega), fun e => absurd e (by simp only; omega), fun e => absurd e (by simp only; omega), fun e => absurd e (by simp only; omega), fun _ => by simp only [Nat.add_sub_cancel_left]; exact h⟩
theorem fnd_ok {op a b s : Nat} (hG : Ga KT X ks P n0 ρ0 eff w0 σ ρ lc st w) (h : fnd σ.2.2.2.1 op a b = some s) : okF P ρ w (op, a, b, s) ∧ fsc σ.1.length (op, a, b, s) := by
  unfold fnd at h
  split at h
  · next f hf =>
    have h1 := List.mem_of_find?_eq_some hf
    have h2 := List.find?_some hf
    simp only [Bool.and_eq_true, nbe] at h2
    simp only [Option.some.injEq] at h
    obtain ⟨p1, p2, p3, p4⟩ := f
    simp only at h2 h
    obtain ⟨rfl, rfl, rfl⟩ := h2
    subst h
    exact hG.2.2.2.1 _ h1
  · cases h
theorem int_of_iv {x : Int32} {v : Value} {y : Int32} (hv : v = .int y) (h : iv v = x.toInt) : v = .int x := by
  rw [hv] at h ⊢
  exact congrArg Value.int (Int32.toInt_inj.mp h)
/-- what binA pushes is the value that is reckoned -/
theorem binA_ok {op a b : Nat} {r : List Nat} {rg : Option (Nat × Nat)} {fs : Nat → List Fa} {z : Int32} (hG : Ga KT X ks P n0 ρ0 eff w0 σ ρ lc st w) (hr : ∀ s ∈ r, s < σ.1.length) (hop : op = 3 ∨ op = 4 ∨ op = 5) (hz : ∀ s, okF P ρ w (op, a, b, s) → (∃ y : Int32, ρ s = .int y) ∧ iv (ρ s) = z.toInt)
    (hrg : ∀ q, rg = some q → okI q.1 q.2 (.int z) ∧ ∀ f ∈ fs σ.1.length, okF P (upS ρ σ.1.length (.int z)) w f ∧ fsc (σ.1.length + 1) f) : ∃ ρ', Ga KT X ks P n0 ρ0 eff w0 (binA σ op a b r rg fs) ρ' lc (.int z :: r.map ρ) w := by
  unfold binA
  split
  · next s hs =>
    obtain ⟨g1, g2⟩ := fnd_ok hG hs
    obtain ⟨⟨y, hy⟩, hiv⟩ := hz s g1
    have e := int_of_iv hy hiv
    refine ⟨ρ, ?_⟩
    have hl : s < σ.1.length := by
      rcases g2.2.2 with q | q | q | q
      · simp only at q; omega
      · simp only at q; omega
      · simp only at q; omega
      · exact q
    have := hG.stk (r := s :: r) (fun x hx => by
      rcases List.mem_cons.mp hx with rfl | hx
      · exact hl
      · exact hr x hx)
    rw [List.map_cons, e] at this
    exact this
  · split
    · next q =>
      obtain ⟨g1, g2⟩ := hrg q rfl
      exact ⟨_, (hG.stk hr).pu (d := (0, q.1, q.2)) g1 g2⟩
    · exact ⟨_, (hG.stk hr).pu (d := dFull) (okI_full z) nof⟩
theorem fsc3 {n op a b r : Nat} (ha : a < n) (hb : b < n) (hr : r < n) : fsc n (op, a, b, r) := ⟨ha, hb, Or.inr (Or.inr (Or.inr hr))⟩
theorem mem1 {α : Type} {p : α → Prop} {a : α} (h : p a) : ∀ x ∈ [a], p x := fun x hx => by rw [List.mem_singleton.mp hx]; exact h
theorem Ga.d0 (h : Ga KT X ks P n0 ρ0 eff w0 σ ρ lc st w) {s a b : Nat} (hs : σ.1[s]? = some (0, a, b)) : okI a b (ρ s) := h.1 s _ hs
theorem lt_ds {ds : List Ds} {s : Nat} {d : Ds} (h : ds[s]? = some d) : s < ds.length := (List.getElem?_eq_some_iff.mp h).1
/-- a sum -/
theorem addA_ok {a b : Nat} {r : List Nat} {τ : aS} (hG : Ga KT X ks P n0 ρ0 eff w0 σ ρ lc st w) (hr : ∀ s ∈ r, s < σ.1.length) (h : addA σ a b r = some τ) : ∃ (x y : Int32) (ρ' : Nat → Value), ρ a = .int x ∧ ρ b = .int y ∧ Ga KT X ks P n0 ρ0 eff w0 τ ρ' lc (.int (x + y) :: r.map ρ) w ∧ ∃ z r', τ.2.2.1 = z :: r' ∧ z < τ.1.length ∧ (∀ s ∈ r', s < τ.1.length) ∧ ρ' z = .int (x + y) ∧ r'.map ρ' = r.map ρ := by
  have fin : ∀ (x y : Int32), ρ a = .int x → ρ b = .int y → (∃ ρ', Ga KT X ks P n0 ρ0 eff w0 τ ρ' lc (.int (x + y) :: r.map ρ) w) → ∃ (x y : Int32) (ρ' : Nat → Value), ρ a = .int x ∧ ρ b = .int y ∧ Ga KT X ks P n0 ρ0 eff w0 τ ρ' lc (.int (x + y) :: r.map ρ) w ∧ ∃ z r', τ.2.2.1 = z :: r' ∧ z < τ.1.length ∧ (∀ s ∈ r', s < τ.1.length) ∧ ρ' z = .int (x + y) ∧ r'.map ρ' = r.map ρ := by
    intro x y hx hy ⟨ρ', hg⟩
    refine ⟨x, y, ρ', hx, hy, hg, ?_⟩
    have e := hg.stq
    have m := hg.2.2.1.2
    cases hst : τ.2.2.1 with
    | nil => rw [hst] at e; cases e
    | cons z r' =>
      rw [hst, List.map_cons] at e
      have e1 := (List.cons.inj e).1
      have e2 := (List.cons.inj e).2
      exact ⟨z, r', rfl, m z (by rw [hst]; exact List.mem_cons_self), fun s hs => m s (by rw [hst]; exact List.mem_cons_of_mem _ hs), e1.symm, e2.symm⟩
  unfold addA at h
  split at h
  · next j jj x y ha hb =>
    have ka := hG.1 a _ ha
    have kb := hG.1 b _ hb
    obtain ⟨x1, ex, a1, a2⟩ := ka
    obtain ⟨y1, ey, b1, b2⟩ := kb
    refine fin x1 y1 ex ey ?_
    split at h
    · next hc =>
      simp only [Bool.and_eq_true, nbl, Zb, CrMax] at hc
      have := Option.some.inj h
      subst this
      have hP := hG.2.2.2.2.2.2.2.2.2.1
      simp only [PMax] at hP
      simp only at a2 b1 b2
      have e1 : (x1 + y1).toInt = x1.toInt + y1.toInt := by rw [Int32.toInt_add, bmod32 (by omega) (by omega)]
      exact ⟨_, (hG.stk hr).pu (d := (3, j + (y - Zb), 0)) ⟨_, rfl, by rw [e1]; omega, by rw [e1]; simp only [Zb]; omega⟩ nof⟩
    · have := Option.some.inj h
      subst this
      exact ⟨_, (hG.stk hr).pu (d := dFull) (okI_full _) nof⟩
  · next x y u v ha hb =>
    have ka := hG.d0 ha
    have kb := hG.d0 hb
    obtain ⟨x1, ex, -⟩ := id ka
    obtain ⟨y1, ey, -⟩ := id kb
    refine fin x1 y1 ex ey ?_
    have := Option.some.inj h
    subst this
    rw [ex] at ka
    rw [ey] at kb
    refine binA_ok hG hr (Or.inl rfl) (fun s hs => ?_) (fun q hq => ?_)
    · obtain ⟨⟨z, hz⟩, h2⟩ := hs.2.1 rfl
      refine ⟨⟨z, hz⟩, ?_⟩
      simp only at hz h2
      rw [ex, ey, iv_int, iv_int] at h2
      rw [h2, Int32.toInt_add]
      rw [hz, iv_int] at h2
      have := i32_lo z
      rw [bmod32 (by omega) (by omega)]
    · obtain ⟨g1, g2⟩ := add_ok ka kb hq
      refine ⟨g1, mem1 ⟨f3 ?_, fsc3 (by have := lt_ds ha; omega) (by have := lt_ds hb; omega) (by omega)⟩⟩
      rw [upS_eq, upS_ne (lt_ds ha), upS_ne (lt_ds hb), ex, ey]
      exact ⟨⟨_, rfl⟩, g2⟩
  · next x y j jj ha hb =>
    have ka := hG.1 a _ ha
    have kb := hG.1 b _ hb
    obtain ⟨x1, ex, a1, a2⟩ := ka
    obtain ⟨y1, ey, b1, b2⟩ := kb
    refine fin x1 y1 ex ey ?_
    split at h
    · next hc =>
      simp only [Bool.and_eq_true, nbl, Zb, CrMax] at hc
      have := Option.some.inj h
      subst this
      have hP := hG.2.2.2.2.2.2.2.2.2.1
      simp only [PMax] at hP
      simp only at a1 a2 b2
      have e1 : (x1 + y1).toInt = x1.toInt + y1.toInt := by rw [Int32.toInt_add, bmod32 (by omega) (by omega)]
      exact ⟨_, (hG.stk hr).pu (d := (3, j + (y - Zb), 0)) ⟨_, rfl, by rw [e1]; omega, by rw [e1]; simp only [Zb]; omega⟩ nof⟩
    · have := Option.some.inj h
      subst this
      exact ⟨_, (hG.stk hr).pu (d := dFull) (okI_full _) nof⟩
  · next j jj k kk ha hb =>
    have ka := hG.1 a _ ha
    have kb := hG.1 b _ hb
    obtain ⟨x1, ex, -⟩ := ka
    obtain ⟨y1, ey, -⟩ := kb
    have := Option.some.inj h
    subst this
    exact fin x1 y1 ex ey ⟨_, (hG.stk hr).pu (d := dFull) (okI_full _) nof⟩
  · cases h
theorem subA_ok {a b : Nat} {r : List Nat} {τ : aS} (hG : Ga KT X ks P n0 ρ0 eff w0 σ ρ lc st w) (hr : ∀ s ∈ r, s < σ.1.length) (h : subA σ a b r = some τ) : ∃ (x y : Int32) (ρ' : Nat → Value), ρ a = .int x ∧ ρ b = .int y ∧ Ga KT X ks P n0 ρ0 eff w0 τ ρ' lc (.int (x - y) :: r.map ρ) w := by
  unfold subA at h
  split at h
  · next x y u v ha hb =>
    have ka := hG.d0 ha
    have kb := hG.d0 hb
    obtain ⟨x1, ex, -⟩ := id ka
    obtain ⟨y1, ey, -⟩ := id kb
    have := Option.some.inj h
    subst this
    rw [ex] at ka
    rw [ey] at kb
    suffices hh : ∃ ρ', Ga KT X ks P n0 ρ0 eff w0 (binA σ 4 a b r (rSub (x, y) (u, v)) (fun z => [(4, a, b, z), (3, z, b, a)])) ρ' lc (.int (x1 - y1) :: r.map ρ) w by
      obtain ⟨ρ', hh⟩ := hh
      exact ⟨x1, y1, ρ', ex, ey, hh⟩
    refine binA_ok hG hr (by decide) (fun s hs => ?_) (fun q hq => ?_)
    · obtain ⟨⟨z, hz⟩, h2⟩ := hs.2.2.1 rfl
      refine ⟨⟨z, hz⟩, ?_⟩
      simp only at hz h2
      rw [ex, ey, iv_int, iv_int] at h2
      rw [h2, Int32.toInt_sub]
      rw [hz, iv_int] at h2
      have := i32_lo z
      rw [bmod32 (by omega) (by omega)]
    · obtain ⟨g1, g2⟩ := sub_ok ka kb hq
      refine ⟨g1, fun f hf => ?_⟩
      rcases List.mem_cons.mp hf with rfl | hf
      · refine ⟨f4 ?_, fsc3 (by have := lt_ds ha; omega) (by have := lt_ds hb; omega) (by omega)⟩
        rw [upS_eq, upS_ne (lt_ds ha), upS_ne (lt_ds hb), ex, ey]
        exact ⟨⟨_, rfl⟩, g2⟩
      · rw [List.mem_singleton.mp hf]
        refine ⟨f3 ?_, fsc3 (by omega) (by have := lt_ds hb; omega) (by have := lt_ds ha; omega)⟩
        rw [upS_eq, upS_ne (lt_ds ha), upS_ne (lt_ds hb), ex, ey]
        refine ⟨⟨_, rfl⟩, ?_⟩
        simp only [iv_int]
        rw [g2]
        omega
  · split at h
    · next hc =>
      simp only [Bool.and_eq_true] at hc
      obtain ⟨x1, ex⟩ := hG.tI hc.1
      obtain ⟨y1, ey⟩ := hG.tI hc.2
      have := Option.some.inj h
      subst this
      exact ⟨x1, y1, _, ex, ey, (hG.stk hr).pu (d := dFull) (okI_full _) nof⟩
    · cases h
theorem mulA_ok {a b : Nat} {r : List Nat} {τ : aS} (hG : Ga KT X ks P n0 ρ0 eff w0 σ ρ lc st w) (hr : ∀ s ∈ r, s < σ.1.length) (h : mulA σ a b r = some τ) : ∃ (x y : Int32) (ρ' : Nat → Value), ρ a = .int x ∧ ρ b = .int y ∧ Ga KT X ks P n0 ρ0 eff w0 τ ρ' lc (.int (x * y) :: r.map ρ) w := by
  unfold mulA at h
  split at h
  · next x y u v ha hb =>
    have ka := hG.d0 ha
    have kb := hG.d0 hb
    obtain ⟨x1, ex, -⟩ := id ka
    obtain ⟨y1, ey, -⟩ := id kb
    have := Option.some.inj h
    subst this
    rw [ex] at ka
    rw [ey] at kb
    suffices hh : ∃ ρ', Ga KT X ks P n0 ρ0 eff w0 (binA σ 5 a b r (rMul (x, y) (u, v)) (fun z => [(5, a, b, z)])) ρ' lc (.int (x1 * y1) :: r.map ρ) w by
      obtain ⟨ρ', hh⟩ := hh
      exact ⟨x1, y1, ρ', ex, ey, hh⟩
    refine binA_ok hG hr (by decide) (fun s hs => ?_) (fun q hq => ?_)
    · obtain ⟨⟨z, hz⟩, h2⟩ := hs.2.2.2.1 rfl
      refine ⟨⟨z, hz⟩, ?_⟩
      simp only at hz h2
      rw [ex, ey, iv_int, iv_int] at h2
      rw [h2, Int32.toInt_mul]
      rw [hz, iv_int] at h2
      have := i32_lo z
      rw [bmod32 (by omega) (by omega)]
    · obtain ⟨g1, g2⟩ := mul_ok ka kb hq
      refine ⟨g1, mem1 ⟨f5 ?_, fsc3 (by have := lt_ds ha; omega) (by have := lt_ds hb; omega) (by omega)⟩⟩
      rw [upS_eq, upS_ne (lt_ds ha), upS_ne (lt_ds hb), ex, ey]
      exact ⟨⟨_, rfl⟩, g2⟩
  · split at h
    · next hc =>
      simp only [Bool.and_eq_true] at hc
      obtain ⟨x1, ex⟩ := hG.tI hc.1
      obtain ⟨y1, ey⟩ := hG.tI hc.2
      have := Option.some.inj h
      subst this
      exact ⟨x1, y1, _, ex, ey, (hG.stk hr).pu (d := dFull) (okI_full _) nof⟩
    · cases h
theorem non0_ok {y : Nat} {x : Int32} (hG : Ga KT X ks P n0 ρ0 eff w0 σ ρ lc st w) (h : non0 σ.1 σ.2.2.2.1 y = true) (hx : ρ y = .int x) : ¬ x = 0 := by
  unfold non0 at h
  split at h
  · next a b hd =>
    have k := hG.d0 hd
    rw [hx] at k
    obtain ⟨x', e, k1, k2⟩ := k
    cases e
    intro e0
    subst e0
    rw [Int32.toInt_zero] at k1 k2
    simp only [Bool.or_eq_true, nbl, Zb] at h
    rcases h with h | h | h
    · omega
    · omega
    · obtain ⟨f, hf, h⟩ := List.any_eq_true.mp h
      simp only [Bool.and_eq_true, nbe] at h
      obtain ⟨h1, h2, h3⟩ := h
      split at h3
      · next z hz =>
        simp only [nbe] at h3
        subst h3
        have q := (hG.2.2.2.1 f hf).1.2.2.2.2.2.1 h1
        rw [h2, hx] at q
        unfold cstS at hz
        split at hz
        · next p1 p2 hd2 =>
          split at hz
          · next hb =>
            simp only [nbe] at hb
            subst hb
            have := Option.some.inj hz
            subst this
            have k3 := hG.d0 hd2
            obtain ⟨z, e, k4, k5⟩ := k3
            rw [e, iv_int, iv_int, Int32.toInt_zero] at q
            have hz : Zb = 2147483648 := rfl
            exact q (by omega)
          · cases hz
        · cases hz
      · cases h3
  · cases h
theorem remA_ok {a b : Nat} {r : List Nat} {τ : aS} (hG : Ga KT X ks P n0 ρ0 eff w0 σ ρ lc st w) (hr : ∀ s ∈ r, s < σ.1.length) (h : remA σ a b r = some τ) : ∃ (x y : Int32) (ρ' : Nat → Value), ρ a = .int x ∧ ρ b = .int y ∧ ¬ y = 0 ∧ Ga KT X ks P n0 ρ0 eff w0 τ ρ' lc (.int (x - x / y * y) :: r.map ρ) w := by
  unfold remA at h
  split at h
  · next x u v ha hb =>
    split at h
    · next hn =>
      obtain ⟨x1, x2⟩ := x
      have ka := hG.rg ha
      have kb := hG.d0 hb
      obtain ⟨xv, ex, -⟩ := id ka
      obtain ⟨yv, ey, -⟩ := id kb
      have := Option.some.inj h
      subst this
      have h0 := non0_ok hG hn ey
      rw [ex] at ka
      rw [ey] at kb
      obtain ⟨g1, g2⟩ := rem_ok ka kb
      refine ⟨xv, yv, _, ex, ey, h0, (hG.stk hr).pu (d := (0, _, _)) (oD0 g1) (fun f hf => ?_)⟩
      split at hf
      · next hc =>
        simp only [Bool.and_eq_true, nbl, Zb] at hc
        rw [List.mem_singleton.mp hf]
        have lb := lt_ds hb
        refine ⟨f10 ?_, by show _ < _; exact Nat.lt_succ_self _, by show b < _; exact Nat.lt_succ_of_lt lb, Or.inl rfl⟩
        show iv (upS ρ σ.1.length _ σ.1.length) ≤ _
        rw [upS_eq, upS_ne (show b < (setSt σ r).1.length from lb), ey, iv_int, iv_int]
        have := g2 hc.1 hc.2
        simp only [Zb]
        omega
      · cases hf
    · cases h
  · cases h
theorem divA_ok {a b : Nat} {r : List Nat} {τ : aS} (hG : Ga KT X ks P n0 ρ0 eff w0 σ ρ lc st w) (hr : ∀ s ∈ r, s < σ.1.length) (h : divA σ a b r = some τ) : ∃ (x y : Int32) (ρ' : Nat → Value), ρ a = .int x ∧ ρ b = .int y ∧ ¬ y = 0 ∧ Ga KT X ks P n0 ρ0 eff w0 τ ρ' lc (.int (x / y) :: r.map ρ) w := by
  unfold divA at h
  split at h
  · next x u v ha hb =>
    split at h
    · next hn =>
      obtain ⟨x1, x2⟩ := x
      have ka := hG.rg ha
      have kb := hG.d0 hb
      obtain ⟨xv, ex, -⟩ := id ka
      obtain ⟨yv, ey, -⟩ := id kb
      have := Option.some.inj h
      subst this
      have h0 := non0_ok hG hn ey
      rw [ex] at ka
      rw [ey] at kb
      exact ⟨xv, yv, _, ex, ey, h0, (hG.stk hr).pu (d := (0, _, _)) (oD0 (div_ok ka kb)) nof⟩
    · cases h
  · cases h
theorem andA_ok {a b : Nat} {r : List Nat} {τ : aS} (hG : Ga KT X ks P n0 ρ0 eff w0 σ ρ lc st w) (hr : ∀ s ∈ r, s < σ.1.length) (h : andA σ a b r = some τ) : ∃ (x y : Int32) (ρ' : Nat → Value), ρ a = .int x ∧ ρ b = .int y ∧ Ga KT X ks P n0 ρ0 eff w0 τ ρ' lc (.int (x &&& y) :: r.map ρ) w := by
  unfold andA at h
  split at h
  · next x y ha hb =>
    obtain ⟨x1, x2⟩ := x
    obtain ⟨y1, y2⟩ := y
    have ka := hG.rg ha
    have kb := hG.rg hb
    obtain ⟨xv, ex, -⟩ := id ka
    obtain ⟨yv, ey, -⟩ := id kb
    have := Option.some.inj h
    subst this
    rw [ex] at ka
    rw [ey] at kb
    exact ⟨xv, yv, _, ex, ey, (hG.stk hr).pu (d := (0, _, _)) (oD0 (and_ok ka kb)) nof⟩
  · cases h
theorem anyA_ok {a b : Nat} {r : List Nat} {τ : aS} (hG : Ga KT X ks P n0 ρ0 eff w0 σ ρ lc st w) (hr : ∀ s ∈ r, s < σ.1.length) (h : anyA σ a b r = some τ) : ∃ (x y : Int32), ρ a = .int x ∧ ρ b = .int y ∧ ∀ z : Int32, ∃ ρ', Ga KT X ks P n0 ρ0 eff w0 τ ρ' lc (.int z :: r.map ρ) w := by
  unfold anyA at h
  split at h
  · next hc =>
    simp only [Bool.and_eq_true] at hc
    obtain ⟨x1, ex⟩ := hG.tI hc.1
    obtain ⟨y1, ey⟩ := hG.tI hc.2
    have := Option.some.inj h
    subst this
    exact ⟨x1, y1, ex, ey, fun z => ⟨_, (hG.stk hr).pu (d := dFull) (okI_full _) nof⟩⟩
  · cases h
theorem bin2_ok {pc1 : Nat} {f : aS → Nat → Nat → List Nat → Option aS} (h : bin2 σ pc1 f = some l) : ∃ b a r τ, σ.2.2.1 = b :: a :: r ∧ f σ a b r = some τ ∧ l = [(pc1, τ)] := by
  unfold bin2 at h
  split at h
  · next b a r hst =>
    unfold one at h
    split at h
    · next τ hv => exact ⟨b, a, r, τ, hst, hv, (Option.some.inj h).symm⟩
    · cases h
  · cases h
theorem un1_ok {pc1 : Nat} {ok : List Ds → Nat → Bool} {d : Ds} (h : un1 σ pc1 ok d = some l) : ∃ a r, σ.2.2.1 = a :: r ∧ ok σ.1 a = true ∧ l = [(pc1, push (setSt σ r) d nf0)] := by
  unfold un1 at h
  split at h
  · next a r hst =>
    split at h
    · next hok => exact ⟨a, r, hst, hok, (Option.some.inj h).symm⟩
    · cases h
  · cases h
theorem k_iadd  (hG : Ga KT X ks P n0 ρ0 eff w0 σ ρ lc st w) (h : ai1 KT F pp eff own nL σ (.iadd) pc = some l) : Nx KT X ks P n0 ρ0 eff w0 pp F xs L own nL ini (.iadd) pc lc st w l := by
  simp only [ai1] at h
  obtain ⟨b, a, r, τ, hst, hv, rfl⟩ := bin2_ok h
  have hr : ∀ s ∈ r, s < σ.1.length := fun s hs => hG.sl (by rw [hst]; exact List.mem_cons_of_mem _ (List.mem_cons_of_mem _ hs))
  obtain ⟨x, y, ρ', ex, ey, g, -⟩ := addA_ok hG hr hv
  refine ⟨_, List.mem_singleton_self _, ρ', lc, _, w, ?_, g⟩
  rw [hG.stq, hst, List.map_cons, List.map_cons, ex, ey]
  rfl
theorem k_isub  (hG : Ga KT X ks P n0 ρ0 eff w0 σ ρ lc st w) (h : ai1 KT F pp eff own nL σ (.isub) pc = some l) : Nx KT X ks P n0 ρ0 eff w0 pp F xs L own nL ini (.isub) pc lc st w l := by
  simp only [ai1] at h
  obtain ⟨b, a, r, τ, hst, hv, rfl⟩ := bin2_ok h
  have hr : ∀ s ∈ r, s < σ.1.length := fun s hs => hG.sl (by rw [hst]; exact List.mem_cons_of_mem _ (List.mem_cons_of_mem _ hs))
  obtain ⟨x, y, ρ', ex, ey, g⟩ := subA_ok hG hr hv
  refine ⟨_, List.mem_singleton_self _, ρ', lc, _, w, ?_, g⟩
  rw [hG.stq, hst, List.map_cons, List.map_cons, ex, ey]
  rfl
theorem k_imul  (hG : Ga KT X ks P n0 ρ0 eff w0 σ ρ lc st w) (h : ai1 KT F pp eff own nL σ (.imul) pc = some l) : Nx KT X ks P n0 ρ0 eff w0 pp F xs L own nL ini (.imul) pc lc st w l := by
  simp only [ai1] at h
  obtain ⟨b, a, r, τ, hst, hv, rfl⟩ := bin2_ok h
  have hr : ∀ s ∈ r, s < σ.1.length := fun s hs => hG.sl (by rw [hst]; exact List.mem_cons_of_mem _ (List.mem_cons_of_mem _ hs))
  obtain ⟨x, y, ρ', ex, ey, g⟩ := mulA_ok hG hr hv
  refine ⟨_, List.mem_singleton_self _, ρ', lc, _, w, ?_, g⟩
  rw [hG.stq, hst, List.map_cons, List.map_cons, ex, ey]
  rfl
theorem k_idiv  (hG : Ga KT X ks P n0 ρ0 eff w0 σ ρ lc st w) (h : ai1 KT F pp eff own nL σ (.idiv) pc = some l) : Nx KT X ks P n0 ρ0 eff w0 pp F xs L own nL ini (.idiv) pc lc st w l := by
  simp only [ai1] at h
  obtain ⟨b, a, r, τ, hst, hv, rfl⟩ := bin2_ok h
  have hr : ∀ s ∈ r, s < σ.1.length := fun s hs => hG.sl (by rw [hst]; exact List.mem_cons_of_mem _ (List.mem_cons_of_mem _ hs))
  obtain ⟨x, y, ρ', ex, ey, h0, g⟩ := divA_ok hG hr hv
  refine ⟨_, List.mem_singleton_self _, ρ', lc, _, w, ?_, g⟩
  rw [hG.stq, hst, List.map_cons, List.map_cons, ex, ey]
  simp only [sstep, if_neg h0]
theorem k_irem  (hG : Ga KT X ks P n0 ρ0 eff w0 σ ρ lc st w) (h : ai1 KT F pp eff own nL σ (.irem) pc = some l) : Nx KT X ks P n0 ρ0 eff w0 pp F xs L own nL ini (.irem) pc lc st w l := by
  simp only [ai1] at h
  obtain ⟨b, a, r, τ, hst, hv, rfl⟩ := bin2_ok h
  have hr : ∀ s ∈ r, s < σ.1.length := fun s hs => hG.sl (by rw [hst]; exact List.mem_cons_of_mem _ (List.mem_cons_of_mem _ hs))
  obtain ⟨x, y, ρ', ex, ey, h0, g⟩ := remA_ok hG hr hv
  refine ⟨_, List.mem_singleton_self _, ρ', lc, _, w, ?_, g⟩
  rw [hG.stq, hst, List.map_cons, List.map_cons, ex, ey]
  simp only [sstep, if_neg h0]
theorem k_iand  (hG : Ga KT X ks P n0 ρ0 eff w0 σ ρ lc st w) (h : ai1 KT F pp eff own nL σ (.iand) pc = some l) : Nx KT X ks P n0 ρ0 eff w0 pp F xs L own nL ini (.iand) pc lc st w l := by
  simp only [ai1] at h
  obtain ⟨b, a, r, τ, hst, hv, rfl⟩ := bin2_ok h
  have hr : ∀ s ∈ r, s < σ.1.length := fun s hs => hG.sl (by rw [hst]; exact List.mem_cons_of_mem _ (List.mem_cons_of_mem _ hs))
  obtain ⟨x, y, ρ', ex, ey, g⟩ := andA_ok hG hr hv
  refine ⟨_, List.mem_singleton_self _, ρ', lc, _, w, ?_, g⟩
  rw [hG.stq, hst, List.map_cons, List.map_cons, ex, ey]
  rfl
theorem k_ior  (hG : Ga KT X ks P n0 ρ0 eff w0 σ ρ lc st w) (h : ai1 KT F pp eff own nL σ (.ior) pc = some l) : Nx KT X ks P n0 ρ0 eff w0 pp F xs L own nL ini (.ior) pc lc st w l := by
  simp only [ai1] at h
  obtain ⟨b, a, r, τ, hst, hv, rfl⟩ := bin2_ok h
  have hr : ∀ s ∈ r, s < σ.1.length := fun s hs => hG.sl (by rw [hst]; exact List.mem_cons_of_mem _ (List.mem_cons_of_mem _ hs))
  obtain ⟨x, y, ex, ey, g⟩ := anyA_ok hG hr hv
  obtain ⟨ρ', g⟩ := g (x ||| y)
  refine ⟨_, List.mem_singleton_self _, ρ', lc, _, w, ?_, g⟩
  rw [hG.stq, hst, List.map_cons, List.map_cons, ex, ey]
  rfl
theorem k_ixor  (hG : Ga KT X ks P n0 ρ0 eff w0 σ ρ lc st w) (h : ai1 KT F pp eff own nL σ (.ixor) pc = some l) : Nx KT X ks P n0 ρ0 eff w0 pp F xs L own nL ini (.ixor) pc lc st w l := by
  simp only [ai1] at h
  obtain ⟨b, a, r, τ, hst, hv, rfl⟩ := bin2_ok h
  have hr : ∀ s ∈ r, s < σ.1.length := fun s hs => hG.sl (by rw [hst]; exact List.mem_cons_of_mem _ (List.mem_cons_of_mem _ hs))
  obtain ⟨x, y, ex, ey, g⟩ := anyA_ok hG hr hv
  obtain ⟨ρ', g⟩ := g (x ^^^ y)
  refine ⟨_, List.mem_singleton_self _, ρ', lc, _, w, ?_, g⟩
  rw [hG.stq, hst, List.map_cons, List.map_cons, ex, ey]
  rfl
theorem k_ishl  (hG : Ga KT X ks P n0 ρ0 eff w0 σ ρ lc st w) (h : ai1 KT F pp eff own nL σ (.ishl) pc = some l) : Nx KT X ks P n0 ρ0 eff w0 pp F xs L own nL ini (.ishl) pc lc st w l := by
  simp only [ai1] at h
  obtain ⟨b, a, r, τ, hst, hv, rfl⟩ := bin2_ok h
  have hr : ∀ s ∈ r, s < σ.1.length := fun s hs => hG.sl (by rw [hst]; exact List.mem_cons_of_mem _ (List.mem_cons_of_mem _ hs))
  obtain ⟨x, y, ex, ey, g⟩ := anyA_ok hG hr hv
  obtain ⟨ρ', g⟩ := g (x <<< (y &&& 31))
  refine ⟨_, List.mem_singleton_self _, ρ', lc, _, w, ?_, g⟩
  rw [hG.stq, hst, List.map_cons, List.map_cons, ex, ey]
  rfl
theorem k_ishr  (hG : Ga KT X ks P n0 ρ0 eff w0 σ ρ lc st w) (h : ai1 KT F pp eff own nL σ (.ishr) pc = some l) : Nx KT X ks P n0 ρ0 eff w0 pp F xs L own nL ini (.ishr) pc lc st w l := by
  simp only [ai1] at h
  obtain ⟨b, a, r, τ, hst, hv, rfl⟩ := bin2_ok h
  have hr : ∀ s ∈ r, s < σ.1.length := fun s hs => hG.sl (by rw [hst]; exact List.mem_cons_of_mem _ (List.mem_cons_of_mem _ hs))
  obtain ⟨x, y, ex, ey, g⟩ := anyA_ok hG hr hv
  obtain ⟨ρ', g⟩ := g (x >>> (y &&& 31))
  refine ⟨_, List.mem_singleton_self _, ρ', lc, _, w, ?_, g⟩
  rw [hG.stq, hst, List.map_cons, List.map_cons, ex, ey]
  rfl
theorem k_iushr  (hG : Ga KT X ks P n0 ρ0 eff w0 σ ρ lc st w) (h : ai1 KT F pp eff own nL σ (.iushr) pc = some l) : Nx KT X ks P n0 ρ0 eff w0 pp F xs L own nL ini (.iushr) pc lc st w l := by
  simp only [ai1] at h
  obtain ⟨b, a, r, τ, hst, hv, rfl⟩ := bin2_ok h
  have hr : ∀ s ∈ r, s < σ.1.length := fun s hs => hG.sl (by rw [hst]; exact List.mem_cons_of_mem _ (List.mem_cons_of_mem _ hs))
  obtain ⟨x, y, ex, ey, g⟩ := anyA_ok hG hr hv
  obtain ⟨ρ', g⟩ := g ((x.toUInt32 >>> (y.toUInt32 &&& Int32.toUInt32 31)).toInt32)
  refine ⟨_, List.mem_singleton_self _, ρ', lc, _, w, ?_, g⟩
  rw [hG.stq, hst, List.map_cons, List.map_cons, ex, ey]
  rfl
theorem k_ineg  (hG : Ga KT X ks P n0 ρ0 eff w0 σ ρ lc st w) (h : ai1 KT F pp eff own nL σ (.ineg) pc = some l) : Nx KT X ks P n0 ρ0 eff w0 pp F xs L own nL ini (.ineg) pc lc st w l := by
  simp only [ai1] at h
  obtain ⟨a, r, hst, hok, rfl⟩ := un1_ok h
  have hr : ∀ s ∈ r, s < σ.1.length := fun s hs => hG.sl (by rw [hst]; exact List.mem_cons_of_mem _ hs)
  obtain ⟨x, ex⟩ := hG.tI hok
  refine ⟨_, List.mem_singleton_self _, _, lc, _, w, ?_, (hG.stk hr).pu (d := dFull) (v := .int (-x)) (okI_full _) nof⟩
  rw [hG.stq, hst, List.map_cons, ex]
  rfl
theorem j_nn {x : Int64} (h : 0 ≤ x.toInt) : x.toInt = (x.toBitVec.toNat : Int) := by
  have e : x.toInt = x.toBitVec.toInt := rfl
  have c := BitVec.toInt_eq_toNat_cond x.toBitVec
  have l := x.toBitVec.isLt
  rw [e, c] at h ⊢
  split at h
  · next hc => rw [if_pos hc]
  · omega
theorem j_of {x : Int64} (h : x.toBitVec.toNat < 2 ^ 63) : x.toInt = (x.toBitVec.toNat : Int) := by
  have e : x.toInt = x.toBitVec.toInt := rfl
  have c := BitVec.toInt_eq_toNat_cond x.toBitVec
  rw [e, c, if_pos (by omega)]
theorem j_any {B : Nat} (x : Int64) : okD ks B (4, 0, 0) (.long x) := ⟨x, rfl, fun h => absurd h (by simp only; omega)⟩
theorem j_or {x y : Int64} {n : Nat} (hn : n < 63) (hx : 0 ≤ x.toInt ∧ x.toInt < 2 ^ n) (hy : 0 ≤ y.toInt ∧ y.toInt < 2 ^ n) : 0 ≤ (x ||| y).toInt ∧ (x ||| y).toInt < 2 ^ n := by
  have ex := j_nn hx.1
  have ey := j_nn hy.1
  have e : (x ||| y).toBitVec.toNat = x.toBitVec.toNat ||| y.toBitVec.toNat := by
    show (x.toBitVec ||| y.toBitVec).toNat = _
    exact BitVec.toNat_or _ _
  have c : ((2 : Int) ^ n) = ((2 ^ n : Nat) : Int) := by simp
  rw [c] at hx hy ⊢
  have l : x.toBitVec.toNat ||| y.toBitVec.toNat < 2 ^ n := Nat.or_lt_two_pow (by omega) (by omega)
  have l2 : 2 ^ n < 2 ^ 63 := Nat.pow_lt_pow_right (by decide) hn
  have e2 := j_of (x := x ||| y) (by rw [e]; omega)
  rw [e2, e]
  omega
theorem orJ_ok {B a b a' b' : Nat} {x y : Int64} (hx : okD ks B (4, a, a') (.long x)) (hy : okD ks B (4, b, b') (.long y)) : okD ks B (orJ a b) (.long (x ||| y)) := by
  obtain ⟨x', e, hx⟩ := hx
  cases e
  obtain ⟨y', e, hy⟩ := hy
  cases e
  simp only at hx hy
  unfold orJ
  split
  · next hc =>
    simp only [Bool.and_eq_true, nbl] at hc
    have h1 := hx hc.1
    have h2 := hy hc.2.1
    have := j_or (x := x) (y := y) (n := 8) (by decide) ⟨by omega, by omega⟩ ⟨by omega, by omega⟩
    exact ⟨_, rfl, fun _ => ⟨by simp only; omega, by simp only; omega⟩⟩
  · split
    · next hc =>
      simp only [Bool.and_eq_true, nbl] at hc
      have h1 := hx hc.1
      have h2 := hy hc.2.1
      have := j_or (x := x) (y := y) (n := 16) (by decide) ⟨by omega, by omega⟩ ⟨by omega, by omega⟩
      exact ⟨_, rfl, fun _ => ⟨by simp only; omega, by simp only; omega⟩⟩
    · exact j_any _
theorem shJ_ok {B a a' : Nat} {c : Option Nat} {x : Int64} {y : Int32} (hx : okD ks B (4, a, a') (.long x)) (hc : ∀ k, c = some k → (k : Int) = y.toInt + 2147483648) : okD ks B (shJ a c) (.long (x <<< (y.toInt64 &&& 63))) := by
  obtain ⟨x', e, hx⟩ := hx
  cases e
  simp only at hx
  unfold shJ
  split
  · next k =>
    split
    · next hk =>
      simp only [Bool.and_eq_true, nbe, nbl, Zb, Jm] at hk
      obtain ⟨k1, k2, k3⟩ := hk
      have h1 := hx k2
      have hy := hc k rfl
      have ey : y = 8 := Int32.toInt_inj.mp (by rw [show (8 : Int32).toInt = 8 from rfl]; omega)
      subst ey
      have es : ((8 : Int32).toInt64 &&& 63 : Int64) = 8 := by decide
      rw [es]
      have ex := j_nn (x := x) (by omega)
      have e : (x <<< (8 : Int64)).toBitVec.toNat = x.toBitVec.toNat * 256 := by
        have e1 : (x <<< (8 : Int64)).toBitVec = x.toBitVec <<< 8 := rfl
        rw [e1, BitVec.toNat_shiftLeft, Nat.shiftLeft_eq, Nat.mod_eq_of_lt (by omega)]
      have e2 := j_of (x := x <<< (8 : Int64)) (by rw [e]; omega)
      refine ⟨_, rfl, fun _ => ?_⟩
      rw [e2, e]
      simp only
      omega
    · exact j_any _
  · exact j_any _
theorem cmJ_ok {B a a' b b' : Nat} {x y : Int64} (hx : okD ks B (4, a, a') (.long x)) (hy : okD ks B (4, b, b') (.long y)) : okD ks B (cmJ a a' b b') (.int (lg_cmp x y)) := by
  obtain ⟨x', e, hx⟩ := hx
  cases e
  obtain ⟨y', e, hy⟩ := hy
  cases e
  simp only at hx hy
  unfold cmJ
  split
  · next hc =>
    simp only [Bool.and_eq_true, nbl] at hc
    have h1 := hx hc.1
    have h2 := hy hc.2.1
    have e : lg_cmp x y = -1 := by
      unfold lg_cmp
      rw [if_neg (by show ¬ y < x; rw [Int64.lt_iff_toInt_lt]; omega), if_neg (by intro e; rw [e] at h1; omega)]
    rw [e]
    exact ⟨_, rfl, by decide, by decide⟩
  · split
    · next hc =>
      simp only [Bool.and_eq_true, nbl] at hc
      have h1 := hx hc.1
      have h2 := hy hc.2.1
      have e : lg_cmp x y = 1 := by
        unfold lg_cmp
        rw [if_pos (by show y < x; rw [Int64.lt_iff_toInt_lt]; omega)]
      rw [e]
      exact ⟨_, rfl, by decide, by decide⟩
    · exact lcmp_ok x y
theorem cst_bias {s c : Nat} (hG : Ga KT X ks P n0 ρ0 eff w0 σ ρ lc st w) (h : cstS σ.1 s = some c) {y : Int32} (hy : ρ s = .int y) : (c : Int) = y.toInt + 2147483648 := by
  unfold cstS at h
  split at h
  · next a b hs =>
    split at h
    · next hab =>
      rw [nbe] at hab
      have := Option.some.inj h
      obtain ⟨x, e, h1, h2⟩ := hG.1 s _ hs
      rw [hy] at e
      cases e
      simp only at h1 h2
      omega
    · cases h
  · cases h
theorem k_i2l  (hG : Ga KT X ks P n0 ρ0 eff w0 σ ρ lc st w) (h : ai1 KT F pp eff own nL σ (.i2l) pc = some l) : Nx KT X ks P n0 ρ0 eff w0 pp F xs L own nL ini (.i2l) pc lc st w l := by
  simp only [ai1] at h
  split at h
  · next a r hst =>
    split at h
    · next u v hr =>
      have := Option.some.inj h
      subst this
      have hr' : ∀ s ∈ r, s < σ.1.length := fun s hs => hG.sl (by rw [hst]; exact List.mem_cons_of_mem _ hs)
      obtain ⟨x, ex, h1, h2⟩ := hG.rg hr
      refine ⟨_, List.mem_singleton_self _, _, lc, _, w, ?_, (hG.stk hr').pu (v := .long x.toInt64) ?_ nof⟩
      · rw [hG.stq, hst, List.map_cons, ex]
        rfl
      · split
        · next hz =>
          rw [nbl] at hz
          simp only [Zb] at hz ⊢
          exact ⟨_, rfl, fun _ => by rw [Int32.toInt_toInt64]; simp only; omega⟩
        · exact j_any _
    · cases h
  · cases h
theorem k_i2b  (hG : Ga KT X ks P n0 ρ0 eff w0 σ ρ lc st w) (h : ai1 KT F pp eff own nL σ (.i2b) pc = some l) : Nx KT X ks P n0 ρ0 eff w0 pp F xs L own nL ini (.i2b) pc lc st w l := by
  simp only [ai1] at h
  obtain ⟨a, r, hst, hok, rfl⟩ := un1_ok h
  have hr : ∀ s ∈ r, s < σ.1.length := fun s hs => hG.sl (by rw [hst]; exact List.mem_cons_of_mem _ hs)
  obtain ⟨x, ex⟩ := hG.tI hok
  refine ⟨_, List.mem_singleton_self _, _, lc, _, w, ?_, (hG.stk hr).pu (d := (0, Zb - 128, Zb + 127)) (v := .int x.toInt8.toInt32) (oD0 (i2b_ok _)) nof⟩
  rw [hG.stq, hst, List.map_cons, ex]
  rfl
theorem k_i2c  (hG : Ga KT X ks P n0 ρ0 eff w0 σ ρ lc st w) (h : ai1 KT F pp eff own nL σ (.i2c) pc = some l) : Nx KT X ks P n0 ρ0 eff w0 pp F xs L own nL ini (.i2c) pc lc st w l := by
  simp only [ai1] at h
  obtain ⟨a, r, hst, hok, rfl⟩ := un1_ok h
  have hr : ∀ s ∈ r, s < σ.1.length := fun s hs => hG.sl (by rw [hst]; exact List.mem_cons_of_mem _ hs)
  obtain ⟨x, ex⟩ := hG.tI hok
  refine ⟨_, List.mem_singleton_self _, _, lc, _, w, ?_, (hG.stk hr).pu (d := (0, Zb, Zb + 65535)) (v := .int (x.toUInt32 % 65536).toInt32) (oD0 (i2c_ok _)) nof⟩
  rw [hG.stq, hst, List.map_cons, ex]
  rfl
theorem k_lor  (hG : Ga KT X ks P n0 ρ0 eff w0 σ ρ lc st w) (h : ai1 KT F pp eff own nL σ (.lor) pc = some l) : Nx KT X ks P n0 ρ0 eff w0 pp F xs L own nL ini (.lor) pc lc st w l := by
  simp only [ai1] at h
  split at h
  · next b a r hst =>
    split at h
    · next p p' q q' ha hb =>
      have := Option.some.inj h
      subst this
      have hr : ∀ s ∈ r, s < σ.1.length := fun s hs => hG.sl (by rw [hst]; exact List.mem_cons_of_mem _ (List.mem_cons_of_mem _ hs))
      have hx := hG.1 a _ ha
      have hy := hG.1 b _ hb
      obtain ⟨x, ex, -⟩ := id hx
      obtain ⟨y, ey, -⟩ := id hy
      rw [ex] at hx
      rw [ey] at hy
      refine ⟨_, List.mem_singleton_self _, _, lc, _, w, ?_, (hG.stk hr).pu (v := .long (x ||| y)) (orJ_ok hx hy) nof⟩
      rw [hG.stq, hst, List.map_cons, List.map_cons, ex, ey]
      rfl
    · cases h
  · cases h
theorem k_lshl  (hG : Ga KT X ks P n0 ρ0 eff w0 σ ρ lc st w) (h : ai1 KT F pp eff own nL σ (.lshl) pc = some l) : Nx KT X ks P n0 ρ0 eff w0 pp F xs L own nL ini (.lshl) pc lc st w l := by
  simp only [ai1] at h
  split at h
  · next b a r hst =>
    split at h
    · next p p' ha =>
      split at h
      · next hI =>
        have := Option.some.inj h
        subst this
        have hr : ∀ s ∈ r, s < σ.1.length := fun s hs => hG.sl (by rw [hst]; exact List.mem_cons_of_mem _ (List.mem_cons_of_mem _ hs))
        have hx := hG.1 a _ ha
        obtain ⟨y, ey⟩ := hG.tI hI
        obtain ⟨x, ex, -⟩ := id hx
        rw [ex] at hx
        refine ⟨_, List.mem_singleton_self _, _, lc, _, w, ?_, (hG.stk hr).pu (v := .long (x <<< (y.toInt64 &&& 63))) (shJ_ok hx (fun k hk => cst_bias hG hk ey)) nof⟩
        rw [hG.stq, hst, List.map_cons, List.map_cons, ex, ey]
        rfl
      · cases h
    · cases h
  · cases h
theorem k_lcmp  (hG : Ga KT X ks P n0 ρ0 eff w0 σ ρ lc st w) (h : ai1 KT F pp eff own nL σ (.lcmp) pc = some l) : Nx KT X ks P n0 ρ0 eff w0 pp F xs L own nL ini (.lcmp) pc lc st w l := by
  simp only [ai1] at h
  split at h
  · next b a r hst =>
    split at h
    · next p p' q q' ha hb =>
      have := Option.some.inj h
      subst this
      have hr : ∀ s ∈ r, s < σ.1.length := fun s hs => hG.sl (by rw [hst]; exact List.mem_cons_of_mem _ (List.mem_cons_of_mem _ hs))
      have hx := hG.1 a _ ha
      have hy := hG.1 b _ hb
      obtain ⟨x, ex, -⟩ := id hx
      obtain ⟨y, ey, -⟩ := id hy
      rw [ex] at hx
      rw [ey] at hy
      refine ⟨_, List.mem_singleton_self _, _, lc, _, w, ?_, (hG.stk hr).pu (v := .int (lg_cmp x y)) (cmJ_ok hx hy) nof⟩
      rw [hG.stq, hst, List.map_cons, List.map_cons, ex, ey]
      rfl
    · cases h
  · cases h
theorem k_dup  (hG : Ga KT X ks P n0 ρ0 eff w0 σ ρ lc st w) (h : ai1 KT F pp eff own nL σ (.dup) pc = some l) : Nx KT X ks P n0 ρ0 eff w0 pp F xs L own nL ini (.dup) pc lc st w l := by
  simp only [ai1] at h
  split at h
  · next a r hst =>
    split at h
    · next hok =>
      simp only [Option.some.injEq] at h
      subst h
      refine ⟨_, List.mem_singleton_self _, ρ, lc, _, w, ?_, hG.st1 (r := a :: a :: r) (fun s hs => by rw [hst]; rcases List.mem_cons.mp hs with rfl | hs; exact List.mem_cons_self; exact hs)⟩
      rw [hG.stq, hst, List.map_cons]
      simp only [sstep, hG.t1 hok, if_true, List.map_cons]
    · cases h
  · cases h
theorem k_pop  (hG : Ga KT X ks P n0 ρ0 eff w0 σ ρ lc st w) (h : ai1 KT F pp eff own nL σ (.pop) pc = some l) : Nx KT X ks P n0 ρ0 eff w0 pp F xs L own nL ini (.pop) pc lc st w l := by
  simp only [ai1] at h
  split at h
  · next a r hst =>
    split at h
    · next hok =>
      simp only [Option.some.injEq] at h
      subst h
      refine ⟨_, List.mem_singleton_self _, ρ, lc, _, w, ?_, hG.st1 (r := r) (fun s hs => by rw [hst]; exact List.mem_cons_of_mem _ hs)⟩
      rw [hG.stq, hst, List.map_cons]
      simp only [sstep, hG.t1 hok, if_true]
    · cases h
  · cases h
theorem k_dup2  (hG : Ga KT X ks P n0 ρ0 eff w0 σ ρ lc st w) (h : ai1 KT F pp eff own nL σ (.dup2) pc = some l) : Nx KT X ks P n0 ρ0 eff w0 pp F xs L own nL ini (.dup2) pc lc st w l := by
  simp only [ai1] at h
  split at h
  · next a b r hst =>
    split at h
    · next hok =>
      simp only [Bool.and_eq_true] at hok
      simp only [Option.some.injEq] at h
      subst h
      refine ⟨_, List.mem_singleton_self _, ρ, lc, _, w, ?_, hG.st1 (r := a :: b :: a :: b :: r) (fun s hs => by
        rw [hst]
        rcases List.mem_cons.mp hs with rfl | hs
        · exact List.mem_cons_self
        · rcases List.mem_cons.mp hs with rfl | hs
          · exact List.mem_cons_of_mem _ List.mem_cons_self
          · exact hs)⟩
      rw [hG.stq, hst, List.map_cons, List.map_cons]
      simp only [sstep, hG.t1 hok.1, hG.t1 hok.2, Bool.and_self, if_true, List.map_cons]
    · cases h
  · cases h
theorem k_goto {off : Int} (hG : Ga KT X ks P n0 ρ0 eff w0 σ ρ lc st w) (h : ai1 KT F pp eff own nL σ (.goto off) pc = some l) : Nx KT X ks P n0 ρ0 eff w0 pp F xs L own nL ini (.goto off) pc lc st w l := by
  simp only [ai1] at h
  split at h
  · next t ht =>
    simp only [Option.some.injEq] at h
    subst h
    exact ⟨_, List.mem_singleton_self _, ρ, lc, _, w, by simp only [sstep, ht], hG⟩
  · cases h
theorem k_iinc {i : Nat} {n : Int} (hG : Ga KT X ks P n0 ρ0 eff w0 σ ρ lc st w) (h : ai1 KT F pp eff own nL σ (.iinc i n) pc = some l) : Nx KT X ks P n0 ρ0 eff w0 pp F xs L own nL ini (.iinc i n) pc lc st w l := by
  simp only [ai1] at h
  split at h
  · next s hs =>
    split at h
    · next hn =>
      simp only [nbl] at hn
      split at h
      · next τ hv =>
        split at h
        · next z r hz =>
          simp only [Option.some.injEq] at h
          subst h
          obtain ⟨g1, g2⟩ := hG.lg hs
          have hG1 := hG.pu (okD_cI (Int32.ofInt n)) nof
          have hr : ∀ s ∈ σ.2.2.1, s < (push σ (cI (Int32.ofInt n)) nf0).1.length := fun s hs => by
            have := hG.sl hs
            simp only [push, List.length_append, List.length_singleton]
            omega
          obtain ⟨x, y, ρ', ex, ey, g, z1, r1, hz1, l1, l2, e1, e2⟩ := addA_ok hG1 hr hv
          rw [hz] at hz1
          obtain ⟨rfl, rfl⟩ := List.cons.inj hz1
          rw [upS_ne g2] at ex
          rw [upS_eq] at ey
          cases ey
          have g4 := g.ls (i := i) (s := z) (r := r) l1 l2
          rw [e1] at g4
          refine ⟨_, List.mem_singleton_self _, ρ', _, _, w, ?_, g4⟩
          rw [e2]
          have e3 : σ.2.2.1.map (upS ρ σ.1.length (.int (Int32.ofInt n))) = st := by
            rw [hG.stq]
            exact List.map_congr_left (fun q hq => upS_ne (hG.sl hq))
          rw [e3]
          rw [ex] at g1
          simp only [sstep, g1, decide_eq_true (show i < nL by omega), if_true]
        · cases h
      · cases h
    · cases h
  · cases h
end SND2

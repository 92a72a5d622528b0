/-! a run doesn't see what lies ahead of its own cells -/
def dumE : pE := .inr (99, [])
def PreR (n : Nat) (w w1 : pW) : Prop := w.length = w1.length ∧ (∀ i, i < n → w[i]? = some dumE) ∧ ∀ i, n ≤ i → w[i]? = w1[i]?
section PRE
variable {pp : pP} {F : pF} {G : pG} {tx : pT} {xs : Nat → Int32} {n : Nat} {w w1 : pW}
/-- the same cell, or a dummy -/
theorem PreR.at (h : PreR n w w1) (a : Nat) : wAt w a = some dumE ∨ wAt w1 a = wAt w a := by
  match a with
  | 0 => exact Or.inr rfl
  | 1 => exact Or.inr rfl
  | 2 => exact Or.inr rfl
  | j + 3 =>
    by_cases hj : j < n
    · exact Or.inl (h.2.1 j hj)
    · exact Or.inr (h.2.2 j (by omega)).symm
theorem PreR.eq {a : Nat} {e : pE} (h : PreR n w w1) (ha : wAt w a = some e) (he : e ≠ dumE) : wAt w1 a = some e := by
  rcases h.at a with hd | hd
  · rw [hd] at ha
    exact absurd (Option.some.inj ha).symm he
  · rw [hd]; exact ha
theorem PreR.none {a : Nat} (h : PreR n w w1) (ha : wAt w a = none) : wAt w1 a = none := by
  rcases h.at a with hd | hd
  · rw [hd] at ha; cases ha
  · rw [hd]; exact ha
theorem PreR.set {a : Nat} {e x : pE} (h : PreR n w w1) (ha : wAt w a = some e) (he : e ≠ dumE) : PreR n (wSet w a x) (wSet w1 a x) ∧ ∀ i, i < n → (wSet w1 a x)[i]? = w1[i]? := by
  have hge : n ≤ a - 3 := by
    match a, ha with
    | j + 3, ha =>
      by_cases hj : j < n
      · have : wAt w (j + 3) = some dumE := h.2.1 j hj
        rw [this] at ha
        exact absurd (Option.some.inj ha).symm he
      · simp only [Nat.add_sub_cancel]; omega
  unfold wSet
  refine ⟨⟨by rw [List.length_set, List.length_set]; exact h.1, fun i hi => ?_, fun i hi => ?_⟩, fun i hi => ?_⟩
  · rw [List.getElem?_set_ne (by omega)]
    exact h.2.1 i hi
  · by_cases hia : a - 3 = i
    · subst hia
      rw [List.getElem?_set, List.getElem?_set, if_pos rfl, if_pos rfl, h.1]
    · rw [List.getElem?_set_ne hia, List.getElem?_set_ne hia]
      exact h.2.2 i hi
  · rw [List.getElem?_set_ne (by omega)]
theorem PreR.app {e : pE} (h : PreR n w w1) (hn : n ≤ w.length) : PreR n (w ++ [e]) (w1 ++ [e]) ∧ ∀ i, i < n → (w1 ++ [e])[i]? = w1[i]? := by
  refine ⟨⟨by rw [List.length_append, List.length_append, h.1], fun i hi => ?_, fun i hi => ?_⟩, fun i hi => ?_⟩
  · rw [List.getElem?_append_left (by omega)]
    exact h.2.1 i hi
  · by_cases hl : i < w.length
    · rw [List.getElem?_append_left hl, List.getElem?_append_left (by rw [← h.1]; exact hl)]
      exact h.2.2 i hi
    · rw [List.getElem?_append_right (by omega), List.getElem?_append_right (by rw [← h.1]; omega), h.1]
  · rw [List.getElem?_append_left (by rw [← h.1]; omega)]
theorem getF_pre {a ci k : Nat} {v : Value} (h : PreR n w w1) (hg : getF w a ci k = some v) : getF w1 a ci k = some v := by
  unfold getF at hg ⊢
  split at hg
  · next c fs hw =>
    rw [h.eq hw (fun e => by
      cases e
      split at hg
      · cases hg
      · cases hg)]
    exact hg
  · cases hg
theorem putF_pre {ini : Bool} {own a ci k : Nat} {v : Value} {w' : pW} (h : PreR n w w1) (hp : putF F ini own w a ci k v = some w') : ∃ w1', putF F ini own w1 a ci k v = some w1' ∧ PreR n w' w1' ∧ ∀ i, i < n → w1'[i]? = w1[i]? := by
  unfold putF at hp ⊢
  split at hp
  · next c fs ty fin hw hf =>
    split at hp
    · next hc =>
      have hne : (Sum.inr (c, fs) : pE) ≠ dumE := fun e => by
        cases e
        simp at hc
      rw [h.eq hw hne, hf]
      simp only
      rw [if_pos hc]
      have := Option.some.inj hp
      subst this
      obtain ⟨h1, h2⟩ := h.set (x := .inr (ci, fs.set k v)) hw hne
      exact ⟨_, rfl, h1, h2⟩
    · cases hp
  · cases hp
theorem aldI_pre {a : Nat} {i v : Int32} {ts : List Nat} (h : PreR n w w1) (hg : aldI xs 0 w a i ts = some v) : aldI xs 0 w1 a i ts = some v := by
  unfold aldI at hg ⊢
  split at hg
  · next t m f hw =>
    rw [h.eq hw (fun e => by cases e)]
    exact hg
  · cases hg
  · next hw =>
    rw [h.none hw]
    exact hg
theorem astI_pre {a : Nat} {i x : Int32} {ts : List Nat} {w' : pW} (h : PreR n w w1) (hp : astI w a i x ts = some w') : ∃ w1', astI w1 a i x ts = some w1' ∧ PreR n w' w1' ∧ ∀ j, j < n → w1'[j]? = w1[j]? := by
  unfold astI at hp ⊢
  split at hp
  · next t m f hw =>
    rw [h.eq hw (fun e => by cases e)]
    simp only
    split at hp
    · next hc =>
      rw [if_pos hc]
      have := Option.some.inj hp
      subst this
      obtain ⟨h1, h2⟩ := h.set (x := .inl (t, m, .inl (upd f i.toNatClampNeg (naI t x)))) hw (fun e => by cases e)
      exact ⟨_, rfl, h1, h2⟩
    · cases hp
  · cases hp
theorem alen_pre {a m : Nat} (h : PreR n w w1) (hg : alen 0 w a = some m) : alen 0 w1 a = some m := by
  unfold alen at hg ⊢
  split at hg
  · next t k f hw =>
    rw [h.eq hw (fun e => by cases e)]
    exact hg
  · cases hg
  · simp at hg
theorem acpy_pre {a0 a : Nat} {sp dp k : Int32} {w' : pW} (h : PreR n w w1) (hp : acpy w a0 sp a dp k = some w') : ∃ w1', acpy w1 a0 sp a dp k = some w1' ∧ PreR n w' w1' ∧ ∀ j, j < n → w1'[j]? = w1[j]? := by
  unfold acpy at hp ⊢
  split at hp
  · next n0 f n1 g hw0 hw =>
    rw [h.eq hw0 (fun e => by cases e), h.eq hw (fun e => by cases e)]
    simp only
    split at hp
    · next hc =>
      rw [if_pos hc]
      have := Option.some.inj hp
      subst this
      obtain ⟨h1, h2⟩ := h.set (x := .inl (0, n1, .inl (va_cpy f g sp.toNatClampNeg dp.toNatClampNeg k.toNatClampNeg))) hw (fun e => by cases e)
      exact ⟨_, rfl, h1, h2⟩
    · cases hp
  · cases hp
def StP (n : Nat) (w1 : pW) (o : Option pC) (pc : Nat) (lc : pL) (st : List Value) (w' : pW) : Prop := ∃ w1', o = some (pc, lc, st, w1') ∧ PreR n w' w1' ∧ ∀ i, i < n → w1'[i]? = w1[i]?
theorem sstep_pre {own nL : Nat} {ini : Bool} {ins : Instr} {pc pc' : Nat} {lc lc' : pL} {st st' : List Value} {w' : pW} (hR : PreR n w w1) (hn : n ≤ w.length) (h : sstep pp F xs 0 own nL ini ins pc lc st w = some (pc', lc', st', w')) : StP n w1 (sstep pp F xs 0 own nL ini ins pc lc st w1) pc' lc' st' w' := by
  cases ins with
  | getfield i =>
    simp only [sstep] at h ⊢
    split at h
    · split at h
      · next v hv =>
        simp only [Option.some.injEq, Prod.mk.injEq] at h
        obtain ⟨rfl, rfl, rfl, rfl⟩ := h
        refine ⟨w1, ?_, hR, fun _ _ => rfl⟩
        simp_all [getF_pre hR hv]
      · cases h
    · cases h
  | putfield i =>
    simp only [sstep] at h ⊢
    split at h
    · split at h
      · next w2 hv =>
        simp only [Option.some.injEq, Prod.mk.injEq] at h
        obtain ⟨rfl, rfl, rfl, rfl⟩ := h
        obtain ⟨w3, e3, h3, h4⟩ := putF_pre hR hv
        refine ⟨w3, ?_, h3, h4⟩
        simp_all
      · cases h
    · cases h
  | iaload =>
    simp only [sstep] at h ⊢
    split at h
    · split at h
      · next v hv =>
        simp only [Option.some.injEq, Prod.mk.injEq] at h
        obtain ⟨rfl, rfl, rfl, rfl⟩ := h
        refine ⟨w1, ?_, hR, fun _ _ => rfl⟩
        simp_all [aldI_pre hR hv]
      · cases h
    · cases h
  | baload =>
    simp only [sstep] at h ⊢
    split at h
    · split at h
      · next v hv =>
        simp only [Option.some.injEq, Prod.mk.injEq] at h
        obtain ⟨rfl, rfl, rfl, rfl⟩ := h
        refine ⟨w1, ?_, hR, fun _ _ => rfl⟩
        simp_all [aldI_pre hR hv]
      · cases h
    · cases h
  | laload =>
    simp only [sstep] at h ⊢
    split at h
    · split at h
      · next m f hw =>
        split at h
        · next hc =>
          simp only [Option.some.injEq, Prod.mk.injEq] at h
          obtain ⟨rfl, rfl, rfl, rfl⟩ := h
          refine ⟨w1, ?_, hR, fun _ _ => rfl⟩
          have := hR.eq hw (fun e => by cases e)
          simp_all
        · cases h
      · cases h
    · cases h
  | aaload =>
    simp only [sstep] at h ⊢
    split at h
    · split at h
      · next m f hw =>
        split at h
        · next hc =>
          simp only [Option.some.injEq, Prod.mk.injEq] at h
          obtain ⟨rfl, rfl, rfl, rfl⟩ := h
          refine ⟨w1, ?_, hR, fun _ _ => rfl⟩
          have := hR.eq hw (fun e => by cases e)
          simp_all
        · cases h
      · cases h
    · cases h
  | arraylength =>
    simp only [sstep] at h ⊢
    split at h
    · split at h
      · next v hv =>
        simp only [Option.some.injEq, Prod.mk.injEq] at h
        obtain ⟨rfl, rfl, rfl, rfl⟩ := h
        refine ⟨w1, ?_, hR, fun _ _ => rfl⟩
        simp_all [alen_pre hR hv]
      · cases h
    · cases h
  | iastore =>
    simp only [sstep] at h ⊢
    split at h
    · split at h
      · next w2 hv =>
        simp only [Option.some.injEq, Prod.mk.injEq] at h
        obtain ⟨rfl, rfl, rfl, rfl⟩ := h
        obtain ⟨w3, e3, h3, h4⟩ := astI_pre hR hv
        refine ⟨w3, ?_, h3, h4⟩
        simp_all
      · cases h
    · cases h
  | bastore =>
    simp only [sstep] at h ⊢
    split at h
    · split at h
      · next w2 hv =>
        simp only [Option.some.injEq, Prod.mk.injEq] at h
        obtain ⟨rfl, rfl, rfl, rfl⟩ := h
        obtain ⟨w3, e3, h3, h4⟩ := astI_pre hR hv
        refine ⟨w3, ?_, h3, h4⟩
        simp_all
      · cases h
    · cases h
  | lastore =>
    simp only [sstep] at h ⊢
    split at h
    · next x i a r =>
      split at h
      · next m f hw =>
        split at h
        · next hc =>
          simp only [Option.some.injEq, Prod.mk.injEq] at h
          obtain ⟨rfl, rfl, rfl, rfl⟩ := h
          have e := hR.eq hw (fun e => by cases e)
          obtain ⟨h3, h4⟩ := hR.set (x := .inl (3, m, .inr (.inl (vp_updL f i.toNatClampNeg x)))) hw (fun e => by cases e)
          refine ⟨_, ?_, h3, h4⟩
          simp_all
        · cases h
      · cases h
    · cases h
  | aastore =>
    simp only [sstep] at h ⊢
    split at h
    · next v i a r =>
      split at h
      · next m f x hw hv =>
        split at h
        · next hc =>
          simp only [Option.some.injEq, Prod.mk.injEq] at h
          obtain ⟨rfl, rfl, rfl, rfl⟩ := h
          have e := hR.eq hw (fun e => by cases e)
          have e' := hR.eq hv (fun e => by cases e)
          obtain ⟨h3, h4⟩ := hR.set (x := .inl (4, m, .inr (.inr (.inr (.inr (va_up f i.toNatClampNeg (some v))))))) hw (fun e => by cases e)
          refine ⟨_, ?_, h3, h4⟩
          simp_all
        · cases h
      · cases h
    · cases h
  | new i =>
    simp only [sstep] at h ⊢
    split at h
    · next ci hci =>
      simp only [Option.some.injEq, Prod.mk.injEq] at h
      obtain ⟨rfl, rfl, rfl, rfl⟩ := h
      obtain ⟨h3, h4⟩ := hR.app (e := .inr (ci, (F.getD ci []).map (fun q => dflt q.1))) hn
      refine ⟨_, ?_, h3, h4⟩
      rw [hR.1]
    · cases h
  | newarray t =>
    simp only [sstep] at h ⊢
    split at h
    · next m r =>
      split at h
      · next hc =>
        rw [if_pos hc]
        split at h
        all_goals first
          | (cases h; done)
          | (simp only [Option.some.injEq, Prod.mk.injEq] at h
             obtain ⟨rfl, rfl, rfl, rfl⟩ := h
             obtain ⟨h3, h4⟩ := hR.app (e := _) hn
             refine ⟨_, ?_, h3, h4⟩
             rw [hR.1])
      · cases h
    · cases h
  | anewarray i =>
    simp only [sstep] at h ⊢
    split at h
    · split at h
      · next hc =>
        simp only [Option.some.injEq, Prod.mk.injEq] at h
        obtain ⟨rfl, rfl, rfl, rfl⟩ := h
        refine ⟨_, ?_, (hR.app hn).1, (hR.app hn).2⟩
        have := hR.1
        simp_all
      · cases h
    · cases h
  | lookupswitch df ps =>
    simp only [sstep] at h ⊢
    split at h
    · split at h
      · next hc =>
        rw [if_pos hc]
        split at h
        · next t ht =>
          simp only [Option.some.injEq, Prod.mk.injEq] at h
          obtain ⟨rfl, rfl, rfl, rfl⟩ := h
          refine ⟨w1, ?_, hR, fun _ _ => rfl⟩
          simp only [ht]
        · cases h
      · cases h
    · cases h
  | _ =>
    simp only [sstep] at h ⊢
    first
      | (cases h; done)
      | (simp only [Option.some.injEq, Prod.mk.injEq] at h
         obtain ⟨rfl, rfl, rfl, rfl⟩ := h
         exact ⟨w1, rfl, hR, fun _ _ => rfl⟩)
      | (repeat' (split at h)
         all_goals first
           | (cases h; done)
           | (simp only [Option.some.injEq, Prod.mk.injEq] at h
              obtain ⟨rfl, rfl, rfl, rfl⟩ := h
              refine ⟨w1, ?_, hR, fun _ _ => rfl⟩
              simp_all))
def GOk (G : pG) : Prop := ∀ (j : Nat) (M : pM) (na : Nat), G[j]? = some (M, na) → M.1 ≠ 99
theorem sstep_pre2 {own nL : Nat} {ini : Bool} {ins : Instr} {pc : Nat} {lc : pL} {st : List Value} {c : pC} (hR : PreR n w w1) (hn : n ≤ w.length) (hc : sstep pp F xs 0 own nL ini ins pc lc st w = some c) : ∃ w3, sstep pp F xs 0 own nL ini ins pc lc st w1 = some (c.1, c.2.1, c.2.2.1, w3) ∧ PreR n c.2.2.2 w3 ∧ n ≤ c.2.2.2.length ∧ ∀ i, i < n → w3[i]? = w1[i]? := by
  obtain ⟨pc2, lc2, st2, w2⟩ := c
  obtain ⟨w3, e3, r3, p3⟩ := sstep_pre hR hn hc
  refine ⟨w3, e3, r3, ?_, p3⟩
  apply Decidable.byContradiction
  intro hlt
  have := r3.2.1 w2.length (by simp only at hlt; omega)
  rw [List.getElem?_eq_none (Nat.le_refl _)] at this
  cases this
theorem acallV_pre (hGo : GOk G) {M : pM} {d i pc : Nat} {lc : pL} {st : List Value} {q : pC ⊕ (pM × List Value × Nat × pL × List Value)} (hR : PreR n w w1) (hn : n ≤ w.length) (h : acallV pp G tx M d i pc lc st w = some (.inr q)) : (∃ c, q = .inl c ∧ ∃ w3, acallV pp G tx M d i pc lc st w1 = some (.inr (.inl (c.1, c.2.1, c.2.2.1, w3))) ∧ PreR n c.2.2.2 w3 ∧ n ≤ c.2.2.2.length ∧ ∀ i, i < n → w3[i]? = w1[i]?) ∨ (∃ b, q = .inr b ∧ acallV pp G tx M d i pc lc st w1 = some (.inr (.inr b))) := by
  unfold acallV at h ⊢
  split at h
  · next j hp =>
    try simp only [hp]
    split at h
    · next M' na hM =>
      split at h
      · next b r hdr =>
        split at h
        · next ci fs hw =>
          split at h
          · next hc =>
            have hne : (Sum.inr (ci, fs) : pE) ≠ dumE := fun e => by
              cases e
              simp only [Bool.and_eq_true, beq_iff_eq] at hc
              exact hGo j M' na hM hc.1.symm
            have := Option.some.inj h
            have := Sum.inr.inj this
            subst this
            refine Or.inr ⟨_, rfl, ?_⟩
            simp only [hM, hdr, hR.eq hw hne]
            rw [if_pos hc]
          · cases h
        · cases h
      · cases h
    · cases h
  · next op j hno hp =>
    try simp only [hp]
    split at h
    · next st' ht =>
      split at h
      · next hc =>
        have := Option.some.inj h
        have := Sum.inr.inj this
        subst this
        refine Or.inl ⟨_, rfl, w1, ?_, hR, hn, fun _ _ => rfl⟩
        simp only [ht]
        rw [if_pos hc]
      · cases h
    · cases h
  · cases h
theorem acallS_pre {M : pM} {d i pc : Nat} {lc : pL} {st : List Value} {q : pC ⊕ (pM × List Value × Nat × pL × List Value)} (hR : PreR n w w1) (hn : n ≤ w.length) (h : acallS pp G M d i pc lc st w = some (.inr q)) : (∃ c, q = .inl c ∧ ∃ w3, acallS pp G M d i pc lc st w1 = some (.inr (.inl (c.1, c.2.1, c.2.2.1, w3))) ∧ PreR n c.2.2.2 w3 ∧ n ≤ c.2.2.2.length ∧ ∀ i, i < n → w3[i]? = w1[i]?) ∨ (∃ b, q = .inr b ∧ acallS pp G M d i pc lc st w1 = some (.inr (.inr b))) := by
  unfold acallS at h ⊢
  split at h
  · next j hp =>
    try simp only [hp]
    split at h
    · next M' na hM =>
      split at h
      · next hc =>
        have := Option.some.inj h
        have := Sum.inr.inj this
        subst this
        refine Or.inr ⟨_, rfl, ?_⟩
        try simp only [hM]
        rw [if_pos hc]
      · cases h
    · cases h
  · next hp =>
    try simp only [hp]
    split at h
    · next k dp a sp a0 r =>
      split at h
      · next hc =>
        rw [if_pos hc]
        split at h
        · next w2 hw =>
          have := Option.some.inj h
          have := Sum.inr.inj this
          subst this
          obtain ⟨w3, e3, r3, p3⟩ := acpy_pre hR hw
          refine Or.inl ⟨_, rfl, w3, ?_, r3, ?_, p3⟩
          · simp only [e3]
          · apply Decidable.byContradiction
            intro hlt
            have := r3.2.1 w2.length (by simp only at hlt; omega)
            rw [List.getElem?_eq_none (Nat.le_refl _)] at this
            cases this
        · cases h
      · cases h
    · cases h
  · next hp =>
    try simp only [hp]
    split at h
    · split at h
      · next hc =>
        have := Option.some.inj h
        have := Sum.inr.inj this
        subst this
        refine Or.inl ⟨_, rfl, w1, ?_, hR, hn, fun _ _ => rfl⟩
        rw [if_pos hc]
      · cases h
    · cases h
  · next hp =>
    try simp only [hp]
    split at h
    · split at h
      · next hc =>
        have := Option.some.inj h
        have := Sum.inr.inj this
        subst this
        refine Or.inl ⟨_, rfl, w1, ?_, hR, hn, fun _ _ => rfl⟩
        rw [if_pos hc]
      · cases h
    · cases h
  · cases h
theorem acallI_pre {M : pM} {d i pc : Nat} {lc : pL} {st : List Value} {q : pC ⊕ (pM × List Value × Nat × pL × List Value)} (hR : PreR n w w1) (hn : n ≤ w.length) (h : acallI pp G M d i pc lc st w = some (.inr q)) : (∃ c, q = .inl c ∧ ∃ w3, acallI pp G M d i pc lc st w1 = some (.inr (.inl (c.1, c.2.1, c.2.2.1, w3))) ∧ PreR n c.2.2.2 w3 ∧ n ≤ c.2.2.2.length ∧ ∀ i, i < n → w3[i]? = w1[i]?) ∨ (∃ b, q = .inr b ∧ acallI pp G M d i pc lc st w1 = some (.inr (.inr b))) := by
  unfold acallI at h ⊢
  split at h
  · next j hp =>
    try simp only [hp]
    split at h
    · next M' na hM =>
      split at h
      · next b r hdr =>
        split at h
        · next hc =>
          have := Option.some.inj h
          have := Sum.inr.inj this
          subst this
          refine Or.inr ⟨_, rfl, ?_⟩
          try simp only [hM, hdr]
          rw [if_pos hc]
        · cases h
      · cases h
    · cases h
  · next hp =>
    try simp only [hp]
    split at h
    · split at h
      · next hc =>
        have := Option.some.inj h
        have := Sum.inr.inj this
        subst this
        refine Or.inl ⟨_, rfl, w1, ?_, hR, hn, fun _ _ => rfl⟩
        rw [if_pos hc]
      · cases h
    · cases h
  · cases h
theorem astep_pre (hGo : GOk G) {M : pM} {d pc : Nat} {ins : Instr} {lc : pL} {st : List Value} {q : pC ⊕ (pM × List Value × Nat × pL × List Value)} (hR : PreR n w w1) (hn : n ≤ w.length) (h : astep pp F G tx xs 0 M d ins pc lc st w = some (.inr q)) : (∃ c, q = .inl c ∧ ∃ w3, astep pp F G tx xs 0 M d ins pc lc st w1 = some (.inr (.inl (c.1, c.2.1, c.2.2.1, w3))) ∧ PreR n c.2.2.2 w3 ∧ n ≤ c.2.2.2.length ∧ ∀ i, i < n → w3[i]? = w1[i]?) ∨ (∃ b, q = .inr b ∧ astep pp F G tx xs 0 M d ins pc lc st w1 = some (.inr (.inr b))) := by
  unfold astep at h ⊢
  split at h
  · cases hq : aret M .ireturn st with
    | none => rw [hq] at h; cases h
    | some v => rw [hq] at h; cases h
  · cases hq : aret M .lreturn st with
    | none => rw [hq] at h; cases h
    | some v => rw [hq] at h; cases h
  · cases hq : aret M .areturn st with
    | none => rw [hq] at h; cases h
    | some v => rw [hq] at h; cases h
  · cases hq : aret M .return_ st with
    | none => rw [hq] at h; cases h
    | some v => rw [hq] at h; cases h
  · exact acallV_pre hGo hR hn h
  · exact acallS_pre hR hn h
  · exact acallI_pre hR hn h
  · cases hq : sstep pp F xs 0 M.1 M.2.2.2.1 (isInit M.2.1) ins pc lc st w with
    | none => rw [hq] at h; cases h
    | some c =>
      rw [hq] at h
      have := Sum.inr.inj (Option.some.inj h)
      subst this
      obtain ⟨w3, e3, r3⟩ := sstep_pre2 hR hn hq
      refine Or.inl ⟨c, rfl, w3, ?_, r3⟩
      rw [e3]
      rfl
theorem run_pre (hGo : GOk G) : ∀ (m d : Nat) (M : pM) (pc : Nat) (lc : pL) (st : List Value) (w w1 : pW) (v : Option Value) (w' : pW), run pp F G tx xs 0 m d M pc lc st w = some (v, w') → PreR n w w1 → n ≤ w.length → ∃ w1', run pp F G tx xs 0 m d M pc lc st w1 = some (v, w1') ∧ PreR n w' w1' ∧ n ≤ w'.length ∧ ∀ i, i < n → w1'[i]? = w1[i]? := by
  intro m
  induction m with
  | zero => intro d M pc lc st w w1 v w' h; cases h
  | succ m ih =>
    intro d M pc lc st w w1 v w' h hR hn
    rw [run] at h ⊢
    split at h
    · cases h
    · next ins hi =>
      try rw [hi]
      cases hA : astep pp F G tx xs 0 M d ins pc lc st w with
      | none => rw [hA] at h; cases h
      | some a =>
        rw [hA] at h
        rcases a with v0 | c | ⟨M', as, pc', lc', r⟩
        · simp only [Option.some.injEq, Prod.mk.injEq] at h
          obtain ⟨rfl, rfl⟩ := h
          have hA1 : astep pp F G tx xs 0 M d ins pc lc st w1 = some (.inl v0) := by
            unfold astep at hA ⊢
            cases ins <;> simp only at hA ⊢ <;> first
              | exact hA
              | (exfalso
                 unfold acallV at hA
                 repeat' (split at hA)
                 all_goals (cases hA))
              | (exfalso
                 unfold acallS at hA
                 repeat' (split at hA)
                 all_goals (cases hA))
              | (exfalso
                 unfold acallI at hA
                 repeat' (split at hA)
                 all_goals (cases hA))
              | (exfalso
                 revert hA
                 cases sstep pp F xs 0 M.1 M.2.2.2.1 (isInit M.2.1) _ pc lc st w <;> (intro hA; cases hA))
          rw [hA1]
          exact ⟨w1, rfl, hR, hn, fun _ _ => rfl⟩
        · rcases astep_pre hGo hR hn hA with ⟨c', e, w3, e3, r3, n3, p3⟩ | ⟨b, e, -⟩
          · cases e
            obtain ⟨w4, e4, r4, n4, p4⟩ := ih _ _ _ _ _ _ _ _ _ h r3 n3
            rw [e3]
            exact ⟨w4, e4, r4, n4, fun i hi => (p4 i hi).trans (p3 i hi)⟩
          · cases e
        · rcases astep_pre hGo hR hn hA with ⟨c', e, -⟩ | ⟨b, e, e3⟩
          · cases e
          · cases e
            rw [e3]
            simp only at h ⊢
            split at h
            · cases h
            · next d' =>
              split at h
              · next v2 w2 hc =>
                obtain ⟨w4, e4, r4, n4, p4⟩ := ih _ _ _ _ _ _ _ _ _ hc hR hn
                simp only [e4]
                obtain ⟨w5, e5, r5, n5, p5⟩ := ih _ _ _ _ _ _ _ _ _ h r4 n4
                exact ⟨w5, e5, r5, n5, fun i hi => (p5 i hi).trans (p4 i hi)⟩
              · cases h
end PRE

/-! contracts are taken, the JDK's methods done, soundly -/
section APL
variable {KT : List Kd} {X : pW → Prop} {ks : List Nat} {P n0 : Nat} {ρ0 : Nat → Value} {eff : List (Nat × Nat)} {w0 : pW} {σ : aS} {ρ : Nat → Value} {lc : pL} {st : List Value} {w : pW}
variable {pp : pP} {F : pF} {Gm : pG} {xs : Nat → Int32} {L d : Nat} {M : pM} {pc : Nat}
theorem meetD_ok {B : Nat} {x e : Ds} {v : Value} (h1 : okD ks P x v) (h2 : okD ks B e v) : ∃ y, meetD x e = some y ∧ okD ks P y v := by
  obtain ⟨t, a, b⟩ := x
  obtain ⟨t', a', b'⟩ := e
  unfold meetD
  split
  · next e1 e2 =>
    simp only at e1 e2
    subst e1 e2
    obtain ⟨x, ex, p1, p2⟩ := h1
    obtain ⟨y, ey, q1, q2⟩ := h2
    rw [ex] at ey
    cases ey
    simp only at p1 p2 q1 q2
    have m1 : ((max a a' : Nat) : Int) ≤ x.toInt + 2147483648 := by simp only [Nat.max_def]; split <;> omega
    have m2 : x.toInt + 2147483648 ≤ ((min b b' : Nat) : Int) := by simp only [Nat.min_def]; split <;> omega
    have m3 : max a a' ≤ min b b' := by omega
    rw [if_pos (nbl.mpr m3)]
    exact ⟨_, rfl, x, ex, m1, m2⟩
  · next e1 e2 =>
    simp only at e1 e2
    subst e1 e2
    obtain ⟨j, ej, -⟩ := h2
    rcases h1 with e | ⟨i, e, hi⟩
    · rw [ej] at e; cases e
    · exact ⟨_, rfl, i, e, hi⟩
  · next e1 e2 =>
    simp only at e1 e2
    subst e1 e2
    exact ⟨_, rfl, h2⟩
  · exact ⟨_, rfl, h1⟩
theorem meetL_ok {B : Nat} : ∀ {τ : List Nat} {pds ds : List Ds}, Sd ks P ρ ds → (∀ (i s : Nat) (e : Ds), τ[i]? = some s → pds[i]? = some e → okD ks B e (ρ s)) → (∀ s ∈ τ, s < ds.length) → ∃ ds', meetL τ pds ds = some ds' ∧ ds'.length = ds.length ∧ Sd ks P ρ ds'
  | [], pds, ds, hd, _, _ => ⟨ds, by cases pds <;> rfl, rfl, hd⟩
  | s :: τ, [], ds, hd, _, _ => ⟨ds, rfl, rfl, hd⟩
  | s :: τ, e :: pds, ds, hd, hp, hl => by
    have hs : s < ds.length := hl s List.mem_cons_self
    have hs2 : ds[s]? = some ds[s] := List.getElem?_eq_getElem hs
    obtain ⟨y, e1, k1⟩ := meetD_ok (hd s _ hs2) (hp 0 s e rfl rfl)
    have hd1 : Sd ks P ρ (ds.set s y) := by
      intro t x ht
      by_cases hts : t = s
      · subst hts
        rw [List.getElem?_set_self hs] at ht
        cases ht
        exact k1
      · rw [List.getElem?_set_ne (Ne.symm hts)] at ht
        exact hd t x ht
    obtain ⟨ds', e2, n2, d2⟩ := meetL_ok (τ := τ) (pds := pds) hd1 (fun i s' e' h1 h2 => hp (i + 1) s' e' h1 h2) (fun s' h' => by rw [List.length_set]; exact hl s' (List.mem_cons_of_mem _ h'))
    refine ⟨ds', ?_, by rw [n2, List.length_set], d2⟩
    rw [meetL, hs2]
    simp only
    rw [e1]
    exact e2
theorem nth_eq {τ : List Nat} {i s : Nat} (h : τ[i]? = some s) : nth τ i = s := by
  unfold nth
  rw [h]
theorem nth_l {τ l : List Nat} {i : Nat} (h : i < τ.length) : nth (τ ++ l) i = nth τ i := by
  unfold nth
  rw [List.getElem?_append_left h]
theorem nth_r {τ : List Nat} {n k j : Nat} (h : j < k) : nth (tauP τ n k) (τ.length + j) = n + j := by
  unfold nth tauP
  rw [List.getElem?_append_right (by omega), Nat.add_sub_cancel_left, List.getElem?_map, List.getElem?_range h]
  rfl
theorem nth_lt {τ : List Nat} {i n : Nat} (hi : i < τ.length) (h : ∀ s ∈ τ, s < n) : nth τ i < n := by
  have e : τ[i]? = some τ[i] := List.getElem?_eq_getElem hi
  rw [nth_eq e]
  exact h _ (List.getElem_mem hi)
theorem subE_ok {a b : List (Nat × Nat)} (h : subE a b = true) : ∀ q ∈ a, q ∈ b := by
  intro q hq
  have h1 := List.all_eq_true.mp h q hq
  obtain ⟨p, hp, h2⟩ := List.any_eq_true.mp h1
  simp only [Bool.and_eq_true, nbe] at h2
  have : p = q := Prod.ext h2.1 h2.2
  rw [← this]
  exact hp
theorem Ef.trans {w1 w2 : pW} {eff' : List (Nat × Nat)} (h1 : Ef ks eff w0 w1) (h2 : Ef ks eff' w1 w2) (hs : ∀ q ∈ eff', q ∈ eff) : Ef ks eff w0 w2 := by
  intro i k hk
  obtain ⟨a1, a2⟩ := h1 i k hk
  obtain ⟨b1, b2⟩ := h2 i k hk
  refine ⟨fun hn a ha => b1 (fun hh => hn (hs _ hh)) a (a1 hn a ha), fun ci fs h => ?_⟩
  obtain ⟨fs1, c1, c2⟩ := a2 ci fs h
  obtain ⟨fs2, d1, d2⟩ := b2 ci fs1 c1
  exact ⟨fs2, d1, fun j hj => (d2 j (fun hh => hj (hs _ hh))).trans (c2 j hj)⟩
theorem killE_ok {eff' : List (Nat × Nat)} {w' : pW} (hG : Ga KT X ks P n0 ρ0 eff w0 σ ρ lc st w) (hE : Ef ks eff' w w') : ∀ f ∈ killE σ.1 eff' σ.2.2.2.1, okF P ρ w' f ∧ fsc σ.1.length f := by
  intro f hf
  unfold killE at hf
  obtain ⟨h1, h2⟩ := List.mem_filter.mp hf
  obtain ⟨k1, k2⟩ := hG.2.2.2.1 f h1
  refine ⟨?_, k2⟩
  have nin : ∀ {k c : Nat}, (!(eff'.any (fun q => Nat.beq q.1 k && Nat.beq q.2 c))) = true → (k, c) ∉ eff' := by
    intro k c hh hm
    have : eff'.any (fun q => Nat.beq q.1 k && Nat.beq q.2 c) = true := List.any_eq_true.mpr ⟨_, hm, by simp only [Bool.and_eq_true, nbe]; exact ⟨trivial, trivial⟩⟩
    rw [this] at hh
    cases hh
  obtain ⟨q2, q3, q4, q5, q10, q11, q12, qk⟩ := k1
  refine ⟨fun e => ?_, q3, q4, q5, q10, q11, q12, fun e => ?_⟩
  · rw [if_pos (nbe.mpr e)] at h2
    split at h2
    · next k hk =>
      obtain ⟨j, ej, hj⟩ := hG.kd hk
      obtain ⟨i, x, t, n, g, r1, r2, r3, r4, r5⟩ := q2 e
      rw [ej] at r1
      cases r1
      refine ⟨j + 3, x, t, n, g, ej, r2, ?_, r4, r5⟩
      rw [wAt3] at r3 ⊢
      exact (hE j k hj).1 (nin h2) _ r3
    · cases h2
  · rw [if_neg (by rw [nbe]; omega), if_pos (nbl.mpr e)] at h2
    split at h2
    · next k hk =>
      obtain ⟨j, ej, hj⟩ := hG.kd hk
      obtain ⟨i, ci, fs, r1, r2, r3⟩ := qk e
      rw [ej] at r1
      cases r1
      rw [wAt3] at r2
      obtain ⟨fs', s1, s2⟩ := (hE j k hj).2 ci fs r2
      exact ⟨j + 3, ci, fs', ej, by rw [wAt3]; exact s1, by rw [s2 _ (nin h2)]; exact r3⟩
    · cases h2
theorem upD_ok {cr : Nat} {e : Ds} {v : Value} (h : okD ks (P + cr) e v) : okD ks P (upD cr e) v := by
  obtain ⟨t, a, b⟩ := e
  unfold upD
  split
  · next ht =>
    simp only at ht
    subst ht
    obtain ⟨x, ex, h1, h2⟩ := h
    exact ⟨x, ex, h1, by simp only at h2 ⊢; omega⟩
  · next ht =>
    unfold okD at h ⊢
    split at h
    · next hh => simp only at hh; subst hh; exact h
    · next hh => simp only at hh; subst hh; exact h
    · next hh => simp only at hh; subst hh; exact h
    · next hh => exact absurd hh ht
    · next hh => simp only at hh; subst hh; exact h
    · next hh => simp only at hh; subst hh; exact h
    · next hh => simp only at hh; subst hh; exact h
    · next hh => simp only at hh; subst hh; exact h
    · exact h.elim
theorem upF_ok {cr : Nat} {f : Fa} (h : okF (P + cr) ρ w f) : okF P ρ w (upF cr f) := by
  obtain ⟨op, a, b, r⟩ := f
  unfold upF
  by_cases hc : Nat.beq op 12 = true
  · rw [if_pos hc]
    rw [nbe] at hc
    subst hc
    refine f12 ?_
    have := h.2.2.2.2.2.2.1 rfl
    simp only at this ⊢
    rw [show P + (r + cr) = P + cr + r by omega]
    exact this
  · rw [if_neg hc]
    rw [nbe] at hc
    obtain ⟨q2, q3, q4, q5, q10, q11, q12, qk⟩ := h
    exact ⟨q2, q3, q4, q5, q10, q11, fun e => absurd e hc, qk⟩
theorem upF_fsc {n cr : Nat} {f : Fa} (h : fsc n f) : fsc n (upF cr f) := by
  obtain ⟨op, a, b, r⟩ := f
  unfold upF
  split
  · next hc =>
    rw [nbe] at hc
    exact ⟨h.1, h.2.1, Or.inr (Or.inr (Or.inl hc))⟩
  · exact h
theorem mapF_fsc {τ : List Nat} {n m : Nat} {f : Fa} (h : fsc m f) (hτ : ∀ s, s < m → nth τ s < n) : fsc n (mapF τ f) := by
  obtain ⟨op, a, b, r⟩ := f
  obtain ⟨h1, h2, h3⟩ := h
  unfold mapF
  split
  · next hc =>
    simp only [Bool.or_eq_true, nbe] at hc
    refine ⟨hτ _ h1, hτ _ h2, ?_⟩
    rcases hc with e | e | e
    · exact Or.inl e
    · exact Or.inr (Or.inl e)
    · exact Or.inr (Or.inr (Or.inl e))
  · next hc =>
    simp only [Bool.or_eq_true, nbe] at hc
    have hr : r < m := by
      rcases h3 with e | e | e | e
      · exact absurd (Or.inl e) hc
      · exact absurd (Or.inr (Or.inl e)) hc
      · exact absurd (Or.inr (Or.inr e)) hc
      · exact e
    split
    · exact ⟨hτ _ h1, Nat.lt_of_le_of_lt (Nat.zero_le _) (hτ _ h1), Or.inr (Or.inr (Or.inr (hτ _ hr)))⟩
    · exact ⟨hτ _ h1, hτ _ h2, Or.inr (Or.inr (Or.inr (hτ _ hr)))⟩
/-- behind a contract -/
theorem apP_ok {c : Ctr} {τ r : List Nat} {v : Option Value} {w' : pW} (hG : Ga KT X ks P n0 ρ0 eff w0 σ ρ lc st w) (hτ : chkP σ τ c.2.2.1 c.2.2.2.1 = true) (hr : ∀ s ∈ r, s < σ.1.length) (hcr : σ.2.2.2.2 + c.2.2.2.2.2.1 ≤ CrMax) (hsub : subE c.2.2.2.2.1 eff = true) (h : PoOK KT X ks c (P + σ.2.2.2.2) (fun s => ρ (nth τ s)) w v w') : ∃ σ' ∈ c.2.2.2.2.2.2.2.flatMap (apP σ τ c.2.2.2.2.1 (σ.2.2.2.2 + c.2.2.2.2.2.1) r), ∃ ρ', Ga KT X ks P n0 ρ0 eff w0 σ' ρ' lc (v.toList ++ r.map ρ) w' := by
  obtain ⟨t1, t2, t3, t4⟩ := chkP_ok hG.sd hG.sm hτ
  obtain ⟨po, hpo, ρp, k1, k2, k3, k4, k5, k6, k7, k8, k9⟩ := h
  rw [Nat.add_assoc] at k2 k5
  have k3' : ∀ f ∈ po.2.2, okF (P + (σ.2.2.2.2 + c.2.2.2.2.2.1)) ρp w' f ∧ fsc po.2.1.length f := by
    intro f hf
    have := k3 f hf
    rw [Nat.add_assoc] at this
    exact this
  generalize hcr2 : σ.2.2.2.2 + c.2.2.2.2.2.1 = cr2 at *
  have hm : ∀ (i s : Nat) (e : Ds), τ[i]? = some s → po.2.1[i]? = some e → okD ks (P + cr2) e (ρ s) := by
    intro i s e h1 h2
    have hi : i < τ.length := (List.getElem?_eq_some_iff.mp h1).1
    have e1 : ρp i = ρ (nth τ i) := k1 i (by omega)
    have e2 := k2 i e h2
    rw [e1, nth_eq h1] at e2
    exact e2
  obtain ⟨ds, e1, n1, d1⟩ := meetL_ok hG.sd hm t2
  -- the new valuation
  let ρ2 : Nat → Value := fun s => if s < σ.1.length then ρ s else ρp (s - σ.1.length + τ.length)
  have hlo : ∀ s, s < σ.1.length → ρ2 s = ρ s := fun s hs => by simp only [ρ2]; rw [if_pos hs]
  have hp2 : ∀ i, i < po.2.1.length → ρ2 (nth (tauP τ ds.length (po.2.1.length - τ.length)) i) = ρp i ∧ nth (tauP τ ds.length (po.2.1.length - τ.length)) i < σ.1.length + (po.2.1.length - τ.length) := by
    intro i hi
    by_cases hil : i < τ.length
    · have e2 : nth (tauP τ ds.length (po.2.1.length - τ.length)) i = nth τ i := nth_l hil
      have l2 := nth_lt hil t2
      rw [e2, hlo _ l2]
      exact ⟨(k1 i (by omega)).symm, by omega⟩
    · have e2 : nth (tauP τ ds.length (po.2.1.length - τ.length)) (τ.length + (i - τ.length)) = ds.length + (i - τ.length) := nth_r (by omega)
      rw [show τ.length + (i - τ.length) = i by omega] at e2
      rw [e2, n1]
      refine ⟨?_, by omega⟩
      simp only [ρ2]
      rw [if_neg (by omega), show σ.1.length + (i - τ.length) - σ.1.length + τ.length = i by omega]
  have hlen : (ds ++ (po.2.1.drop τ.length).map (upD cr2)).length = σ.1.length + (po.2.1.length - τ.length) := by
    rw [List.length_append, List.length_map, List.length_drop, n1]
  obtain ⟨g1, g2, g3, g4, g5, g6, g7, g8, g9, g10, g11⟩ := hG
  have hG : Ga KT X ks P n0 ρ0 eff w0 σ ρ lc st w := ⟨g1, g2, g3, g4, g5, g6, g7, g8, g9, g10, g11⟩
  have hGa : Ga KT X ks P n0 ρ0 eff w0 (ds ++ (po.2.1.drop τ.length).map (upD cr2), σ.2.1, (match po.1 with | some s => nth (tauP τ ds.length (po.2.1.length - τ.length)) s :: r | none => r), po.2.2.map (fun f => upF cr2 (mapF (tauP τ ds.length (po.2.1.length - τ.length)) f)) ++ killE σ.1 c.2.2.2.2.1 σ.2.2.2.1, cr2) ρ2 lc (v.toList ++ r.map ρ) w' := by
    have hrr : r.map ρ2 = r.map ρ := List.map_congr_left (fun s hs => hlo s (hr s hs))
    refine ⟨?_, ?_, ⟨?_, ?_⟩, ?_, k5, k6, ?_, ?_, ?_, g10, hcr⟩
    · intro s e hs
      simp only at hs
      by_cases hl : s < ds.length
      · rw [List.getElem?_append_left hl] at hs
        rw [hlo s (by omega)]
        exact d1 s e hs
      · rw [List.getElem?_append_right (by omega), List.getElem?_map, List.getElem?_drop] at hs
        cases hq : po.2.1[τ.length + (s - ds.length)]? with
        | none => rw [hq] at hs; cases hs
        | some e0 =>
          rw [hq] at hs
          have := Option.some.inj hs
          subst this
          have e3 := k2 _ e0 hq
          simp only [ρ2]
          rw [if_neg (by omega), show s - σ.1.length + τ.length = τ.length + (s - ds.length) by omega]
          exact upD_ok e3
    · intro q hq
      obtain ⟨a1, a2⟩ := g2 q hq
      rw [hlen]
      exact ⟨by rw [hlo _ a2]; exact a1, by omega⟩
    · rw [k8]
      cases hpo1 : po.1 with
      | none =>
        simp only [Option.map_none, Option.toList_none, List.nil_append]
        exact hrr.symm
      | some s =>
        simp only [Option.map_some, Option.toList_some, List.singleton_append, List.map_cons]
        rw [(hp2 s (k9 s hpo1)).1, hrr]
    · intro s hs
      rw [hlen]
      cases hpo1 : po.1 with
      | none =>
        simp only [hpo1] at hs
        have := hr s hs
        omega
      | some s' =>
        simp only [hpo1] at hs
        rcases List.mem_cons.mp hs with rfl | hs
        · exact (hp2 s' (k9 s' hpo1)).2
        · have := hr s hs
          omega
    · intro f hf
      rw [hlen]
      rcases List.mem_append.mp hf with hf | hf
      · obtain ⟨f0, hf0, rfl⟩ := List.mem_map.mp hf
        obtain ⟨q1, q2⟩ := k3' f0 hf0
        refine ⟨upF_ok (mapF_ok.mpr (okF_x q2 (fun s hs => (hp2 s hs).1) q1)), upF_fsc (mapF_fsc q2 (fun s hs => (hp2 s hs).2))⟩
      · obtain ⟨q1, q2⟩ := killE_ok hG k7 f hf
        exact ⟨okF_x q2 hlo q1, fsc_up q2 (by omega)⟩
    · exact Ef.trans g7 k7 (subE_ok hsub)
    · intro s hs
      rw [hlo s (Nat.lt_of_lt_of_le hs g9)]
      exact g8 s hs
    · rw [hlen]
      omega
  have hap : ∀ τ2, (if hasR po.2.2 then (match tight (ds ++ (po.2.1.drop τ.length).map (upD cr2), σ.2.1, (match po.1 with | some s => nth (tauP τ ds.length (po.2.1.length - τ.length)) s :: r | none => r), po.2.2.map (fun f => upF cr2 (mapF (tauP τ ds.length (po.2.1.length - τ.length)) f)) ++ killE σ.1 c.2.2.2.2.1 σ.2.2.2.1, cr2) with | some σ3 => [σ3] | none => []) else [(ds ++ (po.2.1.drop τ.length).map (upD cr2), σ.2.1, (match po.1 with | some s => nth (tauP τ ds.length (po.2.1.length - τ.length)) s :: r | none => r), po.2.2.map (fun f => upF cr2 (mapF (tauP τ ds.length (po.2.1.length - τ.length)) f)) ++ killE σ.1 c.2.2.2.2.1 σ.2.2.2.1, cr2)]) = [τ2] → apP σ τ c.2.2.2.2.1 cr2 r po = [τ2] := by
    intro τ2 hh
    unfold apP
    rw [e1]
    exact hh
  by_cases hR : hasR po.2.2 = true
  · obtain ⟨σ3, e3, g3'⟩ := tight_ok hGa
    refine ⟨σ3, List.mem_flatMap.mpr ⟨po, hpo, ?_⟩, ρ2, g3'⟩
    rw [hap σ3 (by rw [if_pos hR, e3])]
    exact List.mem_singleton_self _
  · refine ⟨_, List.mem_flatMap.mpr ⟨po, hpo, ?_⟩, ρ2, hGa⟩
    rw [hap _ (by rw [if_neg hR])]
    exact List.mem_singleton_self _
theorem tkC_ok {j : Nat} {args r : List Nat} {l : List aS} : ∀ {cs : List Ctr}, tkC σ eff d j args r cs = some l → ∃ c ∈ cs, ∃ τ, c.1 = j ∧ chkP σ τ c.2.2.1 c.2.2.2.1 = true ∧ args.length = c.2.1 ∧ c.2.1 ≤ τ.length ∧ c.2.2.2.2.2.2.1 + 1 ≤ d ∧ subE c.2.2.2.2.1 eff = true ∧ σ.2.2.2.2 + c.2.2.2.2.2.1 ≤ CrMax ∧ τ.take args.length = args ∧ l = c.2.2.2.2.2.2.2.flatMap (apP σ τ c.2.2.2.2.1 (σ.2.2.2.2 + c.2.2.2.2.2.1) r)
  | [], h => by cases h
  | c :: cs, h => by
    have ih : tkC σ eff d j args r cs = some l → _ := fun h => tkC_ok (cs := cs) h
    rw [tkC] at h
    have up : ∀ (p : Ctr → Prop), (∃ c ∈ cs, p c) → ∃ c' ∈ c :: cs, p c' := fun p hh => by
      obtain ⟨c', h1, h2⟩ := hh
      exact ⟨c', List.mem_cons_of_mem _ h1, h2⟩
    split at h
    · next hj =>
      rw [nbe] at hj
      split at h
      · next τ hm =>
        split at h
        · next hc =>
          simp only [Bool.and_eq_true, nbe, nbl, beq_iff_eq] at hc
          obtain ⟨c1, c2, c3, c4, c5, c6⟩ := hc
          exact ⟨c, List.mem_cons_self, τ, hj, mtch_ok hm, c1, c2, c3, c4, c5, c6, (Option.some.inj h).symm⟩
        · cases h
      · exact up _ (ih h)
    · exact up _ (ih h)
end APL

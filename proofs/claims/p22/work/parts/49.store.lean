def XS (KT : List Kd) (ks : List Nat) (X : pW → Prop) : Prop := ∀ w w', Frz KT ks w w' → X w → X w'
section SND6
variable {KT : List Kd} {X : pW → Prop} {ks : List Nat} {P n0 : Nat} {ρ0 : Nat → Value} {eff : List (Nat × Nat)} {w0 : pW} {σ : aS} {ρ : Nat → Value} {lc : pL} {st : List Value} {w : pW}
variable {pp : pP} {F : pF} {xs : Nat → Int32} {L own nL : Nat} {ini : Bool} {pc : Nat} {l : List (Nat × aS)}
theorem mem_cont {eff : List (Nat × Nat)} {q : Nat × Nat} (h : eff.contains q = true) : q ∈ eff := by simpa using h
theorem okTy_ok {ty : FieldType} {dv : Ds} {v : Value} (h : okD ks P dv v) (ht : okTy ty dv = true) : okPut ty v = true := by
  obtain ⟨t, a, b⟩ := dv
  unfold okTy at ht
  split at ht
  · simp only [Bool.or_eq_true, nbe] at ht
    rcases ht with rfl | rfl
    · obtain ⟨x, rfl, -⟩ := h; rfl
    · obtain ⟨x, rfl, -⟩ := h; rfl
  · simp only [Bool.and_eq_true, nbe, nbl, Zb] at ht
    obtain ⟨rfl, h1, h2⟩ := ht
    obtain ⟨x, rfl, h3, h4⟩ := h
    simp only at h3 h4
    have : x.toInt = 0 ∨ x.toInt = 1 := by omega
    rcases this with e | e
    · have : x = 0 := Int32.toInt_inj.mp (by rw [e]; rfl)
      subst this; rfl
    · have : x = 1 := Int32.toInt_inj.mp (by rw [e]; rfl)
      subst this; rfl
  · rw [nbe] at ht
    simp only at ht
    subst ht
    obtain ⟨x, rfl, -⟩ := h; rfl
  · simp only [Bool.or_eq_true, nbe] at ht
    rcases ht with rfl | rfl | rfl
    · obtain ⟨x, rfl, -⟩ := h; rfl
    · rcases h with rfl | ⟨x, rfl, -⟩ <;> rfl
    · have : v = .null := h
      rw [this]; rfl
  · simp only [Bool.or_eq_true, nbe] at ht
    rcases ht with rfl | rfl | rfl
    · obtain ⟨x, rfl, -⟩ := h; rfl
    · rcases h with rfl | ⟨x, rfl, -⟩ <;> rfl
    · have : v = .null := h
      rw [this]; rfl
  · cases ht
theorem isKd_no (hG : Ga KT X ks P n0 ρ0 eff w0 σ ρ lc st w) {s k : Nat} (h : isKd σ.1 s k = false) : ∃ j k', ρ s = .ref (j + 3) ∧ ks[j]? = some k' ∧ k' ≠ k := by
  unfold isKd at h
  split at h
  · next k' hk =>
    obtain ⟨j, e, hj⟩ := hG.kd hk
    exact ⟨j, k', e, hj, fun e => by rw [nbe.mpr e] at h; cases h⟩
  · cases h
/-- behind a store: what is left of the state -/
theorem Ga.sto (hXs : XS KT ks X) (hG : Ga KT X ks P n0 ρ0 eff w0 σ ρ lc st w) {w1 : pW} {r : List Nat} {me : List Fa} {cr : Nat} (hr : ∀ s ∈ r, s < σ.1.length) (hT : Typed KT ks (P + cr) w1) (hF : Frz KT ks w w1) (hE : Ef ks eff w w1) (hm : ∀ f ∈ me, okF P ρ w1 f ∧ fsc σ.1.length f) (hc : cr ≤ CrMax) : Ga KT X ks P n0 ρ0 eff w0 (σ.1, σ.2.1, r, me, cr) ρ lc (r.map ρ) w1 := by
  obtain ⟨g1, g2, g3, g4, g5, g6, g7, g8, g9, g10, g11⟩ := hG
  refine ⟨g1, g2, ⟨rfl, hr⟩, hm, hT, hXs w w1 hF g6, ?_, g8, g9, g10, hc⟩
  intro i k hk
  obtain ⟨a1, a2⟩ := g7 i k hk
  obtain ⟨b1, b2⟩ := hE i k hk
  refine ⟨fun hn a ha => b1 hn a (a1 hn a ha), fun ci fs h => ?_⟩
  obtain ⟨fs1, c1, c2⟩ := a2 ci fs h
  obtain ⟨fs2, d1, d2⟩ := b2 ci fs1 c1
  exact ⟨fs2, d1, fun j hj => (d2 j hj).trans (c2 j hj)⟩
theorem k_putfield {i : Nat} (hXs : XS KT ks X) (hG : Ga KT X ks P n0 ρ0 eff w0 σ ρ lc st w) (h : ai1 KT F pp eff own nL σ (.putfield i) pc = some l) : Nx KT X ks P n0 ρ0 eff w0 pp F xs L own nL ini (.putfield i) pc lc st w l := by
  simp only [ai1] at h
  unfold putA at h
  split at h
  · next v o r ci f hst hp =>
    split at h
    · next k dv hk hdv =>
      split at h
      · next cj fds hK =>
        split at h
        · next d ty hd hty =>
          split at h
          · next hc =>
            simp only [Bool.and_eq_true, nbe, Bool.not_eq_true'] at hc
            obtain ⟨rfl, heff, h5, hot⟩ := hc
            have h5 : d.1 ≠ 5 := fun e => by rw [nbe.mpr e] at h5; cases h5
            obtain ⟨a, ea, ka⟩ := hG.kd hk
            obtain ⟨fs, h1, h2, h3⟩ := hG.obj ka hK
            have hv := hG.1 v dv hdv
            have hr : ∀ s ∈ r, s < σ.1.length := fun s hs => hG.sl (by rw [hst]; exact List.mem_cons_of_mem _ (List.mem_cons_of_mem _ hs))
            have hol : o < σ.1.length := hG.sl (by rw [hst]; exact List.mem_cons_of_mem _ List.mem_cons_self)
            have hvl : v < σ.1.length := lt_ds hdv
            have hfl : f < fs.length := by rw [h2]; exact (List.getElem?_eq_some_iff.mp hd).1
            have hal : a < w.length := (List.getElem?_eq_some_iff.mp h1).1
            have hss : sstep pp F xs L own nL ini (.putfield i) pc lc st w = some (pc + 3, lc, r.map ρ, w.set a (.inr (ci, fs.set f (ρ v)))) := by
              rw [hG.stq, hst, List.map_cons, List.map_cons, ea]
              simp only [sstep, hp, putF, wAt3, h1, hty]
              rw [if_pos (by simp only [beq_self_eq_true, okTy_ok hv hot, Bool.true_and, Bool.and_eq_true, decide_eq_true_eq]; exact ⟨hfl, rfl⟩)]
              rfl
            have main : ∀ cr, okD ks (P + cr) d (ρ v) → σ.2.2.2.2 ≤ cr → cr ≤ CrMax → Ga KT X ks P n0 ρ0 eff w0 (σ.1, σ.2.1, r, (1000 + f, o, 0, v) :: killF σ.1 σ.2.2.2.1 k f, cr) ρ lc (r.map ρ) (w.set a (.inr (ci, fs.set f (ρ v)))) := by
              intro cr hok hcr hcm
              refine hG.sto hXs hr ?_ ?_ ?_ ?_ hcm
              · refine (hG.2.2.2.2.1.up (by omega)).set ka hK ⟨rfl, by rw [List.length_set]; exact h2, fun j d' hj => ?_⟩
                by_cases hjf : j = f
                · subst hjf
                  rw [hd] at hj
                  cases hj
                  exact ⟨ρ v, List.getElem?_set_self hfl, hok⟩
                · obtain ⟨u, q1, q2⟩ := h3 j d' hj
                  exact ⟨u, by rw [List.getElem?_set_ne (Ne.symm hjf)]; exact q1, okD_up (by omega) q2⟩
              · intro j k' kd' hj hK'
                by_cases hja : j = a
                · subst hja
                  rw [ka] at hj
                  cases hj
                  rw [hK] at hK'
                  cases hK'
                  intro ci' fs' hw
                  rw [h1] at hw
                  cases hw
                  refine ⟨fs.set f (ρ v), by rw [get_set hal, if_pos rfl], fun j d' hd' h5' => ?_⟩
                  have hjf : j ≠ f := fun e => by subst e; rw [hd] at hd'; cases hd'; exact h5 h5'
                  exact List.getElem?_set_ne (Ne.symm hjf)
                · rcases kd' with o' | r'
                  · intro ci' fs' hw
                    exact ⟨fs', by rw [get_set hal, if_neg hja]; exact hw, fun _ _ _ _ => rfl⟩
                  · intro _
                    rw [get_set hal, if_neg hja]
              · intro j k' hj
                by_cases hja : j = a
                · subst hja
                  rw [ka] at hj
                  cases hj
                  refine ⟨fun _ a' ha' => (by rw [h1] at ha'; cases ha'), fun ci' fs' hw => ?_⟩
                  rw [h1] at hw
                  cases hw
                  refine ⟨fs.set f (ρ v), by rw [get_set hal, if_pos rfl], fun j hj => ?_⟩
                  have hjf : j ≠ f := fun e => by subst e; exact hj (mem_cont heff)
                  exact List.getElem?_set_ne (Ne.symm hjf)
                · exact ⟨fun _ a' ha' => by rw [get_set hal, if_neg hja]; exact ha', fun ci' fs' hw => ⟨fs', by rw [get_set hal, if_neg hja]; exact hw, fun _ _ => rfl⟩⟩
              · intro g hg
                rcases List.mem_cons.mp hg with rfl | hg
                · refine ⟨fk ⟨a + 3, ci, fs.set f (ρ v), ea, ?_, List.getElem?_set_self hfl⟩, fsc3 hol (Nat.lt_of_le_of_lt (Nat.zero_le _) hol) hvl⟩
                  rw [wAt3, get_set hal, if_pos rfl]
                · obtain ⟨hg1, hg2⟩ := List.mem_filter.mp hg
                  obtain ⟨b1, b2⟩ := hG.2.2.2.1 g hg1
                  refine ⟨⟨fun e => ?_, b1.2.1, b1.2.2.1, b1.2.2.2.1, b1.2.2.2.2.1, b1.2.2.2.2.2.1, b1.2.2.2.2.2.2.1, fun e => ?_⟩, b2⟩
                  · obtain ⟨j, x, t, n, q, q1, q2, q3, q4⟩ := b1.1 e
                    obtain ⟨j', rfl, hj'⟩ := wAt_some q3
                    refine ⟨j' + 3, x, t, n, q, q1, q2, ?_, q4⟩
                    rw [wAt3, get_set hal, if_neg (fun e => by subst e; rw [h1] at hj'; cases hj')]
                    exact hj'
                  · obtain ⟨j, c', fs', q1, q2, q3⟩ := b1.2.2.2.2.2.2.2 e
                    obtain ⟨j', rfl, hj'⟩ := wAt_some q2
                    by_cases hja : j' = a
                    · subst hja
                      rw [h1] at hj'
                      cases hj'
                      refine ⟨j' + 3, ci, fs.set f (ρ v), q1, by rw [wAt3, get_set hal, if_pos rfl], ?_⟩
                      have hne : g.1 - 1000 ≠ f := by
                        intro e2
                        simp only [Bool.not_eq_true', Bool.and_eq_false_iff] at hg2
                        rcases hg2 with hg2 | hg2
                        · rw [nbe.mpr (by omega)] at hg2; cases hg2
                        · obtain ⟨j2, k2, z1, z2, z3⟩ := isKd_no hG hg2
                          rw [q1] at z1
                          cases z1
                          rw [ka] at z2
                          cases z2
                          exact z3 rfl
                      rw [List.getElem?_set_ne (Ne.symm hne)]
                      exact q3
                    · exact ⟨j' + 3, c', fs', q1, by rw [wAt3, get_set hal, if_neg hja]; exact hj', q3⟩
            have hcm := hG.2.2.2.2.2.2.2.2.2.2
            split at h
            · next hb =>
              simp only [Bool.and_eq_true, nbe, nbl] at hb
              simp only [Option.some.injEq] at h
              subst h
              refine ⟨_, List.mem_singleton_self _, ρ, lc, _, _, hss, main _ ?_ (Nat.le_max_left _ _) (Nat.max_le.mpr ⟨hcm, hb.2.2⟩)⟩
              obtain ⟨t, d2, d3⟩ := d
              obtain ⟨t', e2, e3⟩ := dv
              simp only at hb
              obtain ⟨rfl, rfl, -⟩ := hb
              obtain ⟨x, e, h6, h7⟩ := hv
              refine ⟨x, e, h6, ?_⟩
              simp only at h7 ⊢
              have := Nat.le_max_right σ.2.2.2.2 e2
              omega
            · split at h
              · next hsub =>
                simp only [Option.some.injEq] at h
                subst h
                exact ⟨_, List.mem_singleton_self _, ρ, lc, _, _, hss, main _ (subD_ok hv hsub) (Nat.le_refl _) hcm⟩
              · cases h
          · cases h
        · cases h
      · cases h
    · cases h
  · cases h
end SND6

section SND9
variable {KT : List Kd} {X : pW → Prop} {ks : List Nat} {P n0 : Nat} {ρ0 : Nat → Value} {eff : List (Nat × Nat)} {w0 : pW} {σ : aS} {ρ : Nat → Value} {lc : pL} {st : List Value} {w : pW}
variable {pp : pP} {F : pF} {xs : Nat → Int32} {L own nL : Nat} {ini : Bool} {pc : Nat} {l : List (Nat × aS)}
/-- a row made new -/
theorem Ga.ast (hXs : XS KT ks X) (hG : Ga KT X ks P n0 ρ0 eff w0 σ ρ lc st w) {b k t n i : Nat} {d : Ds} {f : Nat → Int32} {x z : Int32} {r : List Nat} {cr : Nat} {more : List Fa} (kb : ks[b]? = some k) (hK : KT[k]? = some (.inr (t, n, d))) (hw : w[b]? = some (.inl (t, n, .inl f))) (ht : t = 0 ∨ t = 1 ∨ t = 2) (h5 : d.1 ≠ 5) (hf : ∀ j : Nat, j < n → okD ks (P + σ.2.2.2.2) (elD d j) (.int (f j))) (heff : (k, 999) ∈ eff) (ex : ρ i = .int x) (h0 : 0 ≤ x.toInt) (hz : okD ks (P + cr) (elD d x.toNatClampNeg) (.int z)) (hcr : σ.2.2.2.2 ≤ cr) (hcm : cr ≤ CrMax) (hr : ∀ s ∈ r, s < σ.1.length)
    (hm : ∀ g ∈ more, okF P ρ (w.set b (.inl (t, n, .inl (upd f x.toNatClampNeg z)))) g ∧ fsc σ.1.length g) : Ga KT X ks P n0 ρ0 eff w0 (σ.1, σ.2.1, r, more ++ killA σ.1 σ.2.2.2.1 k i, cr) ρ lc (r.map ρ) (w.set b (.inl (t, n, .inl (upd f x.toNatClampNeg z)))) := by
  have hbl : b < w.length := (List.getElem?_eq_some_iff.mp hw).1
  refine hG.sto hXs hr ?_ ?_ ?_ ?_ hcm
  · refine (hG.2.2.2.2.1.up (by omega)).set kb hK ⟨rfl, rfl, ht, fun j hj => ?_⟩
    by_cases hjx : j = x.toNatClampNeg
    · subst hjx
      rw [pk_us]
      exact hz
    · rw [pk_un hjx]
      exact okD_up (by omega) (hf j hj)
  · intro j k' kd' hj hK'
    by_cases hjb : j = b
    · subst hjb
      rw [kb] at hj
      cases hj
      rw [hK] at hK'
      cases hK'
      intro e
      exact absurd e h5
    · rcases kd' with o' | r'
      · intro ci' fs' hw'
        exact ⟨fs', by rw [get_set hbl, if_neg hjb]; exact hw', fun _ _ _ _ => rfl⟩
      · intro _
        rw [get_set hbl, if_neg hjb]
  · intro j k' hj
    by_cases hjb : j = b
    · subst hjb
      rw [kb] at hj
      cases hj
      exact ⟨fun hn => absurd heff hn, fun ci' fs' hw' => by rw [hw] at hw'; cases hw'⟩
    · exact ⟨fun _ a' ha' => by rw [get_set hbl, if_neg hjb]; exact ha', fun ci' fs' hw' => ⟨fs', by rw [get_set hbl, if_neg hjb]; exact hw', fun _ _ => rfl⟩⟩
  · intro g hg
    rcases List.mem_append.mp hg with hg | hg
    · exact hm g hg
    · obtain ⟨hg1, hg2⟩ := List.mem_filter.mp hg
      obtain ⟨b1, b2⟩ := hG.2.2.2.1 g hg1
      refine ⟨⟨fun e => ?_, b1.2.1, b1.2.2.1, b1.2.2.2.1, b1.2.2.2.2.1, b1.2.2.2.2.2.1, b1.2.2.2.2.2.2.1, fun e => ?_⟩, b2⟩
      · obtain ⟨j, y, t', n', q, q1, q2, q3, q4⟩ := b1.1 e
        obtain ⟨j', rfl, hj'⟩ := wAt_some q3
        by_cases hjb : j' = b
        · subst hjb
          rw [hw] at hj'
          cases hj'
          refine ⟨j' + 3, y, t, n, _, q1, q2, by rw [wAt3, get_set hbl, if_pos rfl], ?_⟩
          have hne : y.toNatClampNeg ≠ x.toNatClampNeg := by
            simp only [Bool.not_eq_true', Bool.and_eq_false_iff] at hg2
            rcases hg2 with hg2 | hg2 | hg2
            · rw [nbe.mpr e] at hg2; cases hg2
            · obtain ⟨j2, k2, z1, z2, z3⟩ := isKd_no hG hg2
              rw [q1] at z1
              cases z1
              rw [kb] at z2
              cases z2
              exact absurd rfl z3
            · have hap : apartS σ.1 g.2.2.1 i = true := by
                cases hz : apartS σ.1 g.2.2.1 i with
                | true => rfl
                | false => rw [hz] at hg2; cases hg2
              have := apart_ok hG hap q2 ex
              intro e2
              have c1 := clamp_toInt q4.2
              have c2 := clamp_toInt h0
              omega
          rw [pk_un hne]
          exact q4
        · exact ⟨j' + 3, y, t', n', q, q1, q2, by rw [wAt3, get_set hbl, if_neg hjb]; exact hj', q4⟩
      · obtain ⟨j, c', fs', q1, q2, q3⟩ := b1.2.2.2.2.2.2.2 e
        obtain ⟨j', rfl, hj'⟩ := wAt_some q2
        exact ⟨j' + 3, c', fs', q1, by rw [wAt3, get_set hbl, if_neg (fun e => by subst e; rw [hw] at hj'; cases hj')]; exact hj', q3⟩
theorem astA_ok {ts : List Nat} {pc1 : Nat} (hXs : XS KT ks X) (hts : ∀ t ∈ ts, t = 0 ∨ t = 1 ∨ t = 2) (hG : Ga KT X ks P n0 ρ0 eff w0 σ ρ lc st w) (h : astA KT eff σ ts pc1 = some l) : ∃ (a : Nat) (x v : Int32) (r : List Nat) (w1 : pW), st = .int v :: .int x :: .ref a :: r.map ρ ∧ astI w a x v ts = some w1 ∧ ∃ τ, l = [(pc1, τ)] ∧ Ga KT X ks P n0 ρ0 eff w0 τ ρ lc (r.map ρ) w1 := by
  unfold astA at h
  split at h
  · next v i a r hst =>
    split at h
    · next k hk =>
      split at h
      · next t n d hK =>
        split at h
        · next hc =>
          simp only [Bool.and_eq_true, List.contains_iff_mem] at hc
          obtain ⟨hc1, hc2, hc3, hc4⟩ := hc
          obtain ⟨b, eb, kb⟩ := hG.kd hk
          obtain ⟨f, hw, hf⟩ := hG.row kb hK (hts t hc1)
          obtain ⟨x, ex, h0, hlt, hin⟩ := inA_ok hG hc2
          obtain ⟨y, ey⟩ := hG.tI hc4
          have hr : ∀ s ∈ r, s < σ.1.length := fun s hs => hG.sl (by rw [hst]; exact List.mem_cons_of_mem _ (List.mem_cons_of_mem _ (List.mem_cons_of_mem _ hs)))
          have hvl : v < σ.1.length := hG.sl (by rw [hst]; exact List.mem_cons_self)
          have hil : i < σ.1.length := hG.sl (by rw [hst]; exact List.mem_cons_of_mem _ List.mem_cons_self)
          have hal : a < σ.1.length := hG.sl (by rw [hst]; exact List.mem_cons_of_mem _ (List.mem_cons_of_mem _ List.mem_cons_self))
          have hbl : b < w.length := (List.getElem?_eq_some_iff.mp hw).1
          have hast : astI w (b + 3) x y ts = some (w.set b (.inl (t, n, .inl (upd f x.toNatClampNeg (naI t y))))) := by
            unfold astI
            rw [wAt3, hw]
            simp only
            rw [if_pos (by simp only [Bool.and_eq_true, List.contains_iff_mem]; exact ⟨hc1, hin⟩)]
            rfl
          have hst' : st = .int y :: .int x :: .ref (b + 3) :: r.map ρ := by rw [hG.stq, hst, List.map_cons, List.map_cons, List.map_cons, ex, ey, eb]
          split at h
          · next ht0 =>
            rw [nbe] at ht0
            subst ht0
            split at h
            · next cr hcr =>
              obtain ⟨g1, g2, g3⟩ := stD_ok hG ex h0 ey hcr
              have h5 : d.1 ≠ 5 := fun e => by unfold stD at hcr; rw [e] at hcr; cases hcr
              refine ⟨b + 3, x, y, r, _, hst', hast, _, (Option.some.inj h).symm, ?_⟩
              refine hG.ast hXs (more := [(2, a, i, v)]) kb hK hw (Or.inl rfl) h5 hf hc3 ex h0 g1 g2 g3 hr (mem1 ⟨f2 ⟨b + 3, x, 0, n, _, eb, ex, by rw [wAt3, get_set hbl, if_pos rfl], ?_, h0⟩, fsc3 hal hil hvl⟩)
              rw [pk_us, ey]
              rfl
            · cases h
          · next ht0 =>
            split at h
            · next hd =>
              have ht12 : t = 1 ∨ t = 2 := by
                rcases hts t hc1 with e | e | e
                · exact absurd (nbe.mpr e) ht0
                · exact Or.inl e
                · exact Or.inr e
              have key : d.1 = 0 ∧ ∃ z1 z2, okI z1 z2 (.int (naI t y)) ∧ d.2.1 ≤ z1 ∧ z2 ≤ d.2.2 := by
                simp only [Bool.or_eq_true, Bool.and_eq_true, nbe, nbl] at hd
                rcases hd with (hd | ⟨h1, h2, h3, h4⟩) | ⟨h1, h2, h3, h4⟩
                · unfold subD at hd
                  obtain ⟨t', d1, d2⟩ := d
                  split at hd
                  · next e =>
                    simp only at e
                    subst e
                    simp only [rng, dFull, Bool.and_eq_true, nbl] at hd
                    exact ⟨rfl, 0, Mx, okI_full _, hd.1, hd.2⟩
                  · simp [dFull, Nat.beq] at hd
                  · simp [dFull, Nat.beq] at hd
                  · simp only [Bool.or_eq_true, Bool.and_eq_true, nbe, nbl, dFull, Zb] at hd; omega
                  · simp [dFull, Nat.beq] at hd
                  · simp [dFull, Nat.beq] at hd
                  · simp [dFull, Nat.beq] at hd
                  · cases hd
                · subst h1
                  exact ⟨h2, Zb, Zb + 1, nar_bool y, by omega, h4⟩
                · subst h1
                  exact ⟨h2, Zb - 128, Zb + 127, nar_byte y, h3, h4⟩
              obtain ⟨hd0, z1, z2, hz, l1, l2⟩ := key
              refine ⟨b + 3, x, y, r, _, hst', hast, _, (Option.some.inj h).symm, ?_⟩
              refine hG.ast hXs (more := []) kb hK hw (Or.inr ht12) (by rw [hd0]; decide) hf hc3 ex h0 ?_ (Nat.le_refl _) hG.2.2.2.2.2.2.2.2.2.2 hr (fun _ h => by cases h)
              rw [elD_n (by rw [hd0]; decide)]
              obtain ⟨t', d1, d2⟩ := d
              simp only at hd0
              subst hd0
              exact oD0 (okI_w hz l1 l2)
            · cases h
        · cases h
      · cases h
    · cases h
  · cases h
theorem k_iastore (hXs : XS KT ks X) (hG : Ga KT X ks P n0 ρ0 eff w0 σ ρ lc st w) (h : ai1 KT F pp eff own nL σ (.iastore) pc = some l) : Nx KT X ks P n0 ρ0 eff w0 pp F xs L own nL ini (.iastore) pc lc st w l := by
  simp only [ai1] at h
  obtain ⟨a, x, v, r, w1, e1, e2, τ, rfl, g⟩ := astA_ok hXs (fun t ht => by simp at ht; omega) hG h
  refine ⟨_, List.mem_singleton_self _, ρ, lc, _, w1, ?_, g⟩
  rw [e1]
  simp only [sstep, e2]
theorem k_bastore (hXs : XS KT ks X) (hG : Ga KT X ks P n0 ρ0 eff w0 σ ρ lc st w) (h : ai1 KT F pp eff own nL σ (.bastore) pc = some l) : Nx KT X ks P n0 ρ0 eff w0 pp F xs L own nL ini (.bastore) pc lc st w l := by
  simp only [ai1] at h
  obtain ⟨a, x, v, r, w1, e1, e2, τ, rfl, g⟩ := astA_ok hXs (fun t ht => by simp at ht; omega) hG h
  refine ⟨_, List.mem_singleton_self _, ρ, lc, _, w1, ?_, g⟩
  rw [e1]
  simp only [sstep, e2]
theorem k_lastore (hXs : XS KT ks X) (hG : Ga KT X ks P n0 ρ0 eff w0 σ ρ lc st w) (h : ai1 KT F pp eff own nL σ (.lastore) pc = some l) : Nx KT X ks P n0 ρ0 eff w0 pp F xs L own nL ini (.lastore) pc lc st w l := by
  simp only [ai1] at h
  split at h
  · next v i a r hst =>
    split at h
    · next k hk =>
      split at h
      · next n d hK =>
        split at h
        · next hc =>
          simp only [Bool.and_eq_true, List.contains_iff_mem] at hc
          obtain ⟨hc1, hc2, hc3, hc4⟩ := hc
          rw [nbe] at hc4
          simp only [Option.some.injEq] at h
          subst h
          obtain ⟨b, eb, kb⟩ := hG.kd hk
          obtain ⟨c, hw, hok⟩ := hG.cel kb hK
          obtain ⟨x, ex, h0, hlt, hin⟩ := inA_ok hG hc1
          obtain ⟨y, ey⟩ := hG.tJ hc2
          have hr : ∀ s ∈ r, s < σ.1.length := fun s hs => hG.sl (by rw [hst]; exact List.mem_cons_of_mem _ (List.mem_cons_of_mem _ (List.mem_cons_of_mem _ hs)))
          have hbl : b < w.length := (List.getElem?_eq_some_iff.mp hw).1
          have h3 := hok.2.2
          rcases c with f | f | f | f | f
          · have := h3.1; simp only at this; omega
          · refine ⟨_, List.mem_singleton_self _, ρ, lc, r.map ρ, w.set b (.inl (3, n, .inr (.inl (vp_updL f x.toNatClampNeg y)))), ?_, ?_⟩
            · rw [hG.stq, hst, List.map_cons, List.map_cons, List.map_cons, ex, ey, eb]
              simp only [sstep, wAt3, hw, hin, if_true]
              rfl
            · have hfr : d.1 ≠ 5 := by rw [hc4]; decide
              · refine hG.sto hXs hr (hG.2.2.2.2.1.set kb hK ⟨rfl, rfl, rfl⟩) ?_ ?_ ?_ hG.2.2.2.2.2.2.2.2.2.2
                · intro j k' kd' hj hK'
                  by_cases hjb : j = b
                  · subst hjb
                    rw [kb] at hj
                    cases hj
                    rw [hK] at hK'
                    cases hK'
                    intro e
                    exact absurd e hfr
                  · rcases kd' with o' | r'
                    · intro ci' fs' hw'
                      exact ⟨fs', by rw [get_set hbl, if_neg hjb]; exact hw', fun _ _ _ _ => rfl⟩
                    · intro _
                      rw [get_set hbl, if_neg hjb]
                · intro j k' hj
                  by_cases hjb : j = b
                  · subst hjb
                    rw [kb] at hj
                    cases hj
                    exact ⟨fun hn => absurd hc3 hn, fun ci' fs' hw' => by rw [hw] at hw'; cases hw'⟩
                  · exact ⟨fun _ a' ha' => by rw [get_set hbl, if_neg hjb]; exact ha', fun ci' fs' hw' => ⟨fs', by rw [get_set hbl, if_neg hjb]; exact hw', fun _ _ => rfl⟩⟩
                · intro g hg
                  obtain ⟨b1, b2⟩ := hG.2.2.2.1 g hg
                  refine ⟨⟨fun e => ?_, b1.2.1, b1.2.2.1, b1.2.2.2.1, b1.2.2.2.2.1, b1.2.2.2.2.2.1, b1.2.2.2.2.2.2.1, fun e => ?_⟩, b2⟩
                  · obtain ⟨j, y, t', n', q, q1, q2, q3, q4⟩ := b1.1 e
                    obtain ⟨j', rfl, hj'⟩ := wAt_some q3
                    exact ⟨j' + 3, y, t', n', q, q1, q2, by rw [wAt3, get_set hbl, if_neg (fun e => by subst e; rw [hw] at hj'; cases hj')]; exact hj', q4⟩
                  · obtain ⟨j, c', fs', q1, q2, q3⟩ := b1.2.2.2.2.2.2.2 e
                    obtain ⟨j', rfl, hj'⟩ := wAt_some q2
                    exact ⟨j' + 3, c', fs', q1, by rw [wAt3, get_set hbl, if_neg (fun e => by subst e; rw [hw] at hj'; cases hj')]; exact hj', q3⟩
          · exact h3.elim
          · exact h3.elim
          · have := h3.1; simp only at this; omega
        · cases h
      · cases h
    · cases h
  · cases h
end SND9

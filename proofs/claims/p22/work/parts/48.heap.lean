section SND5
variable {KT : List Kd} {X : pW → Prop} {ks : List Nat} {P n0 : Nat} {ρ0 : Nat → Value} {eff : List (Nat × Nat)} {w0 : pW} {σ : aS} {ρ : Nat → Value} {lc : pL} {st : List Value} {w : pW}
variable {pp : pP} {F : pF} {xs : Nat → Int32} {L own nL : Nat} {ini : Bool} {pc : Nat} {l : List (Nat × aS)}
theorem okD_up {B B' : Nat} (hB : B ≤ B') {d : Ds} {v : Value} (h : okD ks B d v) : okD ks B' d v := by
  unfold okD at h ⊢
  split at h
  · exact h
  · exact h
  · exact h
  · obtain ⟨x, e, h1, h2⟩ := h
    exact ⟨x, e, h1, by omega⟩
  · exact h
  · exact h
  · exact h
  · exact h
  · exact h
theorem okE_up {B B' : Nat} (hB : B ≤ B') {kd : Kd} {e : pE} (h : okE ks B kd e) : okE ks B' kd e := by
  rcases kd with ⟨ci, fds⟩ | ⟨t, n, d⟩ <;> rcases e with ⟨t', n', a⟩ | ⟨c, fs⟩
  · exact h
  · refine ⟨h.1, h.2.1, fun j d hj => ?_⟩
    obtain ⟨v, h1, h2⟩ := h.2.2 j d hj
    exact ⟨v, h1, okD_up hB h2⟩
  · refine ⟨h.1, h.2.1, ?_⟩
    have h3 := h.2.2
    rcases a with f | f | f | f | f
    · exact ⟨h3.1, fun j hj => okD_up hB (h3.2 j hj)⟩
    · exact h3
    · exact h3
    · exact h3
    · exact h3
  · exact h
theorem Typed.up {B B' : Nat} (hB : B ≤ B') (h : Typed KT ks B w) : Typed KT ks B' w := by
  refine ⟨h.1, fun i k hk => ?_⟩
  obtain ⟨kd, e, h1, h2, h3⟩ := h.2 i k hk
  exact ⟨kd, e, h1, h2, okE_up hB h3⟩
theorem toSy_ok {cr : Nat} {d : Ds} {v : Value} (h : okD ks (P + cr) d v) : okD ks P (toSy cr d) v := by
  obtain ⟨t, a, b⟩ := d
  unfold toSy
  split
  · next ht => simp only at ht; subst ht; exact h
  · next ht =>
    simp only at ht
    subst ht
    obtain ⟨x, e, h1, h2⟩ := h
    exact ⟨x, e, h1, by simp only at h2 ⊢; omega⟩
  · next h5 h3 =>
    unfold okD at h ⊢
    split at h
    · next ht => simp only at ht; subst ht; exact h
    · next ht => simp only at ht; subst ht; exact h
    · next ht => simp only at ht; subst ht; exact h
    · next ht => exact absurd ht h3
    · next ht => simp only at ht; subst ht; exact h
    · next ht => exact absurd ht h5
    · next ht => simp only at ht; subst ht; exact h
    · next ht => simp only at ht; subst ht; exact h
    · exact h.elim
theorem Ga.obj (hG : Ga KT X ks P n0 ρ0 eff w0 σ ρ lc st w) {i k ci : Nat} {fds : List Ds} (hk : ks[i]? = some k) (hK : KT[k]? = some (.inl (ci, fds))) : ∃ fs, w[i]? = some (.inr (ci, fs)) ∧ fs.length = fds.length ∧ ∀ (j : Nat) (d : Ds), fds[j]? = some d → ∃ v : Value, fs[j]? = some v ∧ okD ks (P + σ.2.2.2.2) d v := by
  obtain ⟨kd, e, h1, h2, h3⟩ := hG.2.2.2.2.1.2 i k hk
  rw [hK] at h1
  cases h1
  rcases e with ⟨t, n, a⟩ | ⟨c, fs⟩
  · exact h3.elim
  · obtain ⟨rfl, h4, h5⟩ := h3
    exact ⟨fs, h2, h4, h5⟩
theorem Ga.row (hG : Ga KT X ks P n0 ρ0 eff w0 σ ρ lc st w) {i k t n : Nat} {d : Ds} (hk : ks[i]? = some k) (hK : KT[k]? = some (.inr (t, n, d))) (ht : t = 0 ∨ t = 1 ∨ t = 2) : ∃ f : Nat → Int32, w[i]? = some (.inl (t, n, .inl f)) ∧ ∀ j : Nat, j < n → okD ks (P + σ.2.2.2.2) (elD d j) (.int (f j)) := by
  obtain ⟨kd, e, h1, h2, h3⟩ := hG.2.2.2.2.1.2 i k hk
  rw [hK] at h1
  cases h1
  rcases e with ⟨t', n', a⟩ | ⟨c, fs⟩
  · obtain ⟨h4, h5, h6⟩ := h3
    simp only at h4 h5
    subst h4
    subst h5
    rcases a with f | f | f | f | f
    · exact ⟨f, h2, h6.2⟩
    · simp only at h6; omega
    · exact h6.elim
    · exact h6.elim
    · have := h6.1; simp only at this; omega
  · exact h3.elim
theorem wAt3 (w : pW) (i : Nat) : wAt w (i + 3) = w[i]? := rfl
theorem k_getfield {i : Nat} (hG : Ga KT X ks P n0 ρ0 eff w0 σ ρ lc st w) (h : ai1 KT F pp eff own nL σ (.getfield i) pc = some l) : Nx KT X ks P n0 ρ0 eff w0 pp F xs L own nL ini (.getfield i) pc lc st w l := by
  simp only [ai1] at h
  unfold getA at h
  split at h
  · next o r ci f hst hp =>
    split at h
    · next k hk =>
      split at h
      · next cj fds hK =>
        split at h
        · next d hd =>
          split at h
          · next hc =>
            rw [nbe] at hc
            subst hc
            obtain ⟨a, ea, ka⟩ := hG.kd hk
            obtain ⟨fs, h1, h2, h3⟩ := hG.obj ka hK
            obtain ⟨v, h4, h5⟩ := h3 f d hd
            have hr : ∀ s ∈ r, s < σ.1.length := fun s hs => hG.sl (by rw [hst]; exact List.mem_cons_of_mem _ hs)
            have hol : o < σ.1.length := hG.sl (by rw [hst]; exact List.mem_cons_self)
            have hss : sstep pp F xs L own nL ini (.getfield i) pc lc st w = some (pc + 3, lc, v :: r.map ρ, w) := by
              rw [hG.stq, hst, List.map_cons, ea]
              simp only [sstep, hp, getF, wAt3, h1, beq_self_eq_true, if_true, h4]
            split at h
            · next s hs =>
              simp only [Option.some.injEq] at h
              subst h
              obtain ⟨g1, g2⟩ := fnd_ok hG hs
              obtain ⟨i', ci', fs', q1, q2, q3⟩ := g1.2.2.2.2.2.2.2 (Nat.le_add_right 1000 f)
              simp only at q1 q3
              rw [ea] at q1
              cases q1
              rw [wAt3, h1] at q2
              cases q2
              rw [Nat.add_sub_cancel_left, h4] at q3
              have hv : v = ρ s := Option.some.inj q3
              have hl : s < σ.1.length := by
                rcases g2.2.2 with q | q | q | q
                · simp only at q; omega
                · simp only at q; omega
                · simp only at q; omega
                · exact q
              refine ⟨_, List.mem_singleton_self _, ρ, lc, _, w, hss, ?_⟩
              have := hG.stk (r := s :: r) (fun x hx => by
                rcases List.mem_cons.mp hx with rfl | hx
                · exact hl
                · exact hr x hx)
              rw [List.map_cons, ← hv] at this
              exact this
            · simp only [Option.some.injEq] at h
              subst h
              refine ⟨_, List.mem_singleton_self _, _, lc, _, w, hss, (hG.stk hr).pu (toSy_ok h5) (mem1 ⟨fk ⟨a + 3, ci, fs, ?_, by rw [wAt3]; exact h1, ?_⟩, fsc3 (Nat.lt_succ_of_lt hol) (Nat.succ_pos _) (Nat.lt_succ_self _)⟩)⟩
              · rw [upS_ne (show o < (setSt σ r).1.length from hol)]; exact ea
              · rw [upS_eq]; exact h4
          · cases h
        · cases h
      · cases h
    · cases h
  · cases h
/-- a world with a cell made new -/
theorem Typed.set {B i k : Nat} {kd : Kd} {x : pE} (h : Typed KT ks B w) (hk : ks[i]? = some k) (hK : KT[k]? = some kd) (hx : okE ks B kd x) : Typed KT ks B (w.set i x) := by
  refine ⟨by rw [List.length_set]; exact h.1, fun j k' hj => ?_⟩
  by_cases hji : j = i
  · subst hji
    rw [hk] at hj
    cases hj
    have hl : j < w.length := by rw [h.1]; exact (List.getElem?_eq_some_iff.mp hk).1
    exact ⟨kd, x, hK, List.getElem?_set_self hl, hx⟩
  · obtain ⟨kd', e, h1, h2, h3⟩ := h.2 j k' hj
    exact ⟨kd', e, h1, by rw [List.getElem?_set_ne (Ne.symm hji)]; exact h2, h3⟩
theorem get_set {i j : Nat} {x : pE} (hl : i < w.length) : (w.set i x)[j]? = if j = i then some x else w[j]? := by
  by_cases h : j = i
  · subst h; rw [if_pos rfl, List.getElem?_set_self hl]
  · rw [if_neg h, List.getElem?_set_ne (Ne.symm h)]
theorem subD_ok {cr : Nat} {dv d : Ds} {v : Value} (h : okD ks P dv v) (hs : subD cr dv d = true) : okD ks (P + cr) d v := by
  obtain ⟨t, a, b⟩ := d
  unfold subD at hs
  split at hs
  · next ht =>
    simp only at ht
    subst ht
    split at hs
    · next p q hr =>
      simp only [Bool.and_eq_true, nbl] at hs
      exact okI_w (rng_ok h hr) hs.1 hs.2
    · cases hs
  · next ht =>
    simp only at ht
    subst ht
    simp only [Bool.and_eq_true, nbe] at hs
    obtain ⟨t, a', b'⟩ := dv
    obtain ⟨rfl, rfl⟩ := hs
    exact h
  · next ht =>
    simp only at ht
    subst ht
    simp only [Bool.and_eq_true, Bool.or_eq_true, nbe] at hs
    obtain ⟨t, a', b'⟩ := dv
    rcases hs with rfl | ⟨rfl | rfl, rfl⟩
    · exact Or.inl h
    · exact Or.inr h
    · exact h
  · next ht =>
    simp only at ht
    subst ht
    simp only [Bool.and_eq_true, Bool.or_eq_true, nbe, nbl, Zb] at hs
    obtain ⟨t, a', b'⟩ := dv
    rcases hs with ⟨rfl, hs⟩ | ⟨rfl, hs1, hs2⟩
    · obtain ⟨x, e, h1, h2⟩ := h
      exact ⟨x, e, h1, by simp only at h2 hs ⊢; omega⟩
    · obtain ⟨x, e, h1, h2⟩ := h
      exact ⟨x, e, by simp only at h1 hs1; omega, by simp only at h2 hs2 ⊢; omega⟩
  · next ht =>
    simp only at ht
    subst ht
    simp only [Bool.and_eq_true, Bool.or_eq_true, nbe, nbl] at hs
    obtain ⟨t, a', b'⟩ := dv
    simp only at hs
    obtain ⟨rfl, hs⟩ := hs
    obtain ⟨x, e, hx⟩ := h
    refine ⟨x, e, fun h1 => ?_⟩
    simp only at hx h1 ⊢
    rcases hs with hs | hs
    · omega
    · have := hx hs.1
      omega
  · next ht =>
    simp only at ht
    subst ht
    rw [nbe] at hs
    obtain ⟨t, a', b'⟩ := dv
    simp only at hs
    subst hs
    exact h
  · next ht =>
    simp only at ht
    subst ht
    simp only [Bool.and_eq_true, nbe] at hs
    obtain ⟨t, a', b'⟩ := dv
    obtain ⟨rfl, rfl⟩ := hs
    exact h
  · cases hs
end SND5

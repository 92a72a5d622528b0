section SND7
variable {KT : List Kd} {X : pW → Prop} {ks : List Nat} {P n0 : Nat} {ρ0 : Nat → Value} {eff : List (Nat × Nat)} {w0 : pW} {σ : aS} {ρ : Nat → Value} {lc : pL} {st : List Value} {w : pW}
variable {pp : pP} {F : pF} {xs : Nat → Int32} {L own nL : Nat} {ini : Bool} {pc : Nat} {l : List (Nat × aS)}
theorem clamp_toInt {x : Int32} (h : 0 ≤ x.toInt) : ((x.toNatClampNeg : Nat) : Int) = x.toInt := by
  show ((x.toInt.toNat : Nat) : Int) = x.toInt
  omega
theorem inA_ok {i n : Nat} (hG : Ga KT X ks P n0 ρ0 eff w0 σ ρ lc st w) (h : inA σ.1 i n = true) : ∃ x : Int32, ρ i = .int x ∧ 0 ≤ x.toInt ∧ x.toNatClampNeg < n ∧ inB x n = true := by
  unfold inA at h
  split at h
  · next a b hr =>
    simp only [Bool.and_eq_true, nbl, Zb] at h
    obtain ⟨x, e, h1, h2⟩ := hG.rg hr
    have h0 : 0 ≤ x.toInt := by omega
    have hc := clamp_toInt h0
    have hlt : x.toNatClampNeg < n := by omega
    refine ⟨x, e, h0, hlt, ?_⟩
    unfold inB
    simp only [Bool.and_eq_true, Bool.not_eq_true', decide_eq_false_iff_not, decide_eq_true_eq]
    refine ⟨fun hn => ?_, hlt⟩
    rw [Int32.lt_iff_toInt_lt, Int32.toInt_zero] at hn
    omega
  · cases h
theorem hcls_c (r : Nat) : hcls r = (3, 0, 0) ∨ hcls r = (0, Zb, Zb + 4) ∨ hcls r = (0, Zb, Zb + 1) ∨ hcls r = dFull := by
  unfold hcls
  split
  · exact Or.inr (Or.inr (Or.inr rfl))
  · split
    · exact Or.inl rfl
    · split
      · exact Or.inr (Or.inl rfl)
      · exact Or.inr (Or.inl rfl)
      · exact Or.inr (Or.inr (Or.inl rfl))
      · exact Or.inr (Or.inr (Or.inr rfl))
theorem okH_of {B r : Nat} {j : Int} {v : Int32} (hj : 0 ≤ j) (hr : j.toNat % 62 = r) (h : okD ks B (hcls r) (.int v)) : okH B j v.toInt := by
  refine ⟨hj, ?_⟩
  rw [hr]
  rcases hcls_c r with e | e | e | e <;> rw [e] at h ⊢
  · obtain ⟨x, e, h1, h2⟩ := h
    cases e
    exact ⟨h1, by simp only at h2; omega⟩
  · obtain ⟨x, e, h1, h2⟩ := h; cases e; exact ⟨h1, h2⟩
  · obtain ⟨x, e, h1, h2⟩ := h; cases e; exact ⟨h1, h2⟩
  · obtain ⟨x, e, h1, h2⟩ := h; cases e; exact ⟨h1, h2⟩
theorem okH_to {B r : Nat} {j : Int} {v : Int32} (hr : j.toNat % 62 = r) (h : okH B j v.toInt) : okD ks B (hcls r) (.int v) := by
  obtain ⟨-, h⟩ := h
  rw [hr] at h
  rcases hcls_c r with e | e | e | e <;> rw [e] at h ⊢
  · have h2 : v.toInt ≤ (B : Int) := h.2
    exact ⟨v, rfl, h.1, by simp only; omega⟩
  · exact ⟨v, rfl, h.1, h.2⟩
  · exact ⟨v, rfl, h.1, h.2⟩
  · exact ⟨v, rfl, h.1, h.2⟩
theorem elD_n {d : Ds} (h : d.1 ≠ 6) (j : Nat) : elD d j = d := by
  unfold elD
  split
  · next ht => exact absurd ht h
  · rfl
theorem elD_6 {d : Ds} (h : d.1 = 6) (j : Nat) : elD d j = hcls (j % 62) := by
  obtain ⟨t, a, b⟩ := d
  simp only at h
  subst h
  rfl
/-- what is read is as ldD says -/
theorem ldD_ok {d : Ds} {i : Nat} {x v : Int32} (hG : Ga KT X ks P n0 ρ0 eff w0 σ ρ lc st w) (hx : ρ i = .int x) (h0 : 0 ≤ x.toInt) (hil : i < σ.1.length) (hv : okD ks (P + σ.2.2.2.2) (elD d x.toNatClampNeg) (.int v)) : okD ks P (ldD σ d i).1 (.int v) ∧ ∀ f ∈ (ldD σ d i).2 σ.1.length, okF P (upS ρ σ.1.length (.int v)) w f ∧ fsc (σ.1.length + 1) f := by
  have hc := clamp_toInt h0
  unfold ldD
  split
  · next ht =>
    rw [elD_6 ht] at hv
    split
    · next a b hr =>
      obtain ⟨x', e, h1, h2⟩ := hG.rg hr
      rw [hx] at e
      cases e
      have k12 : ∀ f ∈ (fun z => [((12, z, i, σ.2.2.2.2) : Fa)]) σ.1.length, okF P (upS ρ σ.1.length (.int v)) w f ∧ fsc (σ.1.length + 1) f := by
        refine mem1 ⟨f12 ?_, Nat.lt_succ_self _, Nat.lt_succ_of_lt hil, Or.inr (Or.inr (Or.inl rfl))⟩
        rw [upS_eq, upS_ne hil, hx, iv_int, iv_int]
        exact okH_of h0 (by rw [show x.toNatClampNeg = x.toInt.toNat from rfl]) hv
      split
      · next hab =>
        rw [nbe] at hab
        have : a - Zb = x.toNatClampNeg := by simp only [Zb]; omega
        rw [this]
        exact ⟨toSy_ok hv, k12⟩
      · exact ⟨okI_full v, k12⟩
    · exact ⟨okI_full v, nof (n := 0)⟩
  · next ht =>
    rw [elD_n ht] at hv
    exact ⟨toSy_ok hv, nof (n := 0)⟩
theorem fndA_ok {a i s : Nat} {x : Int32} (hG : Ga KT X ks P n0 ρ0 eff w0 σ ρ lc st w) (h : fndA σ.1 σ.2.2.2.1 a i = some s) (hx : ρ i = .int x) : s < σ.1.length ∧ ∃ (j : Nat) (x' : Int32) (t n : Nat) (g : Nat → Int32), ρ a = .ref j ∧ x' = x ∧ wAt w j = some (.inl (t, n, .inl g)) ∧ ρ s = .int (g x'.toNatClampNeg) := by
  unfold fndA at h
  split at h
  · next f hf =>
    have h1 := List.mem_of_find?_eq_some hf
    have h2 := List.find?_some hf
    have h3 := Option.some.inj h
    subst h3
    simp only [Bool.and_eq_true, Bool.or_eq_true, nbe] at h2
    obtain ⟨f1, f2, f3⟩ := h2
    obtain ⟨k1, k2⟩ := hG.2.2.2.1 f h1
    obtain ⟨j, y, t, n, g, q1, q2, q3, q4, -⟩ := k1.1 f1
    rw [f2] at q1
    have hl : f.2.2.2 < σ.1.length := by
      rcases k2.2.2 with q | q | q | q
      · omega
      · omega
      · omega
      · exact q
    have ey : y = x := by
      rcases f3 with e | e
      · rw [e, hx] at q2
        cases q2
        rfl
      · split at e
        · next c c' hc hc' =>
          have e1 := cst_bias hG hc hx
          have e2 := cst_bias hG hc' q2
          rw [nbe] at e
          exact Int32.toInt_inj.mp (by omega)
        · cases e
    exact ⟨hl, j, y, t, n, g, q1, ey, q3, q4⟩
  · cases h
theorem aldA_ok {ts : List Nat} {pc1 : Nat} (hts : ∀ t ∈ ts, t = 0 ∨ t = 1 ∨ t = 2) (hG : Ga KT X ks P n0 ρ0 eff w0 σ ρ lc st w) (h : aldA KT σ ts pc1 = some l) : ∃ (a : Nat) (x v : Int32) (r : List Nat) (ρ' : Nat → Value), st = .int x :: .ref a :: r.map ρ ∧ aldI xs L w a x ts = some v ∧ ∃ τ, l = [(pc1, τ)] ∧ Ga KT X ks P n0 ρ0 eff w0 τ ρ' lc (.int v :: r.map ρ) w := by
  unfold aldA at h
  split at h
  · next i a r hst =>
    split at h
    · next k hk =>
      split at h
      · next t n d hK =>
        split at h
        · next hc =>
          simp only [Bool.and_eq_true, List.contains_iff_mem] at hc
          obtain ⟨b, eb, kb⟩ := hG.kd hk
          obtain ⟨f, hw, hf⟩ := hG.row kb hK (hts t hc.1)
          obtain ⟨x, ex, h0, hlt, hin⟩ := inA_ok hG hc.2
          have hr : ∀ s ∈ r, s < σ.1.length := fun s hs => hG.sl (by rw [hst]; exact List.mem_cons_of_mem _ (List.mem_cons_of_mem _ hs))
          have hil : i < σ.1.length := hG.sl (by rw [hst]; exact List.mem_cons_self)
          have hal : a < σ.1.length := hG.sl (by rw [hst]; exact List.mem_cons_of_mem _ List.mem_cons_self)
          have hald : aldI xs L w (b + 3) x ts = some (f x.toNatClampNeg) := by
            unfold aldI
            rw [wAt3, hw]
            simp only
            rw [if_pos (by simp only [Bool.and_eq_true, List.contains_iff_mem]; exact ⟨hc.1, hin⟩)]
          have hst' : st = .int x :: .ref (b + 3) :: r.map ρ := by rw [hG.stq, hst, List.map_cons, List.map_cons, ex, eb]
          split at h
          · next s hs =>
            split at h
            · next hsI =>
              obtain ⟨hl, i', x', t', n', g', q1, q2, q3, q4⟩ := fndA_ok hG hs ex
              rw [eb] at q1
              cases q1
              cases q2
              rw [wAt3, hw] at q3
              cases q3
              refine ⟨b + 3, x, f x.toNatClampNeg, r, ρ, hst', hald, _, (Option.some.inj h).symm, ?_⟩
              have := hG.stk (r := s :: r) (fun z hz => by
                rcases List.mem_cons.mp hz with rfl | hz
                · exact hl
                · exact hr z hz)
              rw [List.map_cons, q4] at this
              exact this
            · cases h
          · obtain ⟨g1, g2⟩ := ldD_ok hG ex h0 hil (hf _ hlt)
            refine ⟨b + 3, x, f x.toNatClampNeg, r, _, hst', hald, _, (Option.some.inj h).symm, (hG.stk hr).pu g1 (fun q hq => ?_)⟩
            rcases List.mem_cons.mp hq with rfl | hq
            · refine ⟨f2 ⟨b + 3, x, t, n, f, ?_, ?_, by rw [wAt3]; exact hw, ?_, h0⟩, fsc3 (Nat.lt_succ_of_lt hal) (Nat.lt_succ_of_lt hil) (Nat.lt_succ_self _)⟩
              · rw [upS_ne (show a < (setSt σ r).1.length from hal)]; exact eb
              · rw [upS_ne (show i < (setSt σ r).1.length from hil)]; exact ex
              · rw [upS_eq]
            · exact g2 q hq
        · cases h
      · cases h
    · cases h
  · cases h
theorem k_iaload (hG : Ga KT X ks P n0 ρ0 eff w0 σ ρ lc st w) (h : ai1 KT F pp eff own nL σ (.iaload) pc = some l) : Nx KT X ks P n0 ρ0 eff w0 pp F xs L own nL ini (.iaload) pc lc st w l := by
  simp only [ai1] at h
  obtain ⟨a, x, v, r, ρ', e1, e2, τ, rfl, g⟩ := aldA_ok (xs := xs) (L := L) (fun t ht => by simp at ht; omega) hG h
  refine ⟨_, List.mem_singleton_self _, ρ', lc, _, w, ?_, g⟩
  rw [e1]
  simp only [sstep, e2]
theorem k_baload (hG : Ga KT X ks P n0 ρ0 eff w0 σ ρ lc st w) (h : ai1 KT F pp eff own nL σ (.baload) pc = some l) : Nx KT X ks P n0 ρ0 eff w0 pp F xs L own nL ini (.baload) pc lc st w l := by
  simp only [ai1] at h
  obtain ⟨a, x, v, r, ρ', e1, e2, τ, rfl, g⟩ := aldA_ok (xs := xs) (L := L) (fun t ht => by simp at ht; omega) hG h
  refine ⟨_, List.mem_singleton_self _, ρ', lc, _, w, ?_, g⟩
  rw [e1]
  simp only [sstep, e2]
/-- rows of longs and of cells, and how long a row is -/
theorem Ga.cel (hG : Ga KT X ks P n0 ρ0 eff w0 σ ρ lc st w) {i k t n : Nat} {d : Ds} (hk : ks[i]? = some k) (hK : KT[k]? = some (.inr (t, n, d))) : ∃ a, w[i]? = some (.inl (t, n, a)) ∧ okE ks (P + σ.2.2.2.2) (.inr (t, n, d)) (.inl (t, n, a)) := by
  obtain ⟨kd, e, h1, h2, h3⟩ := hG.2.2.2.2.1.2 i k hk
  rw [hK] at h1
  cases h1
  rcases e with ⟨t', n', a⟩ | ⟨c, fs⟩
  · have h4 := h3.1
    have h5 := h3.2.1
    simp only at h4 h5
    subst h4
    subst h5
    exact ⟨a, h2, h3⟩
  · exact h3.elim
theorem k_laload (hG : Ga KT X ks P n0 ρ0 eff w0 σ ρ lc st w) (h : ai1 KT F pp eff own nL σ (.laload) pc = some l) : Nx KT X ks P n0 ρ0 eff w0 pp F xs L own nL ini (.laload) pc lc st w l := by
  simp only [ai1] at h
  split at h
  · next i a r hst =>
    split at h
    · next k hk =>
      split at h
      · next n d hK =>
        split at h
        · next hc =>
          simp only [Option.some.injEq] at h
          subst h
          obtain ⟨b, eb, kb⟩ := hG.kd hk
          obtain ⟨c, hw, hok⟩ := hG.cel kb hK
          obtain ⟨x, ex, h0, hlt, hin⟩ := inA_ok hG hc
          have hr : ∀ s ∈ r, s < σ.1.length := fun s hs => hG.sl (by rw [hst]; exact List.mem_cons_of_mem _ (List.mem_cons_of_mem _ hs))
          have h3 := hok.2.2
          rcases c with f | f | f | f | f
          · have := h3.1; simp only at this; omega
          · refine ⟨_, List.mem_singleton_self _, _, lc, _, w, ?_, (hG.stk hr).pu (d := (4, 0, 0)) (v := .long (f x.toNatClampNeg)) (j_any _) nof⟩
            rw [hG.stq, hst, List.map_cons, List.map_cons, ex, eb]
            simp only [sstep, wAt3, hw, hin, if_true]
          · exact h3.elim
          · exact h3.elim
          · have := h3.1; simp only at this; omega
        · cases h
      · cases h
    · cases h
  · cases h
theorem k_aaload (hG : Ga KT X ks P n0 ρ0 eff w0 σ ρ lc st w) (h : ai1 KT F pp eff own nL σ (.aaload) pc = some l) : Nx KT X ks P n0 ρ0 eff w0 pp F xs L own nL ini (.aaload) pc lc st w l := by
  simp only [ai1] at h
  split at h
  · next i a r hst =>
    split at h
    · next k hk =>
      split at h
      · next n k' d' hK =>
        split at h
        · next hc =>
          simp only [Option.some.injEq] at h
          subst h
          obtain ⟨b, eb, kb⟩ := hG.kd hk
          obtain ⟨c, hw, hok⟩ := hG.cel kb hK
          obtain ⟨x, ex, h0, hlt, hin⟩ := inA_ok hG hc
          have hr : ∀ s ∈ r, s < σ.1.length := fun s hs => hG.sl (by rw [hst]; exact List.mem_cons_of_mem _ (List.mem_cons_of_mem _ hs))
          have h3 := hok.2.2
          rcases c with f | f | f | f | f
          · have := h3.1; simp only at this; omega
          · simp only at h3; omega
          · exact h3.elim
          · exact h3.elim
          · obtain ⟨j, e1, e2⟩ := h3.2 _ hlt
            refine ⟨_, List.mem_singleton_self _, _, lc, _, w, ?_, (hG.stk hr).pu (d := (1, k', 0)) (v := .ref (j + 3)) ⟨j, rfl, e2⟩ nof⟩
            rw [hG.stq, hst, List.map_cons, List.map_cons, ex, eb]
            simp only [sstep, wAt3, hw, hin, if_true, e1, va_rf]
        · cases h
      · cases h
    · cases h
  · cases h
theorem k_arraylength (hG : Ga KT X ks P n0 ρ0 eff w0 σ ρ lc st w) (h : ai1 KT F pp eff own nL σ (.arraylength) pc = some l) : Nx KT X ks P n0 ρ0 eff w0 pp F xs L own nL ini (.arraylength) pc lc st w l := by
  simp only [ai1] at h
  split at h
  · next a r hst =>
    split at h
    · next k hk =>
      split at h
      · next t n d hK =>
        split at h
        · next hc =>
          rw [nbl] at hc
          simp only [Option.some.injEq] at h
          subst h
          obtain ⟨b, eb, kb⟩ := hG.kd hk
          obtain ⟨c, hw, hok⟩ := hG.cel kb hK
          have hr : ∀ s ∈ r, s < σ.1.length := fun s hs => hG.sl (by rw [hst]; exact List.mem_cons_of_mem _ hs)
          refine ⟨_, List.mem_singleton_self _, _, lc, _, w, ?_, (hG.stk hr).pu (d := (0, Zb + n, Zb + n)) (v := .int (Int32.ofNat n)) ⟨_, rfl, ?_, ?_⟩ nof⟩
          · rw [hG.stq, hst, List.map_cons, eb]
            simp only [sstep, alen, wAt3, hw]
          · have e1 : (Int32.ofNat n).toInt = n := nI_toInt (by omega)
            rw [e1]; simp only [Zb]; omega
          · have e1 : (Int32.ofNat n).toInt = n := nI_toInt (by omega)
            rw [e1]; simp only [Zb]; omega
        · cases h
      · cases h
    · cases h
  · cases h
end SND7

section SND8
variable {KT : List Kd} {X : pW → Prop} {ks : List Nat} {P n0 : Nat} {ρ0 : Nat → Value} {eff : List (Nat × Nat)} {w0 : pW} {σ : aS} {ρ : Nat → Value} {lc : pL} {st : List Value} {w : pW}
variable {pp : pP} {F : pF} {xs : Nat → Int32} {L own nL : Nat} {ini : Bool} {pc : Nat} {l : List (Nat × aS)}
theorem cst_ok {s c : Nat} (hG : Ga KT X ks P n0 ρ0 eff w0 σ ρ lc st w) (h : cstS σ.1 s = some c) : iv (ρ s) = (c : Int) - 2147483648 := by
  unfold cstS at h
  split at h
  · next a b hd =>
    split at h
    · next hab =>
      rw [nbe] at hab
      subst hab
      have := Option.some.inj h
      subst this
      obtain ⟨x, e, h1, h2⟩ := hG.d0 hd
      rw [e, iv_int]
      omega
    · cases h
  · cases h
theorem m62_ok {s : Nat} (hG : Ga KT X ks P n0 ρ0 eff w0 σ ρ lc st w) (h : m62 σ.1 σ.2.2.2.1 s = true) : ∃ q : Int, iv (ρ s) = 62 * q := by
  unfold m62 at h
  split at h
  · next c hc =>
    simp only [Bool.and_eq_true, nbl, nbe, Zb] at h
    have := cst_ok hG hc
    exact ⟨((c - 2147483648) / 62 : Nat), by omega⟩
  · obtain ⟨f, hf, h⟩ := List.any_eq_true.mp h
    simp only [Bool.and_eq_true, nbe, Bool.or_eq_true] at h
    obtain ⟨h1, h2, h3⟩ := h
    have q := ((hG.2.2.2.1 f hf).1.2.2.2.1 h1).2
    rw [h2] at q
    rcases h3 with h3 | h3
    · split at h3
      · next z hz =>
        rw [nbe] at h3
        have c := cst_ok hG hz
        have hz2 : Zb = 2147483648 := rfl
        exact ⟨iv (ρ f.2.2.1), by rw [q]; congr 1; omega⟩
      · cases h3
    · split at h3
      · next z hz =>
        rw [nbe] at h3
        have c := cst_ok hG hz
        have hz2 : Zb = 2147483648 := rfl
        exact ⟨iv (ρ f.2.1), by rw [q, Int.mul_comm]; congr 1; omega⟩
      · cases h3
theorem base62_ok {s : Nat} (hG : Ga KT X ks P n0 ρ0 eff w0 σ ρ lc st w) : ∃ q : Int, iv (ρ s) = iv (ρ (base62 σ.1 σ.2.2.2.1 s)) + 62 * q := by
  unfold base62
  split
  · next f hf =>
    have h1 := List.mem_of_find?_eq_some hf
    have h2 := List.find?_some hf
    simp only [Bool.and_eq_true, nbe, Bool.or_eq_true] at h2
    obtain ⟨h3, h4, h5⟩ := h2
    have q := ((hG.2.2.2.1 f h1).1.2.1 h3).2
    rw [h4] at q
    split
    · next hm =>
      obtain ⟨z, hz⟩ := m62_ok hG hm
      exact ⟨z, by omega⟩
    · next hm =>
      rcases h5 with h5 | h5
      · exact absurd h5 hm
      · obtain ⟨z, hz⟩ := m62_ok hG h5
        exact ⟨z, by omega⟩
  · exact ⟨0, by omega⟩
theorem cong62_ok {i j : Nat} (hG : Ga KT X ks P n0 ρ0 eff w0 σ ρ lc st w) (h : cong62 σ.1 σ.2.2.2.1 i j = true) (hi : 0 ≤ iv (ρ i)) (hj : 0 ≤ iv (ρ j)) : (iv (ρ i)).toNat % 62 = (iv (ρ j)).toNat % 62 := by
  unfold cong62 at h
  rw [nbe] at h
  obtain ⟨a, ha⟩ := base62_ok (s := i) hG
  obtain ⟨b, hb⟩ := base62_ok (s := j) hG
  rw [h] at ha
  omega
/-- what may be put is as stD says -/
theorem stD_ok {d : Ds} {i v cr : Nat} {x y : Int32} (hG : Ga KT X ks P n0 ρ0 eff w0 σ ρ lc st w) (hx : ρ i = .int x) (h0 : 0 ≤ x.toInt) (hy : ρ v = .int y) (h : stD σ d i v = some cr) : okD ks (P + cr) (elD d x.toNatClampNeg) (.int y) ∧ σ.2.2.2.2 ≤ cr ∧ cr ≤ CrMax := by
  have hcm := hG.2.2.2.2.2.2.2.2.2.2
  have hc := clamp_toInt h0
  unfold stD at h
  split at h
  · next ht =>
    split at h
    · next a b hr =>
      split at h
      · next hab =>
        simp only [Bool.and_eq_true, nbl] at hab
        have := Option.some.inj h
        subst this
        have k := hG.rg hr
        rw [hy] at k
        rw [elD_n (by rw [ht]; decide)]
        obtain ⟨t, d1, d2⟩ := d
        simp only at ht
        subst ht
        exact ⟨okI_w k hab.1 hab.2, Nat.le_refl _, hcm⟩
      · cases h
    · cases h
  · next ht =>
    rw [elD_6 ht]
    split at h
    · next a b dv hr hdv =>
      obtain ⟨x', e, h1, h2⟩ := hG.rg hr
      rw [hx] at e
      cases e
      have hv := hG.1 v dv hdv
      rw [hy] at hv
      split at h
      · next hany =>
        have := Option.some.inj h
        subst this
        obtain ⟨f, hf, hq⟩ := List.any_eq_true.mp hany
        simp only [Bool.and_eq_true, nbe, nbl] at hq
        obtain ⟨q1, q2, q3, q4⟩ := hq
        have k := (hG.2.2.2.1 f hf).1.2.2.2.2.2.2.1 q1
        rw [q2, hy, iv_int] at k
        have hj := k.1
        have e1 := cong62_ok hG q3 (by rw [hx]; exact h0) hj
        rw [hx, iv_int] at e1
        have k2 : okD ks (P + f.2.2.2) (hcls (x.toNatClampNeg % 62)) (.int y) := okH_to (by rw [← e1, show x.toNatClampNeg = x.toInt.toNat from rfl]) k
        exact ⟨okD_up (by omega) k2, Nat.le_refl _, hcm⟩
      · split at h
        · next hb =>
          have := Option.some.inj h
          subst this
          refine ⟨?_, Nat.le_refl _, hcm⟩
          simp only [Bool.or_eq_true, Bool.and_eq_true, nbe, nbl] at hb
          rcases hb with ⟨z1, z2, z3⟩ | hb
          · obtain ⟨t, d1, d2⟩ := dv
            simp only at z1 z2 z3
            subst z1 z2 z3
            obtain ⟨y', e, y1, y2⟩ := hv
            cases e
            simp only [Zb] at y1 y2
            rcases hcls_c (x.toNatClampNeg % 62) with e | e | e | e <;> rw [e]
            · exact ⟨y, rfl, by omega, by simp only; omega⟩
            · exact ⟨y, rfl, by simp only [Zb]; omega, by simp only [Zb]; omega⟩
            · exact ⟨y, rfl, by simp only [Zb]; omega, by simp only [Zb]; omega⟩
            · exact okI_full y
          · simp only [Zb] at hb
            have e0 : x.toNatClampNeg % 62 = x.toNatClampNeg := Nat.mod_eq_of_lt (by omega)
            have e1 : hcls x.toNatClampNeg = dFull := by
              unfold hcls
              rw [if_pos (nbl.mpr (by omega))]
            rw [e0, e1]
            exact okI_full y
        · split at h
          · next hab =>
            rw [nbe] at hab
            have e0 : a - Zb = x.toNatClampNeg := by simp only [Zb]; omega
            rw [e0] at h
            split at h
            · next u1 u2 hh =>
              split at h
              · next hbb =>
                simp only [Bool.and_eq_true, nbe, nbl] at hbb
                have := Option.some.inj h
                subst this
                refine ⟨?_, Nat.le_max_left _ _, Nat.max_le.mpr ⟨hcm, hbb.2⟩⟩
                rcases hcls_c (x.toNatClampNeg % 62) with e | e | e | e <;> rw [e] at hh <;> cases hh
                rw [e]
                obtain ⟨t, d1, d2⟩ := dv
                simp only at hbb
                obtain ⟨rfl, -⟩ := hbb
                obtain ⟨z, e, h6, h7⟩ := hv
                refine ⟨z, e, h6, ?_⟩
                simp only at h7 ⊢
                have := Nat.le_max_right σ.2.2.2.2 d1
                omega
              · split at h
                · next hsub =>
                  have := Option.some.inj h
                  subst this
                  rcases hcls_c (x.toNatClampNeg % 62) with e | e | e | e <;> rw [e] at hh <;> cases hh
                  rw [e]
                  exact ⟨subD_ok hv hsub, Nat.le_refl _, hcm⟩
                · cases h
            · split at h
              · next hsub =>
                have := Option.some.inj h
                subst this
                exact ⟨subD_ok hv hsub, Nat.le_refl _, hcm⟩
              · cases h
          · cases h
    · cases h
  · cases h
theorem nar_bool (x : Int32) : okI Zb (Zb + 1) (.int (vp_nar .boolean x)) := by
  have h := and_nn (x := x) (y := 1) (by decide)
  have e : vp_nar .boolean x = x &&& 1 := rfl
  rw [e]
  have e1 : (1 : Int32).toInt = 1 := rfl
  refine ⟨_, rfl, ?_, ?_⟩
  · simp only [Zb]; omega
  · simp only [Zb]; omega
theorem nar_byte (x : Int32) : okI (Zb - 128) (Zb + 127) (.int (vp_nar .byte x)) := by
  rw [vp_nar_byte]
  exact i2b_ok x
theorem apart_ok {i j : Nat} {x y : Int32} (hG : Ga KT X ks P n0 ρ0 eff w0 σ ρ lc st w) (h : apartS σ.1 i j = true) (hx : ρ i = .int x) (hy : ρ j = .int y) : x.toInt ≠ y.toInt := by
  unfold apartS at h
  split at h
  · next a b c d h1 h2 =>
    obtain ⟨x', e, k1, k2⟩ := hG.rg h1
    rw [hx] at e
    cases e
    obtain ⟨y', e, j1, j2⟩ := hG.rg h2
    rw [hy] at e
    cases e
    simp only [Bool.or_eq_true, nbl] at h
    omega
  · cases h
end SND8

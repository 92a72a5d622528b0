/-! what is known of the token -/
def pz_TK (w : pW) (mi : Nat) : Prop := (pz_fi w mi 8 = 0 ∨ pz_fi w mi 6 + 1 ≤ pz_fi w mi 7) ∧ (pz_fi w mi 8 = 3 → (∃ x : Int64, pz_fv w mi 10 = .long x ∧ 0 ≤ x.toInt ∧ x.toInt < 65536) ∨ (pz_fi w mi 6 + 3 ≤ pz_fi w mi 7 ∧ (pz_fi w mi 3 ≤ pz_fi w mi 7 ∨ ¬ (97 ≤ (pz_tx w mi (pz_fi w mi 7).toNat).toInt ∧ (pz_tx w mi (pz_fi w mi 7).toNat).toInt ≤ 122))))
def pz_rgB (ds : List Ds) (s lo hi : Nat) : Bool := match ds[s]? with
  | some (0, a, b) => Nat.ble lo a && Nat.ble b hi
  | _ => false
def pz_byB (ds : List Ds) (me : List Fa) (e lo hi : Nat) : Bool := me.any (fun f => Nat.beq f.1 2 && (Nat.beq f.2.2.1 e && (pz_rgB ds f.2.2.2 lo hi && me.any (fun g => Nat.beq g.1 1001 && (Nat.beq g.2.1 0 && (Nat.beq g.2.2.1 0 && Nat.beq g.2.2.2 f.2.1))))))
def pz_shB (ds : List Ds) (me : List Fa) : Bool := match fnd me 1010 0 0 with
  | some s => (match ds[s]? with
    | some (4, x, _) => Nat.ble 1 x && Nat.ble x 65536
    | _ => false)
  | none => false
def pz_afB (ds : List Ds) (me : List Fa) (e0 : Nat) : Bool := match fnd me 1006 0 0, fnd me 1007 0 0, fnd me 1008 0 0, fnd me 1003 0 0 with
  | some a, some e, some t, some n => leT ds me a e 0 0 && (leT ds me e n 0 0 && (leT ds me e0 a 0 0 && (pz_rgB ds t Zb Zb || (leT ds me a e 0 1 && ((pz_rgB ds t 0 (Zb + 2) || pz_rgB ds t (Zb + 4) Mx) || (pz_rgB ds t (Zb + 3) (Zb + 3) && (leT ds me a n 0 1 && (pz_byB ds me a (Zb + 97) (Zb + 122) && (pz_shB ds me || (leT ds me a e 0 3 && (leT ds me n e 0 0 || (pz_byB ds me e 0 (Zb + 96) || pz_byB ds me e (Zb + 123) Mx))))))))))))
  | _, _, _, _ => false
/-- behind goOn, from place v0 on -/
def pz_AF (w : pW) (mi : Nat) (v0 : Int) : Prop := pz_TK w mi ∧ pz_O w mi ∧ v0 ≤ pz_fi w mi 6 ∧ (pz_fi w mi 8 = 3 → pz_fi w mi 6 + 1 ≤ pz_fi w mi 3 ∧ 97 ≤ (pz_tx w mi (pz_fi w mi 6).toNat).toInt ∧ (pz_tx w mi (pz_fi w mi 6).toNat).toInt ≤ 122)
section PZT
variable {ks : List Nat} {P : Nat} {w w' : pW} {mi : Nat} {R : pR} {ρ : Nat → Value} {ds : List Ds} {me : List Fa}
theorem pz_fnd {op a b s : Nat} (h : fnd me op a b = some s) : (op, a, b, s) ∈ me := by
  unfold fnd at h
  split at h
  · next f hf =>
    have h1 := List.find?_some hf
    have h2 := List.mem_of_find?_eq_some hf
    simp only [Bool.and_eq_true, nbe] at h1
    obtain ⟨p, q, r, t⟩ := f
    simp only at h1
    obtain ⟨rfl, rfl, rfl⟩ := h1
    have := Option.some.inj h
    simp only at this
    subst this
    exact h2
  · cases h
theorem pz_rgB_ok {s lo hi : Nat} (hd : Sd ks P ρ ds) (h : pz_rgB ds s lo hi = true) : ∃ x : Int32, ρ s = .int x ∧ (lo : Int) ≤ x.toInt + 2147483648 ∧ x.toInt + 2147483648 ≤ (hi : Int) := by
  unfold pz_rgB at h
  split at h
  · next a b hab =>
    obtain ⟨x, e, h1, h2⟩ := id (okD0 (hd s _ hab))
    simp only [Bool.and_eq_true, nbl] at h
    exact ⟨x, e, by omega, by omega⟩
  · cases h
theorem pz_nat {x : Int32} (h : 0 ≤ x.toInt) : x.toNatClampNeg = (iv (.int x)).toNat := by
  have := clamp_toInt h
  rw [iv_int]
  omega
theorem pz_byB_ok {e lo hi : Nat} (hd : Sd ks P ρ ds) (hm : Sm P ρ w me) (h0 : ρ 0 = .ref (mi + 3)) (h : pz_byB ds me e lo hi = true) : (lo : Int) ≤ (pz_tx w mi (iv (ρ e)).toNat).toInt + 2147483648 ∧ (pz_tx w mi (iv (ρ e)).toNat).toInt + 2147483648 ≤ (hi : Int) := by
  unfold pz_byB at h
  obtain ⟨f, hf, hq⟩ := List.any_eq_true.mp h
  simp only [Bool.and_eq_true, nbe] at hq
  obtain ⟨q1, q2, q3, q4⟩ := hq
  obtain ⟨g, hg, hr⟩ := List.any_eq_true.mp q4
  simp only [Bool.and_eq_true, nbe] at hr
  obtain ⟨f1, f2, f3, f4⟩ := f
  obtain ⟨g1, g2, g3, g4⟩ := g
  simp only at q1 q2 q3 hr
  subst q1 q2
  obtain ⟨rfl, rfl, rfl, rfl⟩ := hr
  obtain ⟨x, e1, e2, e3⟩ := pz_t (hm _ hg) (hm _ hf) h0
  obtain ⟨z, z1, z2, z3⟩ := pz_rgB_ok hd q3
  rw [e3] at z1
  cases z1
  rw [e1, ← pz_nat e2]
  exact ⟨z2, z3⟩
theorem pz_ff2 {f s : Nat} (hm : Sm P ρ w me) (h0 : ρ 0 = .ref (mi + 3)) (h : fnd me (1000 + f) 0 0 = some s) : ρ s = pz_fv w mi f := pz_f (hm _ (pz_fnd h)) h0
theorem pz_af {e0 : Nat} (hd : Sd ks P ρ ds) (hm : Sm P ρ w me) (h0 : ρ 0 = .ref (mi + 3)) (h : pz_afB ds me e0 = true) : pz_AF w mi (iv (ρ e0)) := by
  unfold pz_afB at h
  split at h
  · next a e t n ha he ht hn =>
    have ea : iv (ρ a) = pz_fi w mi 6 := by rw [pz_ff2 (f := 6) hm h0 ha]; rfl
    have ee : iv (ρ e) = pz_fi w mi 7 := by rw [pz_ff2 (f := 7) hm h0 he]; rfl
    have et : iv (ρ t) = pz_fi w mi 8 := by rw [pz_ff2 (f := 8) hm h0 ht]; rfl
    have en : iv (ρ n) = pz_fi w mi 3 := by rw [pz_ff2 (f := 3) hm h0 hn]; rfl
    simp only [Bool.and_eq_true, Bool.or_eq_true] at h
    obtain ⟨h1, h2, h3, h4⟩ := h
    have k1 := leT_ok hd hm h1
    have k2 := leT_ok hd hm h2
    have k3 := leT_ok hd hm h3
    rw [ea, ee] at k1
    rw [ee, en] at k2
    rw [ea] at k3
    have hO : pz_O w mi := ⟨by omega, by omega⟩
    have tok : ∀ {lo hi : Nat}, pz_rgB ds t lo hi = true → (lo : Int) ≤ pz_fi w mi 8 + 2147483648 ∧ pz_fi w mi 8 + 2147483648 ≤ (hi : Int) := by
      intro lo hi hr
      obtain ⟨x, e1, e2, e3⟩ := pz_rgB_ok hd hr
      rw [e1] at et
      rw [← et, iv_int]
      exact ⟨e2, e3⟩
    rcases h4 with h4 | ⟨h5, h6⟩
    · have := tok h4
      simp only [Zb] at this
      exact ⟨⟨Or.inl (by omega), fun q => by omega⟩, hO, by omega, fun q => by omega⟩
    · have k5 := leT_ok hd hm h5
      rw [ea, ee] at k5
      rcases h6 with h6 | ⟨h7, h8, h9, h10⟩
      · have t3 : pz_fi w mi 8 ≠ 3 := by
          rcases h6 with h6 | h6
          · have := tok h6
            simp only [Zb] at this
            omega
          · have := tok h6
            simp only [Zb] at this
            omega
        exact ⟨⟨Or.inr (by omega), fun q => absurd q t3⟩, hO, by omega, fun q => absurd q t3⟩
      · have k8 := leT_ok hd hm h8
        rw [ea, en] at k8
        have k9 := pz_byB_ok hd hm h0 h9
        rw [ea] at k9
        simp only [Zb] at k9
        refine ⟨⟨Or.inr (by omega), fun _ => ?_⟩, hO, by omega, fun _ => ⟨by omega, by omega, by omega⟩⟩
        rcases h10 with h10 | ⟨h11, h12⟩
        · left
          unfold pz_shB at h10
          split at h10
          · next s hs =>
            split at h10
            · next x y hx =>
              obtain ⟨z, z1, z2⟩ := hd s _ hx
              simp only [Bool.and_eq_true, nbl] at h10
              have z2 := z2 h10.1
              simp only at z2
              rw [pz_ff2 (f := 10) hm h0 hs] at z1
              exact ⟨z, z1, by omega, by omega⟩
            · cases h10
          · cases h10
        · right
          have k11 := leT_ok hd hm h11
          rw [ea, ee] at k11
          refine ⟨by omega, ?_⟩
          rcases h12 with h12 | h12 | h12
          · have k12 := leT_ok hd hm h12
            rw [en, ee] at k12
            left
            omega
          · have k12 := pz_byB_ok hd hm h0 h12
            rw [ee] at k12
            simp only [Zb] at k12
            right
            omega
          · have k12 := pz_byB_ok hd hm h0 h12
            rw [ee] at k12
            simp only [Zb] at k12
            right
            omega
  · cases h
/-- what the text gives never falls -/
theorem pz_ph1 {v : Int} (h : pz_AF w' mi (pz_fi w mi 7)) (hv : pz_fi w mi 6 + v ≤ pz_fi w mi 7) : pz_Ph w mi + v - 1 ≤ pz_Ph w' mi := by
  obtain ⟨-, -, h3, -⟩ := h
  unfold pz_Ph
  split <;> split <;> omega
/-- behind a not -/
theorem pz_ph4 (h : pz_AF w' mi (pz_fi w mi 7)) (ht : pz_fi w mi 8 = 3) (h3 : pz_fi w mi 6 + 3 ≤ pz_fi w mi 7) (h0 : 0 ≤ pz_fi w mi 7) (hb : pz_fi w mi 3 ≤ pz_fi w mi 7 ∨ ¬ (97 ≤ (pz_tx w mi (pz_fi w mi 7).toNat).toInt ∧ (pz_tx w mi (pz_fi w mi 7).toNat).toInt ≤ 122)) (hs : pz_fi w' mi 3 = pz_fi w mi 3) (htx : pz_tx w' mi = pz_tx w mi) : pz_Ph w mi + 4 ≤ pz_Ph w' mi := by
  obtain ⟨-, -, k3, k4⟩ := h
  unfold pz_Ph
  rw [if_pos ht]
  split
  · next h8 =>
    obtain ⟨a1, a2, a3⟩ := k4 h8
    rcases hb with hb | hb
    · omega
    · by_cases he : pz_fi w' mi 6 = pz_fi w mi 7
      · rw [he, htx] at a2 a3
        exact absurd ⟨a2, a3⟩ hb
      · omega
  · omega
end PZT

/-! pond: its loop and its end -/
section PZQ
variable {ks : List Nat} {P : Nat} {w w0 w1 w2 w' : pW} {mi : Nat} {R R1 R2 R' R0 : pR} {xs : Nat → Int32} {L : Nat} {eff : List (Nat × Nat)} {b : Nat} {ρ : Nat → Value} {ds : List Ds} {me : List Fa}
theorem pz_go1 (hG : Good R0) (h38 : (R0.2 38).toInt + (b : Int) = 1) (h0 : 0 ≤ (R0.2 38).toInt) (h56 : (R0.1 56 (R0.2 38).toNatClampNeg).toInt ≤ 6) (hF : pz_PF R0 R b) : Good R := by
  obtain ⟨p1, p2, p3, p4, p5, p6, p7⟩ := hF
  have cb := clamp_toInt (x := R0.2 38) h0
  have key : ∀ r : Nat, r ≤ 6 → VX R0 r → VX R r := by
    intro r hr ⟨v1, v2⟩
    have e := p6 (7 * (R0.2 38).toNatClampNeg + r) (by omega)
    refine ⟨?_, ?_⟩
    · intro f t q1 q2
      rw [p1] at q1 q2
      rw [e.1] at q1
      rw [e.2] at q2
      have hv := v1 f t q1 q2
      rcases v2 f t q1 q2 with h | ⟨h, h'⟩
      · rw [show t - f = 0 by omega, dpt]
        exact fun h => by cases h
      · rw [dpt_cg (c := R0.1 74) (fun i a1 a2 => p7 i (by omega))]
        exact hv
    · intro f t q1 q2
      rw [p1] at q1 q2
      rw [e.1] at q1
      rw [e.2] at q2
      rw [p1]
      exact v2 f t q1 q2
  obtain ⟨g1, g2, g3⟩ := hG
  refine ⟨?_, key 6 (by omega) g2, ?_⟩
  · intro i hi h
    rw [p4] at h
    rw [p3]
    exact g1 i hi h
  · intro r hr
    rw [p1, p5 _ (by omega)] at hr
    exact key r (by omega) (g3 r hr)
theorem pz_go2 {G : Int} {x : Int32} (hG : PairOK R0) (hF : pz_PF R0 R b) (hL : pz_PL R b G) (hc : 8 * (R.1 58 b).toInt + G ≤ 2320) (hx : x.toInt = (b : Int)) : Good (R.1, fun g => if g = 38 then x else R.2 g) := by
  obtain ⟨p1, p2, p3, p4, p5, p6, p7⟩ := hF
  obtain ⟨l1, l2, l3, l4⟩ := hL
  have cb : x.toNatClampNeg = b := by
    have := clamp_toInt (x := x) (by omega)
    omega
  have key : ∀ r : Nat, pz_RO R b r (R.2 40).toInt → VX (R.1, fun g => if g = 38 then x else R.2 g) r := by
    intro r hr
    refine ⟨?_, ?_⟩
    · intro f t q1 q2
      have q1 : (R.1 61 (7 * x.toNatClampNeg + r)).toInt = (f : Int) := q1
      have q2 : (R.1 62 (7 * x.toNatClampNeg + r)).toInt = (t : Int) := q2
      rw [cb] at q1 q2
      show dpt (R.1 74) (t - f) f 0 ≠ none
      rcases hr f t q1 q2 with h | ⟨-, -, h⟩
      · rw [show t - f = 0 by omega, dpt]
        exact fun h => by cases h
      · exact h
    · intro f t q1 q2
      have q1 : (R.1 61 (7 * x.toNatClampNeg + r)).toInt = (f : Int) := q1
      have q2 : (R.1 62 (7 * x.toNatClampNeg + r)).toInt = (t : Int) := q2
      show t ≤ f ∨ (580 * x.toNatClampNeg ≤ f ∧ t ≤ 580 * x.toNatClampNeg + 580)
      rw [cb] at q1 q2 ⊢
      rcases hr f t q1 q2 with h | ⟨h1, h2, -⟩
      · exact Or.inl h
      · exact Or.inr ⟨h1, by omega⟩
  refine ⟨?_, key 6 l3, ?_⟩
  · intro i hi h
    have h : (R.1 40 i).toInt = -1 := h
    show 0 ≤ (R.1 39 i).toInt
    rw [p4] at h
    rw [p3]
    exact hG i hi h
  · intro r hr
    have hr : (r : Int) < (R.1 56 x.toNatClampNeg).toInt := hr
    rw [cb] at hr
    exact key r (l4 r hr)
/-- what pond leaves -/
def pz_QP (ks : List Nat) (P mi : Nat) (w0 : pW) (v : Option Value) (w' : pW) : Prop := ∃ R', Typed KTab ks P w' ∧ FZ KTab ks R' w' ∧ Good R' ∧ Ef ks c_pond.2.2.2.2.1 w0 w' ∧ ((∃ a : Int32, v = some (.int a) ∧ a.toInt = -1 ∧ pz_fv w' mi 51 = pz_fv w0 mi 51 ∧ pz_fv w' mi 52 = pz_fv w0 mi 52) ∨ (∃ a : Int32, v = some (.int a) ∧ 0 ≤ a.toInt ∧ a.toInt ≤ 25 ∧ pz_fi w' mi 51 = 0 ∧ pz_fi w' mi 52 = 0))
/-- the loop's state -/
def pz_WI (ks : List Nat) (P mi : Nat) (R0 : pR) (b : Nat) (w0 : pW) (R : pR) (w : pW) : Prop := pz_St ks P mi R w ∧ Ef ks pz_EN w0 w ∧ pz_PF R0 R b ∧ (pz_fi w mi 4 = 0 → pz_TK w mi ∧ pz_PL R b (pz_fi w mi 6))
theorem pz_pF {lc : pL} (hU : Uq KTab ks) (hk : ks[mi]? = some 11) (hP : P + CrMax + 12 * 16777216 ≤ PMax) (hT0 : Typed KTab ks P w0) (hG : Good R0) (h38 : (R0.2 38).toInt + (b : Int) = 1) (h380 : 0 ≤ (R0.2 38).toInt) (h56 : (R0.1 56 (R0.2 38).toNatClampNeg).toInt ≤ 6) (h : pz_WI ks P mi R0 b w0 R w) (hf : pz_fi w mi 4 ≠ 0) (l0 : lGet lc 0 = some (.ref (mi + 3))) : Rs PP FF GM TX xs L 11 mX11_pond 74 lc [] w (pz_QP ks P mi w0) := by
  obtain ⟨hS, hE, hF, -⟩ := h
  have b4 := pz_bd (pz_fd (f := 4) hS.1 hk rfl rfl).1
  have e4 : iv (pz_fv w mi 4) = pz_fi w mi 4 := rfl
  have fin : ∀ {w' : pW} {a : Int32}, pz_St ks P mi R w' → Ef ks pz_EQ w w' → a.toInt = -1 → pz_QP ks P mi w0 (some (.int a)) w' := by
    intro w' a v1 v2 ha
    have hE2 : Ef ks pz_EN w0 w' := pz_et hE (pz_em v2 (by decide +kernel))
    exact ⟨R, v1.1, v1.2.1, pz_go1 hG h38 h380 h56 hF, pz_em hE2 (by decide +kernel), Or.inl ⟨a, rfl, ha, pz_ef hT0 hk hE2 (pz_no_ok (by decide +kernel)), pz_ef hT0 hk hE2 (pz_no_ok (by decide +kernel))⟩⟩
  by_cases h : 0 < pz_fi w mi 4
  · refine pz_run (ex := []) (mex := []) hU hk (by omega) hS (fun _ => pz_a0) po6_k (by decide +kernel) (by decide +kernel) (by decide +kernel) (by decide +kernel) (by decide +kernel) (by decide +kernel) (pz_sa hS hk (pz_fvi hS.1 hk ⟨_, _, rfl, rfl⟩ (by omega) (by omega)) (pz_o42 hS hk) trivial) pz_a0 (pz_ac l0 pz_a0) pz_a0 (pz_ac ?_ pz_a0)
    intro ρ' w' V
    obtain ⟨v1, v2, v3, v4⟩ := pz_v0 V hk hS (by decide +kernel)
    have e15 := pzv_i V (s := 15) (a := 2147483647) (b := 2147483647) rfl
    show pz_QP ks P mi w0 (some (ρ' 15)) w'
    rw [e15.1]
    exact fin v1 v2 (by omega)
  · refine pz_run (ex := []) (mex := []) hU hk (by omega) hS (fun _ => pz_a0) po7_k (by decide +kernel) (by decide +kernel) (by decide +kernel) (by decide +kernel) (by decide +kernel) (by decide +kernel) (pz_sa hS hk (pz_fvi hS.1 hk ⟨_, _, rfl, rfl⟩ (by omega) (by omega)) (pz_o42 hS hk) trivial) pz_a0 (pz_ac l0 pz_a0) pz_a0 (pz_ac ?_ pz_a0)
    intro ρ' w' V
    obtain ⟨v1, v2, v3, v4⟩ := pz_v0 V hk hS (by decide +kernel)
    have e15 := pzv_i V (s := 15) (a := 2147483647) (b := 2147483647) rfl
    show pz_QP ks P mi w0 (some (ρ' 15)) w'
    rw [e15.1]
    exact fin v1 v2 (by omega)
theorem pz_hbg : ∀ R, ∀ c ∈ [c_Model_begin], CK KTab (FZ KTab ks R) ks PP FF GM xs L c := fun _ => pz_ac (ck_c_Model_begin FZ_xs) pz_a0
theorem pz_we {y : Nat} : evL ρ [(338, y, y, 0)] R = (R.1, fun g => if g = 38 then intV (ρ y) else R.2 g) := by
  show wrR ρ (300 + 38, y, y, 0) R = _
  rw [pz_wf]
theorem pz_pD {lc : pL} (hU : Uq KTab ks) (hk : ks[mi]? = some 11) (hP : P + CrMax + 12 * 16777216 ≤ PMax) (hG : Good R0) (h : pz_WI ks P mi R0 b w0 R w) (hf : pz_fi w mi 4 = 0) (h8 : pz_fi w mi 8 = 0) (l0 : lGet lc 0 = some (.ref (mi + 3))) : Rs PP FF GM TX xs L 11 mX11_pond 74 lc [] w (pz_QP ks P mi w0) := by
  obtain ⟨hS, hE, hF, h⟩ := h
  obtain ⟨hT, hL⟩ := h hf
  obtain ⟨d1, d2, d3, d4, d5, d6, d7⟩ := pz_df hS hk
  have hb := pz_bn39 hF
  refine pz_run (ex := []) (mex := []) hU hk (by omega) hS pz_hbg po8_k (by decide +kernel) (by decide +kernel) (by decide +kernel) (by decide +kernel) (by decide +kernel) (by decide +kernel) (pz_sd hS hk (pz_fvi hS.1 hk ⟨_, _, rfl, rfl⟩ (by omega) (by omega)) (pz_fvi hS.1 hk ⟨_, _, rfl, rfl⟩ (by omega) (by omega)) (pz_fd (f := 10) hS.1 hk rfl rfl).1 (pz_oi (by omega) (by omega)) (pz_oi (by omega) (by omega)) (pz_o42 hS hk) (pz_oi (by omega) (by omega)) (pz_oi (by omega) (by omega)) trivial) pz_a0 (pz_ac l0 pz_a0) pz_a0 (pz_ac ?_ pz_a0)
  intro ρ' w' V
  have e7 : ρ' 7 = .int (R.2 39) := V.1 7 (by decide)
  have e15 := pzv_i V (s := 15) (a := 2147483648) (b := 2147483673) rfl
  have e21 := pzv_b V (s := 21) (a := 2147483648) (b := 2147483648) rfl
  have e22 := pzv_b V (s := 22) (a := 2147483648) (b := 2147483648) rfl
  have f51 := pzv_f (f := 51) (mi := mi) (s := 22) V (by decide) rfl (by decide +kernel)
  have f52 := pzv_f (f := 52) (mi := mi) (s := 21) V (by decide) rfl (by decide +kernel)
  have hF2 := V.2.2.2.2.1
  rw [show lgF po8_q0.2.2 = [(338, 7, 7, 0)] by decide +kernel, pz_we, e7] at hF2
  rw [hb] at d7
  refine ⟨_, V.2.2.2.1, hF2, pz_go2 hG.1 hF hL (by omega) hF.2.1, pz_et (pz_em hE (by decide +kernel)) (pz_em V.2.2.2.2.2 (by decide +kernel)), Or.inr ⟨intV (ρ' 15), ?_, by omega, by omega, ?_, ?_⟩⟩
  · show some (ρ' 15) = _
    rw [← e15.1]
  · unfold pz_fi
    rw [f51]
    omega
  · unfold pz_fi
    rw [f52]
    omega
theorem pz_pl (hU : Uq KTab ks) (hk : ks[mi]? = some 11) (hP : P + CrMax + 12 * 16777216 ≤ PMax) (hT0 : Typed KTab ks P w0) (hG : Good R0) (h38 : (R0.2 38).toInt + (b : Int) = 1) (h380 : 0 ≤ (R0.2 38).toInt) (h56 : (R0.1 56 (R0.2 38).toNatClampNeg).toInt ≤ 6) : ∀ (n : Nat) (R : pR) (w : pW) (lc : pL), pz_WI ks P mi R0 b w0 R w → (pz_fi w mi 4 = 0 → 1601 - pz_fi w mi 6 ≤ (n : Int)) → lGet lc 0 = some (.ref (mi + 3)) → Rs PP FF GM TX xs L 11 mX11_pond 74 lc [] w (pz_QP ks P mi w0) := by
  intro n
  induction n with
  | zero =>
    intro R w lc h hm l0
    by_cases hf : pz_fi w mi 4 = 0
    · exfalso
      have d1 := (pz_df h.1 hk).1
      have := hm hf
      omega
    · exact pz_pF hU hk hP hT0 hG h38 h380 h56 h hf l0
  | succ n ih =>
    intro R w lc h hm l0
    by_cases hf : pz_fi w mi 4 = 0
    · by_cases h8 : pz_fi w mi 8 = 0
      · exact pz_pD hU hk hP hG h hf h8 l0
      · have hm := hm hf
        obtain ⟨hS, hE, hF, h⟩ := h
        obtain ⟨hT, hL⟩ := h hf
        obtain ⟨d1, d2, d3, d4, d5, d6, d7⟩ := pz_df hS hk
        have b8 := pz_bd (pz_fd (f := 8) hS.1 hk rfl rfl).1
        have e8 : iv (pz_fv w mi 8) = pz_fi w mi 8 := rfl
        have sd : ∀ {tok : Ds}, okD ks P tok (pz_fv w mi 8) → pz_SdL ks P (pz_vals w mi R []) (pz_D tok (0, 2147483648, 2147483648) (4, 0, 0) (0, 2147483648, 2147484808) (0, 2147483648, 2147483655) (0, 2147483648, 2147483738) (0, 2147483648, 2147483678) (0, 2147483648, 2147483738) []) := fun h8 => pz_sd hS hk h8 (pz_fvi hS.1 hk ⟨_, _, rfl, rfl⟩ (by omega) (by omega)) (pz_fd (f := 10) hS.1 hk rfl rfl).1 (pz_oi (by omega) (by omega)) (pz_oi (by omega) (by omega)) (pz_o42 hS hk) (pz_oi (by omega) (by omega)) (pz_oi (by omega) (by omega)) trivial
        have nx : ∀ {w1 : pW} {lc' : pL}, pz_St ks P mi R w1 → Ef ks pz_EQ w w1 → pz_eqw mi w w1 → pz_fi w1 mi 4 = pz_fi w mi 4 → lGet lc' 0 = some (.ref (mi + 3)) → Rs PP FF GM TX xs L 11 mX11_pond 89 lc' [.ref (mi + 3)] w1 (pz_QP ks P mi w0) := by
          intro w1 lc' v1 v2 v3 v4 l0'
          obtain ⟨q3, q6, q7, q8⟩ := pz_eqi v3
          refine pz_call (d := 10) (i := 291) (j := 143) (M' := mX11_readLine) (by decide +kernel) (by decide +kernel) rfl rfl v1.1 hk (by decide) (by decide) (pz_line (R0 := R0) (b := b) hU hk hP v1 (by rw [v4]; exact hf) hF (pz_eqT v3 hT) (by rw [q6]; exact hL) pz_la) ?_
          intro v w2 hq
          obtain ⟨rfl, R2, s1, s2, s3, s4⟩ := hq
          show Rs PP FF GM TX xs L 11 mX11_pond 92 lc' [] w2 _
          refine Rs.step (pc' := 74) (lc' := lc') (st' := []) (w1 := w2) (ins := .goto (-18)) (by decide +kernel) rfl ?_
          refine ih R2 w2 lc' ⟨s1, pz_et hE (pz_et (pz_em v2 (by decide +kernel)) (pz_em s2 (by decide +kernel))), s3, fun h0 => (s4 h0).2⟩ (fun h0 => ?_) l0'
          have := (s4 h0).1
          omega
        by_cases h9 : 0 < pz_fi w mi 8
        · refine pz_run (ex := []) (mex := []) hU hk (by omega) hS (fun _ => pz_a0) po4_k (by decide +kernel) (by decide +kernel) (by decide +kernel) (by decide +kernel) (by decide +kernel) (by decide +kernel) (sd (pz_fvi hS.1 hk ⟨_, _, rfl, rfl⟩ (by omega) (by omega))) pz_a0 (pz_ac l0 pz_a0) (pz_ac ?_ pz_a0) pz_a0
          intro ρ' lc' w1 V hl
          have e0 : ρ' 0 = .ref (mi + 3) := V.1 0 (by decide)
          have l0' := hl (0, 0) (by decide +kernel)
          simp only [e0] at l0'
          obtain ⟨v1, v2, v3, v4⟩ := pz_v0 V hk hS (by decide +kernel)
          show Rs PP FF GM TX xs L 11 mX11_pond 89 lc' [ρ' 0] w1 _
          rw [e0]
          exact nx v1 v2 v3 v4 l0'
        · refine pz_run (ex := []) (mex := []) hU hk (by omega) hS (fun _ => pz_a0) po9_k (by decide +kernel) (by decide +kernel) (by decide +kernel) (by decide +kernel) (by decide +kernel) (by decide +kernel) (sd (pz_fvi hS.1 hk ⟨_, _, rfl, rfl⟩ (by omega) (by omega))) pz_a0 (pz_ac l0 pz_a0) (pz_ac ?_ pz_a0) pz_a0
          intro ρ' lc' w1 V hl
          have e0 : ρ' 0 = .ref (mi + 3) := V.1 0 (by decide)
          have l0' := hl (0, 0) (by decide +kernel)
          simp only [e0] at l0'
          obtain ⟨v1, v2, v3, v4⟩ := pz_v0 V hk hS (by decide +kernel)
          show Rs PP FF GM TX xs L 11 mX11_pond 89 lc' [ρ' 0] w1 _
          rw [e0]
          exact nx v1 v2 v3 v4 l0'
    · exact pz_pF hU hk hP hT0 hG h38 h380 h56 h hf l0
end PZQ

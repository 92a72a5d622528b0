/-! e, by hand -/
section PZK
variable {ks : List Nat} {P : Nat} {w w0 w1 w2 w' : pW} {mi : Nat} {R R1 R' R0 : pR} {xs : Nat → Int32} {L : Nat} {eff : List (Nat × Nat)} {b fr N : Nat} {F : Int}
def pz_QE (ks : List Nat) (P mi : Nat) (R0 : pR) (b fr : Nat) (w0 w' : pW) : Prop := ∃ R', pz_QF ks P mi R0 b fr w0 R' w' ∨ (pz_St ks P mi R' w' ∧ Ef ks pz_EQ w0 w' ∧ pz_fi w' mi 4 = 0 ∧ pz_DN R0 b fr R' (pz_Ph w' mi) ∧ pz_TK w' mi ∧ pz_fi w0 mi 6 ≤ pz_fi w' mi 6)
def pz_EI (ks : List Nat) (P mi : Nat) (R0 : pR) (b fr : Nat) (w0 : pW) (R : pR) (w : pW) (a : Int32) (t : Bool) : Prop := pz_St ks P mi R w ∧ Ef ks pz_EQ w0 w ∧ pz_fi w mi 4 = 0 ∧ pz_fi w0 mi 6 ≤ pz_fi w mi 6 ∧ ((a.toInt = 1 ∧ ∃ F, pz_I R0 b fr R 0 F ∧ ((t = true ∧ pz_TK w mi ∧ F = pz_Ph w mi + 4) ∨ (t = false ∧ F = pz_Ph w mi))) ∨ (a.toInt = 0 ∧ t = true ∧ pz_TK w mi ∧ pz_I R0 b fr R 1 (pz_Ph w mi + 4)))
theorem pz_v0 {me : List Fa} {ds : List Ds} {n : Nat} {ex : List Value} {ρ : Nat → Value} (V : pz_V ks P R [] w n (pz_rho (pz_vals w mi R ex)) ds me ρ w1) (hk : ks[mi]? = some 11) (hS : pz_St ks P mi R w) (hl : lgF me = []) : pz_St ks P mi R w1 ∧ Ef ks pz_EQ w w1 ∧ pz_eqw mi w w1 ∧ pz_fi w1 mi 4 = pz_fi w mi 4 := by
  have hq := pz_eqo hS.1 hk V.2.2.2.2.2 (by decide +kernel)
  have hs := pzv_S V (pz_eqO hq hS.2.2)
  rw [hl] at hs
  exact ⟨hs, pz_em V.2.2.2.2.2 (by decide +kernel), hq, pz_efi hS.1 hk V.2.2.2.2.2 (pz_no_ok rfl)⟩
theorem pz_oa {x : Int32} : okD ks P (0, 0, 4294967295) (.int x) := by
  have := Int32.le_toInt x
  have := Int32.toInt_lt x
  exact pz_oi (by omega) (by omega)
/-- the ranges of the layout, for any state -/
theorem pz_sa {fk pi : Ds} {dx : List Ds} {ex : List Value} (hS : pz_St ks P mi R w) (hk : ks[mi]? = some 11) (h4 : okD ks P fk (pz_fv w mi 4)) (h42 : okD ks P pi (.int (R.2 42))) (hx : pz_SdL ks P ex dx) : pz_SdL ks P (pz_vals w mi R ex) (pz_D (0, 0, 4294967295) fk (4, 0, 0) (0, 2147483648, 2147484808) (0, 2147483648, 2147483655) pi (0, 2147483648, 2147483678) (0, 2147483648, 2147483738) dx) := by
  obtain ⟨d1, d2, d3, d4, d5, d6, d7⟩ := pz_df hS hk
  exact pz_sd hS hk (pz_fd (f := 8) hS.1 hk rfl rfl).1 h4 (pz_fd (f := 10) hS.1 hk rfl rfl).1 (pz_oi (by omega) (by omega)) (pz_oi (by omega) (by omega)) h42 (pz_oi (by omega) (by omega)) (pz_oi (by omega) (by omega)) hx
theorem pz_o42 (hS : pz_St ks P mi R w) (hk : ks[mi]? = some 11) : okD ks P (0, 2147483648, 2147483738) (.int (R.2 42)) := by
  obtain ⟨-, -, -, -, d5, -⟩ := pz_df hS hk
  exact pz_oi (by omega) (by omega)
theorem pz_eF {lc : pL} {a : Int32} (hU : Uq KTab ks) (hk : ks[mi]? = some 11) (hP : P + CrMax + 12 * 16777216 ≤ PMax) (hS : pz_St ks P mi R w) (hE : Ef ks pz_EQ w0 w) (hf : pz_fi w mi 4 ≠ 0) (hFR : pz_FR R0 R b fr) (l0 : lGet lc 0 = some (.ref (mi + 3))) (l1 : lGet lc 1 = some (.int a)) : Rs PP FF GM TX xs L 7 mX11_e 19 lc [] w (fun v w' => v = none ∧ pz_QE ks P mi R0 b fr w0 w') := by
  have b4 := pz_bd (pz_fd (f := 4) hS.1 hk rfl rfl).1
  have e4 : iv (pz_fv w mi 4) = pz_fi w mi 4 := rfl
  by_cases h : 0 < pz_fi w mi 4
  · refine pz_run (ex := [.int a]) (mex := []) hU hk (by omega) hS (fun _ => pz_a0) e9_k (by decide +kernel) (by decide +kernel) (by decide +kernel) (by decide +kernel) (by decide +kernel) (by decide +kernel) (pz_sa hS hk (pz_fvi hS.1 hk ⟨_, _, rfl, rfl⟩ (by omega) (by omega)) (pz_o42 hS hk) ⟨pz_oa, trivial⟩) pz_a0 (pz_ac l0 (pz_ac l1 pz_a0)) pz_a0 (pz_ac ?_ pz_a0)
    intro ρ' w' V
    obtain ⟨v1, v2, v3, v4⟩ := pz_v0 V hk hS (by decide +kernel)
    exact ⟨rfl, R, Or.inl ⟨v1, pz_et hE v2, by rw [v4]; exact hf, hFR⟩⟩
  · refine pz_run (ex := [.int a]) (mex := []) hU hk (by omega) hS (fun _ => pz_a0) ea_k (by decide +kernel) (by decide +kernel) (by decide +kernel) (by decide +kernel) (by decide +kernel) (by decide +kernel) (pz_sa hS hk (pz_fvi hS.1 hk ⟨_, _, rfl, rfl⟩ (by omega) (by omega)) (pz_o42 hS hk) ⟨pz_oa, trivial⟩) pz_a0 (pz_ac l0 (pz_ac l1 pz_a0)) pz_a0 (pz_ac ?_ pz_a0)
    intro ρ' w' V
    obtain ⟨v1, v2, v3, v4⟩ := pz_v0 V hk hS (by decide +kernel)
    exact ⟨rfl, R, Or.inl ⟨v1, pz_et hE v2, by rw [v4]; exact hf, hFR⟩⟩
theorem pz_eD {lc : pL} {a : Int32} (hU : Uq KTab ks) (hk : ks[mi]? = some 11) (hP : P + CrMax + 12 * 16777216 ≤ PMax) (hS : pz_St ks P mi R w) (hE : Ef ks pz_EQ w0 w) (hf : pz_fi w mi 4 = 0) (h42 : (R.2 42).toInt = 0) (ha : a.toInt = 0) (hD : pz_DN R0 b fr R (pz_Ph w mi)) (hT : pz_TK w mi) (hat : pz_fi w0 mi 6 ≤ pz_fi w mi 6) (l0 : lGet lc 0 = some (.ref (mi + 3))) (l1 : lGet lc 1 = some (.int a)) : Rs PP FF GM TX xs L 7 mX11_e 19 lc [] w (fun v w' => v = none ∧ pz_QE ks P mi R0 b fr w0 w') := by
  refine pz_run (ex := [.int a]) (mex := []) hU hk (by omega) hS (fun _ => pz_a0) e5_k (by decide +kernel) (by decide +kernel) (by decide +kernel) (by decide +kernel) (by decide +kernel) (by decide +kernel) (pz_sa hS hk (pz_fvi hS.1 hk ⟨_, _, rfl, rfl⟩ (by omega) (by omega)) (pz_oi (by omega) (by omega)) ⟨pz_oi (by omega) (by omega), trivial⟩) pz_a0 (pz_ac l0 (pz_ac l1 pz_a0)) pz_a0 (pz_ac ?_ pz_a0)
  intro ρ' w' V
  obtain ⟨v1, v2, v3, v4⟩ := pz_v0 V hk hS (by decide +kernel)
  refine ⟨rfl, R, Or.inr ⟨v1, pz_et hE v2, by rw [v4]; exact hf, by rw [pz_eqP v3]; exact hD, pz_eqT v3 hT, ?_⟩⟩
  rw [(pz_eqi v3).2.1]
  exact hat
theorem pz_e48 {lc : pL} {a : Int32} {Q : Option Value → pW → Prop} (l0 : lGet lc 0 = some (.ref (mi + 3))) (k : ∀ lc', lGet lc' 0 = some (.ref (mi + 3)) → lGet lc' 1 = some (.int a) → Rs PP FF GM TX xs L 7 mX11_e 19 lc' [] w Q) : Rs PP FF GM TX xs L 7 mX11_e 48 lc [.int a] w Q := by
  refine Rs.step (pc' := 49) (lc' := lSet1 lc 1 (.int a)) (st' := []) (w1 := w) (ins := .istore_n 1) (by decide +kernel) rfl ?_
  refine Rs.step (pc' := 19) (lc' := lSet1 lc 1 (.int a)) (st' := []) (w1 := w) (ins := .goto (-30)) (by decide +kernel) rfl ?_
  exact k _ (lGet_ne (by decide) l0 (fun e => absurd (show (1 : Nat) = 2 from e.2) (by decide))) (lGet_eq _ _ _)
theorem pz_e41 {lc : pL} {a : Int32} {Q : Option Value → pW → Prop} (l0 : lGet lc 0 = some (.ref (mi + 3))) (k : ∀ lc', lGet lc' 0 = some (.ref (mi + 3)) → lGet lc' 1 = some (.int a) → Rs PP FF GM TX xs L 7 mX11_e 19 lc' [] w Q) : Rs PP FF GM TX xs L 7 mX11_e 41 lc [.int a] w Q := by
  refine Rs.step (pc' := 48) (lc' := lc) (st' := [.int a]) (w1 := w) (ins := .goto 7) (by decide +kernel) rfl ?_
  exact pz_e48 l0 k
theorem pz_la : lGet (lArgs 0 [.ref (mi + 3)]) 0 = some (.ref (mi + 3)) := rfl
theorem pz_el (hU : Uq KTab ks) (hk : ks[mi]? = some 11) (hP : P + CrMax + 12 * 16777216 ≤ PMax) : ∀ (n : Nat) (R : pR) (w : pW) (lc : pL) (a : Int32) (t : Bool), pz_EI ks P mi R0 b fr w0 R w a t → 3 * (1601 - pz_fi w mi 6) + 2 * (R.2 42).toInt + (if t = true then 0 else 10) ≤ (n : Int) → lGet lc 0 = some (.ref (mi + 3)) → lGet lc 1 = some (.int a) → Rs PP FF GM TX xs L 7 mX11_e 19 lc [] w (fun v w' => v = none ∧ pz_QE ks P mi R0 b fr w0 w') := by
  intro n
  induction n with
  | zero =>
    intro R w lc a t h hm l0 l1
    exfalso
    obtain ⟨hS, -⟩ := h
    obtain ⟨d1, -, -, -, d5, -⟩ := pz_df hS hk
    have h0 : (0 : Int) ≤ (if t = true then 0 else 10) := by split <;> omega
    omega
  | succ n ih =>
    intro R w lc a t h hm l0 l1
    obtain ⟨hS, hE, hf, hat, hc⟩ := h
    obtain ⟨d1, d2, d3, d4, d5, d6, d7⟩ := pz_df hS hk
    have o4 : okD ks P (0, 2147483648, 2147483648) (pz_fv w mi 4) := pz_fvi hS.1 hk ⟨_, _, rfl, rfl⟩ (by omega) (by omega)
    rcases hc with ⟨ha, F, hI, hFF⟩ | ⟨ha, ht, hT, hI⟩
    · have i5 := hI.2.2.2.2.1
      refine pz_run (ex := [.int a]) (mex := []) hU hk (by omega) hS (fun _ => pz_a0) e1_k (by decide +kernel) (by decide +kernel) (by decide +kernel) (by decide +kernel) (by decide +kernel) (by decide +kernel) (pz_sa hS hk o4 (pz_oi (by omega) (by omega)) ⟨pz_oi (by omega) (by omega), trivial⟩) pz_a0 (pz_ac l0 (pz_ac l1 pz_a0)) (pz_ac ?_ pz_a0) pz_a0
      intro ρ' lc' w1 V hl
      have e0 : ρ' 0 = .ref (mi + 3) := V.1 0 (by decide)
      have l0' := hl (0, 0) (by decide +kernel)
      simp only [e0] at l0'
      obtain ⟨v1, v2, v3, v4⟩ := pz_v0 V hk hS (by decide +kernel)
      obtain ⟨q3, q6, q7, q8⟩ := pz_eqi v3
      have hUI : pz_UI ks P mi R0 b fr F R w1 := by
        refine ⟨v1, by rw [v4]; exact hf, hI, ?_⟩
        rw [pz_eqP v3]
        rcases hFF with ⟨-, q, r⟩ | ⟨-, r⟩
        · exact Or.inl ⟨pz_eqT v3 q, r⟩
        · exact Or.inr r
      show Rs PP FF GM TX xs L (6 + 1) mX11_e 38 lc' [ρ' 0] w1 _
      rw [e0]
      refine pz_call (i := 353) (j := 156) (M' := mX11_unit) (by decide +kernel) (by decide +kernel) rfl rfl v1.1 hk (by decide) (by decide) (pz_unit hU hk hP hUI pz_la) ?_
      intro v w2 hq
      obtain ⟨R2, a2, rfl, hq⟩ := hq
      show Rs PP FF GM TX xs L 7 mX11_e 41 lc' [.int a2] w2 _
      refine pz_e41 l0' (fun lc2 m0 m1 => ?_)
      rcases hq with ⟨s1, s2, s3, s4⟩ | ⟨s1, s2, s3, s4, s5, s6, s7⟩
      · exact pz_eF hU hk hP s1 (pz_et hE (pz_et v2 s2)) s3 s4 m0 m1
      · have s8 := s4.2.2.1
        rw [q7] at s8
        have s9 : (if t = true then (1 : Int) else 0) ≤ pz_fi w mi 7 - pz_fi w mi 6 := by
          rcases hFF with ⟨rfl, q, -⟩ | ⟨rfl, -⟩
          · rw [if_pos rfl]
            rw [q8] at s5
            rcases q.1 with q | q
            · exact absurd q s5
            · omega
          · rw [if_neg (by decide)]
            omega
        have s10 : 3 * (1601 - pz_fi w2 mi 6) + 2 * (R2.2 42).toInt + (if true = true then 0 else 10) ≤ (n : Int) := by
          rw [if_pos rfl]
          cases t
          · rw [if_neg (by decide)] at s9 hm
            omega
          · rw [if_pos rfl] at s9 hm
            omega
        refine ih R2 w2 lc2 a2 true ⟨s1, pz_et hE (pz_et v2 s2), s3, by omega, ?_⟩ s10 m0 m1
        rcases s7 with ⟨k1, k2⟩ | ⟨k1, k2⟩
        · exact Or.inr ⟨k1, rfl, s4.1, k2⟩
        · exact Or.inl ⟨k1, _, k2, Or.inl ⟨rfl, s4.1, rfl⟩⟩
    · have i5 := hI.2.2.2.2.1
      subst ht
      rw [if_pos rfl] at hm
      refine pz_run (ex := [.int a]) (mex := []) hU hk (by omega) hS (fun _ => pz_a0) e2_k (by decide +kernel) (by decide +kernel) (by decide +kernel) (by decide +kernel) (by decide +kernel) (by decide +kernel) (pz_sa hS hk o4 (pz_oi (by omega) (by omega)) ⟨pz_oi (by omega) (by omega), trivial⟩) pz_a0 (pz_ac l0 (pz_ac l1 pz_a0)) (pz_ac ?_ pz_a0) pz_a0
      intro ρ' lc' w1 V hl
      have e0 : ρ' 0 = .ref (mi + 3) := V.1 0 (by decide)
      have l0' := hl (0, 0) (by decide +kernel)
      simp only [e0] at l0'
      obtain ⟨v1, v2, v3, v4⟩ := pz_v0 V hk hS (by decide +kernel)
      obtain ⟨q3, q6, q7, q8⟩ := pz_eqi v3
      have c42 := clamp_toInt (x := R.2 42) (by omega)
      show Rs PP FF GM TX xs L (6 + 1) mX11_e 45 lc' [ρ' 0] w1 _
      rw [e0]
      refine pz_call (i := 356) (j := 159) (M' := mX11_behindUnit) (by decide +kernel) (by decide +kernel) rfl rfl v1.1 hk (by decide) (by decide) (pz_beh (R := R) (R0 := R0) (b := b) (fr := fr) (N := (R.2 42).toNatClampNeg) hU hk hP v1 (by rw [v4]; exact hf) (pz_eqT v3 hT) (by rw [pz_eqP v3]; exact hI) (Nat.le_refl _) pz_la) ?_
      intro v w2 hq
      obtain ⟨R2, a2, rfl, hq⟩ := hq
      show Rs PP FF GM TX xs L 7 mX11_e 48 lc' [.int a2] w2 _
      refine pz_e48 l0' (fun lc2 m0 m1 => ?_)
      rcases hq with ⟨s1, s2, s3, s4⟩ | ⟨s1, s2, s3, ⟨t1, t2, t3, t4⟩ | ⟨s4, s5, s6, s7⟩⟩
      · exact pz_eF hU hk hP s1 (pz_et hE (pz_et v2 s2)) s3 s4 m0 m1
      · refine pz_eD hU hk hP s1 (pz_et hE (pz_et v2 s2)) s3 t2 t1 t3 (pz_eqT t4 (pz_eqT v3 hT)) ?_ m0 m1
        rw [(pz_eqi t4).2.1, q6]
        exact hat
      · have s8 := s4.2.2.1
        rw [q7] at s8
        rw [q8] at s5
        have s9 : pz_fi w mi 6 + 1 ≤ pz_fi w mi 7 := hT.1.elim (fun q => absurd q s5) id
        refine ih R2 w2 lc2 a2 true ⟨s1, pz_et hE (pz_et v2 s2), s3, by omega, ?_⟩ (by rw [if_pos rfl]; omega) m0 m1
        rcases s7 with ⟨k1, k2⟩ | ⟨k1, k2⟩
        · exact Or.inr ⟨k1, rfl, s4.1, k2⟩
        · exact Or.inl ⟨k1, _, k2, Or.inl ⟨rfl, s4.1, rfl⟩⟩
theorem pz_w9 {ρ : Nat → Value} : evL ρ [(342, 16, 16, 0), (177, 17, 18, 0), (176, 17, 19, 0), (341, 20, 20, 0), (342, 17, 17, 0)] R = (fun k => if k = 77 then upd (if k = 76 then upd (R.1 k) (intV (ρ 17)).toNatClampNeg (intV (ρ 19)) else R.1 k) (intV (ρ 17)).toNatClampNeg (intV (ρ 18)) else if k = 76 then upd (R.1 k) (intV (ρ 17)).toNatClampNeg (intV (ρ 19)) else R.1 k, fun g => if g = 42 then intV (ρ 16) else if g = 41 then intV (ρ 20) else if g = 42 then intV (ρ 17) else R.2 g) := by
  show wrR ρ (300 + 42, 16, 16, 0) (wrR ρ (100 + 77, 17, 18, 0) (wrR ρ (100 + 76, 17, 19, 0) (wrR ρ (300 + 41, 20, 20, 0) (wrR ρ (300 + 42, 17, 17, 0) R)))) = _
  rw [pz_wf, pz_wr (by decide), pz_wr (by decide), pz_wf, pz_wf]
/-- the pile at its beginning -/
theorem pz_I0 {x16 x17 x18 x19 x20 : Int32} (hS : pz_St ks P mi R w) (hk : ks[mi]? = some 11) (hFR : pz_FR R0 R b fr) (h39 : (R.2 39).toInt = (b : Int)) (h40 : (R.2 40).toInt = (fr : Int)) (hb : 580 * b ≤ fr) (hu : 4 * ((R.2 40).toInt - 580 * (b : Int)) ≤ 8 * (R.1 58 b).toInt + F) (h16 : x16.toInt = 1) (h17 : x17.toInt = 0) (h19 : x19.toInt = 8) (h20 : x20.toInt = 0) (hR1 : R1 = (fun k => if k = 77 then upd (if k = 76 then upd (R.1 k) x17.toNatClampNeg x19 else R.1 k) x17.toNatClampNeg x18 else if k = 76 then upd (R.1 k) x17.toNatClampNeg x19 else R.1 k, fun g => if g = 42 then x16 else if g = 41 then x20 else if g = 42 then x17 else R.2 g)) : pz_I R0 b fr R1 0 F := by
  obtain ⟨d1, d2, d3, d4, d5, d6, d7⟩ := pz_df hS hk
  have c16 := clamp_toInt (x := x16) (by omega)
  have c17 := clamp_toInt (x := x17) (by omega)
  have c40 := clamp_toInt (x := R.2 40) (by omega)
  have n16 : x16.toNatClampNeg = 1 := by omega
  have n17 : x17.toNatClampNeg = 0 := by omega
  have n40 : (R.2 40).toNatClampNeg = fr := by omega
  have e76 : R1.1 76 = upd (R.1 76) 0 x19 := by
    rw [hR1, n17]
    rfl
  have e42 : R1.2 42 = x16 := by
    rw [hR1]
    rfl
  have e41 : R1.2 41 = x20 := by
    rw [hR1]
    rfl
  have e2 : ∀ g, g ≠ 42 → g ≠ 41 → R1.2 g = R.2 g := by
    intro g q1 q2
    rw [hR1]
    show (if g = 42 then x16 else if g = 41 then x20 else if g = 42 then x17 else R.2 g) = _
    rw [if_neg q1, if_neg q2, if_neg q1]
  have e1 : ∀ k, k ≠ 76 → k ≠ 77 → R1.1 k = R.1 k := by
    intro k q1 q2
    rw [hR1]
    show (if k = 77 then _ else if k = 76 then _ else R.1 k) = _
    rw [if_neg q2, if_neg q1]
  clear hR1
  have j1 : pz_jn (upd (R.1 76) 0 x19) 1 = 0 := by
    rw [pz_jn, pz_jn, pk_us, if_neg (by omega)]
  have j2 : pz_nn (upd (R.1 76) 0 x19) 1 = 0 := by
    rw [pz_nn, pz_nn, pk_us, if_neg (by omega)]
  have j3 : pz_bn (upd (R.1 76) 0 x19) 1 = 0 := by
    rw [pz_bn, pz_bn, pk_us, if_neg (by omega)]
  refine ⟨pz_FR_t hFR ⟨e2 38 (by decide) (by decide), e2 39 (by decide) (by decide), e1 39 (by decide) (by decide), e1 40 (by decide) (by decide), e1 56 (by decide) (by decide), e1 61 (by decide) (by decide), e1 62 (by decide) (by decide), fun i _ => by rw [e1 74 (by decide) (by decide)]⟩, by rw [e2 39 (by decide) (by decide)]; exact h39, hb, ?_, ?_, ?_, ?_, ?_, ?_, ?_, ?_⟩
  · rw [e2 40 (by decide) (by decide)]
    omega
  · rw [e42]
    omega
  · rw [e76, pk_us]
    exact h19
  · intro i q1 q2
    rw [e42] at q2
    omega
  · rw [e76, e41, e42, n16, j2, j3]
    exact h20
  · rw [e76, e42, e1 74 (by decide) (by decide), e2 40 (by decide) (by decide), n16, j1, n40, Nat.sub_self, dpt]
  · rw [e76, e42, e2 43 (by decide) (by decide), n16, j1]
    omega
  · rw [e76, e42, e1 58 (by decide) (by decide), e2 40 (by decide) (by decide), n16, j1, j2]
    omega
/-- e -/
theorem pz_e {lc : pL} (hU : Uq KTab ks) (hk : ks[mi]? = some 11) (hP : P + CrMax + 12 * 16777216 ≤ PMax) (hS : pz_St ks P mi R w) (hFR : pz_FR R0 R b fr) (hc : pz_fi w mi 4 = 0 → (R.2 39).toInt = (b : Int) ∧ (R.2 40).toInt = (fr : Int) ∧ 580 * b ≤ fr ∧ 4 * ((R.2 40).toInt - 580 * (b : Int)) ≤ 8 * (R.1 58 b).toInt + pz_Ph w mi) (l0 : lGet lc 0 = some (.ref (mi + 3))) : Rs PP FF GM TX xs L 7 mX11_e 0 lc [] w (fun v w' => v = none ∧ pz_QE ks P mi R0 b fr w w') := by
  refine pz_run (ex := []) (mex := []) hU hk (by omega) hS (fun _ => pz_a0) e8_k (by decide +kernel) (by decide +kernel) (by decide +kernel) (by decide +kernel) (by decide +kernel) (by decide +kernel) (pz_sa hS hk (pz_fd (f := 4) hS.1 hk rfl rfl).1 (pz_o42 hS hk) trivial) pz_a0 (pz_ac l0 pz_a0) (pz_ac ?_ pz_a0) pz_a0
  intro ρ' lc' w1 V hl
  have e0 : ρ' 0 = .ref (mi + 3) := V.1 0 (by decide)
  have e5 : ρ' 5 = pz_fv w mi 4 := V.1 5 (by decide)
  have l0' := hl (0, 0) (by decide +kernel)
  have l1' := hl (1, 15) (by decide +kernel)
  simp only [e0] at l0'
  have e15 := pzv_i V (s := 15) (a := 2147483649) (b := 2147483649) rfl
  have e16 := pzv_i V (s := 16) (a := 2147483649) (b := 2147483649) rfl
  have e17 := pzv_i V (s := 17) (a := 2147483648) (b := 2147483648) rfl
  have e19 := pzv_i V (s := 19) (a := 2147483656) (b := 2147483656) rfl
  have e20 := pzv_i V (s := 20) (a := 2147483648) (b := 2147483648) rfl
  simp only at l1'
  rw [e15.1] at l1'
  have hq := pz_eqo hS.1 hk V.2.2.2.2.2 (by decide +kernel)
  have hs := pzv_S V (pz_eqO hq hS.2.2)
  rw [show lgF e8_p0.2.1.2.2.2 = [(342, 16, 16, 0), (177, 17, 18, 0), (176, 17, 19, 0), (341, 20, 20, 0), (342, 17, 17, 0)] by decide +kernel, pz_w9] at hs
  have hE : Ef ks pz_EQ w w1 := pz_em V.2.2.2.2.2 (by decide +kernel)
  have f4 : pz_fi w1 mi 4 = pz_fi w mi 4 := by
    unfold pz_fi
    rw [pzv_f (f := 4) (s := 5) V (by decide) rfl (by decide +kernel), e5]
  obtain ⟨d1, -⟩ := pz_df hs hk
  by_cases hf : pz_fi w mi 4 = 0
  · obtain ⟨h39, h40, hb, hu⟩ := hc hf
    have hI := pz_I0 (x16 := intV (ρ' 16)) (x17 := intV (ρ' 17)) (x18 := intV (ρ' 18)) (x19 := intV (ρ' 19)) (x20 := intV (ρ' 20)) (F := pz_Ph w1 mi) hS hk hFR h39 h40 hb (by rw [pz_eqP hq]; exact hu) (by omega) (by omega) (by omega) (by omega) rfl
    refine pz_el hU hk hP 5000 _ w1 lc' (intV (ρ' 15)) false ⟨hs, hE, by rw [f4]; exact hf, by rw [(pz_eqi hq).2.1]; exact Int.le_refl _, Or.inl ⟨by omega, _, hI, Or.inr ⟨rfl, rfl⟩⟩⟩ ?_ l0' l1'
    show 3 * (1601 - pz_fi w1 mi 6) + 2 * (intV (ρ' 16)).toInt + (if false = true then 0 else 10) ≤ ((5000 : Nat) : Int)
    rw [if_neg (by decide)]
    omega
  · refine pz_eF hU hk hP hs hE (by rw [f4]; exact hf) (pz_FR_t hFR ⟨rfl, rfl, rfl, rfl, rfl, rfl, rfl, fun i _ => rfl⟩) l0' l1'
end PZK

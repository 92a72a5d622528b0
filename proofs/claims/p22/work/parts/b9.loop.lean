/-! behindUnit: its loop -/
section PZG
variable {ks : List Nat} {P : Nat} {w w1 w' : pW} {mi : Nat} {R R1 R' R0 : pR} {xs : Nat → Int32} {L : Nat} {eff : List (Nat × Nat)} {b fr : Nat} {F : Int}
theorem pz_s0 {me : List Fa} {ds : List Ds} {n : Nat} {ex : List Value} {ρ : Nat → Value} (V : pz_V ks P R [] w1 n (pz_rho (pz_vals w1 mi R ex)) ds me ρ w') (hk : ks[mi]? = some 11) (hl : lgF me = []) (h : pz_LI ks P mi R0 b fr F w R w1) : pz_LI ks P mi R0 b fr F w R w' := by
  obtain ⟨g1, g2, g3, g4, g5⟩ := h
  have hq := pz_eqo g1.1 hk V.2.2.2.2.2 (by decide +kernel)
  have hS := pzv_S V (pz_eqO hq g1.2.2)
  rw [hl] at hS
  obtain ⟨a1, a2, a3, a4, a5, a6⟩ := g3
  obtain ⟨c1, c2, c3, c4, c5, c6⟩ := hq
  refine ⟨hS, pz_et g2 (pz_em V.2.2.2.2.2 (by decide +kernel)), ⟨c1.trans a1, c2.trans a2, c3.trans a3, c4.trans a4, c5.trans a5, c6.trans a6⟩, ?_, g5⟩
  rw [pz_efi g1.1 hk V.2.2.2.2.2 (pz_no_ok rfl)]
  exact g4
theorem pz_m0 : ((0, 0) : Nat × Nat) ∈ [((0, 0) : Nat × Nat), (1, 20)] := by decide
theorem pz_m1 : ((1, 20) : Nat × Nat) ∈ [((0, 0) : Nat × Nat), (1, 20)] := by decide
/-- a place as a value -/
theorem pz_ix {p : Nat} (h : p ≤ 100) : (Int32.ofNat p).toInt = (p : Int) ∧ (Int32.ofNat p).toNatClampNeg = p := by
  have e : (Int32.ofNat p).toInt = (p : Int) := nI_toInt (by omega)
  have := clamp_toInt (x := Int32.ofNat p) (by omega)
  exact ⟨e, by omega⟩
/-- the extras of the loop's segments -/
theorem pz_ex {p lo hi lo' hi' : Nat} {rk : Value} {a b' : Nat} (hS : pz_St ks P mi R w) (hk : ks[mi]? = some 11) (h : p ≤ 88) (h1 : (lo : Int) ≤ (R.1 76 p).toInt + 2147483648) (h2 : (R.1 76 p).toInt + 2147483648 ≤ (hi : Int)) (h3 : (lo' : Int) ≤ (R.1 77 p).toInt + 2147483648) (h4 : (R.1 77 p).toInt + 2147483648 ≤ (hi' : Int)) (hr : okD ks P (0, a, b') rk) : pz_SdL ks P [pz_fv w mi 35, .int (Int32.ofNat p), .int (R.1 76 p), pz_fv w mi 36, .int (R.1 77 p), rk] [(1, 76, 0), (0, Zb + (p + 1) - 1, Zb + (p + 1) - 1), (0, lo, hi), (1, 77, 0), (0, lo', hi'), (0, a, b')] := by
  obtain ⟨e, -⟩ := pz_ix (p := p) (by omega)
  exact ⟨(pz_fd (f := 35) hS.1 hk rfl rfl).1, pz_oi (by simp only [Zb]; omega) (by simp only [Zb]; omega), pz_oi h1 h2, (pz_fd (f := 36) hS.1 hk rfl rfl).1, pz_oi h3 h4, hr, trivial⟩
theorem pz_sb {p : Nat} {co wi : Ds} {dx : List Ds} {ex : List Value} (hk : ks[mi]? = some 11) (h : pz_LI ks P mi R0 b fr F w R w1) (hp : (R.2 42).toNatClampNeg = p + 1) (h40 : okD ks P co (.int (R.2 40))) (h41 : okD ks P wi (.int (R.2 41))) (hx : pz_SdL ks P ex dx) : pz_SdL ks P (pz_vals w1 mi R ex) (pz_D (0, 0, 4294967295) (0, 2147483648, 2147483648) (4, 0, 0) co wi (0, Zb + (p + 1), Zb + (p + 1)) (0, 2147483648, 2147483678) (0, 2147483648, 2147483738) dx) := by
  obtain ⟨hS, -, -, hf, hI⟩ := h
  obtain ⟨d1, d2, d3, d4, d5, d6, d7⟩ := pz_df hS hk
  have c := clamp_toInt (x := R.2 42) (by omega)
  exact pz_sd hS hk (pz_fd (f := 8) hS.1 hk rfl rfl).1 (pz_fvi hS.1 hk ⟨_, _, rfl, rfl⟩ (by omega) (by omega)) (pz_fd (f := 10) hS.1 hk rfl rfl).1 h40 h41 (pz_oi (by simp only [Zb]; omega) (by simp only [Zb]; omega)) (pz_oi (by omega) (by omega)) (pz_oi (by omega) (by omega)) hx
/-- what holds where the loop ends -/
def pz_TP (R : pR) (rk : Value) : Prop := (R.2 42).toNatClampNeg = 1 ∨ ∃ p, (R.2 42).toNatClampNeg = p + 1 ∧ 1 ≤ p ∧ ((R.1 76 p).toInt = 7 ∨ ((R.1 76 p).toInt < iv rk ∧ (R.1 76 p).toInt ≠ 7))
theorem pz_loop {Q : Option Value → pW → Prop} {rk : Value} {N : Nat} (hU : Uq KTab ks) (hk : ks[mi]? = some 11) (hP : P + CrMax + 12 * 16777216 ≤ PMax) (hF : F ≤ 1605) (hr : okD ks P (0, 2147483648, 2147483654) rk) (K : ∀ (R : pR) (w1 : pW) (lc : pL), pz_LI ks P mi R0 b fr F w R w1 → lGet lc 0 = some (.ref (mi + 3)) → lGet lc 1 = some rk → (R.2 42).toNatClampNeg ≤ N → pz_TP R rk → Rs PP FF GM TX xs L 6 mX11_behindUnit 104 lc [] w1 Q) : ∀ (p : Nat) (R : pR) (w1 : pW) (lc : pL), (R.2 42).toNatClampNeg = p + 1 → p + 1 ≤ N → pz_LI ks P mi R0 b fr F w R w1 → lGet lc 0 = some (.ref (mi + 3)) → lGet lc 1 = some rk → Rs PP FF GM TX xs L 6 mX11_behindUnit 23 lc [] w1 Q := by
  intro p
  induction p with
  | zero =>
    intro R w1 lc hp hN h l0 l1
    have hS := h.1
    obtain ⟨d1, d2, d3, d4, d5, d6, d7⟩ := pz_df hS hk
    have i6 := h.2.2.2.2.2.2.2.2.2.1
    obtain ⟨f1, f2, f3, f4⟩ := pz_pf (x := Int32.ofNat 0) (j := 0) (tail := [rk]) hS hk (by decide) (by decide)
    have hc : chkZ lx_e 3000 6 mX11_behindUnit [(36, [(4, 0, [])]), (51, [(4, 0, [])])] [23, 104] 23 (lx_s (0 + 1)) [lx_p0 (0 + 1)] [] = true := List.all_eq_true.mp lx_k 0 (List.mem_range.mpr (by omega))
    refine pz_run (ex := [pz_fv w1 mi 35, .int (Int32.ofNat 0), .int (R.1 76 0), pz_fv w1 mi 36, .int (R.1 77 0), rk]) (mex := [(1035, 0, 0, 15), (2, 15, 16, 17), (1036, 0, 0, 18), (2, 18, 16, 19)]) hU hk (by omega) hS (fun _ => pz_a0) hc rfl rfl (by decide +kernel) rfl rfl rfl (pz_sb hk h hp (pz_oi (by omega) (by omega)) (pz_oi (by omega) (by omega)) (pz_ex (p := 0) hS hk (by omega) (by omega) (by omega) (by have := Int32.le_toInt (R.1 77 0); omega) (by have := Int32.toInt_lt (R.1 77 0); omega) hr)) (pz_ac f1 (pz_ac f2 (pz_ac f3 (pz_ac f4 pz_a0)))) (pz_ac l0 (pz_ac l1 pz_a0)) (pz_ac ?_ pz_a0) pz_a0
    intro ρ' lc' w2 V hl
    have e0 : ρ' 0 = .ref (mi + 3) := V.1 0 (by show 0 < 21; decide)
    have e20 : ρ' 20 = rk := V.1 20 (by show 20 < 21; decide)
    have l0' : lGet lc' 0 = some (ρ' 0) := hl (0, 0) pz_m0
    have l1' : lGet lc' 1 = some (ρ' 20) := hl (1, 20) pz_m1
    rw [e0] at l0'
    rw [e20] at l1'
    exact K R w2 lc' (pz_s0 V hk rfl h) l0' l1' (by omega) (Or.inl hp)
  | succ q ih =>
    intro R w1 lc hp hN h l0 l1
    have hS := h.1
    have hI := h.2.2.2.2
    obtain ⟨d1, d2, d3, d4, d5, d6, d7⟩ := pz_df hS hk
    have hpl := pz_piled (Or.inr hI) (by omega) (by omega)
    have c42 := clamp_toInt (x := R.2 42) (by omega)
    have i2 := hI.2.1
    have hb : (R.2 39).toNatClampNeg = b := by
      have := clamp_toInt (x := R.2 39) (by omega)
      omega
    rw [hb] at d7
    have hpo := hI.2.2.2.2.2.2.1 (q + 1) (by omega) (by omega)
    obtain ⟨x1, x2⟩ := pz_ix (p := q + 1) (by omega)
    obtain ⟨f1, f2, f3, f4⟩ := pz_pf (x := Int32.ofNat (q + 1)) (j := q + 1) (tail := [rk]) hS hk (by omega) x2
    have t1 := Int32.le_toInt (R.1 77 (q + 1))
    have t2 := Int32.toInt_lt (R.1 77 (q + 1))
    obtain ⟨r0, er, r1, r2⟩ := id (okD0 hr)
    have er' : iv rk = r0.toInt := by rw [er]; rfl
    by_cases h7 : (R.1 76 (q + 1)).toInt = 7
    · have hc : chkZ lx_e 3000 6 mX11_behindUnit [(36, [(4, 0, [])]), (51, [(4, 0, [])])] [23, 104] 23 (lx_s ((q + 1) + 1)) [lx_p0 ((q + 1) + 1)] [] = true := List.all_eq_true.mp lx_k (q + 1) (List.mem_range.mpr (by omega))
      refine pz_run (ex := [pz_fv w1 mi 35, .int (Int32.ofNat (q + 1)), .int (R.1 76 (q + 1)), pz_fv w1 mi 36, .int (R.1 77 (q + 1)), rk]) (mex := [(1035, 0, 0, 15), (2, 15, 16, 17), (1036, 0, 0, 18), (2, 18, 16, 19)]) hU hk (by omega) hS (fun _ => pz_a0) hc rfl rfl (by decide +kernel) rfl rfl rfl (pz_sb hk h hp (pz_oi (by omega) (by omega)) (pz_oi (by omega) (by omega)) (pz_ex (p := q + 1) hS hk (by omega) (by omega) (by omega) (by omega) (by omega) hr)) (pz_ac f1 (pz_ac f2 (pz_ac f3 (pz_ac f4 pz_a0)))) (pz_ac l0 (pz_ac l1 pz_a0)) (pz_ac ?_ pz_a0) pz_a0
      intro ρ' lc' w2 V hl
      have e0 : ρ' 0 = .ref (mi + 3) := V.1 0 (by show 0 < 21; decide)
      have e20 : ρ' 20 = rk := V.1 20 (by show 20 < 21; decide)
      have l0' : lGet lc' 0 = some (ρ' 0) := hl (0, 0) pz_m0
      have l1' : lGet lc' 1 = some (ρ' 20) := hl (1, 20) pz_m1
      rw [e0] at l0'
      rw [e20] at l1'
      exact K R w2 lc' (pz_s0 V hk rfl h) l0' l1' (by omega) (Or.inr ⟨q + 1, hp, by omega, Or.inl h7⟩)
    by_cases hlt : (R.1 76 (q + 1)).toInt < r0.toInt
    · have hc : chkZ ly_e 3000 6 mX11_behindUnit [(36, [(4, 0, [])]), (51, [(4, 0, [])])] [23, 104] 23 (ly_s ((q + 1) + 1)) [ly_p0 ((q + 1) + 1)] [] = true := List.all_eq_true.mp ly_k q (List.mem_range.mpr (by omega))
      have t3 : 1 ≤ (R.1 76 (q + 1)).toInt ∧ (R.1 76 (q + 1)).toInt ≤ 6 := by
        rcases hpo with ⟨h, -⟩ | h | ⟨h, -⟩
        · omega
        · exact absurd h h7
        · omega
      have hr' : okD ks P (0, 2147483649, 2147483654) rk := by
        rw [er]
        exact pz_oi (by omega) (by omega)
      have f5 : okF P (pz_rho (pz_vals w1 mi R (pz_fv w1 mi 35 :: .int (Int32.ofNat (q + 1)) :: .int (R.1 76 (q + 1)) :: pz_fv w1 mi 36 :: .int (R.1 77 (q + 1)) :: [rk]))) w1 (10, 17, 20, 2147483647) := f10 (show (R.1 76 (q + 1)).toInt ≤ iv rk + ((2147483647 : Nat) : Int) - 2147483648 by omega)
      refine pz_run (ex := [pz_fv w1 mi 35, .int (Int32.ofNat (q + 1)), .int (R.1 76 (q + 1)), pz_fv w1 mi 36, .int (R.1 77 (q + 1)), rk]) (mex := [(1035, 0, 0, 15), (2, 15, 16, 17), (1036, 0, 0, 18), (2, 18, 16, 19), (10, 17, 20, 2147483647)]) hU hk (by omega) hS (fun _ => pz_a0) hc rfl rfl (by decide +kernel) rfl rfl rfl (pz_sb hk h hp (pz_oi (by omega) (by omega)) (pz_oi (by omega) (by omega)) (pz_ex (p := q + 1) hS hk (by omega) (by omega) (by omega) (by omega) (by omega) hr')) (pz_ac f1 (pz_ac f2 (pz_ac f3 (pz_ac f4 (pz_ac f5 pz_a0))))) (pz_ac l0 (pz_ac l1 pz_a0)) (pz_ac ?_ pz_a0) pz_a0
      intro ρ' lc' w2 V hl
      have e0 : ρ' 0 = .ref (mi + 3) := V.1 0 (by show 0 < 21; decide)
      have e20 : ρ' 20 = rk := V.1 20 (by show 20 < 21; decide)
      have l0' : lGet lc' 0 = some (ρ' 0) := hl (0, 0) pz_m0
      have l1' : lGet lc' 1 = some (ρ' 20) := hl (1, 20) pz_m1
      rw [e0] at l0'
      rw [e20] at l1'
      exact K R w2 lc' (pz_s0 V hk rfl h) l0' l1' (by omega) (Or.inr ⟨q + 1, hp, by omega, Or.inr ⟨by omega, h7⟩⟩)
    have f5 : okF P (pz_rho (pz_vals w1 mi R (pz_fv w1 mi 35 :: .int (Int32.ofNat (q + 1)) :: .int (R.1 76 (q + 1)) :: pz_fv w1 mi 36 :: .int (R.1 77 (q + 1)) :: [rk]))) w1 (10, 20, 17, 2147483648) := f10 (show iv rk ≤ (R.1 76 (q + 1)).toInt + ((2147483648 : Nat) : Int) - 2147483648 by omega)
    obtain ⟨m1, m2⟩ := pz_rm hI hp (by omega) h7 hF (by omega)
    have nx : ∀ {ρ' : Nat → Value} {lc' : pL} {w2 : pW}, (∃ R', pz_LI ks P mi R0 b fr F w R' w2 ∧ (R'.2 42).toNatClampNeg = q + 1) → ρ' 0 = .ref (mi + 3) → ρ' 20 = rk → lGet lc' 0 = some (ρ' 0) → lGet lc' 1 = some (ρ' 20) → Rs PP FF GM TX xs L 6 mX11_behindUnit 23 lc' [] w2 Q := by
      intro ρ' lc' w2 ⟨R', g1, g2⟩ e0 e20 l0' l1'
      rw [e0] at l0'
      rw [e20] at l1'
      exact ih R' w2 lc' g2 (by omega) g1 l0' l1'
    rcases hpo with ⟨h3, h3'⟩ | h3 | ⟨h3, -⟩
    · have hc : chkZ i3_e 3000 6 mX11_behindUnit [(36, [(4, 0, [])]), (51, [(4, 0, [])])] [23, 104] 23 (i3_s ((q + 1) + 1)) [i3_p0 ((q + 1) + 1)] [] = true := List.all_eq_true.mp i3_k q (List.mem_range.mpr (by omega))
      have m2 := m2 h3
      refine pz_run (ex := [pz_fv w1 mi 35, .int (Int32.ofNat (q + 1)), .int (R.1 76 (q + 1)), pz_fv w1 mi 36, .int (R.1 77 (q + 1)), rk]) (mex := [(1035, 0, 0, 15), (2, 15, 16, 17), (1036, 0, 0, 18), (2, 18, 16, 19), (10, 20, 17, 2147483648)]) hU hk (by omega) hS (fun _ => pz_a0) hc rfl rfl (by decide +kernel) rfl rfl rfl (pz_sb hk h hp (pz_oi (by omega) (by omega)) (pz_oi (by omega) (by omega)) (pz_ex (p := q + 1) hS hk (by omega) (by omega) (by omega) (by omega) (by omega) hr)) (pz_ac f1 (pz_ac f2 (pz_ac f3 (pz_ac f4 (pz_ac f5 pz_a0))))) (pz_ac l0 (pz_ac l1 pz_a0)) (pz_ac ?_ pz_a0) pz_a0
      intro ρ' lc' w2 V hl
      exact nx (pz_s3 (c := i3_p0 ((q + 1) + 1)) (p := q + 1) V (by show 20 ≤ 21; decide) hk h (List.all_eq_true.mp pz_bi3 q (List.mem_range.mpr (by omega))) (by decide +kernel) hp (by omega) h3 rfl hF) (V.1 0 (by show 0 < 21; decide)) (V.1 20 (by show 20 < 21; decide)) (hl (0, 0) pz_m0) (hl (1, 20) pz_m1)
    · exact absurd h3 h7
    · by_cases h4 : (R.1 76 (q + 1)).toInt ≤ 2
      · have hc : chkZ ja_e 3000 6 mX11_behindUnit [(36, [(4, 0, [])]), (51, [(4, 0, [])])] [23, 104] 23 (ja_s ((q + 1) + 1)) [ja_p0 ((q + 1) + 1)] [] = true := List.all_eq_true.mp ja_k q (List.mem_range.mpr (by omega))
        refine pz_run (ex := [pz_fv w1 mi 35, .int (Int32.ofNat (q + 1)), .int (R.1 76 (q + 1)), pz_fv w1 mi 36, .int (R.1 77 (q + 1)), rk]) (mex := [(1035, 0, 0, 15), (2, 15, 16, 17), (1036, 0, 0, 18), (2, 18, 16, 19), (10, 20, 17, 2147483648)]) hU hk (by omega) hS (fun _ => pz_a0) hc rfl rfl (by decide +kernel) rfl rfl rfl (pz_sb hk h hp (pz_oi (by omega) (by omega)) (pz_oi (by omega) (by omega)) (pz_ex (p := q + 1) hS hk (by omega) (by omega) (by omega) (by omega) (by omega) hr)) (pz_ac f1 (pz_ac f2 (pz_ac f3 (pz_ac f4 (pz_ac f5 pz_a0))))) (pz_ac l0 (pz_ac l1 pz_a0)) (pz_ac ?_ pz_a0) pz_a0
        intro ρ' lc' w2 V hl
        exact nx (pz_sj (c := ja_p0 ((q + 1) + 1)) (p := q + 1) V (by show 20 ≤ 21; decide) hk h (List.all_eq_true.mp pz_bja q (List.mem_range.mpr (by omega))) (by decide +kernel) hp (by omega) ⟨by omega, h7⟩ rfl hF) (V.1 0 (by show 0 < 21; decide)) (V.1 20 (by show 20 < 21; decide)) (hl (0, 0) pz_m0) (hl (1, 20) pz_m1)
      · have hc : chkZ jb_e 3000 6 mX11_behindUnit [(36, [(4, 0, [])]), (51, [(4, 0, [])])] [23, 104] 23 (jb_s ((q + 1) + 1)) [jb_p0 ((q + 1) + 1)] [] = true := List.all_eq_true.mp jb_k q (List.mem_range.mpr (by omega))
        refine pz_run (ex := [pz_fv w1 mi 35, .int (Int32.ofNat (q + 1)), .int (R.1 76 (q + 1)), pz_fv w1 mi 36, .int (R.1 77 (q + 1)), rk]) (mex := [(1035, 0, 0, 15), (2, 15, 16, 17), (1036, 0, 0, 18), (2, 18, 16, 19), (10, 20, 17, 2147483648)]) hU hk (by omega) hS (fun _ => pz_a0) hc rfl rfl (by decide +kernel) rfl rfl rfl (pz_sb hk h hp (pz_oi (by omega) (by omega)) (pz_oi (by omega) (by omega)) (pz_ex (p := q + 1) hS hk (by omega) (by omega) (by omega) (by omega) (by omega) hr)) (pz_ac f1 (pz_ac f2 (pz_ac f3 (pz_ac f4 (pz_ac f5 pz_a0))))) (pz_ac l0 (pz_ac l1 pz_a0)) (pz_ac ?_ pz_a0) pz_a0
        intro ρ' lc' w2 V hl
        exact nx (pz_sj (c := jb_p0 ((q + 1) + 1)) (p := q + 1) V (by show 20 ≤ 21; decide) hk h (List.all_eq_true.mp pz_bjb q (List.mem_range.mpr (by omega))) (by decide +kernel) hp (by omega) ⟨by omega, h7⟩ rfl hF) (V.1 0 (by show 0 < 21; decide)) (V.1 20 (by show 20 < 21; decide)) (hl (0, 0) pz_m0) (hl (1, 20) pz_m1)
end PZG

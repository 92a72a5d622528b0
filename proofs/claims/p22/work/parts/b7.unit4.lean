/-! unit: from its first place on -/
section PZD2
variable {ks : List Nat} {P : Nat} {w w1 w' : pW} {mi : Nat} {R R1 R' R0 : pR} {xs : Nat → Int32} {L : Nat} {eff : List (Nat × Nat)} {b fr : Nat} {F : Int}
def pz_fqB (eff : List (Nat × Nat)) (a s : Nat) (p : Po) : Bool := decide (p.1 = some a) && (pz_rgB p.2.1 a 0 Mx && pz_flB eff p.2.1 p.2.2 s)
theorem pz_fq {p : Po} {n a s : Nat} {ex : List Value} {ρ : Nat → Value} (V : pz_V ks P R eff w n (pz_rho (pz_vals w mi R ex)) p.2.1 p.2.2 ρ w') (hn : 15 ≤ n) (hS : pz_St ks P mi R w) (hk : ks[mi]? = some 11) (hI : pz_FR R0 R b fr) (h : pz_fqB eff a s p = true) : pz_QU ks P mi R0 b fr R w (p.1.map ρ) w' := by
  simp only [pz_fqB, Bool.and_eq_true, decide_eq_true_eq] at h
  obtain ⟨h1, h2, h3⟩ := h
  obtain ⟨x, e, -, -⟩ := pz_rgB_ok V.2.1 h2
  refine ⟨R, x, ?_, Or.inl (pz_fl V hn hS hk hI h3)⟩
  rw [h1]
  show some (ρ a) = _
  rw [e]
theorem pz_qt {v : Option Value} (h : pz_QU ks P mi R0 b fr R w1 v w') (hE : Ef ks pz_EQ w w1) (hq : pz_eqw mi w w1) : pz_QU ks P mi R0 b fr R w v w' := by
  obtain ⟨R', a, h1, h2⟩ := h
  refine ⟨R', a, h1, ?_⟩
  rcases h2 with ⟨q1, q2, q3, q4⟩ | ⟨q1, q2, q3, q4, q5, q6⟩
  · exact Or.inl ⟨q1, pz_et hE q2, q3, q4⟩
  · rw [(pz_eqi hq).2.2.2] at q5
    rw [(pz_eqi hq).2.2.1] at q4
    exact Or.inr ⟨q1, pz_et hE q2, q3, q4, q5, q6⟩
theorem pz_hF (hF : (pz_TK w mi ∧ F = pz_Ph w mi + 4) ∨ F = pz_Ph w mi) (hO : pz_O w mi) (h8 : pz_fi w mi 8 ≠ 0) : F ≤ pz_fi w mi 7 + 4 := by
  have h1 : pz_Ph w mi ≤ pz_fi w mi 6 + 1 := by
    unfold pz_Ph
    split <;> omega
  have := hO.1
  rcases hF with ⟨⟨t1, -⟩, rfl⟩ | rfl
  · rcases t1 with t1 | t1
    · exact absurd t1 h8
    · omega
  · omega
theorem pz_hN (hF : (pz_TK w mi ∧ F = pz_Ph w mi + 4) ∨ F = pz_Ph w mi) (hO : pz_O w mi) (h0 : 0 ≤ pz_fi w mi 7) (h8 : pz_fi w mi 8 = 3) (hsh : ¬ ∃ x : Int64, pz_fv w mi 10 = .long x ∧ 0 ≤ x.toInt ∧ x.toInt < 65536) (hA : pz_AF w' mi (pz_fi w mi 7)) (h3 : pz_fi w' mi 3 = pz_fi w mi 3) (hx : pz_tx w' mi = pz_tx w mi) : F ≤ pz_Ph w' mi := by
  rcases hF with ⟨⟨-, t2⟩, rfl⟩ | rfl
  · rcases t2 h8 with t2 | ⟨t2, t3⟩
    · exact absurd t2 hsh
    · exact pz_ph4 hA h8 t2 h0 t3 h3 hx
  · have := hA.2.2.1
    have := hO.1
    unfold pz_Ph
    rw [if_pos h8]
    split <;> omega
/-- what the parts of unit that begin at 0 or 57 need of the state -/
def pz_UI (ks : List Nat) (P mi : Nat) (R0 : pR) (b fr : Nat) (F : Int) (R : pR) (w : pW) : Prop := pz_St ks P mi R w ∧ pz_fi w mi 4 = 0 ∧ pz_I R0 b fr R 0 F ∧ ((pz_TK w mi ∧ F = pz_Ph w mi + 4) ∨ F = pz_Ph w mi)
theorem pz_uo {tok nm : Ds} {ex : List Value} {dx : List Ds} (hk : ks[mi]? = some 11) (h : pz_UI ks P mi R0 b fr F R w) (h8 : okD ks P tok (pz_fv w mi 8)) (h10 : okD ks P nm (pz_fv w mi 10)) (hx : pz_SdL ks P ex dx) : pz_SdL ks P (pz_vals w mi R ex) (pz_D tok (0, 2147483648, 2147483648) nm (0, 2147483648, 2147484808) (0, 2147483648, 2147483655) (0, 2147483649, 2147483738) (0, 2147483648, 2147483678) (0, 2147483648, 2147483738) dx) := by
  obtain ⟨hS, hf, hI, -⟩ := h
  obtain ⟨d1, d2, d3, d4, d5, d6, d7⟩ := pz_df hS hk
  have i5 := hI.2.2.2.2.1
  exact pz_sd hS hk h8 (pz_fvi hS.1 hk ⟨_, _, rfl, rfl⟩ (by omega) (by omega)) h10 (pz_oi (by omega) (by omega)) (pz_oi (by omega) (by omega)) (pz_oi (by omega) (by omega)) (pz_oi (by omega) (by omega)) (pz_oi (by omega) (by omega)) hx
theorem pz_57x {nt : Value} {lc : pL} (hU : Uq KTab ks) (hk : ks[mi]? = some 11) (hP : P + CrMax + 12 * 16777216 ≤ PMax) (h : pz_UI ks P mi R0 b fr F R w) (h8 : pz_fi w mi 8 = 3) (hnt : okD ks P (0, 2147483648, 2147483648) nt) (l0 : lGet lc 0 = some (.ref (mi + 3))) (l2 : lGet lc 2 = some nt) : Rs PP FF GM TX xs L 6 mX11_unit 57 lc [] w (pz_QU ks P mi R0 b fr R w) := by
  have hT := h.1.1
  have hn : pz_fi w mi 8 ≠ 0 := by omega
  refine pz_run (ex := [nt]) (mex := []) hU hk (by omega) h.1 (fun _ => pz_a0) u1x_k (by decide +kernel) (by decide +kernel) (by decide +kernel) (by decide +kernel) (by decide +kernel) (by decide +kernel) (pz_uo hk h (pz_fvi hT hk ⟨_, _, rfl, rfl⟩ (by omega) (by omega)) (pz_fd (f := 10) hT hk rfl rfl).1 ⟨hnt, trivial⟩) pz_a0 (pz_ac l0 (pz_ac l2 pz_a0)) (pz_ac ?_ pz_a0) (pz_ac ?_ pz_a0)
  · intro ρ' lc' w1 V hl
    have e0 : ρ' 0 = .ref (mi + 3) := V.1 0 (by decide)
    have l0' := hl (0, 0) (by decide +kernel)
    simp only [e0] at l0'
    have o16 : okD ks P (0, 0, 4294967295) (ρ' 16) := by
      have q := pzv_b V (s := 16) (a := 2147483648) (b := 2147483648) rfl
      exact pz_rg (V.2.1 16 (0, 2147483648, 2147483648) rfl) (by omega) (by omega)
    exact pz_210 hU hk hP h.1 (pz_u1c (x := 20) (y := 21) (dl := 1) V (by decide) h.1 hk h.2.1 (by decide +kernel)) h.2.2.1 (pz_hF h.2.2.2 h.1.2.2 hn) hn l0' (hl (2, 15) (by decide +kernel)) (hl (3, 19) (by decide +kernel)) (hl (4, 18) (by decide +kernel)) (hl (6, 16) (by decide +kernel)) o16 (Or.inr (Or.inl ⟨V.2.1 15 _ rfl, V.2.1 19 _ rfl, V.2.1 18 _ rfl, rfl⟩))
  · intro ρ' w' V
    exact pz_fq (a := 16) (s := 17) V (by decide) h.1 hk h.2.2.1.1 (by decide +kernel)
theorem pz_57y {nt : Value} {lc : pL} (hU : Uq KTab ks) (hk : ks[mi]? = some 11) (hP : P + CrMax + 12 * 16777216 ≤ PMax) (h : pz_UI ks P mi R0 b fr F R w) (h8 : pz_fi w mi 8 = 3) (hsh : ¬ ∃ x : Int64, pz_fv w mi 10 = .long x ∧ 0 ≤ x.toInt ∧ x.toInt < 65536) (hnt : okD ks P (0, 2147483649, 2147483649) nt) (l0 : lGet lc 0 = some (.ref (mi + 3))) (l2 : lGet lc 2 = some nt) : Rs PP FF GM TX xs L 6 mX11_unit 57 lc [] w (pz_QU ks P mi R0 b fr R w) := by
  have hT := h.1.1
  have hn : pz_fi w mi 8 ≠ 0 := by omega
  refine pz_run (ex := [nt]) (mex := []) hU hk (by omega) h.1 (fun _ => pz_a0) u1y_k (by decide +kernel) (by decide +kernel) (by decide +kernel) (by decide +kernel) (by decide +kernel) (by decide +kernel) (pz_uo hk h (pz_fvi hT hk ⟨_, _, rfl, rfl⟩ (by omega) (by omega)) (pz_fd (f := 10) hT hk rfl rfl).1 ⟨hnt, trivial⟩) pz_a0 (pz_ac l0 (pz_ac l2 pz_a0)) (pz_ac ?_ pz_a0) (pz_ac ?_ pz_a0)
  · intro ρ' lc' w1 V hl
    have e0 : ρ' 0 = .ref (mi + 3) := V.1 0 (by decide)
    have e9 : ρ' 9 = .int (R.2 41) := V.1 9 (by decide)
    have b9 := pzv_b V (s := 9) rfl
    rw [e9, iv_int] at b9
    have l0' := hl (0, 0) (by decide +kernel)
    simp only [e0] at l0'
    have d7 := (pz_df h.1 hk).1
    exact pz_210 hU hk hP h.1 (pz_u1c (x := 20) (y := 21) (dl := 0) V (by decide) h.1 hk h.2.1 (by decide +kernel)) h.2.2.1 (pz_hF h.2.2.2 h.1.2.2 hn) hn l0' (hl (2, 15) (by decide +kernel)) (hl (3, 19) (by decide +kernel)) (hl (4, 18) (by decide +kernel)) (hl (6, 16) (by decide +kernel)) (V.2.1 16 _ rfl) (Or.inr (Or.inr (Or.inr ⟨V.2.1 15 _ rfl, V.2.1 19 _ rfl, V.2.1 18 _ rfl, rfl, by omega, fun w' q1 q2 q3 => pz_hN h.2.2.2 h.1.2.2 (by omega) h8 hsh q1 q2 q3⟩)))
  · intro ρ' w' V
    exact pz_fq (a := 16) (s := 17) V (by decide) h.1 hk h.2.2.1.1 (by decide +kernel)
theorem pz_unit {lc : pL} (hU : Uq KTab ks) (hk : ks[mi]? = some 11) (hP : P + CrMax + 12 * 16777216 ≤ PMax) (h : pz_UI ks P mi R0 b fr F R w) (l0 : lGet lc 0 = some (.ref (mi + 3))) : Rs PP FF GM TX xs L 6 mX11_unit 0 lc [] w (pz_QU ks P mi R0 b fr R w) := by
  have hT := h.1.1
  have hS := h.1
  have hFR := h.2.2.1.1
  have o10 : okD ks P (4, 0, 0) (pz_fv w mi 10) := (pz_fd (f := 10) hT hk rfl rfl).1
  have b8 := pz_bd (pz_fd (f := 8) hT hk rfl rfl).1
  have e8 : iv (pz_fv w mi 8) = pz_fi w mi 8 := rfl
  by_cases c1 : pz_fi w mi 8 ≤ 2
  · refine pz_run (ex := []) (mex := []) hU hk (by omega) hS (fun _ => pz_a0) u1o_k (by decide +kernel) (by decide +kernel) (by decide +kernel) (by decide +kernel) (by decide +kernel) (by decide +kernel) (pz_uo hk h (pz_fvi hT hk ⟨_, _, rfl, rfl⟩ (by omega) (by omega)) o10 trivial) pz_a0 (pz_ac l0 pz_a0) pz_a0 (pz_ac ?_ pz_a0)
    intro ρ' w' V
    exact pz_fq (a := 15) (s := 16) V (by decide) hS hk hFR (by decide +kernel)
  by_cases c2 : 6 ≤ pz_fi w mi 8
  · refine pz_run (ex := []) (mex := []) hU hk (by omega) hS (fun _ => pz_a0) u1p_k (by decide +kernel) (by decide +kernel) (by decide +kernel) (by decide +kernel) (by decide +kernel) (by decide +kernel) (pz_uo hk h (pz_fvi hT hk ⟨_, _, rfl, rfl⟩ (by omega) (by omega)) o10 trivial) pz_a0 (pz_ac l0 pz_a0) pz_a0 (pz_ac ?_ pz_a0)
    intro ρ' w' V
    exact pz_fq (a := 15) (s := 16) V (by decide) hS hk hFR (by decide +kernel)
  have hn : pz_fi w mi 8 ≠ 0 := by omega
  by_cases c3 : pz_fi w mi 8 = 4
  · refine pz_run (ex := []) (mex := []) hU hk (by omega) hS (fun _ => pz_a0) u1n_k (by decide +kernel) (by decide +kernel) (by decide +kernel) (by decide +kernel) (by decide +kernel) (by decide +kernel) (pz_uo hk h (pz_fvi hT hk ⟨_, _, rfl, rfl⟩ (by omega) (by omega)) o10 trivial) pz_a0 (pz_ac l0 pz_a0) (pz_ac ?_ pz_a0) (pz_ac ?_ pz_a0)
    · intro ρ' lc' w1 V hl
      have e0 : ρ' 0 = .ref (mi + 3) := V.1 0 (by decide)
      have l0' := hl (0, 0) (by decide +kernel)
      simp only [e0] at l0'
      exact pz_210 hU hk hP h.1 (pz_u1c (x := 21) (y := 22) (dl := 1) V (by decide) h.1 hk h.2.1 (by decide +kernel)) h.2.2.1 (pz_hF h.2.2.2 h.1.2.2 hn) hn l0' (hl (2, 19) (by decide +kernel)) (hl (3, 18) (by decide +kernel)) (hl (4, 17) (by decide +kernel)) (hl (6, 15) (by decide +kernel)) (V.2.1 15 _ rfl) (Or.inl ⟨V.2.1 19 _ rfl, V.2.1 18 _ rfl, V.2.1 17 _ rfl, rfl⟩)
    · intro ρ' w' V
      exact pz_fq (a := 15) (s := 16) V (by decide) hS hk hFR (by decide +kernel)
  by_cases c4 : pz_fi w mi 8 = 5
  · refine pz_run (ex := []) (mex := []) hU hk (by omega) hS (fun _ => pz_a0) u1g_k (by decide +kernel) (by decide +kernel) (by decide +kernel) (by decide +kernel) (by decide +kernel) (by decide +kernel) (pz_uo hk h (pz_fvi hT hk ⟨_, _, rfl, rfl⟩ (by omega) (by omega)) o10 trivial) pz_a0 (pz_ac l0 pz_a0) (pz_ac ?_ pz_a0) (pz_ac ?_ pz_a0)
    · intro ρ' lc' w1 V hl
      have e0 : ρ' 0 = .ref (mi + 3) := V.1 0 (by decide)
      have e9 : ρ' 9 = .int (R.2 41) := V.1 9 (by decide)
      have b9 := pzv_b V (s := 9) rfl
      rw [e9, iv_int] at b9
      have l0' := hl (0, 0) (by decide +kernel)
      simp only [e0] at l0'
      exact pz_210 hU hk hP h.1 (pz_u1c (x := 21) (y := 22) (dl := 1) V (by decide) h.1 hk h.2.1 (by decide +kernel)) h.2.2.1 (pz_hF h.2.2.2 h.1.2.2 hn) hn l0' (hl (2, 19) (by decide +kernel)) (hl (3, 18) (by decide +kernel)) (hl (4, 17) (by decide +kernel)) (hl (6, 15) (by decide +kernel)) (V.2.1 15 _ rfl) (Or.inr (Or.inr (Or.inl ⟨V.2.1 19 _ rfl, V.2.1 18 _ rfl, V.2.1 17 _ rfl, rfl, by omega⟩)))
    · intro ρ' w' V
      exact pz_fq (a := 15) (s := 16) V (by decide) hS hk hFR (by decide +kernel)
  have h8 : pz_fi w mi 8 = 3 := by omega
  by_cases hsh : ∃ x : Int64, pz_fv w mi 10 = .long x ∧ 0 ≤ x.toInt ∧ x.toInt < 65536
  · obtain ⟨x, x1, x2, x3⟩ := hsh
    refine pz_run (ex := []) (mex := []) hU hk (by omega) hS (fun _ => pz_a0) u1s_k (by decide +kernel) (by decide +kernel) (by decide +kernel) (by decide +kernel) (by decide +kernel) (by decide +kernel) (pz_uo hk h (pz_fvi hT hk ⟨_, _, rfl, rfl⟩ (by omega) (by omega)) ⟨x, x1, fun _ => ⟨x2, x3⟩⟩ trivial) pz_a0 (pz_ac l0 pz_a0) pz_a0 (pz_ac ?_ pz_a0)
    intro ρ' w' V
    exact pz_fq (a := 15) (s := 16) V (by decide) hS hk hFR (by decide +kernel)
  have key : ∀ {me : List Fa} {ds : List Ds} {n : Nat} {ρ' : Nat → Value} {w1 : pW}, pz_V ks P R [] w n (pz_rho (pz_vals w mi R [])) ds me ρ' w1 → lgF me = [] → pz_UI ks P mi R0 b fr F R w1 ∧ pz_fi w1 mi 8 = 3 ∧ (¬ ∃ x : Int64, pz_fv w1 mi 10 = .long x ∧ 0 ≤ x.toInt ∧ x.toInt < 65536) ∧ Ef ks pz_EQ w w1 ∧ pz_eqw mi w w1 := by
    intro me ds n ρ' w1 V hl
    have hq := pz_eqo hT hk V.2.2.2.2.2 (by decide +kernel)
    have hS1 := pzv_S V (pz_eqO hq hS.2.2)
    rw [hl] at hS1
    have hf1 : pz_fi w1 mi 4 = 0 := by
      rw [pz_efi hT hk V.2.2.2.2.2 (pz_no_ok rfl)]
      exact h.2.1
    refine ⟨⟨hS1, hf1, h.2.2.1, ?_⟩, by rw [(pz_eqi hq).2.2.2]; exact h8, by rw [hq.2.2.2.2.1]; exact hsh, pz_em V.2.2.2.2.2 (by decide +kernel), hq⟩
    rw [pz_eqP hq]
    rcases h.2.2.2 with ⟨q1, q2⟩ | q2
    · exact Or.inl ⟨pz_eqT hq q1, q2⟩
    · exact Or.inr q2
  refine pz_run (ex := []) (mex := []) hU hk (by omega) hS (fun _ => pz_a0) u1w_k (by decide +kernel) (by decide +kernel) (by decide +kernel) (by decide +kernel) (by decide +kernel) (by decide +kernel) (pz_uo hk h (pz_fvi hT hk ⟨_, _, rfl, rfl⟩ (by omega) (by omega)) o10 trivial) pz_a0 (pz_ac l0 pz_a0) (pz_ac ?_ (pz_ac ?_ pz_a0)) pz_a0
  · intro ρ' lc' w1 V hl
    obtain ⟨k1, k2, k3, k4, k5⟩ := key V (by decide +kernel)
    have e0 : ρ' 0 = .ref (mi + 3) := V.1 0 (by decide)
    have l0' := hl (0, 0) (by decide +kernel)
    simp only [e0] at l0'
    exact (pz_57x hU hk hP k1 k2 (V.2.1 15 _ rfl) l0' (hl (2, 15) (by decide +kernel))).imp (fun v w' q => pz_qt q k4 k5)
  · intro ρ' lc' w1 V hl
    obtain ⟨k1, k2, k3, k4, k5⟩ := key V (by decide +kernel)
    have e0 : ρ' 0 = .ref (mi + 3) := V.1 0 (by decide)
    have l0' := hl (0, 0) (by decide +kernel)
    simp only [e0] at l0'
    exact (pz_57y hU hk hP k1 k2 k3 (V.2.1 15 _ rfl) l0' (hl (2, 15) (by decide +kernel))).imp (fun v w' q => pz_qt q k4 k5)
end PZD2

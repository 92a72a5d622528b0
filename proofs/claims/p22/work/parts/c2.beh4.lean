/-! behindUnit as a whole; calls by hand -/
section PZJ
variable {ks : List Nat} {P : Nat} {w w1 w2 w' : pW} {mi : Nat} {R R1 R' R0 : pR} {xs : Nat → Int32} {L : Nat} {eff : List (Nat × Nat)} {b fr N : Nat} {F : Int}
theorem pz_bgo {rk : Value} {lc : pL} (hU : Uq KTab ks) (hk : ks[mi]? = some 11) (hP : P + CrMax + 12 * 16777216 ≤ PMax) (hT : pz_TK w mi) (hO : pz_O w mi) (h : pz_LI ks P mi R0 b fr (pz_Ph w mi + 4) w R w1) (hN : (R.2 42).toNatClampNeg ≤ N) (l0 : lGet lc 0 = some (.ref (mi + 3))) (l1 : lGet lc 1 = some rk) (hr : okD ks P (0, 2147483648, 2147483648) rk ∨ (pz_fi w mi 8 ≠ 0 ∧ (okD ks P (0, 2147483649, 2147483649) rk ∨ okD ks P (0, 2147483650, 2147483650) rk ∨ (okD ks P (0, 2147483652, 2147483654) rk ∧ 0 ≤ (pz_tx w mi (pz_fi w mi 6).toNat).toInt ∧ (pz_tx w mi (pz_fi w mi 6).toNat).toInt ≤ 96)))) : Rs PP FF GM TX xs L 6 mX11_behindUnit 23 lc [] w1 (pz_QB ks P mi R0 b fr N w) := by
  have i5 := h.2.2.2.2.2.2.2.2.1
  have c42 := clamp_toInt (x := R.2 42) (by omega)
  obtain ⟨d1, -⟩ := pz_df h.1 hk
  have e6 := (pz_eqi h.2.2.1).2.1
  have hF : pz_Ph w mi + 4 ≤ 1605 := by
    unfold pz_Ph
    split <;> omega
  have hr' : okD ks P (0, 2147483648, 2147483654) rk := by
    rcases hr with hr | ⟨-, hr | hr | ⟨hr, -⟩⟩
    · have := pz_bd hr
      exact pz_rg hr (by omega) (by omega)
    · have := pz_bd hr
      exact pz_rg hr (by omega) (by omega)
    · have := pz_bd hr
      exact pz_rg hr (by omega) (by omega)
    · have := pz_bd hr
      exact pz_rg hr (by omega) (by omega)
  obtain ⟨p, hp⟩ : ∃ p, (R.2 42).toNatClampNeg = p + 1 := ⟨(R.2 42).toNatClampNeg - 1, by omega⟩
  exact pz_loop (w := w) (R0 := R0) (b := b) (fr := fr) (F := pz_Ph w mi + 4) (N := N) hU hk hP hF hr' (fun R w1 lc q1 q2 q3 q4 q5 => pz_104 hU hk hP hT hO q1 q4 q2 q3 q5 hr) p R w1 lc hp (by omega) h l0 l1
theorem pz_b0c {me : List Fa} {ds : List Ds} {n : Nat} {ex : List Value} {ρ : Nat → Value} (V : pz_V ks P R eff w n (pz_rho (pz_vals w mi R ex)) ds me ρ w1) (hn : 15 ≤ n) (hk : ks[mi]? = some 11) (hS : pz_St ks P mi R w) (hf : pz_fi w mi 4 = 0) (hI : pz_I R0 b fr R 1 F) (hl : lgF me = []) (hE : (pz_noT eff && pz_sub eff pz_EQ) = true) (h4 : fnd me (1000 + 4) 0 0 = some 5) : pz_LI ks P mi R0 b fr F w R w1 := by
  simp only [Bool.and_eq_true] at hE
  have hq := pz_eqo hS.1 hk V.2.2.2.2.2 hE.1
  have hs := pzv_S V (pz_eqO hq hS.2.2)
  rw [hl] at hs
  have e5 : ρ 5 = pz_fv w mi 4 := V.1 5 (by omega)
  refine ⟨hs, pz_em V.2.2.2.2.2 hE.2, hq, ?_, hI⟩
  unfold pz_fi
  rw [pzv_f (f := 4) V (by omega) rfl h4, e5]
  exact hf
theorem pz_hic : ∀ R, ∀ c ∈ [c_Model_isCompared], CK KTab (FZ KTab ks R) ks PP FF GM xs L c := fun _ => pz_ac (ck_c_Model_isCompared FZ_xs) pz_a0
theorem pz_beh {lc : pL} (hU : Uq KTab ks) (hk : ks[mi]? = some 11) (hP : P + CrMax + 12 * 16777216 ≤ PMax) (hS : pz_St ks P mi R w) (hf : pz_fi w mi 4 = 0) (hT : pz_TK w mi) (hI : pz_I R0 b fr R 1 (pz_Ph w mi + 4)) (hN : (R.2 42).toNatClampNeg ≤ N) (l0 : lGet lc 0 = some (.ref (mi + 3))) : Rs PP FF GM TX xs L 6 mX11_behindUnit 0 lc [] w (pz_QB ks P mi R0 b fr N w) := by
  obtain ⟨d1, d2, d3, d4, d5, d6, d7⟩ := pz_df hS hk
  have i5 := hI.2.2.2.2.1
  have i6 := hI.2.2.2.2.2.1
  have hO := hS.2.2
  have o10 : okD ks P (4, 0, 0) (pz_fv w mi 10) := (pz_fd (f := 10) hS.1 hk rfl rfl).1
  have b8 := pz_bd (pz_fd (f := 8) hS.1 hk rfl rfl).1
  have e8 : iv (pz_fv w mi 8) = pz_fi w mi 8 := rfl
  obtain ⟨f1, f2⟩ := pz_pg (x := 0) (j := 0) (ρ := pz_rho (pz_vals w mi R [pz_fv w mi 35, .int 0, .int (R.1 76 0)])) hS hk (by decide) (by decide) rfl rfl rfl rfl
  have sd : ∀ {tok : Ds}, okD ks P tok (pz_fv w mi 8) → pz_SdL ks P (pz_vals w mi R [pz_fv w mi 35, .int 0, .int (R.1 76 0)]) (pz_D tok (0, 2147483648, 2147483648) (4, 0, 0) (0, 2147483648, 2147484808) (0, 2147483648, 2147483655) (0, 2147483649, 2147483738) (0, 2147483648, 2147483678) (0, 2147483648, 2147483738) [(1, 76, 0), (0, 2147483648, 2147483648), (0, 2147483656, 2147483656)]) := fun h8 => pz_sd hS hk h8 (pz_fvi hS.1 hk ⟨_, _, rfl, rfl⟩ (by omega) (by omega)) o10 (pz_oi (by omega) (by omega)) (pz_oi (by omega) (by omega)) (pz_oi (by omega) (by omega)) (pz_oi (by omega) (by omega)) (pz_oi (by omega) (by omega)) ⟨(pz_fd (f := 35) hS.1 hk rfl rfl).1, pz_oi (by decide) (by decide), pz_oi (by omega) (by omega), trivial⟩
  by_cases c1 : pz_fi w mi 8 ≤ 2
  · refine pz_run (ex := [pz_fv w mi 35, .int 0, .int (R.1 76 0)]) (mex := [(1035, 0, 0, 15), (2, 15, 16, 17)]) hU hk (by omega) hS (fun _ => pz_a0) b0o_k (by decide +kernel) (by decide +kernel) (by decide +kernel) (by decide +kernel) (by decide +kernel) (by decide +kernel) (sd (pz_fvi hS.1 hk ⟨_, _, rfl, rfl⟩ (by omega) (by omega))) (pz_ac f1 (pz_ac f2 pz_a0)) (pz_ac l0 pz_a0) (pz_ac ?_ pz_a0) pz_a0
    intro ρ' lc' w1 V hl
    have e0 : ρ' 0 = .ref (mi + 3) := V.1 0 (by decide)
    have l0' := hl (0, 0) (by decide +kernel)
    simp only [e0] at l0'
    exact pz_bgo hU hk hP hT hO (pz_b0c V (by decide) hk hS hf hI (by decide +kernel) (by decide +kernel) (by decide +kernel)) hN l0' (hl (1, 18) (by decide +kernel)) (Or.inl (V.2.1 18 _ rfl))
  by_cases c2 : 6 ≤ pz_fi w mi 8
  · refine pz_run (ex := [pz_fv w mi 35, .int 0, .int (R.1 76 0)]) (mex := [(1035, 0, 0, 15), (2, 15, 16, 17)]) hU hk (by omega) hS (fun _ => pz_a0) b0p_k (by decide +kernel) (by decide +kernel) (by decide +kernel) (by decide +kernel) (by decide +kernel) (by decide +kernel) (sd (pz_fvi hS.1 hk ⟨_, _, rfl, rfl⟩ (by omega) (by omega))) (pz_ac f1 (pz_ac f2 pz_a0)) (pz_ac l0 pz_a0) (pz_ac ?_ pz_a0) pz_a0
    intro ρ' lc' w1 V hl
    have e0 : ρ' 0 = .ref (mi + 3) := V.1 0 (by decide)
    have l0' := hl (0, 0) (by decide +kernel)
    simp only [e0] at l0'
    exact pz_bgo hU hk hP hT hO (pz_b0c V (by decide) hk hS hf hI (by decide +kernel) (by decide +kernel) (by decide +kernel)) hN l0' (hl (1, 18) (by decide +kernel)) (Or.inl (V.2.1 18 _ rfl))
  have hn : pz_fi w mi 8 ≠ 0 := by omega
  by_cases c3 : pz_fi w mi 8 = 4
  · refine pz_run (ex := [pz_fv w mi 35, .int 0, .int (R.1 76 0)]) (mex := [(1035, 0, 0, 15), (2, 15, 16, 17)]) hU hk (by omega) hS (fun _ => pz_a0) b0n_k (by decide +kernel) (by decide +kernel) (by decide +kernel) (by decide +kernel) (by decide +kernel) (by decide +kernel) (sd (pz_fvi hS.1 hk ⟨_, _, rfl, rfl⟩ (by omega) (by omega))) (pz_ac f1 (pz_ac f2 pz_a0)) (pz_ac l0 pz_a0) (pz_ac ?_ pz_a0) pz_a0
    intro ρ' lc' w1 V hl
    have e0 : ρ' 0 = .ref (mi + 3) := V.1 0 (by decide)
    have l0' := hl (0, 0) (by decide +kernel)
    simp only [e0] at l0'
    exact pz_bgo hU hk hP hT hO (pz_b0c V (by decide) hk hS hf hI (by decide +kernel) (by decide +kernel) (by decide +kernel)) hN l0' (hl (1, 18) (by decide +kernel)) (Or.inl (V.2.1 18 _ rfl))
  by_cases c4 : pz_fi w mi 8 = 3
  · refine pz_run (ex := [pz_fv w mi 35, .int 0, .int (R.1 76 0)]) (mex := [(1035, 0, 0, 15), (2, 15, 16, 17)]) hU hk (by omega) hS (fun _ => pz_a0) b0w_k (by decide +kernel) (by decide +kernel) (by decide +kernel) (by decide +kernel) (by decide +kernel) (by decide +kernel) (sd (pz_fvi hS.1 hk ⟨_, _, rfl, rfl⟩ (by omega) (by omega))) (pz_ac f1 (pz_ac f2 pz_a0)) (pz_ac l0 pz_a0) (pz_ac ?_ (pz_ac ?_ (pz_ac ?_ pz_a0))) pz_a0
    · intro ρ' lc' w1 V hl
      have e0 : ρ' 0 = .ref (mi + 3) := V.1 0 (by decide)
      have l0' := hl (0, 0) (by decide +kernel)
      simp only [e0] at l0'
      exact pz_bgo hU hk hP hT hO (pz_b0c V (by decide) hk hS hf hI (by decide +kernel) (by decide +kernel) (by decide +kernel)) hN l0' (hl (1, 18) (by decide +kernel)) (Or.inr ⟨hn, Or.inr (Or.inl (V.2.1 18 _ rfl))⟩)
    · intro ρ' lc' w1 V hl
      have e0 : ρ' 0 = .ref (mi + 3) := V.1 0 (by decide)
      have l0' := hl (0, 0) (by decide +kernel)
      simp only [e0] at l0'
      exact pz_bgo hU hk hP hT hO (pz_b0c V (by decide) hk hS hf hI (by decide +kernel) (by decide +kernel) (by decide +kernel)) hN l0' (hl (1, 18) (by decide +kernel)) (Or.inr ⟨hn, Or.inl (V.2.1 18 _ rfl)⟩)
    · intro ρ' lc' w1 V hl
      have e0 : ρ' 0 = .ref (mi + 3) := V.1 0 (by decide)
      have l0' := hl (0, 0) (by decide +kernel)
      simp only [e0] at l0'
      exact pz_bgo hU hk hP hT hO (pz_b0c V (by decide) hk hS hf hI (by decide +kernel) (by decide +kernel) (by decide +kernel)) hN l0' (hl (1, 18) (by decide +kernel)) (Or.inl (V.2.1 18 _ rfl))
  refine pz_run (ex := [pz_fv w mi 35, .int 0, .int (R.1 76 0)]) (mex := [(1035, 0, 0, 15), (2, 15, 16, 17)]) hU hk (by omega) hS pz_hic b0g_k (by decide +kernel) (by decide +kernel) (by decide +kernel) (by decide +kernel) (by decide +kernel) (by decide +kernel) (sd (pz_fvi hS.1 hk ⟨_, _, rfl, rfl⟩ (by omega) (by omega))) (pz_ac f1 (pz_ac f2 pz_a0)) (pz_ac l0 pz_a0) (pz_ac ?_ (pz_ac ?_ pz_a0)) (pz_ac ?_ pz_a0)
  · intro ρ' lc' w1 V hl
    have e0 : ρ' 0 = .ref (mi + 3) := V.1 0 (by decide)
    have l0' := hl (0, 0) (by decide +kernel)
    simp only [e0] at l0'
    exact pz_bgo hU hk hP hT hO (pz_b0c V (by decide) hk hS hf hI (by decide +kernel) (by decide +kernel) (by decide +kernel)) hN l0' (hl (1, 18) (by decide +kernel)) (Or.inl (V.2.1 18 _ rfl))
  · intro ρ' lc' w1 V hl
    have e0 : ρ' 0 = .ref (mi + 3) := V.1 0 (by decide)
    have l0' := hl (0, 0) (by decide +kernel)
    simp only [e0] at l0'
    have hLI := pz_b0c V (by decide) hk hS hf hI (by decide +kernel) (by decide +kernel) (by decide +kernel)
    have hb := pz_byB_ok (e := 1) (lo := Zb) (hi := Zb + 96) V.2.1 V.2.2.1 e0 (by decide +kernel)
    have e1 : ρ' 1 = pz_fv w mi 6 := V.1 1 (by decide)
    rw [e1, hLI.2.2.1.2.2.2.2.2] at hb
    simp only [Zb] at hb
    have e6 : iv (pz_fv w mi 6) = pz_fi w mi 6 := rfl
    rw [e6] at hb
    exact pz_bgo hU hk hP hT hO hLI hN l0' (hl (1, 18) (by decide +kernel)) (Or.inr ⟨hn, Or.inr (Or.inr ⟨V.2.1 18 _ rfl, by omega, by omega⟩)⟩)
  · intro ρ' w' V
    have e18 := pzv_i V (s := 18) (a := 2147483649) (b := 2147483649) rfl
    refine ⟨R, intV (ρ' 18), ?_, Or.inl (pz_fl (s := 19) V (by decide) hS hk hI.1 (by decide +kernel))⟩
    show some (ρ' 18) = _
    rw [← e18.1]
/-- a call of a method of the model, no arguments -/
theorem pz_call {M M' : pM} {i j pc d : Nat} {lc : pL} {r : List Value} {P1 Q : Option Value → pW → Prop} (hi : instrAt M pc = some (.invokevirtual i)) (hpp : PP.2.2.2 M.1 i = some (0, j)) (hG : GM[j]? = some (M', 0)) (hM : M'.1 = 11) (hT : Typed KTab ks P w) (hk : ks[mi]? = some 11) (hr : cats r ≤ 8) (hl : 1 ≤ M'.2.2.2.1) (hc : Rs PP FF GM TX xs L d M' 0 (lArgs 0 [.ref (mi + 3)]) [] w P1) (k : ∀ v w1, P1 v w1 → Rs PP FF GM TX xs L (d + 1) M (pc + 3) lc (v.toList ++ r) w1 Q) : Rs PP FF GM TX xs L (d + 1) M pc lc (.ref (mi + 3) :: r) w Q := by
  refine Rs.call hi ?_ hc k
  show acallV PP GM TX M (d + 1) i pc lc (.ref (mi + 3) :: r) w = _
  obtain ⟨-, fs, a1, -⟩ := pz_fd (f := 3) hT hk rfl rfl
  unfold acallV
  rw [hpp]
  simp only
  rw [hG]
  simp only [List.drop, List.take, List.reverse_nil]
  rw [wAt3, a1]
  simp only [hM]
  rw [if_pos]
  simp only [Bool.and_eq_true, decide_eq_true_eq, beq_self_eq_true]
  exact ⟨trivial, hr, Nat.zero_le _, decide_eq_true hl⟩
end PZJ

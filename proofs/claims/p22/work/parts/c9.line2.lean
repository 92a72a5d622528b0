/-! readLine as a whole -/
def pz_sk (w : pW) (mi : Nat) : Nat → Int32 := pz_rw w (pz_fv w mi 16)
section PZO
variable {ks : List Nat} {P : Nat} {w w0 w1 w2 w' : pW} {mi : Nat} {R R1 R2 R' R0 : pR} {xs : Nat → Int32} {L : Nat} {eff : List (Nat × Nat)} {b fr N : Nat} {F : Int} {ρ : Nat → Value} {ds : List Ds} {me : List Fa}
theorem pz_efk (hT : Typed KTab ks P w) (hk : ks[mi]? = some 11) (hE : Ef ks eff w w') (h1 : (11, 16) ∉ eff) (h2 : (57, 999) ∉ eff) : pz_sk w' mi = pz_sk w mi := by
  unfold pz_sk
  rw [pz_ef hT hk hE h1]
  obtain ⟨⟨j, e1, e2⟩, -⟩ := pz_fd (f := 16) hT hk rfl rfl
  rw [e1]
  unfold pz_rw
  simp only
  rw [wAt3, wAt3]
  obtain ⟨kd, e, a1, a2, a3⟩ := hT.2 j 57 e2
  cases a1
  rcases e with a | c
  · have := (hE j 57 e2).1 h2 a a2
    rw [this, a2]
  · exact a3.elim
theorem pz_skr (hT : Typed KTab ks P w) (hk : ks[mi]? = some 11) : ∃ j, pz_fv w mi 16 = .ref (j + 3) ∧ w[j]? = some (.inl (0, 2, .inl (pz_sk w mi))) ∧ ∀ i, i < 2 → 0 ≤ (pz_sk w mi i).toInt ∧ (pz_sk w mi i).toInt ≤ 6 := by
  obtain ⟨⟨j, e1, e2⟩, -⟩ := pz_fd (f := 16) hT hk rfl rfl
  obtain ⟨kd, e, a1, a2, a3⟩ := hT.2 j 57 e2
  cases a1
  rcases e with ⟨t, n, c⟩ | c
  · obtain ⟨h1, h2, h3⟩ := a3
    simp only at h1 h2
    subst h1 h2
    rcases c with g | c
    · have e3 : pz_sk w mi = g := by
        unfold pz_sk
        rw [e1]
        unfold pz_rw
        simp only
        rw [wAt3, a2]
      rw [e3]
      refine ⟨j, e1, a2, ?_⟩
      intro i hi
      have h4 : okD ks P (0, 2147483648, 2147483654) (.int (g i)) := h3.2 i hi
      have h5 := pz_bd h4
      rw [iv_int] at h5
      exact ⟨by omega, by omega⟩
    · rcases c with c | c
      · exact absurd (show (0 : Nat) = 3 from h3) (by decide)
      · rcases c with c | c
        · exact h3.elim
        · rcases c with c | c
          · exact h3.elim
          · exact absurd (show (0 : Nat) = 4 from h3.1) (by decide)
  · exact a3.elim
/-- skaters, as facts -/
theorem pz_skf {ρ : Nat → Value} {s z : Nat} (hS : pz_St ks P mi R w) (hk : ks[mi]? = some 11) (h0 : ρ 0 = .ref (mi + 3)) (h7 : ρ 7 = .int (R.2 39)) (hs : ρ s = pz_fv w mi 16) (hz : ρ z = .int (pz_sk w mi (R.2 39).toNatClampNeg)) : okF P ρ w (1016, 0, 0, s) ∧ okF P ρ w (2, s, 7, z) := by
  obtain ⟨-, d2, -⟩ := pz_df hS hk
  obtain ⟨hT, hF, hO⟩ := hS
  obtain ⟨j1, u1, u3, -⟩ := pz_skr hT hk
  obtain ⟨-, fs, a1, a2⟩ := pz_fd (f := 16) hT hk rfl rfl
  exact ⟨fk (k := 16) ⟨mi + 3, 11, fs, h0, by rw [wAt3]; exact a1, by rw [hs]; exact a2⟩, f2 ⟨j1 + 3, R.2 39, 0, 2, pz_sk w mi, hs.trans u1, h7, by rw [wAt3]; exact u3, hz, d2.1⟩⟩
theorem pz_ol {x : Int64} : okD ks P (4, 0, 0) (.long x) := ⟨x, rfl, fun h => absurd h (by decide)⟩
/-- behind a block that writes nothing frozen -/
theorem pz_blk {n : Nat} {ex : List Value} (V : pz_V ks P R eff w1 n (pz_rho (pz_vals w1 mi R ex)) ds me ρ w2) (hn : 15 ≤ n) (hE : Ef ks pz_EP w w1) (hF : pz_PF R0 R b) (hat : pz_fi w mi 6 + 1 ≤ pz_fi w1 mi 6) (hL : pz_PL R b (pz_fi w1 mi 6)) (h : pz_mvB ds me = true) (hl : lgF me = []) (hs : pz_sub eff pz_EP = true) : pz_LB ks P mi R0 b w w2 := by
  obtain ⟨hO, hm⟩ := pz_mv V hn h
  have h1 := pzv_S V hO
  rw [hl] at h1
  exact ⟨R, h1, pz_et hE (pz_em V.2.2.2.2.2 hs), hF, fun _ => ⟨by omega, Or.inl (pz_PLm hL hm)⟩⟩
theorem pz_hn1 : ∀ R, ∀ c ∈ [c_Model_numeral, c_Model_after], CK KTab (FZ KTab ks R) ks PP FF GM xs L c := fun _ => pz_ac (ck_c_Model_numeral FZ_xs) (pz_ac (ck_c_Model_after FZ_xs) pz_a0)
theorem pz_hn2 : ∀ R, ∀ c ∈ [c_Model_numeral_2], CK KTab (FZ KTab ks R) ks PP FF GM xs L c := fun _ => pz_ac (ck_c_Model_numeral_2 FZ_xs) pz_a0
theorem pz_hn3 : ∀ R, ∀ c ∈ [c_Model_readCell], CK KTab (FZ KTab ks R) ks PP FF GM xs L c := fun _ => pz_ac (ck_c_Model_readCell FZ_xs) pz_a0
theorem pz_hn4 : ∀ R, ∀ c ∈ [c_Model_readPlank], CK KTab (FZ KTab ks R) ks PP FF GM xs L c := fun _ => pz_ac (ck_c_Model_readPlank FZ_xs) pz_a0
theorem pz_hn5 : ∀ R, ∀ c ∈ [c_Model_readSkater], CK KTab (FZ KTab ks R) ks PP FF GM xs L c := fun _ => pz_ac (ck_c_Model_readSkater FZ_xs) pz_a0
theorem pz_hn6 : ∀ R, ∀ c ∈ [c_Model_goOn], CK KTab (FZ KTab ks R) ks PP FF GM xs L c := fun _ => pz_ac (ck_c_Model_goOn FZ_xs) pz_a0
theorem pz_l36 {lc : pL} {x : Int64} (hU : Uq KTab ks) (hk : ks[mi]? = some 11) (hP : P + CrMax + 12 * 16777216 ≤ PMax) (hS : pz_St ks P mi R w1) (hf : pz_fi w1 mi 4 = 0) (hE : Ef ks pz_EP w w1) (hF : pz_PF R0 R b) (hat : pz_fi w mi 6 + 1 ≤ pz_fi w1 mi 6) (hL : pz_PL R b (pz_fi w1 mi 6)) (ht : x = 1953853029 → (R.1 56 b).toInt ≤ 5) (hsk : x = 126905033713010 → (pz_sk w1 mi b).toInt ≤ 5) (l0 : lGet lc 0 = some (.ref (mi + 3))) (l1 : lGet lc 1 = some (.long x)) : Rs PP FF GM TX xs L 10 mX11_readLine 36 lc [] w1 (fun v w' => v = none ∧ pz_QN ks P mi R0 b w w') := by
  have hb := pz_bn39 hF
  have o4 : okD ks P (0, 2147483648, 2147483648) (pz_fv w1 mi 4) := pz_fvi hS.1 hk ⟨_, _, rfl, rfl⟩ (by omega) (by omega)
  have sd : pz_SdL ks P (pz_vals w1 mi R [.long x]) (pz_D (0, 0, 4294967295) (0, 2147483648, 2147483648) (4, 0, 0) (0, 2147483648, 2147484808) (0, 2147483648, 2147483655) (0, 2147483648, 2147483738) (0, 2147483648, 2147483678) (0, 2147483648, 2147483738) [(4, 0, 0)]) := pz_sa hS hk o4 (pz_o42 hS hk) ⟨pz_ol, trivial⟩
  refine pz_t36 l1 (fun hx => ?_) (fun _ => pz_t87 l1 (fun hx => ?_) (fun _ => pz_t121 l1 (fun hx => ?_) (fun _ => pz_t133 l1 (fun hx => ?_) (fun _ => pz_t145 l1 (fun hx => ?_) (fun _ => pz_t157 l1 (fun hx => ?_) (fun _ => pz_t181 l1 (fun hx => ?_) (fun _ => ?_)))))))
  · refine pz_run (ex := [.long x]) (mex := []) hU hk (by omega) hS pz_hn1 rlp_k (by decide +kernel) (by decide +kernel) (by decide +kernel) (by decide +kernel) (by decide +kernel) (by decide +kernel) sd pz_a0 (pz_ac l0 (pz_ac l1 pz_a0)) (pz_ac ?_ pz_a0) pz_a0
    intro ρ' lc' w2 V hl
    have e0 : ρ' 0 = .ref (mi + 3) := V.1 0 (by decide)
    have e15 : ρ' 15 = .long x := V.1 15 (by decide)
    have l0' := hl (0, 0) (by decide +kernel)
    have l1' := hl (1, 15) (by decide +kernel)
    simp only [e0] at l0'
    simp only [e15] at l1'
    exact pz_k87 hx l1' (pz_193 hU hk hP (pz_blk V (by decide) hE hF hat hL (by decide +kernel) (by decide +kernel) (by decide +kernel)) l0')
  · refine pz_run (ex := [.long x]) (mex := []) hU hk (by omega) hS pz_hn2 rli_k (by decide +kernel) (by decide +kernel) (by decide +kernel) (by decide +kernel) (by decide +kernel) (by decide +kernel) sd pz_a0 (pz_ac l0 (pz_ac l1 pz_a0)) (pz_ac ?_ pz_a0) pz_a0
    intro ρ' lc' w2 V hl
    have e0 : ρ' 0 = .ref (mi + 3) := V.1 0 (by decide)
    have e15 : ρ' 15 = .long x := V.1 15 (by decide)
    have l0' := hl (0, 0) (by decide +kernel)
    have l1' := hl (1, 15) (by decide +kernel)
    simp only [e0] at l0'
    simp only [e15] at l1'
    exact pz_k121 hx l1' (pz_193 hU hk hP (pz_blk V (by decide) hE hF hat hL (by decide +kernel) (by decide +kernel) (by decide +kernel)) l0')
  · refine pz_run (ex := [.long x]) (mex := []) hU hk (by omega) hS pz_hn3 rlc_k (by decide +kernel) (by decide +kernel) (by decide +kernel) (by decide +kernel) (by decide +kernel) (by decide +kernel) sd pz_a0 (pz_ac l0 (pz_ac l1 pz_a0)) (pz_ac ?_ pz_a0) pz_a0
    intro ρ' lc' w2 V hl
    have e0 : ρ' 0 = .ref (mi + 3) := V.1 0 (by decide)
    have e15 : ρ' 15 = .long x := V.1 15 (by decide)
    have l0' := hl (0, 0) (by decide +kernel)
    have l1' := hl (1, 15) (by decide +kernel)
    simp only [e0] at l0'
    simp only [e15] at l1'
    exact pz_k133 hx l1' (pz_193 hU hk hP (pz_blk V (by decide) hE hF hat hL (by decide +kernel) (by decide +kernel) (by decide +kernel)) l0')
  · refine pz_run (ex := [.long x]) (mex := []) hU hk (by omega) hS pz_hn4 rlk_k (by decide +kernel) (by decide +kernel) (by decide +kernel) (by decide +kernel) (by decide +kernel) (by decide +kernel) sd pz_a0 (pz_ac l0 (pz_ac l1 pz_a0)) (pz_ac ?_ pz_a0) pz_a0
    intro ρ' lc' w2 V hl
    have e0 : ρ' 0 = .ref (mi + 3) := V.1 0 (by decide)
    have e15 : ρ' 15 = .long x := V.1 15 (by decide)
    have l0' := hl (0, 0) (by decide +kernel)
    have l1' := hl (1, 15) (by decide +kernel)
    simp only [e0] at l0'
    simp only [e15] at l1'
    exact pz_k145 hx l1' (pz_193 hU hk hP (pz_blk V (by decide) hE hF hat hL (by decide +kernel) (by decide +kernel) (by decide +kernel)) l0')
  · refine pz_run (ex := [.long x]) (mex := []) hU hk (by omega) hS (fun _ => pz_a0) rly_k (by decide +kernel) (by decide +kernel) (by decide +kernel) (by decide +kernel) (by decide +kernel) (by decide +kernel) sd pz_a0 (pz_ac l0 (pz_ac l1 pz_a0)) (pz_ac ?_ pz_a0) pz_a0
    intro ρ' lc' w2 V hl
    have e0 : ρ' 0 = .ref (mi + 3) := V.1 0 (by decide)
    have e15 : ρ' 15 = .long x := V.1 15 (by decide)
    have l0' := hl (0, 0) (by decide +kernel)
    have l1' := hl (1, 15) (by decide +kernel)
    simp only [e0] at l0'
    simp only [e15] at l1'
    obtain ⟨v1, v2, v3, v4⟩ := pz_v0 V hk hS (by decide +kernel)
    have v6 := (pz_eqi v3).2.1
    show Rs PP FF GM TX xs L (9 + 1) mX11_readLine 154 lc' [ρ' 0] w2 _
    rw [e0]
    refine pz_call (i := 313) (j := 148) (M' := mX11_readTune) (by decide +kernel) (by decide +kernel) rfl rfl v1.1 hk (by decide) (by decide) (pz_tune (R0 := R0) (b := b) hU hk hP v1 (by rw [v4]; exact hf) hF (by rw [v6]; exact hL) (ht hx) pz_la) ?_
    intro v w3 hq
    obtain ⟨rfl, R3, s1, s2, s3, s4⟩ := hq
    refine pz_k157 hx l1' (pz_193 hU hk hP ⟨R3, s1, pz_et hE (pz_et (pz_em v2 (by decide +kernel)) s2), s3, fun h0 => ?_⟩ l0')
    obtain ⟨t1, t2⟩ := s4 h0
    exact ⟨by omega, t2⟩
  · refine pz_run (ex := [.long x]) (mex := []) hU hk (by omega) hS (fun _ => pz_a0) rls_k (by decide +kernel) (by decide +kernel) (by decide +kernel) (by decide +kernel) (by decide +kernel) (by decide +kernel) sd pz_a0 (pz_ac l0 (pz_ac l1 pz_a0)) (pz_ac ?_ pz_a0) pz_a0
    intro ρ' lc' w2 V hl
    have e0 : ρ' 0 = .ref (mi + 3) := V.1 0 (by decide)
    have e15 : ρ' 15 = .long x := V.1 15 (by decide)
    have e16 := pzv_i V (s := 16) (a := 2147483654) (b := 2147483654) rfl
    have l0' := hl (0, 0) (by decide +kernel)
    have l1' := hl (1, 15) (by decide +kernel)
    simp only [e0] at l0'
    simp only [e15] at l1'
    obtain ⟨hO, hm⟩ := pz_mv V (by decide) (by decide +kernel)
    have hs := pzv_S V hO
    rw [show lgF rls_p0.2.1.2.2.2 = [] by decide +kernel] at hs
    have hs : pz_St ks P mi R w2 := hs
    have hu := hL.2.1
    show Rs PP FF GM TX xs L (9 + 1) mX11_readLine 178 lc' [ρ' 16, ρ' 0] w2 _
    rw [e0, e16.1]
    refine pz_call1 (i := 316) (j := 151) (M' := mX11_readRule) (by decide +kernel) (by decide +kernel) rfl rfl hs.1 hk (by decide) (by decide) (Rs.deep (d := 8) (by decide) (pz_rule (R0 := R0) (b := b) (r := 6) hU hk hP hs hF (by omega) (by omega) hL.1 (by omega) pz_la1.1 pz_la1.2)) ?_
    intro v w3 hq
    obtain ⟨rfl, R3, s1, s2, s3, s4, s5⟩ := hq
    refine pz_k181 hx l1' (pz_193 hU hk hP ⟨R3, s1, pz_et hE (pz_et (pz_em V.2.2.2.2.2 (by decide +kernel)) s2), s3, fun h0 => ?_⟩ l0')
    obtain ⟨t1, t2, t3, t4, t5, t6⟩ := s5 h0
    refine ⟨by omega, Or.inr ⟨t1, t3, t4, t5, ?_⟩⟩
    intro r' hr'
    rw [s4] at hr'
    have h56 := (pz_tn0 hS hk).2
    rw [hb] at h56
    exact t6 r' (by omega) (by omega) (hL.2.2.2 r' hr')
  · have k5 := hsk hx
    obtain ⟨-, -, -, k6⟩ := pz_skr hS.1 hk
    have d2 := hF.2.1
    have d3 := (pz_df hS hk).2.1
    have k7 := k6 b (by omega)
    obtain ⟨f1, f2⟩ := pz_skf (ρ := pz_rho (pz_vals w1 mi R [.long x, pz_fv w1 mi 16, .int (pz_sk w1 mi (R.2 39).toNatClampNeg)])) (s := 16) (z := 17) hS hk rfl rfl rfl rfl
    refine pz_run (ex := [.long x, pz_fv w1 mi 16, .int (pz_sk w1 mi (R.2 39).toNatClampNeg)]) (mex := [(1016, 0, 0, 16), (2, 16, 7, 17)]) hU hk (by omega) hS pz_hn5 rlz_k (by decide +kernel) (by decide +kernel) (by decide +kernel) (by decide +kernel) (by decide +kernel) (by decide +kernel) (pz_sa hS hk o4 (pz_o42 hS hk) ⟨pz_ol, (pz_fd (f := 16) hS.1 hk rfl rfl).1, by rw [hb]; exact pz_oi (by omega) (by omega), trivial⟩) (pz_ac f1 (pz_ac f2 pz_a0)) (pz_ac l0 (pz_ac l1 pz_a0)) (pz_ac ?_ pz_a0) pz_a0
    intro ρ' lc' w2 V hl
    have e0 : ρ' 0 = .ref (mi + 3) := V.1 0 (by decide)
    have l0' := hl (0, 0) (by decide +kernel)
    simp only [e0] at l0'
    exact pz_193 hU hk hP (pz_blk V (by decide) hE hF hat hL (by decide +kernel) (by decide +kernel) (by decide +kernel)) l0'
  · exact pz_193 hU hk hP ⟨R, hS, hE, hF, fun _ => ⟨hat, Or.inl hL⟩⟩ l0
theorem pz_l32 {lc : pL} {x : Int64} (hU : Uq KTab ks) (hk : ks[mi]? = some 11) (hP : P + CrMax + 12 * 16777216 ≤ PMax) (hS : pz_St ks P mi R w1) (hf : pz_fi w1 mi 4 = 0) (h8 : pz_fi w1 mi 8 = 3) (hE : Ef ks pz_EP w w1) (hF : pz_PF R0 R b) (hat : pz_fi w mi 6 + 1 ≤ pz_fi w1 mi 7) (hL : pz_PL R b (pz_fi w1 mi 6)) (ht : x = 1953853029 → (R.1 56 b).toInt ≤ 5) (hsk : x = 126905033713010 → (pz_sk w1 mi b).toInt ≤ 5) (l0 : lGet lc 0 = some (.ref (mi + 3))) (l1 : lGet lc 1 = some (.long x)) : Rs PP FF GM TX xs L 10 mX11_readLine 32 lc [] w1 (fun v w' => v = none ∧ pz_QN ks P mi R0 b w w') := by
  obtain ⟨d1, d2, d3, d4, d5, d6, d7⟩ := pz_df hS hk
  refine pz_run (ex := [.long x]) (mex := []) hU hk (by omega) hS pz_hn6 rg_k (by decide +kernel) (by decide +kernel) (by decide +kernel) (by decide +kernel) (by decide +kernel) (by decide +kernel) (pz_sd hS hk (pz_fvi hS.1 hk ⟨_, _, rfl, rfl⟩ (by omega) (by omega)) (pz_fvi hS.1 hk ⟨_, _, rfl, rfl⟩ (by omega) (by omega)) (pz_fd (f := 10) hS.1 hk rfl rfl).1 (pz_oi (by omega) (by omega)) (pz_oi (by omega) (by omega)) (pz_o42 hS hk) (pz_oi (by omega) (by omega)) (pz_oi (by omega) (by omega)) ⟨pz_ol, trivial⟩) pz_a0 (pz_ac l0 (pz_ac l1 pz_a0)) (pz_ac ?_ pz_a0) pz_a0
  intro ρ' lc' w2 V hl
  have e0 : ρ' 0 = .ref (mi + 3) := V.1 0 (by decide)
  have e2 : ρ' 2 = pz_fv w1 mi 7 := V.1 2 (by decide)
  have e5 : ρ' 5 = pz_fv w1 mi 4 := V.1 5 (by decide)
  have e15 : ρ' 15 = .long x := V.1 15 (by decide)
  have l0' := hl (0, 0) (by decide +kernel)
  have l1' := hl (1, 15) (by decide +kernel)
  simp only [e0] at l0'
  simp only [e15] at l1'
  obtain ⟨hO, hm⟩ := pz_mv V (by decide) (by decide +kernel)
  have hs := pzv_S V hO
  rw [show lgF rg_p0.2.1.2.2.2 = [] by decide +kernel] at hs
  have hs : pz_St ks P mi R w2 := hs
  have k6 := pzv_l V (x := 2) (y := 17) (p := 0) (m := 0) (by decide +kernel)
  have f6 := pzv_f (f := 6) (mi := mi) (s := 17) V (by decide) rfl (by decide +kernel)
  have f4 := pzv_f (f := 4) (mi := mi) (s := 5) V (by decide) rfl (by decide +kernel)
  rw [e2, ← f6] at k6
  have k6 : pz_fi w1 mi 7 ≤ pz_fi w2 mi 6 + ((0 : Nat) : Int) - ((0 : Nat) : Int) := k6
  have hf2 : pz_fi w2 mi 4 = 0 := by
    unfold pz_fi
    rw [f4, e5]
    exact hf
  have hE2 : Ef ks pz_EP w1 w2 := pz_em V.2.2.2.2.2 (by decide +kernel)
  refine pz_l36 hU hk hP hs hf2 (pz_et hE hE2) hF (by omega) (pz_PLm hL hm) ht ?_ l0' l1'
  intro hx
  rw [pz_efk hS.1 hk V.2.2.2.2.2 (pz_no_ok (by decide +kernel)) (pz_no_ok (by decide +kernel))]
  exact hsk hx
/-- readLine, behind its first part -/
theorem pz_l0 {n : Nat} {ex : List Value} {x : Int64} {lc : pL} (V : pz_V ks P R [(11, 4), (11, 5)] w n (pz_rho (pz_vals w mi R ex)) ds me ρ w1) (hn : 15 ≤ n) (hU : Uq KTab ks) (hk : ks[mi]? = some 11) (hP : P + CrMax + 12 * 16777216 ≤ PMax) (hS : pz_St ks P mi R w) (hf : pz_fi w mi 4 = 0) (hF : pz_PF R0 R b) (hT : pz_TK w mi) (hL : pz_PL R b (pz_fi w mi 6)) (hx : pz_fv w mi 10 = .long x) (hl : lgF me = []) (h4 : fnd me (1000 + 4) 0 0 = some 5) (h8 : ds[4]? = some (0, 2147483651, 2147483651)) (ht : x = 1953853029 → (R.1 56 b).toInt ≤ 5) (hsk : x = 126905033713010 → (pz_sk w mi b).toInt ≤ 5) (l0 : lGet lc 0 = some (ρ 0)) (l1 : lGet lc 1 = some (ρ 6)) : Rs PP FF GM TX xs L 10 mX11_readLine 32 lc [] w1 (fun v w' => v = none ∧ pz_QN ks P mi R0 b w w') := by
  have e0 : ρ 0 = .ref (mi + 3) := V.1 0 (by omega)
  have e4 : ρ 4 = pz_fv w mi 8 := V.1 4 (by omega)
  have e5 : ρ 5 = pz_fv w mi 4 := V.1 5 (by omega)
  have e6 : ρ 6 = pz_fv w mi 10 := V.1 6 (by omega)
  rw [e0] at l0
  rw [e6, hx] at l1
  have hq := pz_eqo hS.1 hk V.2.2.2.2.2 (by decide +kernel)
  have hs := pzv_S V (pz_eqO hq hS.2.2)
  rw [hl] at hs
  have hs : pz_St ks P mi R w1 := hs
  have b8 := pzv_b V h8
  have g8 : pz_fi w mi 8 = 3 := by
    unfold pz_fi
    rw [← e4]
    omega
  have t1 : pz_fi w mi 6 + 1 ≤ pz_fi w mi 7 := hT.1.elim (fun q => by omega) id
  obtain ⟨q3, q6, q7, q8⟩ := pz_eqi hq
  refine pz_l32 hU hk hP hs ?_ (by omega) (pz_em V.2.2.2.2.2 (by decide +kernel)) hF (by omega) (by rw [q6]; exact hL) ht ?_ l0 l1
  · unfold pz_fi
    rw [pzv_f (f := 4) V (by omega) rfl h4, e5]
    exact hf
  · intro h
    rw [pz_efk hS.1 hk V.2.2.2.2.2 (pz_no_ok (by decide +kernel)) (pz_no_ok (by decide +kernel))]
    exact hsk h
theorem pz_lq {n : Nat} {ex : List Value} (V : pz_V ks P R [(11, 4), (11, 5)] w n (pz_rho (pz_vals w mi R ex)) ds me ρ w1) (hn : 15 ≤ n) (hk : ks[mi]? = some 11) (hS : pz_St ks P mi R w) (hF : pz_PF R0 R b) (hl : lgF me = []) (h4 : fnd me (1000 + 4) 0 0 = some 19) (h19 : ds[19]? = some (0, 2147483649, 2147483650)) : pz_QN ks P mi R0 b w w1 := by
  have hq := pz_eqo hS.1 hk V.2.2.2.2.2 (by decide +kernel)
  have hs := pzv_S V (pz_eqO hq hS.2.2)
  rw [hl] at hs
  have b19 := pzv_b V h19
  refine ⟨R, hs, pz_em V.2.2.2.2.2 (by decide +kernel), hF, fun h => ?_⟩
  unfold pz_fi at h
  rw [pzv_f (f := 4) V (by omega) rfl h4] at h
  omega
theorem pz_line {lc : pL} (hU : Uq KTab ks) (hk : ks[mi]? = some 11) (hP : P + CrMax + 12 * 16777216 ≤ PMax) (hS : pz_St ks P mi R w) (hf : pz_fi w mi 4 = 0) (hF : pz_PF R0 R b) (hT : pz_TK w mi) (hL : pz_PL R b (pz_fi w mi 6)) (l0 : lGet lc 0 = some (.ref (mi + 3))) : Rs PP FF GM TX xs L 10 mX11_readLine 0 lc [] w (fun v w' => v = none ∧ pz_QN ks P mi R0 b w w') := by
  have hb := pz_bn39 hF
  obtain ⟨d1, d2, d3, d4, d5, d6, d7⟩ := pz_df hS hk
  have i2 := hF.2.1
  obtain ⟨x, hx, -⟩ := (pz_fd (f := 10) hS.1 hk rfl rfl).1
  have t0 := pz_tn0 hS hk
  obtain ⟨-, -, -, k6⟩ := pz_skr hS.1 hk
  have k7 := k6 (R.2 39).toNatClampNeg (by omega)
  have o4 : okD ks P (0, 2147483648, 2147483648) (pz_fv w mi 4) := pz_fvi hS.1 hk ⟨_, _, rfl, rfl⟩ (by omega) (by omega)
  obtain ⟨f1, f2⟩ := pz_tnf (ρ := pz_rho (pz_vals w mi R [pz_fv w mi 15, .int (R.1 56 (R.2 39).toNatClampNeg), pz_fv w mi 16, .int (pz_sk w mi (R.2 39).toNatClampNeg)])) hS hk rfl rfl rfl rfl
  obtain ⟨f3, f4⟩ := pz_skf (ρ := pz_rho (pz_vals w mi R [pz_fv w mi 15, .int (R.1 56 (R.2 39).toNatClampNeg), pz_fv w mi 16, .int (pz_sk w mi (R.2 39).toNatClampNeg)])) (s := 17) (z := 18) hS hk rfl rfl rfl rfl
  have sd : ∀ {nm : Ds}, okD ks P nm (pz_fv w mi 10) → pz_SdL ks P (pz_vals w mi R [pz_fv w mi 15, .int (R.1 56 (R.2 39).toNatClampNeg), pz_fv w mi 16, .int (pz_sk w mi (R.2 39).toNatClampNeg)]) (pz_D (0, 0, 4294967295) (0, 2147483648, 2147483648) nm (0, 2147483648, 2147484808) (0, 2147483648, 2147483655) (0, 2147483648, 2147483738) (0, 2147483648, 2147483678) (0, 2147483648, 2147483738) [(1, 56, 0), (0, 2147483648, 2147483654), (1, 57, 0), (0, 2147483648, 2147483654)]) := fun h10 => pz_sd hS hk (pz_fd (f := 8) hS.1 hk rfl rfl).1 o4 h10 (pz_oi (by omega) (by omega)) (pz_oi (by omega) (by omega)) (pz_o42 hS hk) (pz_oi (by omega) (by omega)) (pz_oi (by omega) (by omega)) ⟨(pz_fd (f := 15) hS.1 hk rfl rfl).1, pz_oi (by omega) (by omega), (pz_fd (f := 16) hS.1 hk rfl rfl).1, pz_oi (by omega) (by omega), trivial⟩
  by_cases c1 : x = 1953853029
  · refine pz_run (ex := [pz_fv w mi 15, .int (R.1 56 (R.2 39).toNatClampNeg), pz_fv w mi 16, .int (pz_sk w mi (R.2 39).toNatClampNeg)]) (mex := [(1015, 0, 0, 15), (2, 15, 7, 16), (1016, 0, 0, 17), (2, 17, 7, 18)]) hU hk (by omega) hS (fun _ => pz_a0) rlt_k (by decide +kernel) (by decide +kernel) (by decide +kernel) (by decide +kernel) (by decide +kernel) (by decide +kernel) (sd ⟨x, hx, fun _ => by rw [c1]; decide⟩) (pz_ac f1 (pz_ac f2 (pz_ac f3 (pz_ac f4 pz_a0)))) (pz_ac l0 pz_a0) (pz_ac ?_ pz_a0) (pz_ac ?_ pz_a0)
    · intro ρ' lc' w1 V hl
      have e16 : ρ' 16 = .int (R.1 56 (R.2 39).toNatClampNeg) := V.1 16 (by decide)
      have b16 := pzv_b V (s := 16) (a := 2147483648) (b := 2147483653) rfl
      rw [e16, iv_int, hb] at b16
      exact pz_l0 V (by decide) hU hk hP hS hf hF hT hL hx (by decide +kernel) (by decide +kernel) rfl (fun _ => by omega) (fun h => absurd (c1.symm.trans h) (by decide)) (hl (0, 0) (by decide +kernel)) (hl (1, 6) (by decide +kernel))
    · intro ρ' w' V
      exact ⟨rfl, pz_lq V (by decide) hk hS hF (by decide +kernel) (by decide +kernel) rfl⟩
  by_cases c2 : x = 126905033713010
  · refine pz_run (ex := [pz_fv w mi 15, .int (R.1 56 (R.2 39).toNatClampNeg), pz_fv w mi 16, .int (pz_sk w mi (R.2 39).toNatClampNeg)]) (mex := [(1015, 0, 0, 15), (2, 15, 7, 16), (1016, 0, 0, 17), (2, 17, 7, 18)]) hU hk (by omega) hS (fun _ => pz_a0) rlu_k (by decide +kernel) (by decide +kernel) (by decide +kernel) (by decide +kernel) (by decide +kernel) (by decide +kernel) (sd ⟨x, hx, fun _ => by rw [c2]; decide⟩) (pz_ac f1 (pz_ac f2 (pz_ac f3 (pz_ac f4 pz_a0)))) (pz_ac l0 pz_a0) (pz_ac ?_ pz_a0) (pz_ac ?_ pz_a0)
    · intro ρ' lc' w1 V hl
      have e18 : ρ' 18 = .int (pz_sk w mi (R.2 39).toNatClampNeg) := V.1 18 (by decide)
      have b18 := pzv_b V (s := 18) (a := 2147483648) (b := 2147483653) rfl
      rw [e18, iv_int, hb] at b18
      exact pz_l0 V (by decide) hU hk hP hS hf hF hT hL hx (by decide +kernel) (by decide +kernel) rfl (fun h => absurd h c1) (fun _ => by omega) (hl (0, 0) (by decide +kernel)) (hl (1, 6) (by decide +kernel))
    · intro ρ' w' V
      exact ⟨rfl, pz_lq V (by decide) hk hS hF (by decide +kernel) (by decide +kernel) rfl⟩
  refine pz_run (ex := [pz_fv w mi 15, .int (R.1 56 (R.2 39).toNatClampNeg), pz_fv w mi 16, .int (pz_sk w mi (R.2 39).toNatClampNeg)]) (mex := [(1015, 0, 0, 15), (2, 15, 7, 16), (1016, 0, 0, 17), (2, 17, 7, 18)]) hU hk (by omega) hS (fun _ => pz_a0) rlx_k (by decide +kernel) (by decide +kernel) (by decide +kernel) (by decide +kernel) (by decide +kernel) (by decide +kernel) (sd (pz_fd (f := 10) hS.1 hk rfl rfl).1) (pz_ac f1 (pz_ac f2 (pz_ac f3 (pz_ac f4 pz_a0)))) (pz_ac l0 pz_a0) (pz_ac ?_ pz_a0) (pz_ac ?_ pz_a0)
  · intro ρ' lc' w1 V hl
    exact pz_l0 V (by decide) hU hk hP hS hf hF hT hL hx (by decide +kernel) (by decide +kernel) rfl (fun h => absurd h c1) (fun h => absurd h c2) (hl (0, 0) (by decide +kernel)) (hl (1, 6) (by decide +kernel))
  · intro ρ' w' V
    exact ⟨rfl, pz_lq V (by decide) hk hS hF (by decide +kernel) (by decide +kernel) rfl⟩
end PZO

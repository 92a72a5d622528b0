/-! readTune, by hand -/
def pz_mvB (ds : List Ds) (me : List Fa) : Bool := match fnd me 1006 0 0, fnd me 1007 0 0, fnd me 1003 0 0 with
  | some a, some e, some n => leT ds me a e 0 0 && (leT ds me e n 0 0 && leT ds me 1 a 0 0)
  | _, _, _ => false
section PZM
variable {ks : List Nat} {P : Nat} {w w0 w1 w2 w' : pW} {mi : Nat} {R R1 R2 R' R0 : pR} {xs : Nat → Int32} {L : Nat} {eff : List (Nat × Nat)} {b fr N : Nat} {F : Int} {ρ : Nat → Value} {ds : List Ds} {me : List Fa}
theorem pz_mv {n : Nat} {ex : List Value} (V : pz_V ks P R eff w n (pz_rho (pz_vals w mi R ex)) ds me ρ w') (hn : 15 ≤ n) (h : pz_mvB ds me = true) : pz_O w' mi ∧ pz_fi w mi 6 ≤ pz_fi w' mi 6 := by
  have h0 : ρ 0 = .ref (mi + 3) := V.1 0 (by omega)
  have h1 : ρ 1 = pz_fv w mi 6 := V.1 1 (by omega)
  unfold pz_mvB at h
  split at h
  · next a e n ha he hn =>
    have ea : iv (ρ a) = pz_fi w' mi 6 := by rw [pz_ff2 (f := 6) V.2.2.1 h0 ha]; rfl
    have ee : iv (ρ e) = pz_fi w' mi 7 := by rw [pz_ff2 (f := 7) V.2.2.1 h0 he]; rfl
    have en : iv (ρ n) = pz_fi w' mi 3 := by rw [pz_ff2 (f := 3) V.2.2.1 h0 hn]; rfl
    have e1 : iv (ρ 1) = pz_fi w mi 6 := by rw [h1]; rfl
    simp only [Bool.and_eq_true] at h
    have k1 := pzv_l V h.1
    have k2 := pzv_l V h.2.1
    have k3 := pzv_l V h.2.2
    exact ⟨⟨by omega, by omega⟩, by omega⟩
  · cases h
/-- what a line's part leaves -/
def pz_QL (ks : List Nat) (P mi : Nat) (R0 : pR) (b : Nat) (w w' : pW) : Prop := ∃ R', pz_St ks P mi R' w' ∧ Ef ks pz_EP w w' ∧ pz_PF R0 R' b ∧ (pz_fi w' mi 4 = 0 → pz_fi w mi 6 ≤ pz_fi w' mi 6 ∧ (pz_PL R' b (pz_fi w' mi 6) ∨ (pz_TK w' mi ∧ pz_PL R' b (pz_Ph w' mi))))
theorem pz_PLm {G G' : Int} (h : pz_PL R b G) (hG : G ≤ G') : pz_PL R b G' := ⟨h.1, by have := h.2.1; omega, h.2.2⟩
theorem pz_bn39 (hF : pz_PF R0 R b) : (R.2 39).toNatClampNeg = b := by
  have h := hF.2.1
  have := clamp_toInt (x := R.2 39) (by omega)
  omega
/-- tunes, as facts -/
theorem pz_tnf {ρ : Nat → Value} (hS : pz_St ks P mi R w) (hk : ks[mi]? = some 11) (h0 : ρ 0 = .ref (mi + 3)) (h7 : ρ 7 = .int (R.2 39)) (h15 : ρ 15 = pz_fv w mi 15) (h16 : ρ 16 = .int (R.1 56 (R.2 39).toNatClampNeg)) : okF P ρ w (1015, 0, 0, 15) ∧ okF P ρ w (2, 15, 7, 16) := by
  obtain ⟨-, d2, -⟩ := pz_df hS hk
  obtain ⟨hT, hF, hO⟩ := hS
  obtain ⟨j1, u1, u2, u3⟩ := pz_row (f := 15) (k := 56) hT hF hk rfl rfl rfl
  obtain ⟨-, fs, a1, a2⟩ := pz_fd (f := 15) hT hk rfl rfl
  exact ⟨fk (k := 15) ⟨mi + 3, 11, fs, h0, by rw [wAt3]; exact a1, by rw [h15]; exact a2⟩, f2 ⟨j1 + 3, R.2 39, 0, 2, R.1 56, h15.trans u1, h7, by rw [wAt3]; exact u3, h16, d2.1⟩⟩
theorem pz_tn0 (hS : pz_St ks P mi R w) (hk : ks[mi]? = some 11) : 0 ≤ (R.1 56 (R.2 39).toNatClampNeg).toInt ∧ (R.1 56 (R.2 39).toNatClampNeg).toInt ≤ 6 := by
  obtain ⟨-, d2, -⟩ := pz_df hS hk
  obtain ⟨hT, hF, hO⟩ := hS
  obtain ⟨j1, u1, u2, u3⟩ := pz_row (f := 15) (k := 56) hT hF hk rfl rfl rfl
  have hc := clamp_toInt (x := R.2 39) (by omega)
  obtain ⟨x, ex, f1, f2⟩ := row (k := 56) (j := (R.2 39).toNatClampNeg) hT hF u2 rfl (by omega)
  cases ex
  exact ⟨by omega, by omega⟩
theorem pz_wt : evL ρ [(156, 7, 17, 0)] R = (fun k => if k = 56 then upd (R.1 k) (intV (ρ 7)).toNatClampNeg (intV (ρ 17)) else R.1 k, R.2) := by
  show wrR ρ (100 + 56, 7, 17, 0) R = _
  rw [pz_wr (by decide)]
theorem pz_hrt : ∀ R, ∀ c ∈ [c_Model_after_3, c_Model_here, c_Model_fresh], CK KTab (FZ KTab ks R) ks PP FF GM xs L c := fun _ => pz_ac (ck_c_Model_after_3 FZ_xs) (pz_ac (ck_c_Model_here FZ_xs) (pz_ac (ck_c_Model_fresh FZ_xs) pz_a0))
def pz_rtB (c : Cu) : Bool := decide (c.1 = 86) && (decide (c.2.1.2.1 = [(1, 17), (0, 0)]) && (decide (c.2.1.2.2.1 = [16, 0]) && (decide (lgF c.2.1.2.2.2 = []) && pz_mvB c.2.1.1 c.2.1.2.2.2)))
theorem pz_krt : [rt0_p0, rt0_p1].all pz_rtB = true := by decide +kernel
theorem pz_tune {lc : pL} (hU : Uq KTab ks) (hk : ks[mi]? = some 11) (hP : P + CrMax + 12 * 16777216 ≤ PMax) (hS : pz_St ks P mi R w) (hf : pz_fi w mi 4 = 0) (hF : pz_PF R0 R b) (hL : pz_PL R b (pz_fi w mi 6)) (ht : (R.1 56 b).toInt ≤ 5) (l0 : lGet lc 0 = some (.ref (mi + 3))) : Rs PP FF GM TX xs L 9 mX11_readTune 0 lc [] w (fun v w' => v = none ∧ pz_QL ks P mi R0 b w w') := by
  have hb := pz_bn39 hF
  have t0 := (pz_tn0 hS hk).1
  rw [hb] at t0
  obtain ⟨f1, f2⟩ := pz_tnf (ρ := pz_rho (pz_vals w mi R [pz_fv w mi 15, .int (R.1 56 (R.2 39).toNatClampNeg)])) hS hk rfl rfl rfl rfl
  refine pz_run (ex := [pz_fv w mi 15, .int (R.1 56 (R.2 39).toNatClampNeg)]) (mex := [(1015, 0, 0, 15), (2, 15, 7, 16)]) hU hk (by omega) hS pz_hrt rt0_k (by decide +kernel) (by decide +kernel) (by decide +kernel) (by decide +kernel) (by decide +kernel) (by decide +kernel) (pz_sa hS hk (pz_fvi hS.1 hk ⟨_, _, rfl, rfl⟩ (by omega) (by omega)) (pz_o42 hS hk) ⟨(pz_fd (f := 15) hS.1 hk rfl rfl).1, by rw [hb]; exact pz_oi (by omega) (by omega), trivial⟩) (pz_ac f1 (pz_ac f2 pz_a0)) (pz_ac l0 pz_a0) ?_ pz_a0
  intro c hc ρ' lc' w1 V hl
  have hB := List.all_eq_true.mp pz_krt c hc
  simp only [pz_rtB, Bool.and_eq_true, decide_eq_true_eq] at hB
  obtain ⟨k1, k2, k3, k4, k5⟩ := hB
  rw [k2] at hl
  rw [k1, k3]
  have e0 : ρ' 0 = .ref (mi + 3) := V.1 0 (by decide)
  have e16 : ρ' 16 = .int (R.1 56 (R.2 39).toNatClampNeg) := V.1 16 (by decide)
  have l0' : lGet lc' 0 = some (ρ' 0) := hl (0, 0) (by decide)
  rw [e0] at l0'
  obtain ⟨hO, hat⟩ := pz_mv V (by decide) k5
  have hs := pzv_S V hO
  rw [k4] at hs
  have hs : pz_St ks P mi R w1 := hs
  obtain ⟨r, hr⟩ : ∃ r : Nat, (R.1 56 b).toInt = (r : Int) := ⟨(R.1 56 b).toInt.toNat, by omega⟩
  show Rs PP FF GM TX xs L (8 + 1) mX11_readTune 86 lc' [ρ' 16, ρ' 0] w1 _
  rw [e0, e16, hb]
  have hu := hL.2.1
  refine pz_call1 (i := 316) (j := 151) (M' := mX11_readRule) (by decide +kernel) (by decide +kernel) rfl rfl hs.1 hk (by decide) (by decide) (pz_rule (R0 := R0) (b := b) (r := r) hU hk hP hs hF hr (by omega) hL.1 (by omega) pz_la1.1 pz_la1.2) ?_
  intro v w2 hq
  obtain ⟨rfl, R2, s1, s2, s3, s4, s5⟩ := hq
  show Rs PP FF GM TX xs L 9 mX11_readTune 89 lc' [] w2 _
  have hb2 := pz_bn39 s3
  obtain ⟨g1, g2⟩ := pz_tnf (ρ := pz_rho (pz_vals w2 mi R2 [pz_fv w2 mi 15, .int (R2.1 56 (R2.2 39).toNatClampNeg)])) s1 hk rfl rfl rfl rfl
  refine pz_run (ex := [pz_fv w2 mi 15, .int (R2.1 56 (R2.2 39).toNatClampNeg)]) (mex := [(1015, 0, 0, 15), (2, 15, 7, 16)]) hU hk (by omega) s1 (fun _ => pz_a0) rt1_k (by decide +kernel) (by decide +kernel) (by decide +kernel) (by decide +kernel) (by decide +kernel) (by decide +kernel) (pz_sa s1 hk (pz_fd (f := 4) s1.1 hk rfl rfl).1 (pz_o42 s1 hk) ⟨(pz_fd (f := 15) s1.1 hk rfl rfl).1, by rw [hb2, s4]; exact pz_oi (by omega) (by omega), trivial⟩) (pz_ac g1 (pz_ac g2 pz_a0)) (pz_ac l0' pz_a0) pz_a0 (pz_ac ?_ pz_a0)
  intro ρ2 w3 V2
  have u5 : ρ2 5 = pz_fv w2 mi 4 := V2.1 5 (by decide)
  have u7 : ρ2 7 = .int (R2.2 39) := V2.1 7 (by decide)
  have u16 : ρ2 16 = .int (R2.1 56 (R2.2 39).toNatClampNeg) := V2.1 16 (by decide)
  have u17 := pzv_i V2 (s := 17) (a := 2147483649) (b := 2147483654) rfl
  have m1 := pzv_l V2 (x := 16) (y := 17) (p := 0) (m := 1) (by decide +kernel)
  have m2 := pzv_l V2 (x := 17) (y := 16) (p := 1) (m := 0) (by decide +kernel)
  rw [u16, hb2, s4, iv_int, hr] at m1 m2
  have hq3 := pz_eqo s1.1 hk V2.2.2.2.2.2 (by decide +kernel)
  have hs3 := pzv_S V2 (pz_eqO hq3 s1.2.2)
  rw [show lgF rt1_q0.2.2 = [(156, 7, 17, 0)] by decide +kernel, pz_wt, u7] at hs3
  have hs3 : pz_St ks P mi (fun k => if k = 56 then upd (R2.1 k) (R2.2 39).toNatClampNeg (intV (ρ2 17)) else R2.1 k, R2.2) w3 := hs3
  rw [hb2] at hs3
  have f4 : pz_fi w3 mi 4 = pz_fi w2 mi 4 := by
    unfold pz_fi
    rw [pzv_f (f := 4) (s := 5) V2 (by decide) rfl (by decide +kernel), u5]
  refine ⟨rfl, _, hs3, pz_et (pz_em V.2.2.2.2.2 (by decide +kernel)) (pz_et s2 (pz_em V2.2.2.2.2.2 (by decide +kernel))), ?_, ?_⟩
  · obtain ⟨p1, p2, p3, p4, p5, p6, p7⟩ := s3
    refine ⟨p1, p2, p3, p4, ?_, p6, p7⟩
    intro i hi
    show (if 56 = 56 then upd (R2.1 56) b (intV (ρ2 17)) else R2.1 56) i = _
    rw [if_pos rfl, pk_un hi]
    exact p5 i hi
  · intro h0
    rw [f4] at h0
    obtain ⟨t1, t2, t3, t4, t5, t6⟩ := s5 h0
    refine ⟨by rw [(pz_eqi hq3).2.1]; omega, Or.inr ⟨pz_eqT hq3 t1, ?_⟩⟩
    rw [pz_eqP hq3]
    refine ⟨t3, t4, t6 6 (by omega) (by omega) hL.2.2.1, ?_⟩
    intro r' hr'
    have hr' : (r' : Int) < ((if 56 = 56 then upd (R2.1 56) b (intV (ρ2 17)) else R2.1 56) b).toInt := hr'
    rw [if_pos rfl, pk_us] at hr'
    by_cases he : r' = r
    · subst he
      exact t5
    · exact t6 r' he (by omega) (hL.2.2.2 r' (by omega))
end PZM

/-! readRule, by hand -/
def pz_EP : List (Nat × Nat) := [(11, 4), (11, 5), (11, 6), (11, 7), (11, 8), (11, 9), (11, 10), (11, 40), (11, 41), (11, 42), (11, 43), (52, 999), (53, 999), (54, 999), (55, 999), (56, 999), (57, 999), (58, 999), (59, 999), (60, 999), (61, 999), (62, 999), (63, 999), (64, 999), (65, 999), (66, 999), (67, 999), (68, 999), (69, 999), (70, 999), (71, 999), (72, 999), (73, 999), (74, 999), (75, 999), (76, 999), (77, 999)]
/-- what the reading of a text leaves of the first record -/
def pz_PF (R0 R : pR) (b : Nat) : Prop := R.2 38 = R0.2 38 ∧ (R.2 39).toInt = (b : Int) ∧ R.1 39 = R0.1 39 ∧ R.1 40 = R0.1 40 ∧ (∀ i, i ≠ b → R.1 56 i = R0.1 56 i) ∧ (∀ i, i < 7 * b ∨ 7 * b + 7 ≤ i → R.1 61 i = R0.1 61 i ∧ R.1 62 i = R0.1 62 i) ∧ (∀ i, i < 580 * b ∨ 580 * b + 580 ≤ i → R.1 74 i = R0.1 74 i)
/-- a rule of the bank b -/
def pz_RO (R : pR) (b r : Nat) (lim : Int) : Prop := ∀ f t : Nat, (R.1 61 (7 * b + r)).toInt = (f : Int) → (R.1 62 (7 * b + r)).toInt = (t : Int) → t ≤ f ∨ (580 * b ≤ f ∧ (t : Int) ≤ lim ∧ dpt (R.1 74) (t - f) f 0 ≠ none)
def pz_PL (R : pR) (b : Nat) (G : Int) : Prop := 580 * (b : Int) ≤ (R.2 40).toInt ∧ 4 * ((R.2 40).toInt - 580 * (b : Int)) ≤ 8 * (R.1 58 b).toInt + G ∧ pz_RO R b 6 (R.2 40).toInt ∧ ∀ r : Nat, (r : Int) < (R.1 56 b).toInt → pz_RO R b r (R.2 40).toInt
def pz_ixB (ds : List Ds) : Bool := match ds[7]?, ds[15]?, ds[16]? with
  | some (0, x, x'), some (0, y, y'), some (0, z, z') => Nat.beq x x' && (Nat.beq y y' && (Nat.beq z z' && decide ((z : Int) - 2147483648 = 7 * ((x : Int) - 2147483648) + ((y : Int) - 2147483648))))
  | _, _, _ => false
section PZL
variable {ks : List Nat} {P : Nat} {w w0 w1 w2 w' : pW} {mi : Nat} {R R1 R2 R' R0 : pR} {xs : Nat → Int32} {L : Nat} {eff : List (Nat × Nat)} {b fr N : Nat} {F : Int} {ρ : Nat → Value} {ds : List Ds}
theorem pz_ixk (hd : Sd ks P ρ ds) (h : pz_ixB ds = true) : ∃ z : Int32, ρ 16 = .int z ∧ z.toInt = 7 * iv (ρ 7) + iv (ρ 15) := by
  unfold pz_ixB at h
  split at h
  · next x x' y y' z z' h1 h2 h3 =>
    simp only [Bool.and_eq_true, nbe, decide_eq_true_eq] at h
    obtain ⟨rfl, rfl, rfl, h4⟩ := h
    obtain ⟨a, a1, a2, a3⟩ := id (okD0 (hd 7 _ h1))
    obtain ⟨c, c1, c2, c3⟩ := id (okD0 (hd 15 _ h2))
    obtain ⟨d, d1, d2, d3⟩ := id (okD0 (hd 16 _ h3))
    refine ⟨d, d1, ?_⟩
    rw [a1, c1, iv_int, iv_int]
    omega
  · cases h
theorem pz_FR0 : pz_FR R R b fr := ⟨rfl, rfl, rfl, rfl, rfl, rfl, rfl, fun _ _ => rfl⟩
/-- a call of a method of the model, one argument -/
theorem pz_call1 {M M' : pM} {i j pc d : Nat} {lc : pL} {r : List Value} {a : Int32} {P1 Q : Option Value → pW → Prop} (hi : instrAt M pc = some (.invokevirtual i)) (hpp : PP.2.2.2 M.1 i = some (0, j)) (hG : GM[j]? = some (M', 1)) (hM : M'.1 = 11) (hT : Typed KTab ks P w) (hk : ks[mi]? = some 11) (hr : cats r ≤ 8) (hl : 2 ≤ M'.2.2.2.1) (hc : Rs PP FF GM TX xs L d M' 0 (lArgs 0 [.ref (mi + 3), .int a]) [] w P1) (k : ∀ v w1, P1 v w1 → Rs PP FF GM TX xs L (d + 1) M (pc + 3) lc (v.toList ++ r) w1 Q) : Rs PP FF GM TX xs L (d + 1) M pc lc (.int a :: .ref (mi + 3) :: r) w Q := by
  refine Rs.call hi ?_ hc k
  show acallV PP GM TX M (d + 1) i pc lc (.int a :: .ref (mi + 3) :: r) w = _
  obtain ⟨-, fs, a1, -⟩ := pz_fd (f := 3) hT hk rfl rfl
  unfold acallV
  rw [hpp]
  simp only
  rw [hG]
  simp only [List.drop, List.take, List.reverse_cons, List.reverse_nil, List.nil_append]
  rw [wAt3, a1]
  simp only [hM]
  rw [if_pos]
  simp only [Bool.and_eq_true, decide_eq_true_eq, beq_self_eq_true]
  exact ⟨trivial, hr, by simp, hl⟩
/-- what readRule leaves -/
def pz_QR (ks : List Nat) (P mi : Nat) (R0 : pR) (b r : Nat) (R : pR) (w w' : pW) : Prop := ∃ R', pz_St ks P mi R' w' ∧ Ef ks pz_EP w w' ∧ pz_PF R0 R' b ∧ R'.1 56 = R.1 56 ∧ (pz_fi w' mi 4 = 0 → pz_TK w' mi ∧ pz_fi w mi 6 ≤ pz_fi w' mi 6 ∧ 580 * (b : Int) ≤ (R'.2 40).toInt ∧ 4 * ((R'.2 40).toInt - 580 * (b : Int)) ≤ 8 * (R'.1 58 b).toInt + pz_Ph w' mi ∧ pz_RO R' b r (R'.2 40).toInt ∧ ∀ r' : Nat, r' ≠ r → r' ≤ 6 → pz_RO R b r' (R.2 40).toInt → pz_RO R' b r' (R'.2 40).toInt)
def pz_srB (c : Cu) : Bool := decide (c.1 = 24) && (decide (c.2.1.2.1 = [(0, 0), (1, 15)]) && (decide (c.2.1.2.2.1 = [0]) && (decide (lgF c.2.1.2.2.2 = [(161, 16, 8, 0), (343, 17, 17, 0)]) && (pz_ixB c.2.1.1 && (pz_rgB c.2.1.1 17 0 Mx && decide (fnd c.2.1.2.2.2 (1000 + 4) 0 0 = some 5))))))
def pz_sfB (p : Po) : Bool := decide (p.1 = none) && (decide (lgF p.2.2 = [(162, 16, 8, 0)]) && (pz_ixB p.2.1 && decide (fnd p.2.2 (1000 + 4) 0 0 = some 5)))
theorem pz_ksr : [sr_p0, sr_p1, sr_p2, sr_p3, sr_p4, sr_p5, sr_p6, sr_p7, sr_p8, sr_p9, sr_p10, sr_p11, sr_p12, sr_p13].all pz_srB = true := by decide +kernel
theorem pz_ksf : [sf_q0, sf_q1, sf_q2, sf_q3, sf_q4, sf_q5, sf_q6, sf_q7, sf_q8, sf_q9, sf_q10, sf_q11, sf_q12, sf_q13].all pz_sfB = true := by decide +kernel
theorem pz_wa : evL ρ [(161, 16, 8, 0), (343, 17, 17, 0)] R = (fun k => if k = 61 then upd (R.1 k) (intV (ρ 16)).toNatClampNeg (intV (ρ 8)) else R.1 k, fun g => if g = 43 then intV (ρ 17) else R.2 g) := by
  show wrR ρ (100 + 61, 16, 8, 0) (wrR ρ (300 + 43, 17, 17, 0) R) = _
  rw [pz_wr (by decide), pz_wf]
theorem pz_wb : evL ρ [(162, 16, 8, 0)] R = (fun k => if k = 62 then upd (R.1 k) (intV (ρ 16)).toNatClampNeg (intV (ρ 8)) else R.1 k, R.2) := by
  show wrR ρ (100 + 62, 16, 8, 0) R = _
  rw [pz_wr (by decide)]
/-- the records on the way through readRule -/
theorem pz_rr {r : Nat} {x : Int32} (hr : r ≤ 6) (hF : pz_PF R0 R b) (hb : 580 * (b : Int) ≤ (R.2 40).toInt) (hfr : (R.2 40).toInt = (fr : Int)) (hFR : pz_FR (fun k => if k = 61 then upd (R.1 k) (7 * b + r) (R.2 40) else R.1 k, fun g => if g = 43 then x else R.2 g) R2 b fr) (hR' : R' = (fun k => if k = 62 then upd (R2.1 k) (7 * b + r) (R2.2 40) else R2.1 k, R2.2)) : pz_PF R0 R' b ∧ R'.1 56 = R.1 56 ∧ ((fr : Int) ≤ (R2.2 40).toInt → dpt (R2.1 74) ((R2.2 40).toNatClampNeg - fr) fr 0 = some 1 → pz_RO R' b r (R'.2 40).toInt ∧ ∀ r' : Nat, r' ≠ r → r' ≤ 6 → pz_RO R b r' (R.2 40).toInt → pz_RO R' b r' (R'.2 40).toInt) := by
  obtain ⟨p1, p2, p3, p4, p5, p6, p7⟩ := hF
  obtain ⟨f1, f2, f3, f4, f5, f6, f7, f8⟩ := hFR
  have e1 : ∀ k, k ≠ 62 → R'.1 k = R2.1 k := by
    intro k hk
    rw [hR']
    exact if_neg hk
  have e62 : R'.1 62 = upd (R2.1 62) (7 * b + r) (R2.2 40) := by
    rw [hR']
    rfl
  have e2 : R'.2 = R2.2 := by rw [hR']
  have g61 : R2.1 61 = upd (R.1 61) (7 * b + r) (R.2 40) := f6.trans rfl
  have g62 : R2.1 62 = R.1 62 := f7.trans rfl
  have g56 : R2.1 56 = R.1 56 := f5.trans rfl
  have g39 : R2.1 39 = R.1 39 := f3.trans rfl
  have g40 : R2.1 40 = R.1 40 := f4.trans rfl
  have g74 : ∀ i, i < fr ∨ 580 * b + 580 ≤ i → R2.1 74 i = R.1 74 i := by
    intro i hi
    rw [f8 i hi]
    rfl
  have h38 : R2.2 38 = R.2 38 := f1.trans rfl
  have h39 : R2.2 39 = R.2 39 := f2.trans rfl
  refine ⟨⟨?_, ?_, ?_, ?_, ?_, ?_, ?_⟩, ?_, ?_⟩
  · rw [e2, h38, p1]
  · rw [e2, h39, p2]
  · rw [e1 39 (by decide), g39, p3]
  · rw [e1 40 (by decide), g40, p4]
  · intro i hi
    rw [e1 56 (by decide), g56, p5 i hi]
  · intro i hi
    rw [e1 61 (by decide), g61, e62, g62, pk_un (by omega), pk_un (by omega)]
    exact p6 i hi
  · intro i hi
    rw [e1 74 (by decide), g74 i (by omega)]
    exact p7 i hi
  · rw [e1 56 (by decide), g56]
  · intro hle hd
    have c2 := clamp_toInt (x := R2.2 40) (by omega)
    refine ⟨?_, ?_⟩
    · intro f t q1 q2
      rw [e1 61 (by decide), g61, pk_us] at q1
      rw [e62, pk_us] at q2
      right
      have hf : f = fr := by omega
      subst hf
      have ht : t = (R2.2 40).toNatClampNeg := by omega
      subst ht
      rw [e2, e1 74 (by decide)]
      refine ⟨by omega, by omega, ?_⟩
      rw [hd]
      exact fun h => by cases h
    · intro r' n1 n2 hro f t q1 q2
      rw [e1 61 (by decide), g61, pk_un (by omega)] at q1
      rw [e62, g62, pk_un (by omega)] at q2
      rcases hro f t q1 q2 with h | ⟨h1, h2, h3⟩
      · exact Or.inl h
      · right
        rw [e2, e1 74 (by decide)]
        refine ⟨h1, by omega, ?_⟩
        rw [dpt_cg (c := R.1 74) (fun i a1 a2 => g74 i (by omega))]
        exact h3
theorem pz_la1 {a : Int32} : lGet (lArgs 0 [.ref (mi + 3), .int a]) 0 = some (.ref (mi + 3)) ∧ lGet (lArgs 0 [.ref (mi + 3), .int a]) 1 = some (.int a) := ⟨rfl, rfl⟩
theorem pz_rule {lc : pL} {r : Nat} {rv : Int32} (hU : Uq KTab ks) (hk : ks[mi]? = some 11) (hP : P + CrMax + 12 * 16777216 ≤ PMax) (hS : pz_St ks P mi R w) (hF : pz_PF R0 R b) (hrv : rv.toInt = (r : Int)) (hr : r ≤ 6) (hb : 580 * (b : Int) ≤ (R.2 40).toInt) (hu : 4 * ((R.2 40).toInt - 580 * (b : Int)) ≤ 8 * (R.1 58 b).toInt + pz_fi w mi 6) (l0 : lGet lc 0 = some (.ref (mi + 3))) (l1 : lGet lc 1 = some (.int rv)) : Rs PP FF GM TX xs L 8 mX11_readRule 0 lc [] w (fun v w' => v = none ∧ pz_QR ks P mi R0 b r R w w') := by
  refine pz_run (ex := [.int rv]) (mex := []) hU hk (by omega) hS (fun _ => pz_a0) sr_k (by decide +kernel) (by decide +kernel) (by decide +kernel) (by decide +kernel) (by decide +kernel) (by decide +kernel) (pz_sa hS hk (pz_fd (f := 4) hS.1 hk rfl rfl).1 (pz_o42 hS hk) ⟨pz_oi (by omega) (by omega), trivial⟩) pz_a0 (pz_ac l0 (pz_ac l1 pz_a0)) ?_ pz_a0
  intro c hc ρ' lc' w1 V hl
  have hB := List.all_eq_true.mp pz_ksr c hc
  simp only [pz_srB, Bool.and_eq_true, decide_eq_true_eq] at hB
  obtain ⟨k1, k2, k3, k4, k5, k6, k7⟩ := hB
  rw [k2] at hl
  rw [k1, k3]
  have e0 : ρ' 0 = .ref (mi + 3) := V.1 0 (by decide)
  have e7 : ρ' 7 = .int (R.2 39) := V.1 7 (by decide)
  have e8 : ρ' 8 = .int (R.2 40) := V.1 8 (by decide)
  have e5 : ρ' 5 = pz_fv w mi 4 := V.1 5 (by decide)
  have e15 : ρ' 15 = .int rv := V.1 15 (by decide)
  have l0' : lGet lc' 0 = some (ρ' 0) := hl (0, 0) (by decide)
  have l1' : lGet lc' 1 = some (ρ' 15) := hl (1, 15) (by decide)
  rw [e0] at l0'
  rw [e15] at l1'
  obtain ⟨z, z1, z2⟩ := pz_ixk V.2.1 k5
  obtain ⟨x, x1, -, -⟩ := pz_rgB_ok V.2.1 k6
  have h39 := hF.2.1
  rw [e7, e15, iv_int, iv_int, h39, hrv] at z2
  have zn : z.toNatClampNeg = 7 * b + r := by
    have := clamp_toInt (x := z) (by omega)
    omega
  have hq := pz_eqo hS.1 hk V.2.2.2.2.2 (by decide +kernel)
  have hs := pzv_S V (pz_eqO hq hS.2.2)
  rw [k4, pz_wa, z1, x1, e8] at hs
  have hs : pz_St ks P mi (fun k => if k = 61 then upd (R.1 k) z.toNatClampNeg (R.2 40) else R.1 k, fun g => if g = 43 then x else R.2 g) w1 := hs
  rw [zn] at hs
  have hE : Ef ks pz_EP w w1 := pz_em V.2.2.2.2.2 (by decide +kernel)
  obtain ⟨q3, q6, q7, q8⟩ := pz_eqi hq
  obtain ⟨fr, hfr⟩ : ∃ fr : Nat, (R.2 40).toInt = (fr : Int) := ⟨(R.2 40).toNatClampNeg, (clamp_toInt (x := R.2 40) (by omega)).symm⟩
  show Rs PP FF GM TX xs L (7 + 1) mX11_readRule 24 lc' [ρ' 0] w1 _
  rw [e0]
  refine pz_call (i := 341) (j := 154) (M' := mX11_e) (by decide +kernel) (by decide +kernel) rfl rfl hs.1 hk (by decide) (by decide) (pz_e (R0 := (fun k => if k = 61 then upd (R.1 k) (7 * b + r) (R.2 40) else R.1 k, fun g => if g = 43 then x else R.2 g)) (b := b) (fr := fr) hU hk hP hs pz_FR0 ?_ pz_la) ?_
  · intro _
    refine ⟨h39, hfr, by omega, ?_⟩
    show 4 * ((R.2 40).toInt - 580 * (b : Int)) ≤ 8 * ((if 58 = 61 then upd (R.1 58) (7 * b + r) (R.2 40) else R.1 58) b).toInt + pz_Ph w1 mi
    rw [if_neg (by decide), pz_eqP hq]
    have : pz_fi w mi 6 ≤ pz_Ph w mi := by
      unfold pz_Ph
      split <;> omega
    omega
  intro v w2 hq2
  obtain ⟨rfl, R2, hq2⟩ := hq2
  show Rs PP FF GM TX xs L 8 mX11_readRule 27 lc' [] w2 _
  have hh : pz_St ks P mi R2 w2 ∧ Ef ks pz_EQ w1 w2 ∧ pz_FR (fun k => if k = 61 then upd (R.1 k) (7 * b + r) (R.2 40) else R.1 k, fun g => if g = 43 then x else R.2 g) R2 b fr := by
    rcases hq2 with ⟨s1, s2, s3, s4⟩ | ⟨s1, s2, s3, s4, s5, s6⟩
    · exact ⟨s1, s2, s4⟩
    · exact ⟨s1, s2, s4.1⟩
  obtain ⟨s1, s2, s4⟩ := hh
  refine pz_run (ex := [.int rv]) (mex := []) hU hk (by omega) s1 (fun _ => pz_a0) sf_k (by decide +kernel) (by decide +kernel) (by decide +kernel) (by decide +kernel) (by decide +kernel) (by decide +kernel) (pz_sa s1 hk (pz_fd (f := 4) s1.1 hk rfl rfl).1 (pz_o42 s1 hk) ⟨pz_oi (by omega) (by omega), trivial⟩) pz_a0 (pz_ac l0' (pz_ac l1' pz_a0)) pz_a0 ?_
  intro p hp ρ2 w3 V2
  have hB := List.all_eq_true.mp pz_ksf p hp
  simp only [pz_sfB, Bool.and_eq_true, decide_eq_true_eq] at hB
  obtain ⟨m1, m2, m3, m4⟩ := hB
  have u7 : ρ2 7 = .int (R2.2 39) := V2.1 7 (by decide)
  have u8 : ρ2 8 = .int (R2.2 40) := V2.1 8 (by decide)
  have u5 : ρ2 5 = pz_fv w2 mi 4 := V2.1 5 (by decide)
  have u15 : ρ2 15 = .int rv := V2.1 15 (by decide)
  obtain ⟨z', y1, y2⟩ := pz_ixk V2.2.1 m3
  have h39' : (R2.2 39).toInt = (b : Int) := by
    rw [s4.2.1]
    exact h39
  rw [u7, u15, iv_int, iv_int, h39', hrv] at y2
  have yn : z'.toNatClampNeg = 7 * b + r := by
    have := clamp_toInt (x := z') (by omega)
    omega
  have hq3 := pz_eqo s1.1 hk V2.2.2.2.2.2 (by decide +kernel)
  have hs3 := pzv_S V2 (pz_eqO hq3 s1.2.2)
  rw [m2, pz_wb, y1, u8] at hs3
  have hs3 : pz_St ks P mi (fun k => if k = 62 then upd (R2.1 k) z'.toNatClampNeg (R2.2 40) else R2.1 k, R2.2) w3 := hs3
  rw [yn] at hs3
  obtain ⟨n1, n2, n3⟩ := pz_rr hr hF hb hfr s4 rfl
  have f4 : pz_fi w3 mi 4 = pz_fi w2 mi 4 := by
    unfold pz_fi
    rw [pzv_f (f := 4) V2 (by decide) rfl m4, u5]
  refine ⟨by rw [m1]; rfl, _, hs3, pz_et hE (pz_et (pz_em s2 (by decide +kernel)) (pz_em V2.2.2.2.2.2 (by decide +kernel))), n1, n2, ?_⟩
  intro h0
  rw [f4] at h0
  rcases hq2 with ⟨_, _, t3, _⟩ | ⟨_, _, t3, t4, t5, t6⟩
  · exact absurd h0 t3
  obtain ⟨i1, i2, i3, i4, i5, i6⟩ := t4
  obtain ⟨j1, j2⟩ := n3 i4 i5
  refine ⟨pz_eqT hq3 t5, by rw [(pz_eqi hq3).2.1]; omega, ?_, ?_, j1, j2⟩
  · show 580 * (b : Int) ≤ (R2.2 40).toInt
    omega
  · show 4 * ((R2.2 40).toInt - 580 * (b : Int)) ≤ 8 * ((if 58 = 62 then upd (R2.1 58) (7 * b + r) (R2.2 40) else R2.1 58) b).toInt + pz_Ph w3 mi
    rw [if_neg (by decide), pz_eqP hq3]
    exact i6
end PZL

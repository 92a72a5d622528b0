/-! behindUnit: its end -/
section PZI
variable {ks : List Nat} {P : Nat} {w w1 w2 w' : pW} {mi : Nat} {R R1 R' R0 : pR} {xs : Nat → Int32} {L : Nat} {eff : List (Nat × Nat)} {b fr N : Nat} {F : Int}
theorem pz_eqt (h : pz_eqw mi w w1) (h' : pz_eqw mi w1 w2) : pz_eqw mi w w2 := by
  obtain ⟨a1, a2, a3, a4, a5, a6⟩ := h
  obtain ⟨c1, c2, c3, c4, c5, c6⟩ := h'
  exact ⟨c1.trans a1, c2.trans a2, c3.trans a3, c4.trans a4, c5.trans a5, c6.trans a6⟩
theorem pz_pg {x : Int32} {j : Nat} {ρ : Nat → Value} (hS : pz_St ks P mi R w) (hk : ks[mi]? = some 11) (hx : 0 ≤ x.toInt) (hj : x.toNatClampNeg = j) (h0 : ρ 0 = .ref (mi + 3)) (h15 : ρ 15 = pz_fv w mi 35) (h16 : ρ 16 = .int x) (h17 : ρ 17 = .int (R.1 76 j)) : okF P ρ w (1035, 0, 0, 15) ∧ okF P ρ w (2, 15, 16, 17) := by
  subst hj
  obtain ⟨hT, hF, hO⟩ := hS
  obtain ⟨j1, u1, u2, u3⟩ := pz_row (f := 35) (k := 76) hT hF hk rfl rfl rfl
  obtain ⟨-, fs, a1, a2⟩ := pz_fd (f := 35) hT hk rfl rfl
  exact ⟨fk (k := 35) ⟨mi + 3, 11, fs, h0, by rw [wAt3]; exact a1, by rw [h15]; exact a2⟩, f2 ⟨j1 + 3, x, 0, 90, R.1 76, h15.trans u1, h16, by rw [wAt3]; exact u3, h17, hx⟩⟩
/-- the text's byte at at, as a fact -/
theorem pz_tf {ρ : Nat → Value} {s : Nat} (hT : Typed KTab ks P w) (hk : ks[mi]? = some 11) (h0 : 0 ≤ pz_fi w mi 6) (h14 : ρ 14 = pz_fv w mi 1) (h1 : ρ 1 = pz_fv w mi 6) (hs : ρ s = .int (pz_tx w mi (pz_fi w mi 6).toNat)) : okF P ρ w (2, 14, 1, s) := by
  obtain ⟨j, e1, e2⟩ := pz_tr hT hk
  obtain ⟨x, ex, -, -⟩ := id (okD0 (pz_fd (f := 6) hT hk rfl rfl).1)
  have e6 : pz_fi w mi 6 = x.toInt := by
    unfold pz_fi
    rw [ex]
    rfl
  rw [e6] at h0 hs
  refine f2 ⟨j + 3, x, 2, 1600, pz_tx w mi, h14.trans e1, h1.trans ex, by rw [wAt3]; exact e2, ?_, h0⟩
  rw [hs]
  have := clamp_toInt h0
  rw [show x.toInt.toNat = x.toNatClampNeg by omega]
def pz_zbB (p : Po) : Bool := decide (p.1 = some 15) && (pz_rgB p.2.1 15 Zb Zb && (decide (lgF p.2.2 = []) && (pz_afB p.2.1 p.2.2 2 && (pz_rgB p.2.1 4 (Zb + 5) (Zb + 5) && decide (fnd p.2.2 (1000 + 4) 0 0 = some 5)))))
theorem pz_kzb : [zb_q1, zb_q2, zb_q3, zb_q4, zb_q5, zb_q6, zb_q7, zb_q8, zb_q9, zb_q10, zb_q11].all pz_zbB = true := by decide +kernel
/-- behind a bracket -/
theorem pz_181 {lc : pL} (hU : Uq KTab ks) (hk : ks[mi]? = some 11) (hP : P + CrMax + 12 * 16777216 ≤ PMax) (hT : pz_TK w mi) (h : pz_LI ks P mi R0 b fr (pz_Ph w mi + 4) w R w1) (hN : (R.2 42).toInt ≤ (N : Int)) (l0 : lGet lc 0 = some (.ref (mi + 3))) : Rs PP FF GM TX xs L 6 mX11_behindUnit 181 lc [] w1 (pz_QB ks P mi R0 b fr N w) := by
  have hh := h
  obtain ⟨hS, g2, g3, g4, hI⟩ := hh
  obtain ⟨d1, d2, d3, d4, d5, d6, d7⟩ := pz_df hS hk
  have i5 := hI.2.2.2.2.1
  refine pz_run (ex := []) (mex := []) hU hk (by omega) hS pz_hg zb_k (by decide +kernel) (by decide +kernel) (by decide +kernel) (by decide +kernel) (by decide +kernel) (by decide +kernel) (pz_sd hS hk (pz_fd (f := 8) hS.1 hk rfl rfl).1 (pz_fvi hS.1 hk ⟨_, _, rfl, rfl⟩ (by omega) (by omega)) (pz_fd (f := 10) hS.1 hk rfl rfl).1 (pz_oi (by omega) (by omega)) (pz_oi (by omega) (by omega)) (pz_oi (by omega) (by omega)) (pz_oi (by omega) (by omega)) (pz_oi (by omega) (by omega)) trivial) pz_a0 (pz_ac l0 pz_a0) pz_a0 (pz_ac ?_ ?_)
  · intro ρ' w' V
    have e15 := pzv_i V (s := 15) (a := 2147483648) (b := 2147483648) rfl
    have e16 := pzv_b V (s := 16) (a := 2147483649) (b := 2147483650) rfl
    have f4 := pzv_f (f := 4) (mi := mi) (s := 16) V (by decide) rfl (by decide +kernel)
    have f6 := pzv_f (f := 6) (mi := mi) (s := 1) V (by decide) rfl (by decide +kernel)
    have f7 := pzv_f (f := 7) (mi := mi) (s := 2) V (by decide) rfl (by decide +kernel)
    have f3 := pzv_f (f := 3) (mi := mi) (s := 3) V (by decide) rfl (by decide +kernel)
    have a12 := pzv_l V (x := 1) (y := 2) (p := 0) (m := 0) (by decide +kernel)
    have a23 := pzv_l V (x := 2) (y := 3) (p := 0) (m := 0) (by decide +kernel)
    rw [← f6, ← f7] at a12
    rw [← f7, ← f3] at a23
    have hO : pz_O w' mi := ⟨by unfold pz_fi; omega, by unfold pz_fi; omega⟩
    have hs := pzv_S V hO
    rw [show lgF zb_q0.2.2 = [] by decide +kernel] at hs
    refine ⟨R, intV (ρ' 15), ?_, Or.inl ⟨hs, pz_et g2 (pz_em V.2.2.2.2.2 (by decide +kernel)), ?_, hI.1⟩⟩
    · show some (ρ' 15) = _
      rw [← e15.1]
    · unfold pz_fi
      rw [f4]
      omega
  · intro p hp ρ' w' V
    have hB := List.all_eq_true.mp pz_kzb p hp
    simp only [pz_zbB, Bool.and_eq_true, decide_eq_true_eq] at hB
    obtain ⟨h1, h2, h3, h4, h5, h6⟩ := hB
    obtain ⟨t1, t2, t3, t4⟩ := pz_tl V (by decide) g2 g3 g4 h4 (by decide +kernel) h6
    rw [h3] at t1
    obtain ⟨va, ea1, a1, a2⟩ := pz_rgB_ok V.2.1 h2
    obtain ⟨vt, et1, t5, t6⟩ := pz_rgB_ok V.2.1 h5
    simp only [Zb] at a1 a2 t5 t6
    have e4 : ρ' 4 = pz_fv w1 mi 8 := V.1 4 (by decide)
    have h8 : pz_fi w mi 8 = 5 := by
      rw [← (pz_eqi g3).2.2.2]
      unfold pz_fi
      rw [← e4, et1, iv_int]
      omega
    have hph : pz_Ph w mi + 4 ≤ pz_Ph w' mi + 4 := by
      have q1 := t4.2.2.1
      have q2 : pz_fi w mi 6 + 1 ≤ pz_fi w mi 7 := hT.1.elim (fun q => by omega) id
      unfold pz_Ph
      rw [h8]
      split <;> split <;> omega
    refine ⟨R, va, ?_, Or.inr ⟨t1, t2, t3, Or.inr ⟨t4, by omega, by omega, Or.inl ⟨by omega, pz_Im hI hph⟩⟩⟩⟩
    rw [h1]
    show some (ρ' 15) = _
    rw [ea1]
theorem pz_w7 {ρ : Nat → Value} {x y : Nat} : evL ρ [(341, x, x, 0), (342, y, y, 0)] R = (R.1, fun g => if g = 41 then intV (ρ x) else if g = 42 then intV (ρ y) else R.2 g) := by
  show wrR ρ (300 + 41, x, x, 0) (wrR ρ (300 + 42, y, y, 0) R) = _
  rw [pz_wf, pz_wf]
theorem pz_w8 {ρ : Nat → Value} {y : Nat} : evL ρ [(342, y, y, 0)] R = (R.1, fun g => if g = 42 then intV (ρ y) else R.2 g) := by
  show wrR ρ (300 + 42, y, y, 0) R = _
  rw [pz_wf]
def pz_z7B (p : Nat) (c : Cu) : Bool := decide (lgF c.2.1.2.2.2 = [(341, 21, 21, 0), (342, 22, 22, 0)]) && (leT c.2.1.1 c.2.1.2.2.2 9 21 1 0 && (leT c.2.1.1 c.2.1.2.2.2 21 9 0 1 && (pz_rgB c.2.1.1 21 0 Mx && (pz_rgB c.2.1.1 22 (Zb + p - 1) (Zb + p - 1) && decide (fnd c.2.1.2.2.2 (1000 + 4) 0 0 = some 5)))))
theorem pz_bz7 : ((List.range 38).all fun q => pz_z7B (q + 2) (z7_p0 (q + 2))) = true := by decide +kernel
theorem pz_z7 {rk : Value} {lc : pL} {p : Nat} (hU : Uq KTab ks) (hk : ks[mi]? = some 11) (hP : P + CrMax + 12 * 16777216 ≤ PMax) (hT : pz_TK w mi) (h : pz_LI ks P mi R0 b fr (pz_Ph w mi + 4) w R w1) (hN : (R.2 42).toNatClampNeg ≤ N) (hp : (R.2 42).toNatClampNeg = (p + 1) + 1) (ht : (R.1 76 (p + 1)).toInt = 7) (hr : okD ks P (0, 2147483648, 2147483648) rk) (l0 : lGet lc 0 = some (.ref (mi + 3))) (l1 : lGet lc 1 = some rk) : Rs PP FF GM TX xs L 6 mX11_behindUnit 104 lc [] w1 (pz_QB ks P mi R0 b fr N w) := by
  have hh := h
  obtain ⟨hS, g2, g3, g4, hI⟩ := hh
  obtain ⟨d1, d2, d3, d4, d5, d6, d7⟩ := pz_df hS hk
  have hpl := pz_piled (Or.inr hI) (by omega) (by omega)
  have c42 := clamp_toInt (x := R.2 42) (by omega)
  obtain ⟨x1, x2⟩ := pz_ix (p := p + 1) (by omega)
  obtain ⟨f1, f2, f3, f4⟩ := pz_pf (x := Int32.ofNat (p + 1)) (j := p + 1) (tail := [rk]) hS hk (by omega) x2
  have t1 := Int32.le_toInt (R.1 77 (p + 1))
  have t2 := Int32.toInt_lt (R.1 77 (p + 1))
  have hw : 1 ≤ (R.2 41).toInt := by
    have i8 := hI.2.2.2.2.2.2.2.1
    rw [hp, pz_nn, pz_bn, if_neg (by omega), if_pos ht] at i8
    omega
  have hc : chkZ z7_e 3000 6 mX11_behindUnit [(36, [(4, 0, [])]), (51, [(4, 0, [])])] [181] 104 (z7_s ((p + 1) + 1)) [z7_p0 ((p + 1) + 1)] [] = true := List.all_eq_true.mp z7_k p (List.mem_range.mpr (by omega))
  refine pz_run (ex := [pz_fv w1 mi 35, .int (Int32.ofNat (p + 1)), .int (R.1 76 (p + 1)), pz_fv w1 mi 36, .int (R.1 77 (p + 1)), rk]) (mex := [(1035, 0, 0, 15), (2, 15, 16, 17), (1036, 0, 0, 18), (2, 18, 16, 19)]) hU hk (by omega) hS (fun _ => pz_a0) hc rfl rfl (by decide +kernel) rfl rfl rfl (pz_sb hk h hp (pz_oi (by omega) (by omega)) (pz_oi (by omega) (by omega)) (pz_ex (p := p + 1) hS hk (by omega) (by omega) (by omega) (by omega) (by omega) hr)) (pz_ac f1 (pz_ac f2 (pz_ac f3 (pz_ac f4 pz_a0)))) (pz_ac l0 (pz_ac l1 pz_a0)) (pz_ac ?_ pz_a0) pz_a0
  intro ρ' lc' w2 V hl
  have hB := List.all_eq_true.mp pz_bz7 p (List.mem_range.mpr (by omega))
  simp only [pz_z7B, Bool.and_eq_true, decide_eq_true_eq] at hB
  obtain ⟨k1, k2, k3, k4, k5, k6⟩ := hB
  have e0 : ρ' 0 = .ref (mi + 3) := V.1 0 (by show 0 < 21; decide)
  have e9 : ρ' 9 = .int (R.2 41) := V.1 9 (by show 9 < 21; decide)
  have e5 : ρ' 5 = pz_fv w1 mi 4 := V.1 5 (by show 5 < 21; decide)
  have l0' : lGet lc' 0 = some (ρ' 0) := hl (0, 0) pz_m0
  rw [e0] at l0'
  have q1 := pzv_l V k2
  have q2 := pzv_l V k3
  obtain ⟨y, ey1, -, -⟩ := pz_rgB_ok V.2.1 k4
  obtain ⟨z, ez1, z1, z2⟩ := pz_rgB_ok V.2.1 k5
  simp only [Zb] at z1 z2
  rw [e9, iv_int, ey1, iv_int] at q1 q2
  have hq := pz_eqo hS.1 hk V.2.2.2.2.2 (by decide +kernel)
  have hs := pzv_S V (pz_eqO hq hS.2.2)
  rw [k1, pz_w7, ey1, ez1] at hs
  have hz : z.toInt = ((p + 1 : Nat) : Int) := by omega
  refine pz_181 (R := (R.1, fun g => if g = 41 then y else if g = 42 then z else R.2 g)) hU hk hP hT ⟨hs, pz_et g2 (pz_em V.2.2.2.2.2 (by decide +kernel)), pz_eqt g3 hq, ?_, ?_⟩ ?_ l0'
  · unfold pz_fi
    rw [pzv_f (f := 4) V (by show 0 < 21; decide) rfl k6, e5]
    exact g4
  · refine pz_pb (p := p + 1) (R' := (R.1, fun g => if g = 41 then y else if g = 42 then z else R.2 g)) hI ⟨rfl, rfl, rfl, rfl, rfl, rfl, rfl⟩ hp (by omega) ht rfl rfl rfl rfl rfl hz ?_ rfl (by omega)
    show y.toInt = _
    omega
  · show z.toInt ≤ _
    omega
/-- the rule is done -/
theorem pz_z8 {rk : Value} {lc : pL} (hU : Uq KTab ks) (hk : ks[mi]? = some 11) (hP : P + CrMax + 12 * 16777216 ≤ PMax) (h : pz_LI ks P mi R0 b fr (pz_Ph w mi + 4) w R w1) (hp : (R.2 42).toNatClampNeg = 1) (hr : okD ks P (0, 2147483648, 2147483648) rk) (l0 : lGet lc 0 = some (.ref (mi + 3))) (l1 : lGet lc 1 = some rk) : Rs PP FF GM TX xs L 6 mX11_behindUnit 104 lc [] w1 (pz_QB ks P mi R0 b fr N w) := by
  have hh := h
  obtain ⟨hS, g2, g3, g4, hI⟩ := hh
  obtain ⟨d1, d2, d3, d4, d5, d6, d7⟩ := pz_df hS hk
  have c42 := clamp_toInt (x := R.2 42) (by omega)
  have i6 := hI.2.2.2.2.2.1
  obtain ⟨f1, f2⟩ := pz_pg (x := 0) (j := 0) (ρ := pz_rho (pz_vals w1 mi R [pz_fv w1 mi 35, .int 0, .int (R.1 76 0), rk])) hS hk (by decide) (by decide) rfl rfl rfl rfl
  refine pz_run (ex := [pz_fv w1 mi 35, .int 0, .int (R.1 76 0), rk]) (mex := [(1035, 0, 0, 15), (2, 15, 16, 17)]) hU hk (by omega) hS (fun _ => pz_a0) z8_k (by decide +kernel) (by decide +kernel) (by decide +kernel) (by decide +kernel) (by decide +kernel) (by decide +kernel) (pz_sd hS hk (pz_fd (f := 8) hS.1 hk rfl rfl).1 (pz_fvi hS.1 hk ⟨_, _, rfl, rfl⟩ (by omega) (by omega)) (pz_fd (f := 10) hS.1 hk rfl rfl).1 (pz_oi (by omega) (by omega)) (pz_oi (by omega) (by omega)) (pz_oi (by omega) (by omega)) (pz_oi (by omega) (by omega)) (pz_oi (by omega) (by omega)) ⟨(pz_fd (f := 35) hS.1 hk rfl rfl).1, pz_oi (by decide) (by decide), pz_oi (by omega) (by omega), hr, trivial⟩) (pz_ac f1 (pz_ac f2 pz_a0)) (pz_ac l0 (pz_ac l1 pz_a0)) pz_a0 (pz_ac ?_ pz_a0)
  intro ρ' w' V
  have e5 : ρ' 5 = pz_fv w1 mi 4 := V.1 5 (by decide)
  have e19 := pzv_i V (s := 19) (a := 2147483648) (b := 2147483648) rfl
  have e20 := pzv_i V (s := 20) (a := 2147483648) (b := 2147483648) rfl
  have hq := pz_eqo hS.1 hk V.2.2.2.2.2 (by decide +kernel)
  have hs := pzv_S V (pz_eqO hq hS.2.2)
  rw [show lgF z8_q0.2.2 = [(342, 20, 20, 0)] by decide +kernel, pz_w8] at hs
  have hqq := pz_eqt g3 hq
  refine ⟨_, intV (ρ' 19), ?_, Or.inr ⟨hs, pz_et g2 (pz_em V.2.2.2.2.2 (by decide +kernel)), ?_, Or.inl ⟨by omega, ?_, ?_, hqq⟩⟩⟩
  · show some (ρ' 19) = _
    rw [← e19.1]
  · unfold pz_fi
    rw [pzv_f (f := 4) (s := 5) V (by decide) rfl (by decide +kernel), e5]
    exact g4
  · show (intV (ρ' 20)).toInt = 0
    omega
  · obtain ⟨i1, i2, i3, i4, i5, i6, i7, i8, i9, i10, i11⟩ := hI
    rw [hp] at i9 i11
    rw [pz_jn, pz_jn, if_neg (by omega)] at i9 i11
    rw [pz_nn, pz_nn, if_neg (by omega)] at i11
    rw [pz_eqP hqq]
    refine ⟨i1, i2, i3, i4, i9, ?_⟩
    show 4 * ((R.2 40).toInt - 580 * (b : Int)) ≤ 8 * (R.1 58 b).toInt + pz_Ph w mi
    omega
/-- behindUnit, from 104 on -/
theorem pz_104 {rk : Value} {lc : pL} (hU : Uq KTab ks) (hk : ks[mi]? = some 11) (hP : P + CrMax + 12 * 16777216 ≤ PMax) (hT : pz_TK w mi) (hO : pz_O w mi) (h : pz_LI ks P mi R0 b fr (pz_Ph w mi + 4) w R w1) (hN : (R.2 42).toNatClampNeg ≤ N) (l0 : lGet lc 0 = some (.ref (mi + 3))) (l1 : lGet lc 1 = some rk) (hTP : pz_TP R rk) (hr : okD ks P (0, 2147483648, 2147483648) rk ∨ (pz_fi w mi 8 ≠ 0 ∧ (okD ks P (0, 2147483649, 2147483649) rk ∨ okD ks P (0, 2147483650, 2147483650) rk ∨ (okD ks P (0, 2147483652, 2147483654) rk ∧ 0 ≤ (pz_tx w mi (pz_fi w mi 6).toNat).toInt ∧ (pz_tx w mi (pz_fi w mi 6).toNat).toInt ≤ 96)))) : Rs PP FF GM TX xs L 6 mX11_behindUnit 104 lc [] w1 (pz_QB ks P mi R0 b fr N w) := by
  have hh := h
  obtain ⟨hS, g2, g3, g4, hI⟩ := hh
  obtain ⟨d1, d2, d3, d4, d5, d6, d7⟩ := pz_df hS hk
  have hpl := pz_piled (Or.inr hI) (by omega) (by omega)
  have i5 := hI.2.2.2.2.1
  have o8 : okD ks P (0, 0, 4294967295) (pz_fv w1 mi 8) := (pz_fd (f := 8) hS.1 hk rfl rfl).1
  have o4 : okD ks P (0, 2147483648, 2147483648) (pz_fv w1 mi 4) := pz_fvi hS.1 hk ⟨_, _, rfl, rfl⟩ (by omega) (by omega)
  have o10 : okD ks P (4, 0, 0) (pz_fv w1 mi 10) := (pz_fd (f := 10) hS.1 hk rfl rfl).1
  have o40 : okD ks P (0, 2147483648, 2147484808) (.int (R.2 40)) := pz_oi (by omega) (by omega)
  have o41 : okD ks P (0, 2147483648, 2147483655) (.int (R.2 41)) := pz_oi (by omega) (by omega)
  have o42 : okD ks P (0, 2147483649, 2147483737) (.int (R.2 42)) := pz_oi (by omega) (by omega)
  have o43 : okD ks P (0, 2147483648, 2147483678) (.int (R.2 43)) := pz_oi (by omega) (by omega)
  have oun : okD ks P (0, 2147483648, 2147483738) (.int (R.1 58 (R.2 39).toNatClampNeg)) := pz_oi (by omega) (by omega)
  rcases hr with hr | ⟨h8, hr | hr | ⟨hr, y1, y2⟩⟩
  · rcases hTP with hp | ⟨p, hp, hp1, hp2⟩
    · exact pz_z8 hU hk hP h hp hr l0 l1
    · obtain ⟨q, rfl⟩ : ∃ q, p = q + 1 := ⟨p - 1, by omega⟩
      have h7 : (R.1 76 (q + 1)).toInt = 7 := by
        rcases hp2 with hp2 | ⟨hp2, -⟩
        · exact hp2
        · have hpo := hI.2.2.2.2.2.2.1 (q + 1) (by omega) (by omega)
          have hb := pz_bd hr
          rcases hpo with ⟨hx, -⟩ | hx | ⟨hx, -⟩ <;> omega
      exact pz_z7 hU hk hP hT h hN hp h7 hr l0 l1
  · have hF := pz_hF (F := pz_Ph w mi + 4) (Or.inl ⟨hT, rfl⟩) hO h8
    refine pz_run (ex := [rk]) (mex := []) hU hk (by omega) hS pz_hg d1_k (by decide +kernel) (by decide +kernel) (by decide +kernel) (by decide +kernel) (by decide +kernel) (by decide +kernel) (pz_sd hS hk o8 o4 o10 o40 o41 o42 o43 oun ⟨hr, trivial⟩) pz_a0 (pz_ac l0 (pz_ac l1 pz_a0)) pz_a0 ?_
    intro p hp ρ' w' V
    exact pz_d2 V (by decide) hk h hN (List.all_eq_true.mp pz_kd1 p hp) (by decide +kernel) hF h8
  · have hF := pz_hF (F := pz_Ph w mi + 4) (Or.inl ⟨hT, rfl⟩) hO h8
    refine pz_run (ex := [rk]) (mex := []) hU hk (by omega) hS pz_hg d2_k (by decide +kernel) (by decide +kernel) (by decide +kernel) (by decide +kernel) (by decide +kernel) (by decide +kernel) (pz_sd hS hk o8 o4 o10 o40 o41 o42 o43 oun ⟨hr, trivial⟩) pz_a0 (pz_ac l0 (pz_ac l1 pz_a0)) pz_a0 ?_
    intro p hp ρ' w' V
    exact pz_d2 V (by decide) hk h hN (List.all_eq_true.mp pz_kd2 p hp) (by decide +kernel) hF h8
  · have hF := pz_hF (F := pz_Ph w mi + 4) (Or.inl ⟨hT, rfl⟩) hO h8
    have e6 := (pz_eqi g3).2.1
    have etx := g3.2.2.2.2.2
    rw [← e6, ← etx] at y1 y2
    refine pz_run (ex := [rk, .int (pz_tx w1 mi (pz_fi w1 mi 6).toNat)]) (mex := [(2, 14, 1, 16)]) hU hk (by omega) hS pz_hg d4_k (by decide +kernel) (by decide +kernel) (by decide +kernel) (by decide +kernel) (by decide +kernel) (by decide +kernel) (pz_sd hS hk o8 o4 o10 o40 o41 o42 o43 oun ⟨hr, pz_oi (by omega) (by omega), trivial⟩) (pz_ac (pz_tf hS.1 hk (by omega) rfl rfl rfl) pz_a0) (pz_ac l0 (pz_ac l1 pz_a0)) pz_a0 ?_
    intro p hp ρ' w' V
    exact pz_d2 V (by decide) hk h hN (List.all_eq_true.mp pz_kd4 p hp) (by decide +kernel) hF h8
end PZI

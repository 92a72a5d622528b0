/-! behindUnit: what is on top of the pile is emitted -/
section PZF
variable {ks : List Nat} {P : Nat} {w w1 w' : pW} {mi : Nat} {R R1 R' R0 : pR} {xs : Nat → Int32} {L : Nat} {eff : List (Nat × Nat)} {b fr : Nat} {F : Int}
theorem pz_em1 {f2 : Nat → Int32} {x : Int32} {p : Nat} (hI : pz_I R0 b fr R 1 F) (hp : (R.2 42).toNatClampNeg = p + 1) (hp1 : 1 ≤ p) (ht : (R.1 76 p).toInt ≠ 7) (hx : x = R.1 77 p) (h40 : (f2 40).toInt = (R.2 40).toInt + 1) (h41 : (f2 41).toInt = (R.2 41).toInt - (if (R.1 76 p).toInt = 3 then 1 else 0)) (h42 : (f2 42).toInt = (p : Int)) (hg : ∀ g, g ≠ 40 → g ≠ 41 → g ≠ 42 → f2 g = R.2 g) (hc : (R.2 40).toInt < 580 * (b : Int) + 580) : pz_I R0 b fr (fun k => if k = 74 then upd (R.1 k) (R.2 40).toNatClampNeg x else R.1 k, f2) 1 F := by
  have e1 : ∀ k, k ≠ 74 → (if k = 74 then upd (R.1 k) (R.2 40).toNatClampNeg x else R.1 k) = R.1 k := fun k h => if_neg h
  refine pz_po (R' := (fun k => if k = 74 then upd (R.1 k) (R.2 40).toNatClampNeg x else R.1 k, f2)) hI ⟨hg 38 (by decide) (by decide) (by decide), hg 39 (by decide) (by decide) (by decide), e1 39 (by decide), e1 40 (by decide), e1 56 (by decide), e1 61 (by decide), e1 62 (by decide)⟩ hp hp1 ht ?_ (e1 76 (by decide)) (e1 77 (by decide)) (e1 58 (by decide)) h40 h42 h41 (hg 43 (by decide) (by decide) (by decide)) hc
  show (if 74 = 74 then upd (R.1 74) (R.2 40).toNatClampNeg x else R.1 74) = _
  rw [if_pos rfl, hx]
/-- there is room for what is emitted -/
theorem pz_rm {p : Nat} (hI : pz_I R0 b fr R 1 F) (hp : (R.2 42).toNatClampNeg = p + 1) (hp1 : 1 ≤ p) (ht : (R.1 76 p).toInt ≠ 7) (hF : F ≤ 1605) (hu : (R.1 58 b).toInt ≤ 90) : (R.2 40).toInt < 580 * (b : Int) + 580 ∧ ((R.1 76 p).toInt = 3 → 1 ≤ (R.2 41).toInt) := by
  obtain ⟨i1, i2, i3, i4, i5, i6, i7, i8, i9, i10, i11⟩ := hI
  have hpo := i7 p hp1 (by omega)
  rw [hp] at i8 i11
  rw [pz_nn, pz_bn] at i8
  rw [pz_jn, pz_nn] at i11
  rcases hpo with ⟨hx, -⟩ | hx | ⟨hx, -⟩
  · rw [if_neg (by omega), if_pos hx] at i11
    rw [if_pos hx, if_neg (by omega)] at i8
    exact ⟨by omega, fun _ => by omega⟩
  · exact absurd hx ht
  · rw [if_pos hx, if_neg (by omega)] at i11
    exact ⟨by omega, fun h => by omega⟩
def pz_LI (ks : List Nat) (P mi : Nat) (R0 : pR) (b fr : Nat) (F : Int) (w : pW) (R : pR) (w1 : pW) : Prop := pz_St ks P mi R w1 ∧ Ef ks pz_EQ w w1 ∧ pz_eqw mi w w1 ∧ pz_fi w1 mi 4 = 0 ∧ pz_I R0 b fr R 1 F
theorem pz_pf {x : Int32} {j : Nat} {tail : List Value} (hS : pz_St ks P mi R w) (hk : ks[mi]? = some 11) (hx : 0 ≤ x.toInt) (hj : x.toNatClampNeg = j) : okF P (pz_rho (pz_vals w mi R (pz_fv w mi 35 :: .int x :: .int (R.1 76 j) :: pz_fv w mi 36 :: .int (R.1 77 j) :: tail))) w (1035, 0, 0, 15) ∧ okF P (pz_rho (pz_vals w mi R (pz_fv w mi 35 :: .int x :: .int (R.1 76 j) :: pz_fv w mi 36 :: .int (R.1 77 j) :: tail))) w (2, 15, 16, 17) ∧ okF P (pz_rho (pz_vals w mi R (pz_fv w mi 35 :: .int x :: .int (R.1 76 j) :: pz_fv w mi 36 :: .int (R.1 77 j) :: tail))) w (1036, 0, 0, 18) ∧ okF P (pz_rho (pz_vals w mi R (pz_fv w mi 35 :: .int x :: .int (R.1 76 j) :: pz_fv w mi 36 :: .int (R.1 77 j) :: tail))) w (2, 18, 16, 19) := by
  subst hj
  obtain ⟨hT, hF, hO⟩ := hS
  obtain ⟨j1, u1, u2, u3⟩ := pz_row (f := 35) (k := 76) hT hF hk rfl rfl rfl
  obtain ⟨j2, v1, v2, v3⟩ := pz_row (f := 36) (k := 77) hT hF hk rfl rfl rfl
  obtain ⟨-, fs, a1, a2⟩ := pz_fd (f := 35) hT hk rfl rfl
  obtain ⟨-, fs', b1, b2⟩ := pz_fd (f := 36) hT hk rfl rfl
  exact ⟨fk (k := 35) ⟨mi + 3, 11, fs, rfl, by rw [wAt3]; exact a1, a2⟩, f2 ⟨j1 + 3, x, 0, 90, R.1 76, u1, rfl, by rw [wAt3]; exact u3, rfl, hx⟩, fk (k := 36) ⟨mi + 3, 11, fs', rfl, by rw [wAt3]; exact b1, b2⟩, f2 ⟨j2 + 3, x, 0, 90, R.1 77, v1, rfl, by rw [wAt3]; exact v3, rfl, hx⟩⟩
def pz_e3B (p : Nat) (c : Cu) : Bool := decide (c.1 = 23) && (decide (c.2.1.2.1 = [(0, 0), (1, 20)]) && (decide (c.2.1.2.2.1 = []) && (decide (lgF c.2.1.2.2.2 = [(340, 21, 21, 0), (174, 8, 19, 0), (341, 22, 22, 0), (342, 23, 23, 0)]) && (leT c.2.1.1 c.2.1.2.2.2 8 21 0 1 && (leT c.2.1.1 c.2.1.2.2.2 21 8 1 0 && (leT c.2.1.1 c.2.1.2.2.2 9 22 1 0 && (leT c.2.1.1 c.2.1.2.2.2 22 9 0 1 && (pz_rgB c.2.1.1 21 0 Mx && (pz_rgB c.2.1.1 22 0 Mx && (pz_rgB c.2.1.1 23 (Zb + p - 1) (Zb + p - 1) && decide (fnd c.2.1.2.2.2 (1000 + 4) 0 0 = some 5)))))))))))
def pz_ejB (p : Nat) (c : Cu) : Bool := decide (c.1 = 23) && (decide (c.2.1.2.1 = [(0, 0), (1, 20)]) && (decide (c.2.1.2.2.1 = []) && (decide (lgF c.2.1.2.2.2 = [(340, 21, 21, 0), (174, 8, 19, 0), (342, 22, 22, 0)]) && (leT c.2.1.1 c.2.1.2.2.2 8 21 0 1 && (leT c.2.1.1 c.2.1.2.2.2 21 8 1 0 && (pz_rgB c.2.1.1 21 0 Mx && (pz_rgB c.2.1.1 22 (Zb + p - 1) (Zb + p - 1) && decide (fnd c.2.1.2.2.2 (1000 + 4) 0 0 = some 5))))))))
theorem pz_bi3 : ((List.range 38).all fun q => pz_e3B (q + 2) (i3_p0 (q + 2))) = true := by decide +kernel
theorem pz_bja : ((List.range 38).all fun q => pz_ejB (q + 2) (ja_p0 (q + 2))) = true := by decide +kernel
theorem pz_bjb : ((List.range 38).all fun q => pz_ejB (q + 2) (jb_p0 (q + 2))) = true := by decide +kernel
theorem pz_w4 {ρ : Nat → Value} : evL ρ [(340, 21, 21, 0), (174, 8, 19, 0), (341, 22, 22, 0), (342, 23, 23, 0)] R = (fun k => if k = 74 then upd (R.1 k) (intV (ρ 8)).toNatClampNeg (intV (ρ 19)) else R.1 k, fun g => if g = 40 then intV (ρ 21) else if g = 41 then intV (ρ 22) else if g = 42 then intV (ρ 23) else R.2 g) := by
  show wrR ρ (300 + 40, 21, 21, 0) (wrR ρ (100 + 74, 8, 19, 0) (wrR ρ (300 + 41, 22, 22, 0) (wrR ρ (300 + 42, 23, 23, 0) R))) = _
  rw [pz_wf, pz_wr (by decide), pz_wf, pz_wf]
theorem pz_w5 {ρ : Nat → Value} : evL ρ [(340, 21, 21, 0), (174, 8, 19, 0), (342, 22, 22, 0)] R = (fun k => if k = 74 then upd (R.1 k) (intV (ρ 8)).toNatClampNeg (intV (ρ 19)) else R.1 k, fun g => if g = 40 then intV (ρ 21) else if g = 42 then intV (ρ 22) else R.2 g) := by
  show wrR ρ (300 + 40, 21, 21, 0) (wrR ρ (100 + 74, 8, 19, 0) (wrR ρ (300 + 42, 22, 22, 0) R)) = _
  rw [pz_wf, pz_wr (by decide), pz_wf]
/-- a not is emitted -/
theorem pz_s3 {c : Cu} {p n : Nat} {ex : List Value} {ρ : Nat → Value} (V : pz_V ks P R eff w1 n (pz_rho (pz_vals w1 mi R ex)) c.2.1.1 c.2.1.2.2.2 ρ w') (hn : 20 ≤ n) (hk : ks[mi]? = some 11) (h : pz_LI ks P mi R0 b fr F w R w1) (hB : pz_e3B (p + 1) c = true) (hE : (pz_noT eff && pz_sub eff pz_EQ) = true) (hp : (R.2 42).toNatClampNeg = p + 1) (hp1 : 1 ≤ p) (ht : (R.1 76 p).toInt = 3) (hs : pz_rho (pz_vals w1 mi R ex) 19 = .int (R.1 77 p)) (hF : F ≤ 1605) : ∃ R', pz_LI ks P mi R0 b fr F w R' w' ∧ (R'.2 42).toNatClampNeg = p := by
  simp only [pz_e3B, Bool.and_eq_true, decide_eq_true_eq] at hB hE
  obtain ⟨h1, h2, h3, h4, h5, h6, h7, h8, h9, h10, h11, h12⟩ := hB
  obtain ⟨g1, g2, g3, g4, g5⟩ := h
  obtain ⟨d1, d2, d3, d4, d5, d6, d7⟩ := pz_df g1 hk
  have i2 := g5.2.1
  have hb : (R.2 39).toNatClampNeg = b := by
    have := clamp_toInt (x := R.2 39) (by omega)
    omega
  rw [hb] at d7
  obtain ⟨m1, m2⟩ := pz_rm g5 hp hp1 (by omega) hF (by omega)
  have e8 : ρ 8 = .int (R.2 40) := V.1 8 (by omega)
  have e9 : ρ 9 = .int (R.2 41) := V.1 9 (by omega)
  have e5 : ρ 5 = pz_fv w1 mi 4 := V.1 5 (by omega)
  have e19 : ρ 19 = .int (R.1 77 p) := (V.1 19 (by omega)).trans hs
  have l1 := pzv_l V h5
  have l2 := pzv_l V h6
  have l3 := pzv_l V h7
  have l4 := pzv_l V h8
  obtain ⟨x, ex1, -, -⟩ := pz_rgB_ok V.2.1 h9
  obtain ⟨y, ey1, -, -⟩ := pz_rgB_ok V.2.1 h10
  obtain ⟨z, ez1, z1, z2⟩ := pz_rgB_ok V.2.1 h11
  simp only [Zb] at z1 z2
  rw [e8, iv_int, ex1, iv_int] at l1 l2
  rw [e9, iv_int, ey1, iv_int] at l3 l4
  have hq := pz_eqo g1.1 hk V.2.2.2.2.2 hE.1
  have hS := pzv_S V (pz_eqO hq g1.2.2)
  rw [h4, pz_w4, e8, e19, ex1, ey1, ez1] at hS
  have hz : z.toInt = (p : Int) := by omega
  refine ⟨_, ⟨hS, pz_et g2 (pz_em V.2.2.2.2.2 hE.2), ?_, ?_, pz_em1 (p := p) g5 hp hp1 (by omega) rfl ?_ ?_ ?_ ?_ m1⟩, ?_⟩
  · obtain ⟨a1, a2, a3, a4, a5, a6⟩ := g3
    obtain ⟨c1, c2, c3, c4, c5, c6⟩ := hq
    exact ⟨c1.trans a1, c2.trans a2, c3.trans a3, c4.trans a4, c5.trans a5, c6.trans a6⟩
  · unfold pz_fi
    rw [pzv_f (f := 4) V (by omega) rfl h12, e5]
    exact g4
  · show x.toInt = _
    omega
  · rw [if_pos ht]
    show y.toInt = _
    omega
  · exact hz
  · intro g q1 q2 q3
    simp only [if_neg q1, if_neg q2, if_neg q3]
  · show z.toNatClampNeg = p
    have := clamp_toInt (x := z) (by omega)
    omega
/-- a join is emitted -/
theorem pz_sj {c : Cu} {p n : Nat} {ex : List Value} {ρ : Nat → Value} (V : pz_V ks P R eff w1 n (pz_rho (pz_vals w1 mi R ex)) c.2.1.1 c.2.1.2.2.2 ρ w') (hn : 20 ≤ n) (hk : ks[mi]? = some 11) (h : pz_LI ks P mi R0 b fr F w R w1) (hB : pz_ejB (p + 1) c = true) (hE : (pz_noT eff && pz_sub eff pz_EQ) = true) (hp : (R.2 42).toNatClampNeg = p + 1) (hp1 : 1 ≤ p) (ht : (R.1 76 p).toInt ≠ 3 ∧ (R.1 76 p).toInt ≠ 7) (hs : pz_rho (pz_vals w1 mi R ex) 19 = .int (R.1 77 p)) (hF : F ≤ 1605) : ∃ R', pz_LI ks P mi R0 b fr F w R' w' ∧ (R'.2 42).toNatClampNeg = p := by
  simp only [pz_ejB, Bool.and_eq_true, decide_eq_true_eq] at hB hE
  obtain ⟨h1, h2, h3, h4, h5, h6, h9, h11, h12⟩ := hB
  obtain ⟨g1, g2, g3, g4, g5⟩ := h
  obtain ⟨d1, d2, d3, d4, d5, d6, d7⟩ := pz_df g1 hk
  have i2 := g5.2.1
  have hb : (R.2 39).toNatClampNeg = b := by
    have := clamp_toInt (x := R.2 39) (by omega)
    omega
  rw [hb] at d7
  obtain ⟨m1, m2⟩ := pz_rm g5 hp hp1 (by omega) hF (by omega)
  have e8 : ρ 8 = .int (R.2 40) := V.1 8 (by omega)
  have e5 : ρ 5 = pz_fv w1 mi 4 := V.1 5 (by omega)
  have e19 : ρ 19 = .int (R.1 77 p) := (V.1 19 (by omega)).trans hs
  have l1 := pzv_l V h5
  have l2 := pzv_l V h6
  obtain ⟨x, ex1, -, -⟩ := pz_rgB_ok V.2.1 h9
  obtain ⟨z, ez1, z1, z2⟩ := pz_rgB_ok V.2.1 h11
  simp only [Zb] at z1 z2
  rw [e8, iv_int, ex1, iv_int] at l1 l2
  have hq := pz_eqo g1.1 hk V.2.2.2.2.2 hE.1
  have hS := pzv_S V (pz_eqO hq g1.2.2)
  rw [h4, pz_w5, e8, e19, ex1, ez1] at hS
  have hz : z.toInt = (p : Int) := by omega
  refine ⟨_, ⟨hS, pz_et g2 (pz_em V.2.2.2.2.2 hE.2), ?_, ?_, pz_em1 (p := p) g5 hp hp1 (by omega) rfl ?_ ?_ ?_ ?_ m1⟩, ?_⟩
  · obtain ⟨a1, a2, a3, a4, a5, a6⟩ := g3
    obtain ⟨c1, c2, c3, c4, c5, c6⟩ := hq
    exact ⟨c1.trans a1, c2.trans a2, c3.trans a3, c4.trans a4, c5.trans a5, c6.trans a6⟩
  · unfold pz_fi
    rw [pzv_f (f := 4) V (by omega) rfl h12, e5]
    exact g4
  · show x.toInt = _
    omega
  · rw [if_neg ht.1]
    show (R.2 41).toInt = _
    omega
  · exact hz
  · intro g q1 q2 q3
    simp only [if_neg q1, if_neg q3]
  · show z.toNatClampNeg = p
    have := clamp_toInt (x := z) (by omega)
    omega
end PZF

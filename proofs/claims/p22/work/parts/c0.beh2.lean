/-! behindUnit: behind its loop -/
def pz_DN (R0 : pR) (b fr : Nat) (R : pR) (G : Int) : Prop := pz_FR R0 R b fr ∧ (R.2 39).toInt = (b : Int) ∧ 580 * b ≤ fr ∧ (fr : Int) ≤ (R.2 40).toInt ∧ dpt (R.1 74) ((R.2 40).toNatClampNeg - fr) fr 0 = some 1 ∧ 4 * ((R.2 40).toInt - 580 * (b : Int)) ≤ 8 * (R.1 58 b).toInt + G
/-- what behindUnit leaves -/
def pz_QB (ks : List Nat) (P mi : Nat) (R0 : pR) (b fr : Nat) (N : Nat) (w : pW) (v : Option Value) (w' : pW) : Prop := ∃ (R' : pR) (a : Int32), v = some (.int a) ∧ (pz_QF ks P mi R0 b fr w R' w' ∨ (pz_St ks P mi R' w' ∧ Ef ks pz_EQ w w' ∧ pz_fi w' mi 4 = 0 ∧ ((a.toInt = 0 ∧ (R'.2 42).toInt = 0 ∧ pz_DN R0 b fr R' (pz_Ph w' mi) ∧ pz_eqw mi w w') ∨ (pz_AF w' mi (pz_fi w mi 7) ∧ pz_fi w mi 8 ≠ 0 ∧ (R'.2 42).toInt ≤ (N : Int) + 1 ∧ ((a.toInt = 0 ∧ pz_I R0 b fr R' 1 (pz_Ph w' mi + 4)) ∨ (a.toInt = 1 ∧ pz_I R0 b fr R' 0 (pz_Ph w' mi + 4)))))))
section PZH
variable {ks : List Nat} {P : Nat} {w w1 w' : pW} {mi : Nat} {R R1 R' R0 : pR} {xs : Nat → Int32} {L : Nat} {eff : List (Nat × Nat)} {b fr N : Nat} {F : Int}
theorem pz_Im {o : Nat} {F' : Int} (h : pz_I R0 b fr R o F) (hF : F ≤ F') : pz_I R0 b fr R o F' := by
  obtain ⟨i1, i2, i3, i4, i5, i6, i7, i8, i9, i10, i11⟩ := h
  exact ⟨i1, i2, i3, i4, i5, i6, i7, i8, i9, i10, by omega⟩
theorem pz_tr (hT : Typed KTab ks P w) (hk : ks[mi]? = some 11) : ∃ j, pz_fv w mi 1 = .ref (j + 3) ∧ w[j]? = some (.inl (2, 1600, .inl (pz_tx w mi))) := by
  obtain ⟨⟨j, e1, e2⟩, -⟩ := pz_fd (f := 1) hT hk rfl rfl
  refine ⟨j, e1, ?_⟩
  obtain ⟨kd, e, a1, a2, a3⟩ := hT.2 j 51 e2
  cases a1
  unfold pz_tx
  rw [e1]
  unfold pz_rw
  simp only
  rw [wAt3, a2]
  rcases e with ⟨t, n, c⟩ | c
  · obtain ⟨h1, h2, h3⟩ := a3
    simp only at h1 h2
    subst h1 h2
    rcases c with g | c
    · rfl
    · rcases c with c | c
      · exact absurd (show (2 : Nat) = 3 from h3) (by decide)
      · rcases c with c | c
        · exact h3.elim
        · rcases c with c | c
          · exact h3.elim
          · exact absurd (show (2 : Nat) = 4 from h3.1) (by decide)
  · exact a3.elim
def pz_pdB (x y a : Nat) (p : Po) : Bool := decide (p.1 = some a) && (decide (lgF p.2.2 = [(342, x, x, 0), (177, 10, y, 0), (176, 10, 15, 0)]) && (pz_afB p.2.1 p.2.2 2 && (leT p.2.1 p.2.2 10 x 0 1 && (leT p.2.1 p.2.2 x 10 1 0 && (pz_rgB p.2.1 x 0 Mx && ((pz_rgB p.2.1 y 0 (Zb + 96) || pz_rgB p.2.1 y (Zb + 123) (Zb + 125)) && ((pz_rgB p.2.1 15 (Zb + 1) (Zb + 2) || pz_rgB p.2.1 15 (Zb + 4) (Zb + 6)) && (pz_rgB p.2.1 a (Zb + 1) (Zb + 1) && decide (fnd p.2.2 (1000 + 4) 0 0 = some 5)))))))))
theorem pz_w6 {ρ : Nat → Value} {x y : Nat} : evL ρ [(342, x, x, 0), (177, 10, y, 0), (176, 10, 15, 0)] R = (fun k => if k = 77 then upd (if k = 76 then upd (R.1 k) (intV (ρ 10)).toNatClampNeg (intV (ρ 15)) else R.1 k) (intV (ρ 10)).toNatClampNeg (intV (ρ y)) else if k = 76 then upd (R.1 k) (intV (ρ 10)).toNatClampNeg (intV (ρ 15)) else R.1 k, fun g => if g = 42 then intV (ρ x) else R.2 g) := by
  show wrR ρ (300 + 42, x, x, 0) (wrR ρ (100 + 77, 10, y, 0) (wrR ρ (100 + 76, 10, 15, 0) R)) = _
  rw [pz_wf, pz_wr (by decide), pz_wr (by decide)]
/-- a join is put on the pile -/
theorem pz_d2 {p : Po} {x y a n : Nat} {ex : List Value} {ρ : Nat → Value} (V : pz_V ks P R eff w1 n (pz_rho (pz_vals w1 mi R ex)) p.2.1 p.2.2 ρ w') (hn : 15 ≤ n) (hk : ks[mi]? = some 11) (h : pz_LI ks P mi R0 b fr F w R w1) (hN : (R.2 42).toNatClampNeg ≤ N) (hB : pz_pdB x y a p = true) (hs : pz_sub eff pz_EQ = true) (hF : F ≤ pz_fi w mi 7 + 4) (h8 : pz_fi w mi 8 ≠ 0) : pz_QB ks P mi R0 b fr N w (p.1.map ρ) w' := by
  simp only [pz_pdB, Bool.and_eq_true, Bool.or_eq_true, decide_eq_true_eq] at hB
  obtain ⟨h1, h2, h3, h4, h5, h6, h7, h9, h10, h11⟩ := hB
  obtain ⟨g1, g2, g3, g4, hI⟩ := h
  obtain ⟨t1, t2, t3, t4⟩ := pz_tl V hn g2 g3 g4 h3 hs h11
  obtain ⟨d1, d2, d3, d4, d5, d6, d7⟩ := pz_df g1 hk
  have c42 := clamp_toInt (x := R.2 42) (by omega)
  have e10 : ρ 10 = .int (R.2 42) := V.1 10 (by omega)
  have l1 := pzv_l V h4
  have l2 := pzv_l V h5
  obtain ⟨vx, ex1, -, -⟩ := pz_rgB_ok V.2.1 h6
  have hy : ∃ vy : Int32, ρ y = .int vy ∧ vy.toInt ≠ 126 ∧ ¬ (97 ≤ vy.toInt ∧ vy.toInt ≤ 122) := by
    rcases h7 with h7 | h7
    · obtain ⟨v, q1, q2, q3⟩ := pz_rgB_ok V.2.1 h7
      simp only [Zb] at q3
      exact ⟨v, q1, by omega, by omega⟩
    · obtain ⟨v, q1, q2, q3⟩ := pz_rgB_ok V.2.1 h7
      simp only [Zb] at q2 q3
      exact ⟨v, q1, by omega, by omega⟩
  have hz : ∃ vz : Int32, ρ 15 = .int vz ∧ (vz.toInt = 1 ∨ vz.toInt = 2 ∨ vz.toInt = 4 ∨ vz.toInt = 5 ∨ vz.toInt = 6) := by
    rcases h9 with h9 | h9
    · obtain ⟨v, q1, q2, q3⟩ := pz_rgB_ok V.2.1 h9
      simp only [Zb] at q2 q3
      exact ⟨v, q1, by omega⟩
    · obtain ⟨v, q1, q2, q3⟩ := pz_rgB_ok V.2.1 h9
      simp only [Zb] at q2 q3
      exact ⟨v, q1, by omega⟩
  obtain ⟨vy, ey1, y1, y2⟩ := hy
  obtain ⟨vz, ez1, z1⟩ := hz
  obtain ⟨va, ea1, a1, a2⟩ := pz_rgB_ok V.2.1 h10
  simp only [Zb] at a1 a2
  rw [e10, iv_int, ex1, iv_int] at l1 l2
  rw [h2, pz_w6, e10, ex1, ey1, ez1] at t1
  have hph : pz_fi w mi 7 ≤ pz_Ph w' mi := by
    have := t4.2.2.1
    unfold pz_Ph
    split <;> omega
  refine ⟨_, va, ?_, Or.inr ⟨t1, t2, t3, Or.inr ⟨t4, h8, ?_, Or.inr ⟨by omega, ?_⟩⟩⟩⟩
  · rw [h1]
    show some (ρ a) = _
    rw [ea1]
  · show vx.toInt ≤ _
    omega
  · have e1 : ∀ k, k ≠ 76 → k ≠ 77 → (if k = 77 then upd (if k = 76 then upd (R.1 k) (R.2 42).toNatClampNeg vz else R.1 k) (R.2 42).toNatClampNeg vy else if k = 76 then upd (R.1 k) (R.2 42).toNatClampNeg vz else R.1 k) = R.1 k := by
      intro k q1 q2
      rw [if_neg q2, if_neg q1]
    have e2 : ∀ f, f ≠ 42 → (if f = 42 then vx else R.2 f) = R.2 f := fun f h => if_neg h
    refine pz_pu (x := vz) (y := vy) (o := 1) hI ⟨e2 38 (by decide), e2 39 (by decide), e1 39 (by decide) (by decide), e1 40 (by decide) (by decide), e1 56 (by decide) (by decide), e1 61 (by decide) (by decide), e1 62 (by decide) (by decide)⟩ (e1 74 (by decide) (by decide)) ?_ ?_ (Or.inr (Or.inr ⟨z1, y1, y2⟩)) (e2 40 (by decide)) ?_ ?_ ?_ ?_ ?_
    · show (if 76 = 77 then upd (if 76 = 76 then upd (R.1 76) (R.2 42).toNatClampNeg vz else R.1 76) (R.2 42).toNatClampNeg vy else if 76 = 76 then upd (R.1 76) (R.2 42).toNatClampNeg vz else R.1 76) = _
      rw [if_neg (by decide), if_pos rfl]
    · show (if 77 = 77 then upd (if 77 = 76 then upd (R.1 77) (R.2 42).toNatClampNeg vz else R.1 77) (R.2 42).toNatClampNeg vy else if 77 = 76 then upd (R.1 77) (R.2 42).toNatClampNeg vz else R.1 77) = _
      rw [if_pos rfl, if_neg (by decide)]
    · show vx.toInt = _
      omega
    · rw [if_neg (by omega)]
      show (R.2 41).toInt = _
      omega
    · rw [if_neg (by omega)]
    · show (R.2 43).toInt ≤ (R.2 43).toInt
      omega
    · rw [if_neg (by omega)]
      show _ ≤ 8 * ((if 58 = 77 then upd (if 58 = 76 then upd (R.1 58) (R.2 42).toNatClampNeg vz else R.1 58) (R.2 42).toNatClampNeg vy else if 58 = 76 then upd (R.1 58) (R.2 42).toNatClampNeg vz else R.1 58) b).toInt + _
      rw [e1 58 (by decide) (by decide)]
      omega
theorem pz_kd1 : [d1_q0, d1_q1, d1_q2, d1_q3, d1_q4, d1_q5, d1_q6, d1_q7, d1_q8, d1_q9, d1_q10].all (pz_pdB 17 18 16) = true := by decide +kernel
theorem pz_kd2 : [d2_q0, d2_q1, d2_q2, d2_q3, d2_q4, d2_q5, d2_q6, d2_q7, d2_q8, d2_q9, d2_q10].all (pz_pdB 17 18 16) = true := by decide +kernel
theorem pz_kd4 : [d4_q0, d4_q1, d4_q2, d4_q3, d4_q4, d4_q5, d4_q6, d4_q7, d4_q8, d4_q9, d4_q10].all (pz_pdB 18 19 17) = true := by decide +kernel
end PZH

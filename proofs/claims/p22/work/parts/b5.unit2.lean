/-! unit, its second part -/
section PZC
variable {ks : List Nat} {P : Nat} {w w1 w' : pW} {mi : Nat} {R R1 R' R0 : pR} {xs : Nat → Int32} {L : Nat} {eff : List (Nat × Nat)} {b fr : Nat} {F : Int}
theorem pz_tl {me : List Fa} {ds : List Ds} {n : Nat} {ex : List Value} {ρ : Nat → Value} (V : pz_V ks P R1 eff w1 n (pz_rho (pz_vals w1 mi R1 ex)) ds me ρ w') (hn : 15 ≤ n) (hE : Ef ks pz_EQ w w1) (hq : pz_eqw mi w w1) (hf : pz_fi w1 mi 4 = 0) (ha : pz_afB ds me 2 = true) (hs : pz_sub eff pz_EQ = true) (h4 : fnd me (1000 + 4) 0 0 = some 5) : pz_St ks P mi (evL ρ (lgF me) R1) w' ∧ Ef ks pz_EQ w w' ∧ pz_fi w' mi 4 = 0 ∧ pz_AF w' mi (pz_fi w mi 7) := by
  have h0 : ρ 0 = .ref (mi + 3) := V.1 0 (by omega)
  have h2 : ρ 2 = pz_fv w1 mi 7 := V.1 2 (by omega)
  have h5 : ρ 5 = pz_fv w1 mi 4 := V.1 5 (by omega)
  have hA := pz_af V.2.1 V.2.2.1 h0 ha
  rw [h2] at hA
  have hA' : pz_AF w' mi (pz_fi w mi 7) := by
    rw [← (pz_eqi hq).2.2.1]
    exact hA
  refine ⟨pzv_S V hA.2.1, pz_et hE (pz_em V.2.2.2.2.2 hs), ?_, hA'⟩
  unfold pz_fi
  rw [pzv_f (f := 4) V (by omega) rfl h4, h5]
  exact hf
def pz_pnB (c : Nat) (p : Po) : Bool := decide (p.1 = some 19) && (decide (lgF p.2.2 = [(340, 20, 20, 0), (174, 8, c, 0)]) && (pz_afB p.2.1 p.2.2 2 && (leT p.2.1 p.2.2 8 20 0 1 && (leT p.2.1 p.2.2 20 8 1 0 && (pz_rgB p.2.1 20 0 Mx && (pz_rgB p.2.1 c (Zb + 97) (Zb + 122) && (pz_rgB p.2.1 19 Zb Zb && decide (fnd p.2.2 (1000 + 4) 0 0 = some 5))))))))
theorem pz_w2 {ρ : Nat → Value} {c : Nat} : evL ρ [(340, 20, 20, 0), (174, 8, c, 0)] R = (fun k => if k = 74 then upd (R.1 k) (intV (ρ 8)).toNatClampNeg (intV (ρ c)) else R.1 k, fun g => if g = 40 then intV (ρ 20) else R.2 g) := by
  show wrR ρ (300 + 40, 20, 20, 0) (wrR ρ (100 + 74, 8, c, 0) R) = _
  rw [pz_wf, pz_wr (by decide)]
theorem pz_n2 {p : Po} {c n : Nat} {ex : List Value} {ρ : Nat → Value} (V : pz_V ks P R1 eff w1 n (pz_rho (pz_vals w1 mi R1 ex)) p.2.1 p.2.2 ρ w') (hn : 15 ≤ n) (hk : ks[mi]? = some 11) (hS : pz_St ks P mi R w) (hG : pz_G1 ks P mi R w 1 R1 w1) (h : pz_pnB c p = true) (hs : pz_sub eff pz_EQ = true) (hI : pz_I R0 b fr R 0 F) (hF : F ≤ pz_fi w mi 7 + 4) (h8 : pz_fi w mi 8 ≠ 0) : pz_QU ks P mi R0 b fr R w (p.1.map ρ) w' := by
  simp only [pz_pnB, Bool.and_eq_true, decide_eq_true_eq] at h
  obtain ⟨h1, h2, h3, h4, h5, h6, h7, h9, h10⟩ := h
  obtain ⟨g1, g2, g3, g4, g5, g6, g7, g8⟩ := hG
  obtain ⟨t1, t2, t3, t4⟩ := pz_tl V hn g2 g3 g4 h3 hs h10
  obtain ⟨d1, -, -, -, d5, d6, d7⟩ := pz_df g1 hk
  obtain ⟨d1', -, d3', -⟩ := pz_df hS hk
  have e8 : ρ 8 = .int (R1.2 40) := V.1 8 (by omega)
  have l1 := pzv_l V h4
  have l2 := pzv_l V h5
  obtain ⟨x, ex1, -, -⟩ := pz_rgB_ok V.2.1 h6
  obtain ⟨y, ey1, y1, y2⟩ := pz_rgB_ok V.2.1 h7
  obtain ⟨a, ea1, a1, a2⟩ := pz_rgB_ok V.2.1 h9
  simp only [Zb] at y1 y2 a1 a2
  rw [e8, iv_int, ex1, iv_int, g6 40 (by decide)] at l1 l2
  rw [h2, pz_w2] at t1
  have hb : (R.2 39).toNatClampNeg = b := by
    have := hI.2.1
    have := clamp_toInt (x := R.2 39) (by omega)
    omega
  rw [g6 39 (by decide)] at d7
  rw [hb] at g8 d7
  have hc := hI.2.2.2.2.2.2.2.2.2.2
  have hph : pz_fi w mi 7 ≤ pz_Ph w' mi := by
    have := t4.2.2.1
    unfold pz_Ph
    split <;> omega
  refine ⟨_, a, ?_, Or.inr ⟨t1, t2, t3, t4, h8, ?_, Or.inl ⟨by omega, ?_⟩⟩⟩
  · rw [h1]
    show some (ρ 19) = _
    rw [ea1]
  · show ((if 42 = 40 then intV (ρ 20) else R1.2 42) : Int32).toInt ≤ _
    rw [if_neg (by decide), g6 42 (by decide)]
    omega
  · have e2 : ∀ f, f ≠ 40 → f ≠ 43 → (if f = 40 then intV (ρ 20) else R1.2 f) = R.2 f := by
      intro f q1 q2
      rw [if_neg q1, g6 f q2]
    have e1 : ∀ k, k ≠ 74 → k ≠ 58 → (if k = 74 then upd (R1.1 k) (intV (ρ 8)).toNatClampNeg (intV (ρ c)) else R1.1 k) = R.1 k := by
      intro k q1 q2
      rw [if_neg q1, g5 k q2]
    refine pz_u2 (x := y) hI ⟨e2 38 (by decide) (by decide), e2 39 (by decide) (by decide), e1 39 (by decide) (by decide), e1 40 (by decide) (by decide), e1 56 (by decide) (by decide), e1 61 (by decide) (by decide), e1 62 (by decide) (by decide)⟩ ?_ ⟨by omega, by omega⟩ (e1 76 (by decide) (by decide)) (e1 77 (by decide) (by decide)) ?_ ?_ (e2 41 (by decide) (by decide)) (e2 42 (by decide) (by decide)) ?_ ?_ ?_ ?_
    · show (if 74 = 74 then upd (R1.1 74) (intV (ρ 8)).toNatClampNeg (intV (ρ c)) else R1.1 74) = _
      rw [if_pos rfl, e8, ey1, g5 74 (by decide)]
      show upd (R.1 74) (R1.2 40).toNatClampNeg y = _
      rw [g6 40 (by decide)]
    · show ((if 58 = 74 then upd (R1.1 58) (intV (ρ 8)).toNatClampNeg (intV (ρ c)) else R1.1 58) b).toInt = _
      rw [if_neg (by decide)]
      exact g8
    · show (if 40 = 40 then intV (ρ 20) else R1.2 40).toInt = _
      rw [if_pos rfl, ex1]
      show x.toInt = _
      omega
    · show (if 43 = 40 then intV (ρ 20) else R1.2 43).toInt = _
      rw [if_neg (by decide)]
      exact g7
    · omega
    · omega
    · omega
def pz_pbB (t : Nat) (p : Po) : Bool := decide (p.1 = some 19) && (decide (lgF p.2.2 = [(341, 20, 20, 0), (342, 21, 21, 0), (177, 10, 22, 0), (176, 10, 23, 0)]) && (pz_afB p.2.1 p.2.2 2 && (leT p.2.1 p.2.2 9 20 0 1 && (leT p.2.1 p.2.2 20 9 1 0 && (leT p.2.1 p.2.2 10 21 0 1 && (leT p.2.1 p.2.2 21 10 1 0 && (pz_rgB p.2.1 20 0 Mx && (pz_rgB p.2.1 21 0 Mx && (pz_rgB p.2.1 22 (Zb + 126) (Zb + 126) && (pz_rgB p.2.1 23 (Zb + t) (Zb + t) && (pz_rgB p.2.1 19 (Zb + 1) (Zb + 1) && decide (fnd p.2.2 (1000 + 4) 0 0 = some 5))))))))))))
theorem pz_w3 {ρ : Nat → Value} : evL ρ [(341, 20, 20, 0), (342, 21, 21, 0), (177, 10, 22, 0), (176, 10, 23, 0)] R = (fun k => if k = 77 then upd (if k = 76 then upd (R.1 k) (intV (ρ 10)).toNatClampNeg (intV (ρ 23)) else R.1 k) (intV (ρ 10)).toNatClampNeg (intV (ρ 22)) else if k = 76 then upd (R.1 k) (intV (ρ 10)).toNatClampNeg (intV (ρ 23)) else R.1 k, fun g => if g = 41 then intV (ρ 20) else if g = 42 then intV (ρ 21) else R.2 g) := by
  show wrR ρ (300 + 41, 20, 20, 0) (wrR ρ (300 + 42, 21, 21, 0) (wrR ρ (100 + 77, 10, 22, 0) (wrR ρ (100 + 76, 10, 23, 0) R))) = _
  rw [pz_wf, pz_wf, pz_wr (by decide), pz_wr (by decide)]
theorem pz_b2 {p : Po} {t dl n : Nat} {ex : List Value} {ρ : Nat → Value} (V : pz_V ks P R1 eff w1 n (pz_rho (pz_vals w1 mi R1 ex)) p.2.1 p.2.2 ρ w') (hn : 15 ≤ n) (hk : ks[mi]? = some 11) (hS : pz_St ks P mi R w) (hG : pz_G1 ks P mi R w dl R1 w1) (h : pz_pbB t p = true) (ht : (t = 3 ∧ dl = 0) ∨ (t = 7 ∧ dl = 1)) (hs : pz_sub eff pz_EQ = true) (hI : pz_I R0 b fr R 0 F) (hF : F ≤ pz_fi w mi 7 + 4) (h8 : pz_fi w mi 8 ≠ 0) (hF3 : t = 3 → pz_AF w' mi (pz_fi w mi 7) → pz_fi w' mi 3 = pz_fi w mi 3 → pz_tx w' mi = pz_tx w mi → F ≤ pz_Ph w' mi) : pz_QU ks P mi R0 b fr R w (p.1.map ρ) w' := by
  simp only [pz_pbB, Bool.and_eq_true, decide_eq_true_eq] at h
  obtain ⟨h1, h2, h3, h4, h5, h6, h7, h9, h10, h11, h12, h13, h14⟩ := h
  obtain ⟨g1, g2, g3, g4, g5, g6, g7, g8⟩ := hG
  obtain ⟨t1, t2, t3, t4⟩ := pz_tl V hn g2 g3 g4 h3 hs h14
  obtain ⟨d1', -, d3', d4', d5', -⟩ := pz_df hS hk
  have e9 : ρ 9 = .int (R1.2 41) := V.1 9 (by omega)
  have e10 : ρ 10 = .int (R1.2 42) := V.1 10 (by omega)
  have l1 := pzv_l V h4
  have l2 := pzv_l V h5
  have l3 := pzv_l V h6
  have l4 := pzv_l V h7
  obtain ⟨x, ex1, -, -⟩ := pz_rgB_ok V.2.1 h9
  obtain ⟨y, ey1, -, -⟩ := pz_rgB_ok V.2.1 h10
  obtain ⟨z, ez1, z1, z2⟩ := pz_rgB_ok V.2.1 h11
  obtain ⟨u, eu1, u1, u2⟩ := pz_rgB_ok V.2.1 h12
  obtain ⟨a, ea1, a1, a2⟩ := pz_rgB_ok V.2.1 h13
  simp only [Zb] at z1 z2 u1 u2 a1 a2
  rw [e9, iv_int, ex1, iv_int, g6 41 (by decide)] at l1 l2
  rw [e10, iv_int, ey1, iv_int, g6 42 (by decide)] at l3 l4
  rw [h2, pz_w3] at t1
  have hb : (R.2 39).toNatClampNeg = b := by
    have := hI.2.1
    have := clamp_toInt (x := R.2 39) (by omega)
    omega
  rw [hb] at g8
  have hu : u.toInt = (t : Int) := by omega
  have hz : z.toInt = 126 := by omega
  have hph : pz_fi w mi 7 ≤ pz_Ph w' mi := by
    have := t4.2.2.1
    unfold pz_Ph
    split <;> omega
  have k3 : pz_fi w' mi 3 = pz_fi w mi 3 := pz_efi hS.1 hk t2 (pz_no_ok (by decide +kernel))
  have kx : pz_tx w' mi = pz_tx w mi := pz_eft hS.1 hk t2 (pz_no_ok (by decide +kernel)) (pz_no_ok (by decide +kernel))
  refine ⟨_, a, ?_, Or.inr ⟨t1, t2, t3, t4, h8, ?_, Or.inr ⟨by omega, ?_⟩⟩⟩
  · rw [h1]
    show some (ρ 19) = _
    rw [ea1]
  · show ((if 42 = 41 then intV (ρ 20) else if 42 = 42 then intV (ρ 21) else R1.2 42) : Int32).toInt ≤ _
    rw [if_neg (by decide), if_pos rfl, ey1]
    show y.toInt ≤ _
    omega
  · have e2 : ∀ f, f ≠ 41 → f ≠ 42 → f ≠ 43 → (if f = 41 then intV (ρ 20) else if f = 42 then intV (ρ 21) else R1.2 f) = R.2 f := by
      intro f q1 q2 q3
      rw [if_neg q1, if_neg q2, g6 f q3]
    have e1 : ∀ k, k ≠ 76 → k ≠ 77 → (if k = 77 then upd (if k = 76 then upd (R1.1 k) (intV (ρ 10)).toNatClampNeg (intV (ρ 23)) else R1.1 k) (intV (ρ 10)).toNatClampNeg (intV (ρ 22)) else if k = 76 then upd (R1.1 k) (intV (ρ 10)).toNatClampNeg (intV (ρ 23)) else R1.1 k) = R1.1 k := by
      intro k q1 q2
      rw [if_neg q2, if_neg q1]
    have e1' : ∀ k, k ≠ 76 → k ≠ 77 → k ≠ 58 → (if k = 77 then upd (if k = 76 then upd (R1.1 k) (intV (ρ 10)).toNatClampNeg (intV (ρ 23)) else R1.1 k) (intV (ρ 10)).toNatClampNeg (intV (ρ 22)) else if k = 76 then upd (R1.1 k) (intV (ρ 10)).toNatClampNeg (intV (ρ 23)) else R1.1 k) = R.1 k := by
      intro k q1 q2 q3
      rw [e1 k q1 q2, g5 k q3]
    refine pz_pu (x := u) (y := z) (o := 0) hI ⟨e2 38 (by decide) (by decide) (by decide), e2 39 (by decide) (by decide) (by decide), e1' 39 (by decide) (by decide) (by decide), e1' 40 (by decide) (by decide) (by decide), e1' 56 (by decide) (by decide) (by decide), e1' 61 (by decide) (by decide) (by decide), e1' 62 (by decide) (by decide) (by decide)⟩ (e1' 74 (by decide) (by decide) (by decide)) ?_ ?_ ?_ (e2 40 (by decide) (by decide) (by decide)) ?_ ?_ ?_ ?_ ?_
    · show (if 76 = 77 then upd (if 76 = 76 then upd (R1.1 76) (intV (ρ 10)).toNatClampNeg (intV (ρ 23)) else R1.1 76) (intV (ρ 10)).toNatClampNeg (intV (ρ 22)) else if 76 = 76 then upd (R1.1 76) (intV (ρ 10)).toNatClampNeg (intV (ρ 23)) else R1.1 76) = _
      rw [if_neg (by decide), if_pos rfl, e10, eu1, g5 76 (by decide)]
      show upd (R.1 76) (R1.2 42).toNatClampNeg u = _
      rw [g6 42 (by decide)]
    · show (if 77 = 77 then upd (if 77 = 76 then upd (R1.1 77) (intV (ρ 10)).toNatClampNeg (intV (ρ 23)) else R1.1 77) (intV (ρ 10)).toNatClampNeg (intV (ρ 22)) else if 77 = 76 then upd (R1.1 77) (intV (ρ 10)).toNatClampNeg (intV (ρ 23)) else R1.1 77) = _
      rw [if_pos rfl, if_neg (by decide), e10, ez1, g5 77 (by decide)]
      show upd (R.1 77) (R1.2 42).toNatClampNeg z = _
      rw [g6 42 (by decide)]
    · rcases ht with ⟨rfl, -⟩ | ⟨rfl, -⟩
      · exact Or.inl ⟨by omega, hz⟩
      · exact Or.inr (Or.inl (by omega))
    · show ((if 42 = 41 then intV (ρ 20) else if 42 = 42 then intV (ρ 21) else R1.2 42) : Int32).toInt = _
      rw [if_neg (by decide), if_pos rfl, ey1]
      show y.toInt = _
      omega
    · show ((if 41 = 41 then intV (ρ 20) else if 41 = 42 then intV (ρ 21) else R1.2 41) : Int32).toInt = _
      rw [if_pos rfl, if_pos (by omega), ex1]
      show x.toInt = _
      omega
    · rw [if_pos (by omega)]
    · show _ ≤ ((if 43 = 41 then intV (ρ 20) else if 43 = 42 then intV (ρ 21) else R1.2 43) : Int32).toInt
      rw [if_neg (by decide), if_neg (by decide)]
      omega
    · show _ ≤ 8 * ((if 58 = 77 then upd (if 58 = 76 then upd (R1.1 58) (intV (ρ 10)).toNatClampNeg (intV (ρ 23)) else R1.1 58) (intV (ρ 10)).toNatClampNeg (intV (ρ 22)) else if 58 = 76 then upd (R1.1 58) (intV (ρ 10)).toNatClampNeg (intV (ρ 23)) else R1.1 58) b).toInt + _
      rw [e1 58 (by decide) (by decide)]
      rcases ht with ⟨rfl, rfl⟩ | ⟨rfl, rfl⟩
      · rw [if_pos (by omega)]
        have := hF3 rfl t4 k3 kx
        omega
      · rw [if_neg (by omega)]
        omega
theorem pz_kn : [u2n_q0, u2n_q1, u2n_q2, u2n_q3, u2n_q4, u2n_q5, u2n_q6, u2n_q7, u2n_q8, u2n_q9, u2n_q10].all (pz_pnB 21) = true := by decide +kernel
theorem pz_kw : [u2w_q0, u2w_q1, u2w_q2, u2w_q3, u2w_q4, u2w_q5, u2w_q6, u2w_q7, u2w_q8, u2w_q9, u2w_q10].all (pz_pnB 17) = true := by decide +kernel
theorem pz_kb : [u2b_q0, u2b_q1, u2b_q2, u2b_q3, u2b_q4, u2b_q5, u2b_q6, u2b_q7, u2b_q8, u2b_q9, u2b_q10].all (pz_pbB 7) = true := by decide +kernel
theorem pz_kt : [u2t_q0, u2t_q1, u2t_q2, u2t_q3, u2t_q4, u2t_q5, u2t_q6, u2t_q7, u2t_q8, u2t_q9, u2t_q10].all (pz_pbB 3) = true := by decide +kernel
end PZC

/-! unit, as a whole -/
section PZD
variable {ks : List Nat} {P : Nat} {w w1 w' : pW} {mi : Nat} {R R1 R' R0 : pR} {xs : Nat → Int32} {L : Nat} {eff : List (Nat × Nat)} {b fr : Nat} {F : Int}
theorem pz_l5 {lc : pL} {p : Nat × Nat → Prop} {a0 a1 a2 a3 a4 : Nat × Nat} (h0 : p a0) (h1 : p a1) (h2 : p a2) (h3 : p a3) (h4 : p a4) : ∀ q ∈ [a0, a1, a2, a3, a4], p q := pz_ac h0 (pz_ac h1 (pz_ac h2 (pz_ac h3 (pz_ac h4 pz_a0))))
theorem pz_hg : ∀ R, ∀ c ∈ [c_Model_goOn_7], CK KTab (FZ KTab ks R) ks PP FF GM xs L c := fun _ => pz_ac (ck_c_Model_goOn_7 FZ_xs) pz_a0
theorem pz_fvi {f a b : Nat} (hT : Typed KTab ks P w) (hk : ks[mi]? = some 11) (hd : ∃ ci fds, KTab[11]? = some (.inl (ci, fds)) ∧ fds[f]? = some (0, a, b)) {lo hi : Nat} (h1 : (lo : Int) ≤ pz_fi w mi f + 2147483648) (h2 : pz_fi w mi f + 2147483648 ≤ (hi : Int)) : okD ks P (0, lo, hi) (pz_fv w mi f) := by
  obtain ⟨ci, fds, e1, e2⟩ := hd
  exact pz_rg (pz_fd (f := f) hT hk e1 e2).1 h1 h2
theorem pz_210 {dl : Nat} {nt br c nn : Value} {lc : pL} (hU : Uq KTab ks) (hk : ks[mi]? = some 11) (hP : P + CrMax + 12 * 16777216 ≤ PMax) (hS : pz_St ks P mi R w) (hG : pz_G1 ks P mi R w dl R1 w1) (hI : pz_I R0 b fr R 0 F) (hF : F ≤ pz_fi w mi 7 + 4) (h8 : pz_fi w mi 8 ≠ 0) (l0 : lGet lc 0 = some (.ref (mi + 3))) (l2 : lGet lc 2 = some nt) (l3 : lGet lc 3 = some br) (l4 : lGet lc 4 = some c) (l6 : lGet lc 6 = some nn) (hn : okD ks P (0, 0, 4294967295) nn)
    (hcl : (okD ks P (0, 2147483648, 2147483648) nt ∧ okD ks P (0, 2147483648, 2147483648) br ∧ okD ks P (0, 2147483648, 2147483648) c ∧ dl = 1) ∨ (okD ks P (0, 2147483648, 2147483648) nt ∧ okD ks P (0, 2147483648, 2147483648) br ∧ okD ks P (0, 2147483745, 2147483756) c ∧ dl = 1) ∨ (okD ks P (0, 2147483648, 2147483648) nt ∧ okD ks P (0, 2147483649, 2147483649) br ∧ okD ks P (0, 2147483648, 2147483648) c ∧ dl = 1 ∧ (R.2 41).toInt ≤ 6) ∨ (okD ks P (0, 2147483649, 2147483649) nt ∧ okD ks P (0, 2147483648, 2147483648) br ∧ okD ks P (0, 2147483648, 2147483756) c ∧ dl = 0 ∧ (R.2 41).toInt ≤ 6 ∧ ∀ w', pz_AF w' mi (pz_fi w mi 7) → pz_fi w' mi 3 = pz_fi w mi 3 → pz_tx w' mi = pz_tx w mi → F ≤ pz_Ph w' mi)) : Rs PP FF GM TX xs L 6 mX11_unit 210 lc [] w1 (pz_QU ks P mi R0 b fr R w) := by
  have hG' := hG
  obtain ⟨g1, g2, g3, g4, g5, g6, g7, g8⟩ := hG
  obtain ⟨d1, d2, d3, d4, d5, d6, d7⟩ := pz_df g1 hk
  obtain ⟨d1', d2', d3', d4', d5', d6', d7'⟩ := pz_df hS hk
  have hT := g1.1
  have o8 : okD ks P (0, 0, 4294967295) (pz_fv w1 mi 8) := (pz_fd (f := 8) hT hk rfl rfl).1
  have o4 : okD ks P (0, 2147483648, 2147483648) (pz_fv w1 mi 4) := pz_fvi hT hk ⟨_, _, rfl, rfl⟩ (by omega) (by omega)
  have o10 : okD ks P (4, 0, 0) (pz_fv w1 mi 10) := (pz_fd (f := 10) hT hk rfl rfl).1
  have hpi := pz_piled (Or.inl hI) (by omega) (by omega)
  have i5 := hI.2.2.2.2.1
  have i2 := hI.2.1
  have ic := hI.2.2.2.2.2.2.2.2.2.2
  have hb : (R.2 39).toNatClampNeg = b := by
    have := clamp_toInt (x := R.2 39) (by omega)
    omega
  have e42 : (R1.2 42).toInt = (R.2 42).toInt := by rw [g6 42 (by decide)]
  have e41 : (R1.2 41).toInt = (R.2 41).toInt := by rw [g6 41 (by decide)]
  have e40 : (R1.2 40).toInt = (R.2 40).toInt := by rw [g6 40 (by decide)]
  rw [g6 39 (by decide), hb] at d7
  rw [hb] at g8 d7'
  have o41 : ∀ {hi : Nat}, (R.2 41).toInt + 2147483648 ≤ (hi : Int) → okD ks P (0, 2147483648, hi) (.int (R1.2 41)) := fun h => pz_oi (by omega) (by omega)
  have o43 : okD ks P (0, 2147483648, 2147483678) (.int (R1.2 43)) := pz_oi (by omega) (by omega)
  have oun : okD ks P (0, 2147483648, 2147483738) (.int (R1.1 58 (R1.2 39).toNatClampNeg)) := by
    rw [g6 39 (by decide), hb]
    exact pz_oi (by omega) (by omega)
  rcases hcl with ⟨a1, a2, a3, rfl⟩ | ⟨a1, a2, a3, rfl⟩ | ⟨a1, a2, a3, rfl, a5⟩ | ⟨a1, a2, a3, rfl, a5, a6⟩
  · refine pz_run (ex := [nt, br, c, nn]) (mex := []) hU hk (by omega) g1 pz_hg u2n_k (by decide +kernel) (by decide +kernel) (by decide +kernel) (by decide +kernel) (by decide +kernel) (by decide +kernel) (pz_sd g1 hk o8 o4 o10 (pz_oi (by omega) (by omega)) (o41 (by omega)) (pz_oi (by omega) (by omega)) o43 oun ⟨a1, a2, a3, hn, trivial⟩) pz_a0 (pz_l5 (lc := lc) l0 l2 l3 l4 l6) pz_a0 ?_
    intro p hp ρ' w' V
    exact pz_n2 V (by decide) hk hS hG' (List.all_eq_true.mp pz_kn p hp) (by decide +kernel) hI hF h8
  · refine pz_run (ex := [nt, br, c, nn]) (mex := []) hU hk (by omega) g1 pz_hg u2w_k (by decide +kernel) (by decide +kernel) (by decide +kernel) (by decide +kernel) (by decide +kernel) (by decide +kernel) (pz_sd g1 hk o8 o4 o10 (pz_oi (by omega) (by omega)) (o41 (by omega)) (pz_oi (by omega) (by omega)) o43 oun ⟨a1, a2, a3, hn, trivial⟩) pz_a0 (pz_l5 (lc := lc) l0 l2 l3 l4 l6) pz_a0 ?_
    intro p hp ρ' w' V
    exact pz_n2 V (by decide) hk hS hG' (List.all_eq_true.mp pz_kw p hp) (by decide +kernel) hI hF h8
  · refine pz_run (ex := [nt, br, c, nn]) (mex := []) hU hk (by omega) g1 pz_hg u2b_k (by decide +kernel) (by decide +kernel) (by decide +kernel) (by decide +kernel) (by decide +kernel) (by decide +kernel) (pz_sd g1 hk o8 o4 o10 (pz_oi (by omega) (by omega)) (o41 (by omega)) (pz_oi (by omega) (by omega)) o43 oun ⟨a1, a2, a3, hn, trivial⟩) pz_a0 (pz_l5 (lc := lc) l0 l2 l3 l4 l6) pz_a0 ?_
    intro p hp ρ' w' V
    exact pz_b2 V (by decide) hk hS hG' (List.all_eq_true.mp pz_kb p hp) (Or.inr ⟨rfl, rfl⟩) (by decide +kernel) hI hF h8 (fun h => by cases h)
  · refine pz_run (ex := [nt, br, c, nn]) (mex := []) hU hk (by omega) g1 pz_hg u2t_k (by decide +kernel) (by decide +kernel) (by decide +kernel) (by decide +kernel) (by decide +kernel) (by decide +kernel) (pz_sd g1 hk o8 o4 o10 (pz_oi (by omega) (by omega)) (o41 (by omega)) (pz_oi (by omega) (by omega)) o43 oun ⟨a1, a2, a3, hn, trivial⟩) pz_a0 (pz_l5 (lc := lc) l0 l2 l3 l4 l6) pz_a0 ?_
    intro p hp ρ' w' V
    exact pz_b2 V (by decide) hk hS hG' (List.all_eq_true.mp pz_kt p hp) (Or.inl ⟨rfl, rfl⟩) (by decide +kernel) hI hF h8 (fun _ q1 q2 q3 => a6 w' q1 q2 q3)
end PZD

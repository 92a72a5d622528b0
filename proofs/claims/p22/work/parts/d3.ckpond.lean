/-! pond's contract -/
section PZW
variable {ks : List Nat} {P : Nat} {w w0 w1 w2 w' : pW} {mi : Nat} {R R1 R2 R' R0 : pR} {xs : Nat → Int32} {L : Nat}
theorem pz_pond {lc : pL} (hU : Uq KTab ks) (hk : ks[mi]? = some 11) (hP : P + CrMax + 12 * 16777216 ≤ PMax) (hT : Typed KTab ks P w) (hF : FZ KTab ks R w) (hG : Good R) (l0 : lGet lc 0 = some (.ref (mi + 3))) : Rs PP FF GM TX xs L 11 mX11_pond 0 lc [] w (pz_QP ks P mi w) := by
  obtain ⟨-, a1, a2⟩ := pz_ff (f := 38) hT hF hk rfl rfl
  obtain ⟨j1, u1, u2, u3⟩ := pz_row (f := 15) (k := 56) hT hF hk rfl rfl rfl
  have hc := clamp_toInt (x := R.2 38) (by omega)
  have h56 : (R.1 56 (R.2 38).toNatClampNeg).toInt ≤ 6 := by
    obtain ⟨x, ex, f1, f2⟩ := row (k := 56) (j := (R.2 38).toNatClampNeg) hT hF u2 rfl (by omega)
    cases ex
    omega
  refine pz_run0 (vals := [.ref (mi + 3), pz_fv w mi 51, pz_fv w mi 52, pz_fv w mi 2]) hU (by omega) hT hF (fun _ => pz_a0) po0_k (by decide +kernel) (by decide +kernel) (by decide +kernel) (by decide +kernel) (by decide +kernel) (by decide +kernel) ⟨pz_oM hk, (pz_fd (f := 51) hT hk rfl rfl).1, (pz_fd (f := 52) hT hk rfl rfl).1, (pz_fd (f := 2) hT hk rfl rfl).1, trivial⟩ (pz_ac (pz_fkk (f := 51) (s := 1) hT hk rfl rfl rfl rfl) (pz_ac (pz_fkk (f := 52) (s := 2) hT hk rfl rfl rfl rfl) (pz_ac (pz_fkk (f := 2) (s := 3) hT hk rfl rfl rfl rfl) pz_a0))) (pz_ac l0 pz_a0) (pz_ac ?_ pz_a0) pz_a0
  intro ρ' lc' w1 V hl
  have e0 : ρ' 0 = .ref (mi + 3) := V.1 0 (by decide)
  have e4 := pzv_i V (s := 4) (a := 2147483648) (b := 2147483648) rfl
  have e6 := pzv_b V (s := 6) (a := 2147483648) (b := 2147483648) rfl
  have l0' := hl (0, 0) (by decide +kernel)
  have l1' := hl (1, 4) (by decide +kernel)
  simp only [e0] at l0'
  simp only at l1'
  rw [e4.1] at l1'
  have f4 := pzv_f (f := 4) (mi := mi) (s := 6) V (by decide) rfl (by decide +kernel)
  have hF1 := V.2.2.2.2.1
  rw [show lgF po0_p0.2.1.2.2.2 = [] by decide +kernel] at hF1
  have hF1 : FZ KTab ks R w1 := hF1
  have b3 := pz_bd (pz_fd (f := 3) V.2.2.2.1 hk rfl rfl).1
  have e3 : iv (pz_fv w1 mi 3) = pz_fi w1 mi 3 := rfl
  have g4 : pz_fi w1 mi 4 = 0 := by
    unfold pz_fi
    rw [f4]
    omega
  refine pz_cp (S := pz_fi w1 mi 3) (R := R) (w0 := w) hU hk hP ?_ 1600 lc' w1 (intV (ρ' 4)) V.2.2.2.1 hF1 (pz_em V.2.2.2.2.2 (by decide +kernel)) rfl g4 l0' l1' (by omega) (by omega) (by omega)
  intro lc2 w2 hT2 hF2 hE2 h3 h4 m0
  by_cases hk0 : (R.2 38).toInt = 0
  · exact pz_p460 hU hk hP hT hG hk0 h56 hT2 hF2 hE2 h4 m0
  · exact pz_p461 hU hk hP hT hG (by omega) h56 hT2 hF2 hE2 h4 m0
theorem hP12 {K : Nat} (h : P + (12 + 1) * 16777216 ≤ K) : P + CrMax + 12 * 16777216 ≤ K := by
  unfold CrMax
  omega
theorem ck_pond (hU : Uq KTab ks) : CK KTab (XL ks) ks PP FF GM xs L c_pond := by
  intro P ρ w hd hm hT hX hPM
  have hPs : P + CrMax + 12 * 16777216 ≤ PMax := hP12 hPM
  clear hPM
  obtain ⟨R, hG, hF⟩ := hX
  obtain ⟨mi, e0, hk⟩ := id (hd 0 (1, 11, 0) rfl)
  have r1 : ρ 1 = pz_fv w mi 51 := pz_f (f := 51) (show okF P ρ w (1000 + 51, 0, 0, 1) from hm (1051, 0, 0, 1) (by decide +kernel)) e0
  have r2 : ρ 2 = pz_fv w mi 52 := pz_f (f := 52) (show okF P ρ w (1000 + 52, 0, 0, 2) from hm (1052, 0, 0, 2) (by decide +kernel)) e0
  have r3 := (hm (3, 1, 2, 3) (by decide +kernel)).2.1 rfl
  refine ⟨mX11_pond, 0, rfl, ?_⟩
  show Rs PP FF GM TX xs L 12 mX11_pond 0 (lArgs 0 [ρ 0]) [] w _
  rw [e0]
  refine (Rs.deep (d := 11) (by decide) (pz_pond hU hk hPs hT hF hG pz_la)).imp ?_
  intro v w' hq
  obtain ⟨R', q1, q2, q3, q4, q5⟩ := hq
  rcases q5 with ⟨a, rfl, ha, h51, h52⟩ | ⟨a, rfl, ha1, ha2, h51, h52⟩
  · refine ⟨(some 4, [(1, 11, 0), (0, 2147483648, 2147483688), (0, 2147483648, 2147483688), (0, 2147483648, 2147483688), (0, 2147483647, 2147483647)], [(1051, 0, 0, 1), (1052, 0, 0, 2), (3, 1, 2, 3)]), List.mem_cons_self .., upS ρ 4 (.int a), fun s hs => upS_ne hs, ?_, ?_, by decide, q1, ⟨R', q3, q2⟩, q4, ?_, fun s hs => by cases hs; decide⟩
    · intro s d hs
      rcases s with _ | _ | _ | _ | _ | s
      · rw [upS_ne (by decide)]
        exact hd 0 d hs
      · rw [upS_ne (by decide)]
        exact hd 1 d hs
      · rw [upS_ne (by decide)]
        exact hd 2 d hs
      · rw [upS_ne (by decide)]
        exact hd 3 d hs
      · cases hs
        rw [upS_eq]
        exact pz_oi (by omega) (by omega)
      · cases hs
    · refine pz_ac ⟨?_, by decide, by decide, Or.inr (Or.inr (Or.inr (by decide)))⟩ (pz_ac ⟨?_, by decide, by decide, Or.inr (Or.inr (Or.inr (by decide)))⟩ (pz_ac ⟨?_, by decide, by decide, Or.inr (Or.inr (Or.inr (by decide)))⟩ pz_a0))
      · exact pz_fkk (f := 51) (s := 1) q1 hk rfl rfl ((upS_ne (by decide)).trans e0) ((upS_ne (by decide)).trans (r1.trans h51.symm))
      · exact pz_fkk (f := 52) (s := 2) q1 hk rfl rfl ((upS_ne (by decide)).trans e0) ((upS_ne (by decide)).trans (r2.trans h52.symm))
      · refine f3 ?_
        rw [upS_ne (by decide), upS_ne (by decide), upS_ne (by decide)]
        exact r3
    · show some (.int a) = some (upS ρ 4 (.int a) 4)
      rw [upS_eq]
  · obtain ⟨x, ex, -, -⟩ := id (okD0 (pz_fd (f := 51) q1 hk rfl rfl).1)
    obtain ⟨y, ey, -, -⟩ := id (okD0 (pz_fd (f := 52) q1 hk rfl rfl).1)
    have hx : x.toInt = 0 := by
      unfold pz_fi at h51
      rw [ex] at h51
      exact h51
    have hy : y.toInt = 0 := by
      unfold pz_fi at h52
      rw [ey] at h52
      exact h52
    refine ⟨(some 4, [(1, 11, 0), (0, 2147483648, 2147483688), (0, 2147483648, 2147483688), (0, 2147483648, 2147483688), (0, 2147483648, 2147483673), (0, 2147483648, 2147483648), (0, 2147483648, 2147483648)], [(1051, 0, 0, 5), (1052, 0, 0, 6)]), List.mem_cons_of_mem _ (List.mem_cons_self ..), upS (upS (upS ρ 4 (.int a)) 5 (.int x)) 6 (.int y), fun s hs => ?_, ?_, ?_, by decide, q1, ⟨R', q3, q2⟩, q4, ?_, fun s hs => by cases hs; decide⟩
    · have hs : s < 4 := hs
      rw [upS_ne (by omega), upS_ne (by omega), upS_ne hs]
    · intro s d hs
      rcases s with _ | _ | _ | _ | _ | _ | _ | s
      · rw [upS_ne (by decide), upS_ne (by decide), upS_ne (by decide)]
        exact hd 0 d hs
      · rw [upS_ne (by decide), upS_ne (by decide), upS_ne (by decide)]
        exact hd 1 d hs
      · rw [upS_ne (by decide), upS_ne (by decide), upS_ne (by decide)]
        exact hd 2 d hs
      · rw [upS_ne (by decide), upS_ne (by decide), upS_ne (by decide)]
        exact hd 3 d hs
      · cases hs
        rw [upS_ne (by decide), upS_ne (by decide), upS_eq]
        exact pz_oi (by omega) (by omega)
      · cases hs
        rw [upS_ne (by decide), upS_eq]
        exact pz_oi (by omega) (by omega)
      · cases hs
        rw [upS_eq]
        exact pz_oi (by omega) (by omega)
      · cases hs
    · refine pz_ac ⟨?_, by decide, by decide, Or.inr (Or.inr (Or.inr (by decide)))⟩ (pz_ac ⟨?_, by decide, by decide, Or.inr (Or.inr (Or.inr (by decide)))⟩ pz_a0)
      · refine pz_fkk (f := 51) (s := 5) q1 hk rfl rfl ?_ ?_
        · rw [upS_ne (by decide), upS_ne (by decide), upS_ne (by decide)]
          exact e0
        · rw [upS_ne (by decide), upS_eq, ex]
      · refine pz_fkk (f := 52) (s := 6) q1 hk rfl rfl ?_ ?_
        · rw [upS_ne (by decide), upS_ne (by decide), upS_ne (by decide)]
          exact e0
        · rw [upS_eq, ey]
    · show some (.int a) = some (upS (upS (upS ρ 4 (.int a)) 5 (.int x)) 6 (.int y) 4)
      rw [upS_ne (by decide), upS_ne (by decide), upS_eq]
end PZW

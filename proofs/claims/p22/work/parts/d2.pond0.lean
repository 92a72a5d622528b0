/-! pond: its beginning; its contract -/
section PZU
variable {ks : List Nat} {P : Nat} {w w0 w1 w2 w' : pW} {mi : Nat} {R R1 R2 R' R0 : pR} {xs : Nat → Int32} {L : Nat} {eff : List (Nat × Nat)} {b : Nat} {ρ : Nat → Value} {ds : List Ds} {me : List Fa}
/-- the text is copied -/
theorem pz_cp {S : Int} {Q : Option Value → pW → Prop} (hU : Uq KTab ks) (hk : ks[mi]? = some 11) (hP : P + CrMax + 12 * 16777216 ≤ PMax) (K : ∀ (lc : pL) (w1 : pW), Typed KTab ks P w1 → FZ KTab ks R w1 → Ef ks pz_EN w0 w1 → pz_fi w1 mi 3 = S → pz_fi w1 mi 4 = 0 → lGet lc 0 = some (.ref (mi + 3)) → Rs PP FF GM TX xs L 11 mX11_pond 46 lc [] w1 Q) : ∀ (m : Nat) (lc : pL) (w1 : pW) (x : Int32), Typed KTab ks P w1 → FZ KTab ks R w1 → Ef ks pz_EN w0 w1 → pz_fi w1 mi 3 = S → pz_fi w1 mi 4 = 0 → lGet lc 0 = some (.ref (mi + 3)) → lGet lc 1 = some (.int x) → 0 ≤ x.toInt → x.toInt ≤ S → S - x.toInt ≤ (m : Int) → Rs PP FF GM TX xs L 11 mX11_pond 20 lc [] w1 Q := by
  have fin : ∀ (lc : pL) (w1 : pW) (x : Int32), Typed KTab ks P w1 → FZ KTab ks R w1 → Ef ks pz_EN w0 w1 → pz_fi w1 mi 3 = S → pz_fi w1 mi 4 = 0 → lGet lc 0 = some (.ref (mi + 3)) → lGet lc 1 = some (.int x) → 0 ≤ x.toInt → x.toInt = S → Rs PP FF GM TX xs L 11 mX11_pond 20 lc [] w1 Q := by
    intro lc w1 x hT hF hE h3 h4 l0 l1 h0 hx
    have g3 := (pz_fd (f := 3) hT hk rfl rfl).1
    have b3 := pz_bd g3
    have e3 : iv (pz_fv w1 mi 3) = pz_fi w1 mi 3 := rfl
    refine pz_run0 (vals := [.ref (mi + 3), .int x, pz_fv w1 mi 3]) hU (by omega) hT hF (fun _ => pz_a0) po2_k (by decide +kernel) (by decide +kernel) (by decide +kernel) (by decide +kernel) (by decide +kernel) (by decide +kernel) ⟨pz_oM hk, pz_oi (by omega) (by omega), g3, trivial⟩ (pz_ac (pz_fkk (f := 3) (s := 2) hT hk rfl rfl rfl rfl) (pz_ac (f10 (show pz_fi w1 mi 3 ≤ x.toInt + ((2147483648 : Nat) : Int) - 2147483648 by omega)) pz_a0)) (pz_ac l0 (pz_ac l1 pz_a0)) (pz_ac ?_ pz_a0) pz_a0
    intro ρ' lc' w2 V hl
    have e0 : ρ' 0 = .ref (mi + 3) := V.1 0 (by decide)
    have l0' := hl (0, 0) (by decide +kernel)
    simp only [e0] at l0'
    have hF2 := V.2.2.2.2.1
    rw [show lgF po2_p0.2.1.2.2.2 = [] by decide +kernel] at hF2
    refine K lc' w2 V.2.2.2.1 hF2 (pz_et hE (pz_em V.2.2.2.2.2 (by decide +kernel))) ?_ ?_ l0'
    · rw [pz_efi hT hk V.2.2.2.2.2 (pz_no_ok rfl)]
      exact h3
    · rw [pz_efi hT hk V.2.2.2.2.2 (pz_no_ok rfl)]
      exact h4
  intro m
  induction m with
  | zero =>
    intro lc w1 x hT hF hE h3 h4 l0 l1 h0 hx hm
    exact fin lc w1 x hT hF hE h3 h4 l0 l1 h0 (by omega)
  | succ m ih =>
    intro lc w1 x hT hF hE h3 h4 l0 l1 h0 hx hm
    by_cases hlt : x.toInt = S
    · exact fin lc w1 x hT hF hE h3 h4 l0 l1 h0 hlt
    have g3 := (pz_fd (f := 3) hT hk rfl rfl).1
    have b3 := pz_bd g3
    have e3 : iv (pz_fv w1 mi 3) = pz_fi w1 mi 3 := rfl
    refine pz_run0 (vals := [.ref (mi + 3), .int x, pz_fv w1 mi 3]) hU (by omega) hT hF (fun _ => pz_a0) po1_k (by decide +kernel) (by decide +kernel) (by decide +kernel) (by decide +kernel) (by decide +kernel) (by decide +kernel) ⟨pz_oM hk, pz_oi (by omega) (by omega), g3, trivial⟩ (pz_ac (pz_fkk (f := 3) (s := 2) hT hk rfl rfl rfl rfl) (pz_ac (f10 (show x.toInt ≤ pz_fi w1 mi 3 + ((2147483647 : Nat) : Int) - 2147483648 by omega)) pz_a0)) (pz_ac l0 (pz_ac l1 pz_a0)) (pz_ac ?_ pz_a0) pz_a0
    intro ρ' lc' w2 V hl
    have e0 : ρ' 0 = .ref (mi + 3) := V.1 0 (by decide)
    have e1 : ρ' 1 = .int x := V.1 1 (by decide)
    have u3 := pzv_i V (s := 3) (a := 2147483649) (b := 2147485248) rfl
    have k1 := pzv_l V (x := 1) (y := 3) (p := 0) (m := 1) (by decide +kernel)
    have k2 := pzv_l V (x := 3) (y := 1) (p := 1) (m := 0) (by decide +kernel)
    rw [e1, iv_int] at k1 k2
    have l0' := hl (0, 0) (by decide +kernel)
    have l1' := hl (1, 3) (by decide +kernel)
    simp only [e0] at l0'
    simp only at l1'
    rw [u3.1] at l1'
    have hF2 := V.2.2.2.2.1
    rw [show lgF po1_p0.2.1.2.2.2 = [] by decide +kernel] at hF2
    refine ih lc' w2 (intV (ρ' 3)) V.2.2.2.1 hF2 (pz_et hE (pz_em V.2.2.2.2.2 (by decide +kernel))) ?_ ?_ l0' l1' (by omega) (by omega) (by omega)
    · rw [pz_efi hT hk V.2.2.2.2.2 (pz_no_ok (by decide +kernel))]
      exact h3
    · rw [pz_efi hT hk V.2.2.2.2.2 (pz_no_ok (by decide +kernel))]
      exact h4
def pz_paB (c : Cu) : Bool := decide (c.1 = 74) && (decide (c.2.1.2.1 = [(0, 0)]) && (decide (c.2.1.2.2.1 = []) && (decide (lgF c.2.1.2.2.2 = []) && pz_afB c.2.1.1 c.2.1.2.2.2 1)))
theorem pz_kpa : [pn_p0, pn_p1, pn_p2, pn_p3, pn_p4, pn_p5, pn_p6, pn_p7, pn_p8, pn_p9, pn_p10].all pz_paB = true := by decide +kernel
/-- from 70 on -/
theorem pz_p70 {lc : pL} (hU : Uq KTab ks) (hk : ks[mi]? = some 11) (hP : P + CrMax + 12 * 16777216 ≤ PMax) (hT0 : Typed KTab ks P w0) (hG : Good R0) (h38 : (R0.2 38).toInt + (b : Int) = 1) (h380 : 0 ≤ (R0.2 38).toInt) (h56 : (R0.1 56 (R0.2 38).toNatClampNeg).toInt ≤ 6) (hT : Typed KTab ks P w) (hF : FZ KTab ks R w) (hE : Ef ks pz_EN w0 w) (h7 : pz_fi w mi 7 = 0) (h4 : pz_fi w mi 4 = 0) (hR1 : ∀ f, f ≠ 39 → R1.2 f = R0.2 f) (hR2 : R1.1 = R0.1) (hR3 : (R1.2 39).toInt = (b : Int)) (hC : pz_CB b R1 R) (l0 : lGet lc 0 = some (.ref (mi + 3))) : Rs PP FF GM TX xs L 11 mX11_pond 70 lc [] w (pz_QP ks P mi w0) := by
  have g3 := (pz_fd (f := 3) hT hk rfl rfl).1
  have b3 := pz_bd g3
  have e3 : iv (pz_fv w mi 3) = pz_fi w mi 3 := rfl
  obtain ⟨c1, c2, c3, c4, c5, c6, c7, c8, c9⟩ := hC
  refine pz_run0 (vals := [.ref (mi + 3), pz_fv w mi 7, pz_fv w mi 3]) hU (by omega) hT hF pz_hg pn_k (by decide +kernel) (by decide +kernel) (by decide +kernel) (by decide +kernel) (by decide +kernel) (by decide +kernel) ⟨pz_oM hk, pz_fvi hT hk ⟨_, _, rfl, rfl⟩ (by omega) (by omega), g3, trivial⟩ (pz_ac (pz_fkk (f := 7) (s := 1) hT hk rfl rfl rfl rfl) (pz_ac (pz_fkk (f := 3) (s := 2) hT hk rfl rfl rfl rfl) (pz_ac (f10 (show pz_fi w mi 7 ≤ pz_fi w mi 3 + ((2147483648 : Nat) : Int) - 2147483648 by omega)) pz_a0))) (pz_ac l0 pz_a0) ?_ pz_a0
  intro c hc ρ' lc' w1 V hl
  have hB := List.all_eq_true.mp pz_kpa c hc
  simp only [pz_paB, Bool.and_eq_true, decide_eq_true_eq] at hB
  obtain ⟨k1, k2, k3, k4, k5⟩ := hB
  rw [k2] at hl
  rw [k1, k3]
  have e0 : ρ' 0 = .ref (mi + 3) := V.1 0 (by decide)
  have e1 : ρ' 1 = pz_fv w mi 7 := V.1 1 (by decide)
  have l0' : lGet lc' 0 = some (ρ' 0) := hl (0, 0) (by decide)
  rw [e0] at l0'
  have hA := pz_af V.2.1 V.2.2.1 e0 k5
  rw [e1] at hA
  have hA : pz_AF w1 mi (pz_fi w mi 7) := hA
  have hF2 := V.2.2.2.2.1
  rw [k4] at hF2
  have hF2 : FZ KTab ks R w1 := hF2
  have hS : pz_St ks P mi R w1 := ⟨V.2.2.2.1, hF2, hA.2.1⟩
  have f4 : pz_fi w1 mi 4 = 0 := by
    rw [pz_efi hT hk V.2.2.2.2.2 (pz_no_ok (by decide +kernel))]
    exact h4
  have a6 := hA.2.2.1
  have d1 := (pz_df hS hk).1
  show Rs PP FF GM TX xs L 11 mX11_pond 74 lc' [] w1 _
  refine pz_pl hU hk hP hT0 hG h38 h380 h56 1601 R w1 lc' ⟨hS, pz_et hE (pz_em V.2.2.2.2.2 (by decide +kernel)), ?_, fun _ => ⟨hA.1, ?_⟩⟩ (fun _ => by omega) l0'
  · refine ⟨?_, ?_, ?_, ?_, ?_, ?_, ?_⟩
    · rw [c1 38 (by decide), hR1 38 (by decide)]
    · rw [c1 39 (by decide)]
      exact hR3
    · rw [c3 39 (by decide) (by decide) (by decide) (by decide), hR2]
    · rw [c3 40 (by decide) (by decide) (by decide) (by decide), hR2]
    · intro i hi
      rw [c4 i hi, hR2]
    · intro i hi
      have := c7 i (by omega)
      rw [hR2] at this
      exact this
    · intro i hi
      rw [c3 74 (by decide) (by decide) (by decide) (by decide), hR2]
  · refine ⟨by omega, by omega, ?_, ?_⟩
    · intro f t q1 q2
      left
      omega
    · intro r hr
      omega
theorem pz_wg {y : Nat} : evL ρ [(339, y, y, 0)] R = (R.1, fun g => if g = 39 then intV (ρ y) else R.2 g) := by
  show wrR ρ (300 + 39, y, y, 0) R = _
  rw [pz_wf]
theorem pz_p460 {lc : pL} (hU : Uq KTab ks) (hk : ks[mi]? = some 11) (hP : P + CrMax + 12 * 16777216 ≤ PMax) (hT0 : Typed KTab ks P w0) (hG : Good R) (h38 : (R.2 38).toInt = 0) (h56 : (R.1 56 (R.2 38).toNatClampNeg).toInt ≤ 6) (hT : Typed KTab ks P w) (hF : FZ KTab ks R w) (hE : Ef ks pz_EN w0 w) (h4 : pz_fi w mi 4 = 0) (l0 : lGet lc 0 = some (.ref (mi + 3))) : Rs PP FF GM TX xs L 11 mX11_pond 46 lc [] w (pz_QP ks P mi w0) := by
  refine pz_run0 (vals := [.ref (mi + 3), .int (R.2 38)]) hU (by omega) hT hF (fun _ => pz_a0) po30_k (by decide +kernel) (by decide +kernel) (by decide +kernel) (by decide +kernel) (by decide +kernel) (by decide +kernel) ⟨pz_oM hk, pz_oi (by omega) (by omega), trivial⟩ (pz_ac (pz_fkk (f := 38) (s := 1) hT hk rfl rfl rfl (pz_ff (f := 38) hT hF hk rfl rfl).1.symm) pz_a0) (pz_ac l0 pz_a0) (pz_ac ?_ pz_a0) pz_a0
  intro ρ' lc' w1 V hl
  have e0 : ρ' 0 = .ref (mi + 3) := V.1 0 (by decide)
  have e2 := pzv_i V (s := 2) (a := 2147483649) (b := 2147483649) rfl
  have e3 := pzv_b V (s := 3) (a := 2147483648) (b := 2147483648) rfl
  have l0' := hl (0, 0) (by decide +kernel)
  simp only [e0] at l0'
  have hF1 := V.2.2.2.2.1
  rw [show lgF po30_p0.2.1.2.2.2 = [(339, 2, 2, 0)] by decide +kernel, pz_wg] at hF1
  have f7 := pzv_f (f := 7) (mi := mi) (s := 3) V (by decide) rfl (by decide +kernel)
  have hE1 : Ef ks pz_EN w w1 := pz_em V.2.2.2.2.2 (by decide +kernel)
  have g4 : pz_fi w1 mi 4 = 0 := by
    rw [pz_efi hT hk V.2.2.2.2.2 (pz_no_ok (by decide +kernel))]
    exact h4
  show Rs PP FF GM TX xs L (10 + 1) mX11_pond 67 lc' [ρ' 0] w1 _
  rw [e0]
  refine pz_call (i := 164) (j := 140) (M' := mX11_clearBank) (by decide +kernel) (by decide +kernel) rfl rfl V.2.2.2.1 hk (by decide) (by decide) (pz_cb1 (R := (R.1, fun g => if g = 39 then intV (ρ' 2) else R.2 g)) hU hk hP V.2.2.2.1 hF1 (show (intV (ρ' 2)).toInt = 1 by omega) pz_la) ?_
  intro v w2 hq
  obtain ⟨rfl, R2, s1, s2, s3, s4⟩ := hq
  show Rs PP FF GM TX xs L 11 mX11_pond 70 lc' [] w2 _
  refine pz_p70 (R0 := R) (b := 1) (R1 := (R.1, fun g => if g = 39 then intV (ρ' 2) else R.2 g)) hU hk hP hT0 hG (by omega) (by omega) h56 s1 s2 (pz_et hE (pz_et hE1 (pz_em s3 (by decide +kernel)))) ?_ ?_ (fun f hf => if_neg hf) rfl (show (intV (ρ' 2)).toInt = ((1 : Nat) : Int) by omega) s4 l0'
  · rw [pz_efi V.2.2.2.1 hk s3 (pz_no_ok (by decide +kernel))]
    unfold pz_fi
    rw [f7]
    omega
  · rw [pz_efi V.2.2.2.1 hk s3 (pz_no_ok (by decide +kernel))]
    exact g4
theorem pz_p461 {lc : pL} (hU : Uq KTab ks) (hk : ks[mi]? = some 11) (hP : P + CrMax + 12 * 16777216 ≤ PMax) (hT0 : Typed KTab ks P w0) (hG : Good R) (h38 : (R.2 38).toInt = 1) (h56 : (R.1 56 (R.2 38).toNatClampNeg).toInt ≤ 6) (hT : Typed KTab ks P w) (hF : FZ KTab ks R w) (hE : Ef ks pz_EN w0 w) (h4 : pz_fi w mi 4 = 0) (l0 : lGet lc 0 = some (.ref (mi + 3))) : Rs PP FF GM TX xs L 11 mX11_pond 46 lc [] w (pz_QP ks P mi w0) := by
  refine pz_run0 (vals := [.ref (mi + 3), .int (R.2 38)]) hU (by omega) hT hF (fun _ => pz_a0) po31_k (by decide +kernel) (by decide +kernel) (by decide +kernel) (by decide +kernel) (by decide +kernel) (by decide +kernel) ⟨pz_oM hk, pz_oi (by omega) (by omega), trivial⟩ (pz_ac (pz_fkk (f := 38) (s := 1) hT hk rfl rfl rfl (pz_ff (f := 38) hT hF hk rfl rfl).1.symm) pz_a0) (pz_ac l0 pz_a0) (pz_ac ?_ pz_a0) pz_a0
  intro ρ' lc' w1 V hl
  have e0 : ρ' 0 = .ref (mi + 3) := V.1 0 (by decide)
  have e2 := pzv_i V (s := 2) (a := 2147483648) (b := 2147483648) rfl
  have e3 := pzv_b V (s := 3) (a := 2147483648) (b := 2147483648) rfl
  have l0' := hl (0, 0) (by decide +kernel)
  simp only [e0] at l0'
  have hF1 := V.2.2.2.2.1
  rw [show lgF po31_p0.2.1.2.2.2 = [(339, 2, 2, 0)] by decide +kernel, pz_wg] at hF1
  have f7 := pzv_f (f := 7) (mi := mi) (s := 3) V (by decide) rfl (by decide +kernel)
  have hE1 : Ef ks pz_EN w w1 := pz_em V.2.2.2.2.2 (by decide +kernel)
  have g4 : pz_fi w1 mi 4 = 0 := by
    rw [pz_efi hT hk V.2.2.2.2.2 (pz_no_ok (by decide +kernel))]
    exact h4
  show Rs PP FF GM TX xs L (10 + 1) mX11_pond 67 lc' [ρ' 0] w1 _
  rw [e0]
  refine pz_call (i := 164) (j := 140) (M' := mX11_clearBank) (by decide +kernel) (by decide +kernel) rfl rfl V.2.2.2.1 hk (by decide) (by decide) (pz_cb0 (R := (R.1, fun g => if g = 39 then intV (ρ' 2) else R.2 g)) hU hk hP V.2.2.2.1 hF1 (show (intV (ρ' 2)).toInt = 0 by omega) pz_la) ?_
  intro v w2 hq
  obtain ⟨rfl, R2, s1, s2, s3, s4⟩ := hq
  show Rs PP FF GM TX xs L 11 mX11_pond 70 lc' [] w2 _
  refine pz_p70 (R0 := R) (b := 0) (R1 := (R.1, fun g => if g = 39 then intV (ρ' 2) else R.2 g)) hU hk hP hT0 hG (by omega) (by omega) h56 s1 s2 (pz_et hE (pz_et hE1 (pz_em s3 (by decide +kernel)))) ?_ ?_ (fun f hf => if_neg hf) rfl (show (intV (ρ' 2)).toInt = ((0 : Nat) : Int) by omega) s4 l0'
  · rw [pz_efi V.2.2.2.1 hk s3 (pz_no_ok (by decide +kernel))]
    unfold pz_fi
    rw [f7]
    omega
  · rw [pz_efi V.2.2.2.1 hk s3 (pz_no_ok (by decide +kernel))]
    exact g4
end PZU

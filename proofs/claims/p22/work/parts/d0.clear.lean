/-! pond: its first part -/
section PZP
variable {ks : List Nat} {P : Nat} {w w0 w1 w2 w' : pW} {mi : Nat} {R R1 R2 R' R0 : pR} {xs : Nat → Int32} {L : Nat} {eff : List (Nat × Nat)} {b : Nat} {ρ : Nat → Value} {ds : List Ds} {me : List Fa}
def pz_EN : List (Nat × Nat) := (11, 2) :: (11, 3) :: (11, 39) :: (51, 999) :: pz_EP
def pz_EC : List (Nat × Nat) := [(11, 40), (52, 999), (53, 999), (54, 999), (55, 999), (56, 999), (57, 999), (58, 999), (59, 999), (61, 999), (62, 999), (68, 999), (69, 999), (70, 999), (71, 999)]
theorem pz_en0 {vals : List Value} {lcA : List (Nat × Nat)} {stA : List Nat} {lc : pL} (hT : Typed KTab ks P w) (hF : FZ KTab ks R w) (hP : P ≤ PMax) (hd : pz_SdL ks P vals ds) (hx : ∀ f ∈ me, okF P (pz_rho vals) w f) (hwf : me.all (wfF ds.length) = true) (hlc : ∀ q ∈ lcA, lGet lc q.1 = some (pz_rho vals q.2)) (hlw : lcA.all (fun q => Nat.ble (q.2 + 1) ds.length) = true) (hsw : stA.all (fun s => Nat.ble (s + 1) ds.length) = true) : Ga KTab (FZ KTab ks R) ks P ds.length (pz_rho vals) eff w (ds, lcA, stA, me, 0) (pz_rho vals) lc (stA.map (pz_rho vals)) w :=
  ⟨pz_SdL_ok hd, fun q hq => ⟨hlc q hq, by have := List.all_eq_true.mp hlw q hq; rw [nbl] at this; exact this⟩, ⟨rfl, fun s hs => by have := List.all_eq_true.mp hsw s hs; rw [nbl] at this; exact this⟩, fun f hf => ⟨hx f hf, wfF_ok (List.all_eq_true.mp hwf f hf)⟩, hT, hF, fun i k hk => ⟨fun _ a ha => ha, fun ci fs h => ⟨fs, h, fun _ _ => rfl⟩⟩, fun s _ => rfl, Nat.le_refl _, hP, Nat.zero_le _⟩
theorem pz_run0 {cts : List Ctr} {ants : List (Nat × List (Nat × List An))} {n d pc : Nat} {M : pM} {an : List (Nat × List An)} {cuts : List Nat} {pats : List Cu} {pos : List Po} {vals : List Value} {lcA : List (Nat × Nat)} {stA : List Nat} {lc : pL} {Q : Option Value → pW → Prop} (hU : Uq KTab ks) (hP : P + CrMax + d * 16777216 ≤ PMax) (hT : Typed KTab ks P w) (hF : FZ KTab ks R w) (hC : ∀ R, ∀ c ∈ cts, CK KTab (FZ KTab ks R) ks PP FF GM xs L c)
    (h : chkZ (KTab, FF, PP, GM, eff, cts, ants, none) n d M an cuts pc (ds, lcA, stA, me, 0) pats pos = true) (hwc : pats.all wfU = true) (hwp : pos.all (wfP ds.length) = true) (hl : lgF me = []) (hwf : me.all (wfF ds.length) = true) (hlw : lcA.all (fun q => Nat.ble (q.2 + 1) ds.length) = true) (hsw : stA.all (fun s => Nat.ble (s + 1) ds.length) = true)
    (hd : pz_SdL ks P vals ds) (hx : ∀ f ∈ me, okF P (pz_rho vals) w f) (hlc : ∀ q ∈ lcA, lGet lc q.1 = some (pz_rho vals q.2))
    (kc : ∀ c ∈ pats, ∀ (ρ' : Nat → Value) (lc' : pL) (w' : pW), pz_V ks P R eff w ds.length (pz_rho vals) c.2.1.1 c.2.1.2.2.2 ρ' w' → (∀ q ∈ c.2.1.2.1, lGet lc' q.1 = some (ρ' q.2)) → Rs PP FF GM TX xs L d M c.1 lc' (c.2.1.2.2.1.map ρ') w' Q)
    (kr : ∀ p ∈ pos, ∀ (ρ' : Nat → Value) (w' : pW), pz_V ks P R eff w ds.length (pz_rho vals) p.2.1 p.2.2 ρ' w' → Q (p.1.map ρ') w') : Rs PP FF GM TX xs L d M pc lc (stA.map (pz_rho vals)) w Q :=
  pz_seg hU hC h hwc hwp hl (pz_en0 hT hF (by omega) hd hx hwf hlc hlw hsw) hP kc kr
theorem pz_fkk {f s : Nat} {d : Ds} {ρ : Nat → Value} {ci : Nat} {fds : List Ds} (hT : Typed KTab ks P w) (hk : ks[mi]? = some 11) (hK : KTab[11]? = some (.inl (ci, fds))) (hf : fds[f]? = some d) (h0 : ρ 0 = .ref (mi + 3)) (hs : ρ s = pz_fv w mi f) : okF P ρ w (1000 + f, 0, 0, s) := by
  obtain ⟨-, fs, a1, a2⟩ := pz_fd (f := f) hT hk hK hf
  refine fk (k := f) ⟨mi + 3, ci, fs, h0, ?_, ?_⟩
  · rw [wAt3]
    exact a1
  · rw [hs]
    exact a2
theorem pz_oM (hk : ks[mi]? = some 11) : okD ks P (1, 11, 0) (.ref (mi + 3)) := ⟨mi, rfl, hk⟩
/-- the record behind clearBank -/
def pz_CB (b : Nat) (R R' : pR) : Prop := (∀ f, f ≠ 40 → R'.2 f = R.2 f) ∧ (R'.2 40).toInt = 580 * (b : Int) ∧ (∀ k, k ≠ 56 → k ≠ 58 → k ≠ 61 → k ≠ 62 → R'.1 k = R.1 k) ∧ (∀ i, i ≠ b → R'.1 56 i = R.1 56 i) ∧ (R'.1 56 b).toInt = 0 ∧ (R'.1 58 b).toInt = 0 ∧ (∀ i, i ≠ 7 * b + 6 → R'.1 61 i = R.1 61 i ∧ R'.1 62 i = R.1 62 i) ∧ (R'.1 61 (7 * b + 6)).toInt = 0 ∧ (R'.1 62 (7 * b + 6)).toInt = 0
theorem pz_wc : evL ρ [(340, 3, 3, 0), (158, 1, 4, 0), (156, 1, 5, 0)] R = (fun k => if k = 58 then upd (if k = 56 then upd (R.1 k) (intV (ρ 1)).toNatClampNeg (intV (ρ 5)) else R.1 k) (intV (ρ 1)).toNatClampNeg (intV (ρ 4)) else if k = 56 then upd (R.1 k) (intV (ρ 1)).toNatClampNeg (intV (ρ 5)) else R.1 k, fun g => if g = 40 then intV (ρ 3) else R.2 g) := by
  show wrR ρ (300 + 40, 3, 3, 0) (wrR ρ (100 + 58, 1, 4, 0) (wrR ρ (100 + 56, 1, 5, 0) R)) = _
  rw [pz_wf, pz_wr (by decide), pz_wr (by decide)]
theorem pz_wd : evL ρ [(162, 3, 4, 0), (161, 5, 6, 0)] R = (fun k => if k = 62 then upd (if k = 61 then upd (R.1 k) (intV (ρ 5)).toNatClampNeg (intV (ρ 6)) else R.1 k) (intV (ρ 3)).toNatClampNeg (intV (ρ 4)) else if k = 61 then upd (R.1 k) (intV (ρ 5)).toNatClampNeg (intV (ρ 6)) else R.1 k, R.2) := by
  show wrR ρ (100 + 62, 3, 4, 0) (wrR ρ (100 + 61, 5, 6, 0) R) = _
  rw [pz_wr (by decide), pz_wr (by decide)]
theorem pz_cbr {x3 x4 x5 y3 y4 y5 y6 : Int32} {i1 : Nat} (h1 : i1 = b) (h3 : x3.toInt = 580 * (b : Int)) (h4 : x4.toInt = 0) (h5 : x5.toInt = 0) (g3 : y3.toNatClampNeg = 7 * b + 6) (g4 : y4.toInt = 0) (g5 : y5.toNatClampNeg = 7 * b + 6) (g6 : y6.toInt = 0) (hR1 : R1 = (fun k => if k = 58 then upd (if k = 56 then upd (R.1 k) i1 x5 else R.1 k) i1 x4 else if k = 56 then upd (R.1 k) i1 x5 else R.1 k, fun g => if g = 40 then x3 else R.2 g)) (hR2 : R2 = (fun k => if k = 62 then upd (if k = 61 then upd (R1.1 k) y5.toNatClampNeg y6 else R1.1 k) y3.toNatClampNeg y4 else if k = 61 then upd (R1.1 k) y5.toNatClampNeg y6 else R1.1 k, R1.2)) : pz_CB b R R2 := by
  subst h1
  rw [g3, g5] at hR2
  have a1 : ∀ k, k ≠ 61 → k ≠ 62 → R2.1 k = R1.1 k := by
    intro k q1 q2
    rw [hR2]
    show (if k = 62 then _ else if k = 61 then _ else R1.1 k) = _
    rw [if_neg q2, if_neg q1]
  have a61 : R2.1 61 = upd (R1.1 61) (7 * i1 + 6) y6 := by
    rw [hR2]
    rfl
  have a62 : R2.1 62 = upd (R1.1 62) (7 * i1 + 6) y4 := by
    rw [hR2]
    rfl
  have a2 : R2.2 = R1.2 := by rw [hR2]
  have b1 : ∀ k, k ≠ 56 → k ≠ 58 → R1.1 k = R.1 k := by
    intro k q1 q2
    rw [hR1]
    show (if k = 58 then _ else if k = 56 then _ else R.1 k) = _
    rw [if_neg q2, if_neg q1]
  have b56 : R1.1 56 = upd (R.1 56) i1 x5 := by
    rw [hR1]
    rfl
  have b58 : R1.1 58 = upd (R.1 58) i1 x4 := by
    rw [hR1]
    rfl
  have b2 : R1.2 = fun g => if g = 40 then x3 else R.2 g := by rw [hR1]
  refine ⟨?_, ?_, ?_, ?_, ?_, ?_, ?_, ?_, ?_⟩
  · intro f hf
    rw [a2, b2]
    exact if_neg hf
  · rw [a2, b2]
    exact h3
  · intro k q1 q2 q3 q4
    rw [a1 k q3 q4, b1 k q1 q2]
  · intro i hi
    rw [a1 56 (by decide) (by decide), b56, pk_un hi]
  · rw [a1 56 (by decide) (by decide), b56, pk_us]
    exact h5
  · rw [a1 58 (by decide) (by decide), b58, pk_us]
    exact h4
  · intro i hi
    rw [a61, a62, pk_un hi, pk_un hi, b1 61 (by decide) (by decide), b1 62 (by decide) (by decide)]
    exact ⟨rfl, rfl⟩
  · rw [a61, pk_us]
    exact g6
  · rw [a62, pk_us]
    exact g4
theorem pz_cl0 (hU : Uq KTab ks) (hk : ks[mi]? = some 11) (hP : P + CrMax + 12 * 16777216 ≤ PMax) {Q : Option Value → pW → Prop} (h39 : (R.2 39).toInt = 0) (K : ∀ (lc : pL) (w1 : pW) (x : Int32), Typed KTab ks P w1 → FZ KTab ks R w1 → Ef ks pz_EC w0 w1 → lGet lc 0 = some (.ref (mi + 3)) → lGet lc 1 = some (.int x) → x.toInt = 25 → Rs PP FF GM TX xs L 10 mX11_clearBank 121 lc [] w1 Q) : ∀ (m : Nat) (lc : pL) (w1 : pW) (x : Int32), Typed KTab ks P w1 → FZ KTab ks R w1 → Ef ks pz_EC w0 w1 → lGet lc 0 = some (.ref (mi + 3)) → lGet lc 1 = some (.int x) → 0 ≤ x.toInt → x.toInt + (m : Int) = 25 → Rs PP FF GM TX xs L 10 mX11_clearBank 121 lc [] w1 Q := by
  intro m
  induction m with
  | zero =>
    intro lc w1 x hT hF hE l0 l1 h0 hm
    exact K lc w1 x hT hF hE l0 l1 (by omega)
  | succ m ih =>
    intro lc w1 x hT hF hE l0 l1 h0 hm
    refine pz_run0 (vals := [.ref (mi + 3), .int (R.2 39), .int x]) hU (by omega) hT hF (fun _ => pz_a0) cb10_k (by decide +kernel) (by decide +kernel) (by decide +kernel) (by decide +kernel) (by decide +kernel) (by decide +kernel) ⟨pz_oM hk, pz_oi (by omega) (by omega), pz_oi (by omega) (by omega), trivial⟩ (pz_ac (pz_fkk (f := 39) (s := 1) hT hk rfl rfl rfl (pz_ff (f := 39) hT hF hk rfl rfl).1.symm) pz_a0) (pz_ac l0 (pz_ac l1 pz_a0)) (pz_ac ?_ pz_a0) pz_a0
    intro ρ' lc' w2 V hl
    have e0 : ρ' 0 = .ref (mi + 3) := V.1 0 (by decide)
    have e2 : ρ' 2 = .int x := V.1 2 (by decide)
    have e3 := pzv_i V (s := 3) (a := 2147483649) (b := 2147483673) rfl
    have k1 := pzv_l V (x := 2) (y := 3) (p := 0) (m := 1) (by decide +kernel)
    have k2 := pzv_l V (x := 3) (y := 2) (p := 1) (m := 0) (by decide +kernel)
    rw [e2, iv_int] at k1 k2
    have l0' := hl (0, 0) (by decide +kernel)
    have l1' := hl (1, 3) (by decide +kernel)
    simp only [e0] at l0'
    simp only at l1'
    rw [e3.1] at l1'
    have hF2 := V.2.2.2.2.1
    rw [show lgF cb10_p0.2.1.2.2.2 = [] by decide +kernel] at hF2
    exact ih lc' w2 (intV (ρ' 3)) V.2.2.2.1 hF2 (pz_et hE (pz_em V.2.2.2.2.2 (by decide +kernel))) l0' l1' (by omega) (by omega)
theorem pz_cb0 {lc : pL} (hU : Uq KTab ks) (hk : ks[mi]? = some 11) (hP : P + CrMax + 12 * 16777216 ≤ PMax) (hT : Typed KTab ks P w) (hF : FZ KTab ks R w) (h39 : (R.2 39).toInt = 0) (l0 : lGet lc 0 = some (.ref (mi + 3))) : Rs PP FF GM TX xs L 10 mX11_clearBank 0 lc [] w (fun v w' => v = none ∧ ∃ R', Typed KTab ks P w' ∧ FZ KTab ks R' w' ∧ Ef ks pz_EC w w' ∧ pz_CB 0 R R') := by
  refine pz_run0 (vals := [.ref (mi + 3), .int (R.2 39)]) hU (by omega) hT hF (fun _ => pz_a0) cb00_k (by decide +kernel) (by decide +kernel) (by decide +kernel) (by decide +kernel) (by decide +kernel) (by decide +kernel) ⟨pz_oM hk, pz_oi (by omega) (by omega), trivial⟩ (pz_ac (pz_fkk (f := 39) (s := 1) hT hk rfl rfl rfl (pz_ff (f := 39) hT hF hk rfl rfl).1.symm) pz_a0) (pz_ac l0 pz_a0) (pz_ac ?_ pz_a0) pz_a0
  intro ρ' lc' w1 V hl
  have e0 : ρ' 0 = .ref (mi + 3) := V.1 0 (by decide)
  have e1 : ρ' 1 = .int (R.2 39) := V.1 1 (by decide)
  have e2 := pzv_i V (s := 2) (a := 2147483648) (b := 2147483648) rfl
  have e3 := pzv_i V (s := 3) (a := 2147483648) (b := 2147483648) rfl
  have e4 := pzv_i V (s := 4) (a := 2147483648) (b := 2147483648) rfl
  have e5 := pzv_i V (s := 5) (a := 2147483648) (b := 2147483648) rfl
  have l0' := hl (0, 0) (by decide +kernel)
  have l1' := hl (1, 2) (by decide +kernel)
  simp only [e0] at l0'
  simp only at l1'
  rw [e2.1] at l1'
  have hF1 := V.2.2.2.2.1
  rw [show lgF cb00_p0.2.1.2.2.2 = [(340, 3, 3, 0), (158, 1, 4, 0), (156, 1, 5, 0)] by decide +kernel, pz_wc] at hF1
  have hE1 : Ef ks pz_EC w w1 := pz_em V.2.2.2.2.2 (by decide +kernel)
  refine pz_cl0 (w0 := w) hU hk hP (R := (fun k => if k = 58 then upd (if k = 56 then upd (R.1 k) (intV (ρ' 1)).toNatClampNeg (intV (ρ' 5)) else R.1 k) (intV (ρ' 1)).toNatClampNeg (intV (ρ' 4)) else if k = 56 then upd (R.1 k) (intV (ρ' 1)).toNatClampNeg (intV (ρ' 5)) else R.1 k, fun g => if g = 40 then intV (ρ' 3) else R.2 g)) h39 ?_ 25 lc' w1 (intV (ρ' 2)) V.2.2.2.1 hF1 hE1 l0' l1' (by omega) (by omega)
  intro lc2 w2 x hT2 hF2 hE2 m0 m1 hx
  refine pz_run0 (vals := [.ref (mi + 3), .int (R.2 39), .int x]) hU (by omega) hT2 hF2 (fun _ => pz_a0) cb20_k (by decide +kernel) (by decide +kernel) (by decide +kernel) (by decide +kernel) (by decide +kernel) (by decide +kernel) ⟨pz_oM hk, pz_oi (by omega) (by omega), pz_oi (by omega) (by omega), trivial⟩ (pz_ac (pz_fkk (f := 39) (s := 1) hT2 hk rfl rfl rfl (pz_ff (f := 39) hT2 hF2 hk rfl rfl).1.symm) pz_a0) (pz_ac m0 (pz_ac m1 pz_a0)) pz_a0 (pz_ac ?_ pz_a0)
  intro ρ2 w3 V2
  have u3 := pzv_i V2 (s := 3) (a := 2147483654) (b := 2147483654) rfl
  have u4 := pzv_i V2 (s := 4) (a := 2147483648) (b := 2147483648) rfl
  have u5 := pzv_i V2 (s := 5) (a := 2147483654) (b := 2147483654) rfl
  have u6 := pzv_i V2 (s := 6) (a := 2147483648) (b := 2147483648) rfl
  have hF3 := V2.2.2.2.2.1
  rw [show lgF cb20_q0.2.2 = [(162, 3, 4, 0), (161, 5, 6, 0)] by decide +kernel, pz_wd] at hF3
  have c3 := clamp_toInt (x := intV (ρ2 3)) (by omega)
  have c5 := clamp_toInt (x := intV (ρ2 5)) (by omega)
  have i1 : (intV (ρ' 1)).toNatClampNeg = 0 := by
    rw [e1]
    show (R.2 39).toNatClampNeg = 0
    have := clamp_toInt (x := R.2 39) (by omega)
    omega
  exact ⟨rfl, _, V2.2.2.2.1, hF3, pz_et hE2 (pz_em V2.2.2.2.2.2 (by decide +kernel)), pz_cbr i1 (by omega) (by omega) (by omega) (by omega) (by omega) (by omega) (by omega) rfl rfl⟩
theorem pz_cl1 (hU : Uq KTab ks) (hk : ks[mi]? = some 11) (hP : P + CrMax + 12 * 16777216 ≤ PMax) {Q : Option Value → pW → Prop} (h39 : (R.2 39).toInt = 1) (K : ∀ (lc : pL) (w1 : pW) (x : Int32), Typed KTab ks P w1 → FZ KTab ks R w1 → Ef ks pz_EC w0 w1 → lGet lc 0 = some (.ref (mi + 3)) → lGet lc 1 = some (.int x) → x.toInt = 50 → Rs PP FF GM TX xs L 10 mX11_clearBank 121 lc [] w1 Q) : ∀ (m : Nat) (lc : pL) (w1 : pW) (x : Int32), Typed KTab ks P w1 → FZ KTab ks R w1 → Ef ks pz_EC w0 w1 → lGet lc 0 = some (.ref (mi + 3)) → lGet lc 1 = some (.int x) → 25 ≤ x.toInt → x.toInt + (m : Int) = 50 → Rs PP FF GM TX xs L 10 mX11_clearBank 121 lc [] w1 Q := by
  intro m
  induction m with
  | zero =>
    intro lc w1 x hT hF hE l0 l1 h0 hm
    exact K lc w1 x hT hF hE l0 l1 (by omega)
  | succ m ih =>
    intro lc w1 x hT hF hE l0 l1 h0 hm
    refine pz_run0 (vals := [.ref (mi + 3), .int (R.2 39), .int x]) hU (by omega) hT hF (fun _ => pz_a0) cb11_k (by decide +kernel) (by decide +kernel) (by decide +kernel) (by decide +kernel) (by decide +kernel) (by decide +kernel) ⟨pz_oM hk, pz_oi (by omega) (by omega), pz_oi (by omega) (by omega), trivial⟩ (pz_ac (pz_fkk (f := 39) (s := 1) hT hk rfl rfl rfl (pz_ff (f := 39) hT hF hk rfl rfl).1.symm) pz_a0) (pz_ac l0 (pz_ac l1 pz_a0)) (pz_ac ?_ pz_a0) pz_a0
    intro ρ' lc' w2 V hl
    have e0 : ρ' 0 = .ref (mi + 3) := V.1 0 (by decide)
    have e2 : ρ' 2 = .int x := V.1 2 (by decide)
    have e3 := pzv_i V (s := 3) (a := 2147483674) (b := 2147483698) rfl
    have k1 := pzv_l V (x := 2) (y := 3) (p := 0) (m := 1) (by decide +kernel)
    have k2 := pzv_l V (x := 3) (y := 2) (p := 1) (m := 0) (by decide +kernel)
    rw [e2, iv_int] at k1 k2
    have l0' := hl (0, 0) (by decide +kernel)
    have l1' := hl (1, 3) (by decide +kernel)
    simp only [e0] at l0'
    simp only at l1'
    rw [e3.1] at l1'
    have hF2 := V.2.2.2.2.1
    rw [show lgF cb11_p0.2.1.2.2.2 = [] by decide +kernel] at hF2
    exact ih lc' w2 (intV (ρ' 3)) V.2.2.2.1 hF2 (pz_et hE (pz_em V.2.2.2.2.2 (by decide +kernel))) l0' l1' (by omega) (by omega)
theorem pz_cb1 {lc : pL} (hU : Uq KTab ks) (hk : ks[mi]? = some 11) (hP : P + CrMax + 12 * 16777216 ≤ PMax) (hT : Typed KTab ks P w) (hF : FZ KTab ks R w) (h39 : (R.2 39).toInt = 1) (l0 : lGet lc 0 = some (.ref (mi + 3))) : Rs PP FF GM TX xs L 10 mX11_clearBank 0 lc [] w (fun v w' => v = none ∧ ∃ R', Typed KTab ks P w' ∧ FZ KTab ks R' w' ∧ Ef ks pz_EC w w' ∧ pz_CB 1 R R') := by
  refine pz_run0 (vals := [.ref (mi + 3), .int (R.2 39)]) hU (by omega) hT hF (fun _ => pz_a0) cb01_k (by decide +kernel) (by decide +kernel) (by decide +kernel) (by decide +kernel) (by decide +kernel) (by decide +kernel) ⟨pz_oM hk, pz_oi (by omega) (by omega), trivial⟩ (pz_ac (pz_fkk (f := 39) (s := 1) hT hk rfl rfl rfl (pz_ff (f := 39) hT hF hk rfl rfl).1.symm) pz_a0) (pz_ac l0 pz_a0) (pz_ac ?_ pz_a0) pz_a0
  intro ρ' lc' w1 V hl
  have e0 : ρ' 0 = .ref (mi + 3) := V.1 0 (by decide)
  have e1 : ρ' 1 = .int (R.2 39) := V.1 1 (by decide)
  have e2 := pzv_i V (s := 2) (a := 2147483673) (b := 2147483673) rfl
  have e3 := pzv_i V (s := 3) (a := 2147484228) (b := 2147484228) rfl
  have e4 := pzv_i V (s := 4) (a := 2147483648) (b := 2147483648) rfl
  have e5 := pzv_i V (s := 5) (a := 2147483648) (b := 2147483648) rfl
  have l0' := hl (0, 0) (by decide +kernel)
  have l1' := hl (1, 2) (by decide +kernel)
  simp only [e0] at l0'
  simp only at l1'
  rw [e2.1] at l1'
  have hF1 := V.2.2.2.2.1
  rw [show lgF cb01_p0.2.1.2.2.2 = [(340, 3, 3, 0), (158, 1, 4, 0), (156, 1, 5, 0)] by decide +kernel, pz_wc] at hF1
  have hE1 : Ef ks pz_EC w w1 := pz_em V.2.2.2.2.2 (by decide +kernel)
  refine pz_cl1 (w0 := w) hU hk hP (R := (fun k => if k = 58 then upd (if k = 56 then upd (R.1 k) (intV (ρ' 1)).toNatClampNeg (intV (ρ' 5)) else R.1 k) (intV (ρ' 1)).toNatClampNeg (intV (ρ' 4)) else if k = 56 then upd (R.1 k) (intV (ρ' 1)).toNatClampNeg (intV (ρ' 5)) else R.1 k, fun g => if g = 40 then intV (ρ' 3) else R.2 g)) h39 ?_ 25 lc' w1 (intV (ρ' 2)) V.2.2.2.1 hF1 hE1 l0' l1' (by omega) (by omega)
  intro lc2 w2 x hT2 hF2 hE2 m0 m1 hx
  refine pz_run0 (vals := [.ref (mi + 3), .int (R.2 39), .int x]) hU (by omega) hT2 hF2 (fun _ => pz_a0) cb21_k (by decide +kernel) (by decide +kernel) (by decide +kernel) (by decide +kernel) (by decide +kernel) (by decide +kernel) ⟨pz_oM hk, pz_oi (by omega) (by omega), pz_oi (by omega) (by omega), trivial⟩ (pz_ac (pz_fkk (f := 39) (s := 1) hT2 hk rfl rfl rfl (pz_ff (f := 39) hT2 hF2 hk rfl rfl).1.symm) pz_a0) (pz_ac m0 (pz_ac m1 pz_a0)) pz_a0 (pz_ac ?_ pz_a0)
  intro ρ2 w3 V2
  have u3 := pzv_i V2 (s := 3) (a := 2147483661) (b := 2147483661) rfl
  have u4 := pzv_i V2 (s := 4) (a := 2147483648) (b := 2147483648) rfl
  have u5 := pzv_i V2 (s := 5) (a := 2147483661) (b := 2147483661) rfl
  have u6 := pzv_i V2 (s := 6) (a := 2147483648) (b := 2147483648) rfl
  have hF3 := V2.2.2.2.2.1
  rw [show lgF cb21_q0.2.2 = [(162, 3, 4, 0), (161, 5, 6, 0)] by decide +kernel, pz_wd] at hF3
  have c3 := clamp_toInt (x := intV (ρ2 3)) (by omega)
  have c5 := clamp_toInt (x := intV (ρ2 5)) (by omega)
  have i1 : (intV (ρ' 1)).toNatClampNeg = 1 := by
    rw [e1]
    show (R.2 39).toNatClampNeg = 1
    have := clamp_toInt (x := R.2 39) (by omega)
    omega
  exact ⟨rfl, _, V2.2.2.2.1, hF3, pz_et hE2 (pz_em V2.2.2.2.2.2 (by decide +kernel)), pz_cbr i1 (by omega) (by omega) (by omega) (by omega) (by omega) (by omega) (by omega) rfl rfl⟩
end PZP

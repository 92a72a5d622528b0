/-! how a segment of the parser is entered and left -/
def pz_St (ks : List Nat) (P mi : Nat) (R : pR) (w : pW) : Prop := Typed KTab ks P w ∧ FZ KTab ks R w ∧ pz_O w mi
def pz_D (tok fk nm co wi pi ui un : Ds) (dx : List Ds) : List Ds := (1, 11, 0) :: (0, 2147483648, 2147485248) :: (0, 2147483648, 2147485248) :: (0, 2147483648, 2147485248) :: tok :: fk :: nm :: (0, 2147483648, 2147483649) :: co :: wi :: pi :: ui :: (1, 58, 0) :: un :: (1, 51, 0) :: dx
section PZE
variable {ks : List Nat} {P : Nat} {w w' : pW} {mi : Nat} {R : pR} {xs : Nat → Int32} {L : Nat} {eff : List (Nat × Nat)}
theorem pz_oi {lo hi : Nat} {x : Int32} (h1 : (lo : Int) ≤ x.toInt + 2147483648) (h2 : x.toInt + 2147483648 ≤ (hi : Int)) : okD ks P (0, lo, hi) (.int x) := oD0 ⟨x, rfl, h1, h2⟩
/-- ranges that every state has -/
theorem pz_df (hS : pz_St ks P mi R w) (hk : ks[mi]? = some 11) : (0 ≤ pz_fi w mi 6 ∧ pz_fi w mi 6 ≤ pz_fi w mi 7 ∧ pz_fi w mi 7 ≤ pz_fi w mi 3 ∧ pz_fi w mi 3 ≤ 1600) ∧ (0 ≤ (R.2 39).toInt ∧ (R.2 39).toInt ≤ 1) ∧ (0 ≤ (R.2 40).toInt ∧ (R.2 40).toInt ≤ 1160) ∧ (0 ≤ (R.2 41).toInt ∧ (R.2 41).toInt ≤ 7) ∧ (0 ≤ (R.2 42).toInt ∧ (R.2 42).toInt ≤ 90) ∧ (0 ≤ (R.2 43).toInt ∧ (R.2 43).toInt ≤ 30) ∧ (0 ≤ (R.1 58 (R.2 39).toNatClampNeg).toInt ∧ (R.1 58 (R.2 39).toNatClampNeg).toInt ≤ 90) := by
  obtain ⟨hT, hF, hO⟩ := hS
  have g6 := pz_bd (pz_fd (f := 6) hT hk rfl rfl).1
  have g3 := pz_bd (pz_fd (f := 3) hT hk rfl rfl).1
  obtain ⟨-, a1, a2⟩ := pz_ff (f := 39) hT hF hk rfl rfl
  obtain ⟨-, b1, b2⟩ := pz_ff (f := 40) hT hF hk rfl rfl
  obtain ⟨-, c1, c2⟩ := pz_ff (f := 41) hT hF hk rfl rfl
  obtain ⟨-, d1, d2⟩ := pz_ff (f := 42) hT hF hk rfl rfl
  obtain ⟨-, e1, e2⟩ := pz_ff (f := 43) hT hF hk rfl rfl
  obtain ⟨j, -, u2, -⟩ := pz_row (f := 17) (k := 58) hT hF hk rfl rfl rfl
  have hc := clamp_toInt (x := R.2 39) (by omega)
  obtain ⟨x, ex, f1, f2⟩ := row (k := 58) (j := (R.2 39).toNatClampNeg) hT hF u2 rfl (by omega)
  cases ex
  have g6' : pz_fi w mi 6 = iv (pz_fv w mi 6) := rfl
  have g3' : pz_fi w mi 3 = iv (pz_fv w mi 3) := rfl
  obtain ⟨o1, o2⟩ := hO
  refine ⟨⟨by omega, o1, o2, by omega⟩, ⟨by omega, by omega⟩, ⟨by omega, by omega⟩, ⟨by omega, by omega⟩, ⟨by omega, by omega⟩, ⟨by omega, by omega⟩, ⟨by omega, by omega⟩⟩
theorem pz_sd {tok fk nm co wi pi ui un : Ds} {dx : List Ds} {ex : List Value} (hS : pz_St ks P mi R w) (hk : ks[mi]? = some 11) (h8 : okD ks P tok (pz_fv w mi 8)) (h4 : okD ks P fk (pz_fv w mi 4)) (h10 : okD ks P nm (pz_fv w mi 10)) (h40 : okD ks P co (.int (R.2 40))) (h41 : okD ks P wi (.int (R.2 41))) (h42 : okD ks P pi (.int (R.2 42))) (h43 : okD ks P ui (.int (R.2 43))) (hun : okD ks P un (.int (R.1 58 (R.2 39).toNatClampNeg))) (hx : pz_SdL ks P ex dx) : pz_SdL ks P (pz_vals w mi R ex) (pz_D tok fk nm co wi pi ui un dx) := by
  obtain ⟨⟨a1, a2, a3, a4⟩, ⟨b1, b2⟩, -⟩ := pz_df hS hk
  obtain ⟨hT, hF, hO⟩ := hS
  have g6 := (pz_fd (f := 6) hT hk rfl rfl).1
  have g7 := (pz_fd (f := 7) hT hk rfl rfl).1
  have g3 := (pz_fd (f := 3) hT hk rfl rfl).1
  have g6' : pz_fi w mi 6 = iv (pz_fv w mi 6) := rfl
  have g7' : pz_fi w mi 7 = iv (pz_fv w mi 7) := rfl
  have g3' : pz_fi w mi 3 = iv (pz_fv w mi 3) := rfl
  exact ⟨⟨mi, rfl, hk⟩, pz_rg g6 (by omega) (by omega), pz_rg g7 (by omega) (by omega), pz_rg g3 (by omega) (by omega), h8, h4, h10, pz_oi (by omega) (by omega), h40, h41, h42, h43, (pz_fd (f := 17) hT hk rfl rfl).1, hun, (pz_fd (f := 1) hT hk rfl rfl).1, hx⟩
/-- a segment of the parser, from the layout on -/
theorem pz_run {cts : List Ctr} {ants : List (Nat × List (Nat × List An))} {n d pc : Nat} {M : pM} {an : List (Nat × List An)} {cuts : List Nat} {pats : List Cu} {pos : List Po} {ex : List Value} {tok fk nm co wi pi ui un : Ds} {dx : List Ds} {mex : List Fa} {lcA : List (Nat × Nat)} {stA : List Nat} {lc : pL} {Q : Option Value → pW → Prop} (hU : Uq KTab ks) (hk : ks[mi]? = some 11) (hP : P + CrMax + d * 16777216 ≤ PMax) (hS : pz_St ks P mi R w) (hC : ∀ R, ∀ c ∈ cts, CK KTab (FZ KTab ks R) ks PP FF GM xs L c)
    (h : chkZ (KTab, FF, PP, GM, eff, cts, ants, none) n d M an cuts pc (pz_D tok fk nm co wi pi ui un dx, lcA, stA, pz_UM ++ mex, 0) pats pos = true) (hwc : pats.all wfU = true) (hwp : pos.all (wfP (pz_D tok fk nm co wi pi ui un dx).length) = true) (hl : lgF (pz_UM ++ mex) = []) (hwf : (pz_UM ++ mex).all (wfF (pz_D tok fk nm co wi pi ui un dx).length) = true) (hlw : lcA.all (fun q => Nat.ble (q.2 + 1) (pz_D tok fk nm co wi pi ui un dx).length) = true) (hsw : stA.all (fun s => Nat.ble (s + 1) (pz_D tok fk nm co wi pi ui un dx).length) = true)
    (hd : pz_SdL ks P (pz_vals w mi R ex) (pz_D tok fk nm co wi pi ui un dx)) (hx : ∀ f ∈ mex, okF P (pz_rho (pz_vals w mi R ex)) w f) (hlc : ∀ q ∈ lcA, lGet lc q.1 = some (pz_rho (pz_vals w mi R ex) q.2))
    (kc : ∀ c ∈ pats, ∀ (ρ' : Nat → Value) (lc' : pL) (w' : pW), pz_V ks P R eff w (pz_D tok fk nm co wi pi ui un dx).length (pz_rho (pz_vals w mi R ex)) c.2.1.1 c.2.1.2.2.2 ρ' w' → (∀ q ∈ c.2.1.2.1, lGet lc' q.1 = some (ρ' q.2)) → Rs PP FF GM TX xs L d M c.1 lc' (c.2.1.2.2.1.map ρ') w' Q)
    (kr : ∀ p ∈ pos, ∀ (ρ' : Nat → Value) (w' : pW), pz_V ks P R eff w (pz_D tok fk nm co wi pi ui un dx).length (pz_rho (pz_vals w mi R ex)) p.2.1 p.2.2 ρ' w' → Q (p.1.map ρ') w') : Rs PP FF GM TX xs L d M pc lc (stA.map (pz_rho (pz_vals w mi R ex))) w Q :=
  pz_seg hU hC h hwc hwp hl (pz_ent hS.1 hS.2.1 hk (by omega) hS.2.2 hd hx hwf hlc hlw hsw) hP kc kr
/-! what a segment leaves -/
section PZV
variable {R0 : pR} {n : Nat} {ρ0 ρ : Nat → Value} {ds : List Ds} {me : List Fa}
theorem pzv_b {s a b : Nat} (V : pz_V ks P R0 eff w n ρ0 ds me ρ w') (h : ds[s]? = some (0, a, b)) : (a : Int) ≤ iv (ρ s) + 2147483648 ∧ iv (ρ s) + 2147483648 ≤ (b : Int) := pz_bd (V.2.1 s _ h)
theorem pzv_i {s a b : Nat} (V : pz_V ks P R0 eff w n ρ0 ds me ρ w') (h : ds[s]? = some (0, a, b)) : ρ s = .int (intV (ρ s)) ∧ (intV (ρ s)).toInt = iv (ρ s) ∧ (a : Int) ≤ iv (ρ s) + 2147483648 ∧ iv (ρ s) + 2147483648 ≤ (b : Int) := by
  obtain ⟨x, e, h1, h2⟩ := id (okD0 (V.2.1 s _ h))
  rw [e]
  exact ⟨rfl, rfl, h1, h2⟩
theorem pzv_l {x y p m : Nat} (V : pz_V ks P R0 eff w n ρ0 ds me ρ w') (h : leT ds me x y p m = true) : iv (ρ x) ≤ iv (ρ y) + (p : Int) - (m : Int) := leT_ok V.2.1 V.2.2.1 h
theorem pzv_f {f s : Nat} (V : pz_V ks P R0 eff w n ρ0 ds me ρ w') (hn : 0 < n) (h0 : ρ0 0 = .ref (mi + 3)) (h : fnd me (1000 + f) 0 0 = some s) : pz_fv w' mi f = ρ s := (pz_ff2 V.2.2.1 ((V.1 0 hn).trans h0) h).symm
theorem pzv_S (V : pz_V ks P R0 eff w n ρ0 ds me ρ w') (hO : pz_O w' mi) : pz_St ks P mi (evL ρ (lgF me) R0) w' := ⟨V.2.2.2.1, V.2.2.2.2.1, hO⟩
end PZV
end PZE

/-! the parser by hand: what is read off a world, segments with their own effects -/
def pz_fv (w : pW) (mi f : Nat) : Value := match w[mi]? with
  | some (.inr c) => (c.2[f]?).getD .null
  | _ => .null
def pz_fi (w : pW) (mi f : Nat) : Int := iv (pz_fv w mi f)
def pz_rw (w : pW) (a : Value) : Nat → Int32 := match a with
  | .ref j => (match wAt w j with
    | some (.inl (_, _, .inl g)) => g
    | _ => fun _ => 0)
  | _ => fun _ => 0
def pz_tx (w : pW) (mi : Nat) : Nat → Int32 := pz_rw w (pz_fv w mi 1)
def pz_rho (l : List Value) (s : Nat) : Value := (l[s]?).getD .null
def pz_SdL (ks : List Nat) (P : Nat) : List Value → List Ds → Prop
  | [], [] => True
  | v :: vs, d :: ds => okD ks P d v ∧ pz_SdL ks P vs ds
  | _, _ => False
section PZA
variable {ks : List Nat} {P : Nat} {w w' : pW} {mi : Nat} {R : pR} {ρ : Nat → Value} {xs : Nat → Int32} {L : Nat} {eff : List (Nat × Nat)}
theorem pz_SdL_ok : ∀ {vs : List Value} {ds : List Ds}, pz_SdL ks P vs ds → ∀ s d, ds[s]? = some d → okD ks P d (pz_rho vs s)
  | [], [], _, s, d, h => by cases h
  | v :: vs, d0 :: ds, h, 0, d, hs => by cases hs; exact h.1
  | v :: vs, d0 :: ds, h, s + 1, d, hs => by
    have := pz_SdL_ok h.2 s d hs
    exact this
  | [], _ :: _, h, _, _, _ => h.elim
  | _ :: _, [], h, _, _, _ => h.elim
theorem pz_fd {f ci : Nat} {fds : List Ds} {d : Ds} (hT : Typed KTab ks P w) (hk : ks[mi]? = some 11) (hK : KTab[11]? = some (.inl (ci, fds))) (hd : fds[f]? = some d) : okD ks P d (pz_fv w mi f) ∧ ∃ fs, w[mi]? = some (.inr (ci, fs)) ∧ fs[f]? = some (pz_fv w mi f) := by
  obtain ⟨kd, e, h1, h2, h3⟩ := hT.2 mi 11 hk
  rw [hK] at h1
  cases h1
  rcases e with e | ⟨c, fs⟩
  · exact h3.elim
  · obtain ⟨v, q1, q2⟩ := h3.2.2 f _ hd
    have e0 : c = ci := h3.1
    subst e0
    have e1 : pz_fv w mi f = v := by
      unfold pz_fv
      rw [h2]
      simp only
      simp only at q1
      rw [q1]
      rfl
    rw [e1]
    exact ⟨q2, fs, h2, q1⟩
theorem pz_f {f s : Nat} (h : okF P ρ w (1000 + f, 0, 0, s)) (h0 : ρ 0 = .ref (mi + 3)) : ρ s = pz_fv w mi f := by
  obtain ⟨i, ci, fs, q1, q2, q3⟩ := h.2.2.2.2.2.2.2 (Nat.le_add_right 1000 f)
  simp only at q1 q3
  rw [h0] at q1
  cases q1
  rw [wAt3] at q2
  unfold pz_fv
  rw [q2]
  simp only
  rw [Nat.add_sub_cancel_left] at q3
  rw [q3]
  rfl
theorem pz_t {r i z : Nat} (h1 : okF P ρ w (1000 + 1, 0, 0, r)) (h2 : okF P ρ w (2, r, i, z)) (h0 : ρ 0 = .ref (mi + 3)) : ∃ x : Int32, ρ i = .int x ∧ 0 ≤ x.toInt ∧ ρ z = .int (pz_tx w mi x.toNatClampNeg) := by
  have e := pz_f (f := 1) h1 h0
  obtain ⟨j, x, t, n, g, q1, q2, q3, q4, q5⟩ := h2.1 rfl
  simp only at q1 q2 q4
  refine ⟨x, q2, q5, ?_⟩
  rw [q4]
  unfold pz_tx
  rw [← e, q1]
  unfold pz_rw
  simp only
  rw [q3]
theorem pz_ef {f : Nat} (hT : Typed KTab ks P w) (hk : ks[mi]? = some 11) (hE : Ef ks eff w w') (hne : (11, f) ∉ eff) : pz_fv w' mi f = pz_fv w mi f := by
  obtain ⟨-, fs, a1, -⟩ := pz_fd (f := 3) hT hk rfl rfl
  obtain ⟨fs', b1, b2⟩ := (hE mi 11 hk).2 _ fs a1
  have := b2 f hne
  unfold pz_fv
  rw [a1, b1]
  simp only
  rw [this]
theorem pz_efi {f : Nat} (hT : Typed KTab ks P w) (hk : ks[mi]? = some 11) (hE : Ef ks eff w w') (hne : (11, f) ∉ eff) : pz_fi w' mi f = pz_fi w mi f := by
  unfold pz_fi
  rw [pz_ef hT hk hE hne]
theorem pz_eft (hT : Typed KTab ks P w) (hk : ks[mi]? = some 11) (hE : Ef ks eff w w') (h1 : (11, 1) ∉ eff) (h2 : (51, 999) ∉ eff) : pz_tx w' mi = pz_tx w mi := by
  unfold pz_tx
  rw [pz_ef hT hk hE h1]
  obtain ⟨⟨j, e1, e2⟩, -⟩ := pz_fd (f := 1) hT hk rfl rfl
  rw [e1]
  unfold pz_rw
  simp only
  rw [wAt3, wAt3]
  obtain ⟨kd, e, a1, a2, a3⟩ := hT.2 j 51 e2
  cases a1
  rcases e with a | c
  · have := (hE j 51 e2).1 h2 a a2
    rw [this, a2]
  · exact a3.elim
theorem pz_rg {v : Value} {a b a' b' : Nat} (h : okD ks P (0, a, b) v) (h1 : (a' : Int) ≤ iv v + 2147483648) (h2 : iv v + 2147483648 ≤ (b' : Int)) : okD ks P (0, a', b') v := by
  obtain ⟨x, rfl, -, -⟩ := id (okD0 h)
  exact oD0 ⟨x, rfl, h1, h2⟩
theorem pz_bd {v : Value} {a b : Nat} (h : okD ks P (0, a, b) v) : (a : Int) ≤ iv v + 2147483648 ∧ iv v + 2147483648 ≤ (b : Int) := by
  obtain ⟨x, rfl, h1, h2⟩ := id (okD0 h)
  exact ⟨h1, h2⟩
/-- what holds behind a segment -/
def pz_V (ks : List Nat) (P : Nat) (R0 : pR) (eff : List (Nat × Nat)) (w : pW) (n : Nat) (ρ0 : Nat → Value) (ds : List Ds) (me : List Fa) (ρ : Nat → Value) (w' : pW) : Prop := (∀ s, s < n → ρ s = ρ0 s) ∧ Sd ks P ρ ds ∧ (∀ f ∈ me, okF P ρ w' f) ∧ Typed KTab ks P w' ∧ FZ KTab ks (evL ρ (lgF me) R0) w' ∧ Ef ks eff w w'
theorem pz_seg {cts : List Ctr} {ants : List (Nat × List (Nat × List An))} {n d : Nat} {M : pM} {an : List (Nat × List An)} {cuts : List Nat} {pc : Nat} {σ : aS} {pats : List Cu} {pos : List Po} (hU : Uq KTab ks) (hC : ∀ R, ∀ c ∈ cts, CK KTab (FZ KTab ks R) ks PP FF GM xs L c) (h : chkZ (KTab, FF, PP, GM, eff, cts, ants, none) n d M an cuts pc σ pats pos = true) (hwc : pats.all wfU = true) (hwp : pos.all (wfP σ.1.length) = true) {lc : pL} {st : List Value} {Q : Option Value → pW → Prop} (hl : lgF σ.2.2.2.1 = []) (hG : Ga KTab (FZ KTab ks R) ks P σ.1.length ρ eff w σ ρ lc st w) (hP : P + CrMax + d * 16777216 ≤ PMax)
    (kc : ∀ c ∈ pats, ∀ (ρ' : Nat → Value) (lc' : pL) (w' : pW), pz_V ks P R eff w σ.1.length ρ c.2.1.1 c.2.1.2.2.2 ρ' w' → (∀ q ∈ c.2.1.2.1, lGet lc' q.1 = some (ρ' q.2)) → Rs PP FF GM TX xs L d M c.1 lc' (c.2.1.2.2.1.map ρ') w' Q)
    (kr : ∀ p ∈ pos, ∀ (ρ' : Nat → Value) (w' : pW), pz_V ks P R eff w σ.1.length ρ p.2.1 p.2.2 ρ' w' → Q (p.1.map ρ') w') : Rs PP FF GM TX xs L d M pc lc st w Q := by
  refine seg_ok (E := (KTab, FF, PP, GM, eff, cts, ants, none)) (R0 := R) (xs := xs) (L := L) (P := P) (w0 := w) hU hC h hwc hwp ((GZ_nil hl).mpr hG) hP ?_ ?_
  · intro c hc ρ' lc' st' w' hag hg
    obtain ⟨g1, g2, g3, g4, g5, g6, g7, g8, g9, g10, g11⟩ := hg
    have e3 := g3.1
    subst e3
    exact kc c hc ρ' lc' w' ⟨hag, g1, fun f hf => (g4 f hf).1, g5, g6, g7⟩ (fun q hq => (g2 q hq).1)
  · intro p hp v w' han
    obtain ⟨ρ3, a1, a2, a3, a4, a5, a6, a7⟩ := han
    subst a7
    exact kr p hp ρ3 w' ⟨a1, a2, fun f hf => (a3 f hf).1, a4, a5, a6⟩
/-- the layout that the parser's segments begin with -/
def pz_UM : List Fa := [(1006, 0, 0, 1), (1007, 0, 0, 2), (1003, 0, 0, 3), (1008, 0, 0, 4), (1004, 0, 0, 5), (1010, 0, 0, 6), (1039, 0, 0, 7), (1040, 0, 0, 8), (1041, 0, 0, 9), (1042, 0, 0, 10), (1043, 0, 0, 11), (1017, 0, 0, 12), (2, 12, 7, 13), (1001, 0, 0, 14), (10, 1, 2, 2147483648), (10, 2, 3, 2147483648)]
def pz_vals (w : pW) (mi : Nat) (R : pR) (ex : List Value) : List Value := .ref (mi + 3) :: pz_fv w mi 6 :: pz_fv w mi 7 :: pz_fv w mi 3 :: pz_fv w mi 8 :: pz_fv w mi 4 :: pz_fv w mi 10 :: .int (R.2 39) :: .int (R.2 40) :: .int (R.2 41) :: .int (R.2 42) :: .int (R.2 43) :: pz_fv w mi 17 :: .int (R.1 58 (R.2 39).toNatClampNeg) :: pz_fv w mi 1 :: ex
/-- places in the text: in order -/
def pz_O (w : pW) (mi : Nat) : Prop := pz_fi w mi 6 ≤ pz_fi w mi 7 ∧ pz_fi w mi 7 ≤ pz_fi w mi 3
/-- a row of ints that a field refers to -/
theorem pz_row {f k n lo hi : Nat} {ci : Nat} {fds : List Ds} (hT : Typed KTab ks P w) (hF : FZ KTab ks R w) (hk : ks[mi]? = some 11) (hK : KTab[11]? = some (.inl (ci, fds))) (hd : fds[f]? = some (1, k, 0)) (hr : KTab[k]? = some (.inr (0, n, (5, lo, hi)))) : ∃ j, pz_fv w mi f = .ref (j + 3) ∧ ks[j]? = some k ∧ w[j]? = some (.inl (0, n, .inl (R.1 k))) := by
  obtain ⟨⟨j, e1, e2⟩, -⟩ := pz_fd (f := f) hT hk hK hd
  exact ⟨j, e1, e2, hF.1 j k n _ e2 hr rfl⟩
/-- a frozen field of the model -/
theorem pz_ff {f lo hi : Nat} {ci : Nat} {fds : List Ds} (hT : Typed KTab ks P w) (hF : FZ KTab ks R w) (hk : ks[mi]? = some 11) (hK : KTab[11]? = some (.inl (ci, fds))) (hd : fds[f]? = some (5, lo, hi)) : pz_fv w mi f = .int (R.2 f) ∧ (lo : Int) ≤ (R.2 f).toInt + 2147483648 ∧ (R.2 f).toInt + 2147483648 ≤ (hi : Int) := by
  obtain ⟨-, fs, a1, a2⟩ := pz_fd (f := f) hT hk hK hd
  obtain ⟨fs', b1, b2⟩ := hF.2 mi 11 ci fds hk hK
  rw [a1] at b1
  cases b1
  rw [b2 f _ hd rfl] at a2
  have e := Option.some.inj a2
  obtain ⟨x, ex, h1, h2⟩ := fld (f := f) hT hF hk hK hd
  cases ex
  exact ⟨e.symm, h1, h2⟩
theorem pz_ent {ex : List Value} {ds : List Ds} {mex : List Fa} {lcA : List (Nat × Nat)} {stA : List Nat} {lc : pL} (hT : Typed KTab ks P w) (hF : FZ KTab ks R w) (hk : ks[mi]? = some 11) (hP : P ≤ PMax) (hO : pz_O w mi) (hd : pz_SdL ks P (pz_vals w mi R ex) ds) (hx : ∀ f ∈ mex, okF P (pz_rho (pz_vals w mi R ex)) w f) (hwf : (pz_UM ++ mex).all (wfF ds.length) = true) (hlc : ∀ q ∈ lcA, lGet lc q.1 = some (pz_rho (pz_vals w mi R ex) q.2)) (hlw : lcA.all (fun q => Nat.ble (q.2 + 1) ds.length) = true) (hsw : stA.all (fun s => Nat.ble (s + 1) ds.length) = true) : Ga KTab (FZ KTab ks R) ks P ds.length (pz_rho (pz_vals w mi R ex)) eff w (ds, lcA, stA, pz_UM ++ mex, 0) (pz_rho (pz_vals w mi R ex)) lc (stA.map (pz_rho (pz_vals w mi R ex))) w := by
  have fk' : ∀ {f s : Nat} {d : Ds} {ci : Nat} {fds : List Ds}, KTab[11]? = some (.inl (ci, fds)) → fds[f]? = some d → pz_rho (pz_vals w mi R ex) s = pz_fv w mi f → okF P (pz_rho (pz_vals w mi R ex)) w (1000 + f, 0, 0, s) := by
    intro f s d ci fds hK hf hs
    obtain ⟨-, fs, a1, a2⟩ := pz_fd (f := f) hT hk hK hf
    refine fk (k := f) ⟨mi + 3, ci, fs, rfl, ?_, ?_⟩
    · rw [wAt3]
      exact a1
    · rw [hs]
      exact a2
  obtain ⟨ju, u1, u2, u3⟩ := pz_row (f := 17) (k := 58) hT hF hk rfl rfl rfl
  obtain ⟨r1, r2, r3⟩ := pz_ff (f := 39) hT hF hk rfl rfl
  have g6 := (pz_fd (f := 6) hT hk rfl rfl).1
  have g7 := (pz_fd (f := 7) hT hk rfl rfl).1
  have g3 := (pz_fd (f := 3) hT hk rfl rfl).1
  refine ⟨pz_SdL_ok hd, fun q hq => ⟨hlc q hq, by have := List.all_eq_true.mp hlw q hq; rw [nbl] at this; exact this⟩, ⟨rfl, fun s hs => by have := List.all_eq_true.mp hsw s hs; rw [nbl] at this; exact this⟩, fun f hf => ⟨?_, wfF_ok (List.all_eq_true.mp hwf f hf)⟩, hT, hF, fun i k hk => ⟨fun _ a ha => ha, fun ci fs h => ⟨fs, h, fun _ _ => rfl⟩⟩, fun s _ => rfl, Nat.le_refl _, hP, Nat.zero_le _⟩
  rcases List.mem_append.mp hf with hf | hf
  · simp only [pz_UM, List.mem_cons, List.not_mem_nil, or_false] at hf
    rcases hf with rfl | rfl | rfl | rfl | rfl | rfl | rfl | rfl | rfl | rfl | rfl | rfl | rfl | rfl | rfl | rfl
    · exact fk' (f := 6) rfl rfl rfl
    · exact fk' (f := 7) rfl rfl rfl
    · exact fk' (f := 3) rfl rfl rfl
    · exact fk' (f := 8) rfl rfl rfl
    · exact fk' (f := 4) rfl rfl rfl
    · exact fk' (f := 10) rfl rfl rfl
    · exact fk' (f := 39) rfl rfl (pz_ff (f := 39) hT hF hk rfl rfl).1.symm
    · exact fk' (f := 40) rfl rfl (pz_ff (f := 40) hT hF hk rfl rfl).1.symm
    · exact fk' (f := 41) rfl rfl (pz_ff (f := 41) hT hF hk rfl rfl).1.symm
    · exact fk' (f := 42) rfl rfl (pz_ff (f := 42) hT hF hk rfl rfl).1.symm
    · exact fk' (f := 43) rfl rfl (pz_ff (f := 43) hT hF hk rfl rfl).1.symm
    · exact fk' (f := 17) rfl rfl rfl
    · exact f2 ⟨ju + 3, R.2 39, 0, 2, R.1 58, u1, rfl, u3, rfl, by omega⟩
    · exact fk' (f := 1) rfl rfl rfl
    · exact f10 (show pz_fi w mi 6 ≤ pz_fi w mi 7 + ((2147483648 : Nat) : Int) - 2147483648 by have := hO.1; omega)
    · exact f10 (show pz_fi w mi 7 ≤ pz_fi w mi 3 + ((2147483648 : Nat) : Int) - 2147483648 by have := hO.2; omega)
  · exact hx f hf
end PZA

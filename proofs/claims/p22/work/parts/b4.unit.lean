/-! unit, by hand -/
def pz_EQ : List (Nat × Nat) := [(11, 4), (11, 5), (11, 6), (11, 7), (11, 8), (11, 9), (11, 10), (11, 40), (11, 41), (11, 42), (11, 43), (58, 999), (74, 999), (75, 999), (76, 999), (77, 999)]
theorem pz_a0 {α : Type} {p : α → Prop} : ∀ x ∈ ([] : List α), p x := fun _ h => nomatch h
theorem pz_ac {α : Type} {p : α → Prop} {a : α} {l : List α} (h : p a) (t : ∀ x ∈ l, p x) : ∀ x ∈ a :: l, p x := List.forall_mem_cons.mpr ⟨h, t⟩
def pz_sub (a b : List (Nat × Nat)) : Bool := a.all (fun q => b.any (fun r => Nat.beq q.1 r.1 && Nat.beq q.2 r.2))
def pz_no (a : List (Nat × Nat)) (k j : Nat) : Bool := a.all (fun q => !(Nat.beq q.1 k && Nat.beq q.2 j))
theorem pz_sub_ok {a b : List (Nat × Nat)} (h : pz_sub a b = true) : ∀ q ∈ a, q ∈ b := by
  intro q hq
  obtain ⟨r, hr, e⟩ := List.any_eq_true.mp (List.all_eq_true.mp h q hq)
  simp only [Bool.and_eq_true, nbe] at e
  obtain ⟨q1, q2⟩ := q
  obtain ⟨r1, r2⟩ := r
  simp only at e
  obtain ⟨rfl, rfl⟩ := e
  exact hr
theorem pz_no_ok {a : List (Nat × Nat)} {k j : Nat} (h : pz_no a k j = true) : (k, j) ∉ a := by
  intro hm
  have := List.all_eq_true.mp h _ hm
  simp only [Nat.beq_refl, Bool.and_self, Bool.not_true] at this
  cases this
/-- the places, the token and its name, the text: all the same -/
def pz_eqw (mi : Nat) (w w1 : pW) : Prop := pz_fv w1 mi 3 = pz_fv w mi 3 ∧ pz_fv w1 mi 6 = pz_fv w mi 6 ∧ pz_fv w1 mi 7 = pz_fv w mi 7 ∧ pz_fv w1 mi 8 = pz_fv w mi 8 ∧ pz_fv w1 mi 10 = pz_fv w mi 10 ∧ pz_tx w1 mi = pz_tx w mi
def pz_noT (e : List (Nat × Nat)) : Bool := pz_no e 11 3 && (pz_no e 11 6 && (pz_no e 11 7 && (pz_no e 11 8 && (pz_no e 11 10 && (pz_no e 11 1 && pz_no e 51 999)))))
section PZB
variable {ks : List Nat} {P : Nat} {w w1 w' : pW} {mi : Nat} {R R1 R' R0 : pR} {xs : Nat → Int32} {L : Nat} {eff : List (Nat × Nat)} {b fr : Nat}
theorem pz_em {eff' : List (Nat × Nat)} (h : Ef ks eff w w') (hs : pz_sub eff eff' = true) : Ef ks eff' w w' := fun i k hk => ⟨fun hn => (h i k hk).1 (fun hm => hn (pz_sub_ok hs _ hm)), fun ci fs hw => by
  obtain ⟨fs', h1, h2⟩ := (h i k hk).2 ci fs hw
  exact ⟨fs', h1, fun j hj => h2 j (fun hm => hj (pz_sub_ok hs _ hm))⟩⟩
theorem pz_et (h1 : Ef ks eff w w1) (h2 : Ef ks eff w1 w') : Ef ks eff w w' := Ef.trans h1 h2 (fun _ h => h)
theorem pz_er : Ef ks eff w w := fun _ _ _ => ⟨fun _ _ h => h, fun _ fs h => ⟨fs, h, fun _ _ => rfl⟩⟩
theorem pz_eqo (hT : Typed KTab ks P w) (hk : ks[mi]? = some 11) (hE : Ef ks eff w w1) (hn : pz_noT eff = true) : pz_eqw mi w w1 := by
  simp only [pz_noT, Bool.and_eq_true] at hn
  obtain ⟨h3, h6, h7, h8, h10, h1, h51⟩ := hn
  exact ⟨pz_ef hT hk hE (pz_no_ok h3), pz_ef hT hk hE (pz_no_ok h6), pz_ef hT hk hE (pz_no_ok h7), pz_ef hT hk hE (pz_no_ok h8), pz_ef hT hk hE (pz_no_ok h10), pz_eft hT hk hE (pz_no_ok h1) (pz_no_ok h51)⟩
theorem pz_eqi (h : pz_eqw mi w w1) : pz_fi w1 mi 3 = pz_fi w mi 3 ∧ pz_fi w1 mi 6 = pz_fi w mi 6 ∧ pz_fi w1 mi 7 = pz_fi w mi 7 ∧ pz_fi w1 mi 8 = pz_fi w mi 8 := by
  obtain ⟨h3, h6, h7, h8, -⟩ := h
  unfold pz_fi
  rw [h3, h6, h7, h8]
  exact ⟨rfl, rfl, rfl, rfl⟩
theorem pz_eqO (h : pz_eqw mi w w1) (hO : pz_O w mi) : pz_O w1 mi := by
  obtain ⟨e3, e6, e7, -⟩ := pz_eqi h
  unfold pz_O
  rw [e3, e6, e7]
  exact hO
theorem pz_eqT (h : pz_eqw mi w w1) (hO : pz_TK w mi) : pz_TK w1 mi := by
  obtain ⟨e3, e6, e7, e8⟩ := pz_eqi h
  unfold pz_TK
  rw [e3, e6, e7, e8, h.2.2.2.2.1, h.2.2.2.2.2]
  exact hO
theorem pz_eqP (h : pz_eqw mi w w1) : pz_Ph w1 mi = pz_Ph w mi := by
  obtain ⟨e3, e6, e7, e8⟩ := pz_eqi h
  unfold pz_Ph
  rw [e6, e8]
theorem pz_eqA {v : Int} (h : pz_eqw mi w w1) (ha : pz_AF w' mi (pz_fi w1 mi 7)) : pz_AF w' mi (pz_fi w mi 7) := by
  rw [← (pz_eqi h).2.2.1]
  exact ha
/-- behind the first part of unit -/
def pz_G1 (ks : List Nat) (P mi : Nat) (R : pR) (w : pW) (dl : Int) (R1 : pR) (w1 : pW) : Prop := pz_St ks P mi R1 w1 ∧ Ef ks pz_EQ w w1 ∧ pz_eqw mi w w1 ∧ pz_fi w1 mi 4 = 0 ∧ (∀ k, k ≠ 58 → R1.1 k = R.1 k) ∧ (∀ f, f ≠ 43 → R1.2 f = R.2 f) ∧ (R1.2 43).toInt = (R.2 43).toInt + dl ∧ (R1.1 58 (R.2 39).toNatClampNeg).toInt = (R.1 58 (R.2 39).toNatClampNeg).toInt + dl
def pz_u1B (eff : List (Nat × Nat)) (ds : List Ds) (me : List Fa) (x y dl : Nat) : Bool := decide (lgF me = [(343, x, x, 0), (158, 7, y, 0)]) && (decide (fnd me (1000 + 4) 0 0 = some 5) && (leT ds me 11 x 0 dl && (leT ds me x 11 dl 0 && (leT ds me 13 y 0 dl && (leT ds me y 13 dl 0 && (pz_rgB ds x 0 Mx && (pz_rgB ds y 0 Mx && (pz_rgB ds 7 Zb Mx && (pz_noT eff && pz_sub eff pz_EQ)))))))))
theorem pz_iv {x : Int32} {v : Value} (h : v = .int x) : intV v = x ∧ iv v = x.toInt := by
  subst h
  exact ⟨rfl, rfl⟩
theorem pz_wf {ρ : Nat → Value} {f a b c : Nat} : wrR ρ (300 + f, a, b, c) R = (R.1, fun g => if g = f then intV (ρ a) else R.2 g) := by
  unfold wrR
  rw [if_neg (by simp only; omega)]
  simp only [Nat.add_sub_cancel_left]
theorem pz_wr {ρ : Nat → Value} {k a b c : Nat} (hk : k < 200) : wrR ρ (100 + k, a, b, c) R = (fun j => if j = k then upd (R.1 j) (intV (ρ a)).toNatClampNeg (intV (ρ b)) else R.1 j, R.2) := by
  unfold wrR
  rw [if_pos (by simp only; omega)]
  simp only [Nat.add_sub_cancel_left]
theorem pz_w1 {ρ : Nat → Value} {x y : Nat} : evL ρ [(343, x, x, 0), (158, 7, y, 0)] R = (fun k => if k = 58 then upd (R.1 k) (intV (ρ 7)).toNatClampNeg (intV (ρ y)) else R.1 k, fun g => if g = 43 then intV (ρ x) else R.2 g) := by
  show wrR ρ (300 + 43, x, x, 0) (wrR ρ (100 + 58, 7, y, 0) R) = _
  rw [pz_wf, pz_wr (by decide)]
theorem pz_u1c {me : List Fa} {ds : List Ds} {n x y dl : Nat} {ex : List Value} {ρ : Nat → Value} (V : pz_V ks P R eff w n (pz_rho (pz_vals w mi R ex)) ds me ρ w1) (hn : 15 ≤ n) (hS : pz_St ks P mi R w) (hk : ks[mi]? = some 11) (hf : pz_fi w mi 4 = 0) (h : pz_u1B eff ds me x y dl = true) : pz_G1 ks P mi R w dl (evL ρ (lgF me) R) w1 := by
  simp only [pz_u1B, Bool.and_eq_true, decide_eq_true_eq] at h
  obtain ⟨h1, h2, h3, h4, h5, h6, h7, h8, h9, h10, h11⟩ := h
  have hE := V.2.2.2.2.2
  have hq := pz_eqo hS.1 hk hE h10
  have e11 : ρ 11 = .int (R.2 43) := V.1 11 (by omega)
  have e13 : ρ 13 = .int (R.1 58 (R.2 39).toNatClampNeg) := V.1 13 (by omega)
  have e7 : ρ 7 = .int (R.2 39) := V.1 7 (by omega)
  have e5 : ρ 5 = pz_fv w mi 4 := V.1 5 (by omega)
  have l1 := pzv_l V h3
  have l2 := pzv_l V h4
  have l3 := pzv_l V h5
  have l4 := pzv_l V h6
  obtain ⟨vx, ex1, -, -⟩ := pz_rgB_ok V.2.1 h7
  obtain ⟨vy, ey1, -, -⟩ := pz_rgB_ok V.2.1 h8
  rw [e11, iv_int, ex1, iv_int] at l1 l2
  rw [e13, iv_int, ey1, iv_int] at l3 l4
  have eF := pzv_f (f := 4) V (by omega) rfl h2
  refine ⟨pzv_S V (pz_eqO hq hS.2.2), pz_em hE h11, hq, ?_, ?_, ?_, ?_, ?_⟩
  · unfold pz_fi
    rw [eF, e5]
    exact hf
  · intro k hk
    rw [h1, pz_w1]
    exact if_neg hk
  · intro f hf
    rw [h1, pz_w1]
    exact if_neg hf
  · rw [h1, pz_w1]
    simp only [if_true]
    rw [ex1]
    show vx.toInt = _
    omega
  · rw [h1, pz_w1]
    simp only [if_true]
    rw [e7, ey1]
    show (upd (R.1 58) (R.2 39).toNatClampNeg vy (R.2 39).toNatClampNeg).toInt = _
    rw [pk_us]
    omega
/-- a fault -/
def pz_QF (ks : List Nat) (P mi : Nat) (R0 : pR) (b fr : Nat) (w : pW) (R' : pR) (w' : pW) : Prop := pz_St ks P mi R' w' ∧ Ef ks pz_EQ w w' ∧ pz_fi w' mi 4 ≠ 0 ∧ pz_FR R0 R' b fr
def pz_flB (eff : List (Nat × Nat)) (ds : List Ds) (me : List Fa) (s : Nat) : Bool := decide (lgF me = []) && (decide (fnd me (1000 + 4) 0 0 = some s) && (pz_rgB ds s (Zb + 1) Mx && (pz_noT eff && pz_sub eff pz_EQ)))
theorem pz_fl {me : List Fa} {ds : List Ds} {n s : Nat} {ex : List Value} {ρ : Nat → Value} (V : pz_V ks P R eff w n (pz_rho (pz_vals w mi R ex)) ds me ρ w1) (hn : 15 ≤ n) (hS : pz_St ks P mi R w) (hk : ks[mi]? = some 11) (hI : pz_FR R0 R b fr) (h : pz_flB eff ds me s = true) : pz_QF ks P mi R0 b fr w R w1 := by
  simp only [pz_flB, Bool.and_eq_true, decide_eq_true_eq] at h
  obtain ⟨h1, h2, h3, h4, h5⟩ := h
  have hE := V.2.2.2.2.2
  have hq := pz_eqo hS.1 hk hE h4
  have hs := pzv_S V (pz_eqO hq hS.2.2)
  rw [h1] at hs
  obtain ⟨v, e1, e2, e3⟩ := pz_rgB_ok V.2.1 h3
  refine ⟨hs, pz_em hE h5, ?_, hI⟩
  unfold pz_fi
  rw [pzv_f (f := 4) V (by omega) rfl h2, e1, iv_int]
  simp only [Zb] at e2
  omega
/-- what unit leaves -/
def pz_QU (ks : List Nat) (P mi : Nat) (R0 : pR) (b fr : Nat) (R : pR) (w : pW) (v : Option Value) (w' : pW) : Prop := ∃ (R' : pR) (a : Int32), v = some (.int a) ∧ (pz_QF ks P mi R0 b fr w R' w' ∨ (pz_St ks P mi R' w' ∧ Ef ks pz_EQ w w' ∧ pz_fi w' mi 4 = 0 ∧ pz_AF w' mi (pz_fi w mi 7) ∧ pz_fi w mi 8 ≠ 0 ∧ (R'.2 42).toInt ≤ (R.2 42).toInt + 1 ∧ ((a.toInt = 0 ∧ pz_I R0 b fr R' 1 (pz_Ph w' mi + 4)) ∨ (a.toInt = 1 ∧ pz_I R0 b fr R' 0 (pz_Ph w' mi + 4)))))
end PZB

/-! what the machine does where a text is asked -/
theorem tx_cg {Z0 : Nat} {adK adK' adV : Nat → Nat} {fm : Value} {U : State} (h : ∀ i, i < 2 → adK' i = adK i) (hs : tx_ST Z0 adK adV fm U) : tx_ST Z0 adK' adV fm U := ⟨hs.1, ⟨fun i hi => by rw [h i hi]; exact hs.2.1.1 i hi, fun i j hi hj e => hs.2.1.2 i j hi hj (by rw [← h i hi, ← h j hj]; exact e)⟩, hs.2.2⟩
def tx_SX (Z0 : Nat) : pX := fun ad U => ∃ (adV : Nat → Nat) (fm : Value), (fm = .null ∨ ∃ t, fm = .ref t) ∧ tx_ST Z0 (fun i => ad (i + 1)) adV fm U
theorem tx_SXok {Z0 : Nat} : SXok Z0 (tx_SX Z0) := by
  intro ad ad' s U hx hW hh ⟨adV, fm, hfm, h⟩
  have hv : s.vm.Alike U.vm := by
    rcases hW with hW | hW
    · exact hW.alike
    · rw [hW]
      exact Vm.Alike.refl _
  have hz : Z0 ≤ U.heap.size := by
    rcases Nat.eq_zero_or_pos Z0 with h0 | h0
    · omega
    · have h1 := hh (Z0 - 1) (by omega)
      have h2 : Z0 - 1 < s.heap.size := by
        have := h.1
        omega
      rw [Array.getElem?_eq_getElem h2] at h1
      have h3 : Z0 - 1 < U.heap.size := (Array.getElem?_eq_some_iff.mp h1).1
      omega
  exact ⟨adV, fm, hfm, tx_cg (fun i hi => hx (i + 1) (by omega)) (h.mv hv hz hh)⟩
theorem tx_pm0 : ∀ o, o < 15 → ∀ q ∈ pmT.getD o [], (q.2.1 = 3 → o = 9 ∧ q.1 = 62) ∧ (q.2.1 = 4 → o = 9 ∧ q.1 = 64) ∧ (q.2.1 = 5 → o = 9 ∧ q.1 = 50) := by decide +kernel
theorem tx_pm {o i op j : Nat} (h : PP.2.2.2 o i = some (op, j)) : (op = 3 → o = 9 ∧ i = 62) ∧ (op = 4 → o = 9 ∧ i = 64) ∧ (op = 5 → o = 9 ∧ i = 50) := by
  have h : ((pmT.getD o []).find? (fun q => q.1 == i)).map (fun q => q.2) = some (op, j) := h
  cases hf : (pmT.getD o []).find? (fun q => q.1 == i) with
  | none => rw [hf] at h; cases h
  | some q =>
    rw [hf] at h
    have h2 : q.2 = (op, j) := Option.some.inj h
    have h3 := List.find?_some hf
    have h4 := List.mem_of_find?_eq_some hf
    have h5 : q.1 = i := eq_of_beq h3
    by_cases ho : o < 15
    · have h6 := tx_pm0 o ho q h4
      rw [h2, h5] at h6
      exact h6
    · have h7 : pmT.getD o [] = [] := by
        show (pmT[o]?).getD [] = []
        rw [List.getElem?_eq_none (by show 15 ≤ o; omega)]
        rfl
      rw [h7] at h4
      cases h4
theorem tx_get {a : Nat} {t : List Int32} (h : TX[a]? = some t) : a < 2 ∧ TX.getD a [] = t ∧ TL.getD a 0 = t.length := by
  have h1 : a < 2 := (List.getElem?_eq_some_iff.mp h).1
  have h2 : TX.getD a [] = t := by
    show (TX[a]?).getD [] = t
    rw [h]
    rfl
  exact ⟨h1, h2, by rw [(txt_len a h1).1, h2]⟩
theorem tx_tops {l : Launch} {xs : Nat → Int32} {L : Nat} {Z0 : Nat} {G : va_G} {cI cZ cB cJ cE : ClassId} : TopsOK2 l PP TX xs L (tx_SX Z0) TR Z0 G cI cZ cB cJ cE := by
  intro p e R s m args below meth c H locs cells slots Q A M pc d op j i lc st st' w ad ls C hX hSx hR hs hd hrm hpp htop hcat hdec hf hgo
  have hsc := tops_sc htop hs
  obtain ⟨hx, hb, hml, htw, hown, hK, hA, hAZ, hin, hon, hZs⟩ := C
  obtain ⟨adV, fm, hfm, hST⟩ := hSx
  obtain ⟨r1, r2, r3, r4, r5, r6⟩ := hR
  have hdg := hdec.d rfl
  have hpm := tx_pm hpp
  have fin : ∀ (H1 : Heap) (locs1 : List Loc), va_S A s.heap H1 locs1 → H.size ≤ H1.size → (∀ q, q < H.size → H1[q]? = H[q]?) → W p l e R s m args below meth c H1 locs1 cells slots Q (F0 m (pc + 3) ls (st'.map (cvV ad))) := by
    intro H1 locs1 hS1 hz hk
    exact hgo ad H1 locs1 ls (adX_r _ _) ⟨r1.kept (fun k q hq => hk q.1 (r1 k q hq).lt), r2, hS1, r4, r5, r6⟩ hsc
  have own9 : M.1 = 9 → s.vm.findClass "IceTunes$Tokens" = some m.cls := by
    intro h9
    rw [h9] at hon
    have e1 : (RX9 : String) = M.2.1.cls := Option.some.inj hon
    rw [← e1] at hown
    exact hown
  unfold tops at htop
  split at htop
  · next a r =>
    split at htop
    · next t ht =>
      have e1 := Option.some.inj htop
      subst e1
      obtain ⟨a1, a2, a3⟩ := tx_get ht
      obtain ⟨h9, hi⟩ := hpm.1 rfl
      subst hi
      rw [← a3] at fin
      have hc2 : cats r ≤ 8 := Nat.le_trans (Nat.le_add_left _ _) (show 1 + cats r ≤ 8 by have := hcat; simpa [cats, Value.category] using this)
      have hM := tx_length (l := l) (Z0 := Z0) (adK := fun i => ad (i + 1)) (adV := adV) (fm := fm) a a1
      show W p l e R s m args below meth c H locs cells slots Q (F0 m pc ls (([] : List Value).reverse ++ .ref (ad (a + 1)) :: r.map (cvV ad)))
      exact tx_V (adK := fun i => ad (i + 1)) (k := 1) (maxL := 1) (idx := 62) a a1 [] (r.map (cvV ad)) hM rfl hx hb hml htw (own9 h9) r4.1 hST hAZ r3 wm_687 wm_685 wm_686 wm_163 wm_684 ⟨by decide, by decide, by show _ = some 0; decide +kernel⟩ ⟨by omega, by omega⟩ hf (by rw [cats_cv]; exact hc2) hdg fin
    · cases htop
  · next k a r =>
    split at htop
    · next t ht =>
      split at htop
      · next hin2 =>
        have e1 := Option.some.inj htop
        subst e1
        obtain ⟨a1, a2, a3⟩ := tx_get ht
        obtain ⟨h9, hi⟩ := hpm.2.1 rfl
        subst hi
        have hk2 : vp_in k (TL.getD a 0) := by
          rw [a3]
          exact inB_in hin2
        have hc2 : cats r ≤ 8 := Nat.le_trans (Nat.le_add_left _ _) (show 1 + cats r ≤ 8 by have := hcat; simpa [cats, Value.category] using this)
        have e2 : chAt t k.toNatClampNeg = (TX.getD a []).getD k.toNatClampNeg 0 &&& 255 := by
          rw [a2]
          rfl
        rw [e2] at fin
        have hM := tx_char (l := l) (Z0 := Z0) (adK := fun i => ad (i + 1)) (adV := adV) (fm := fm) a a1 hk2 hfm
        show W p l e R s m args below meth c H locs cells slots Q (F0 m pc ls (([.int k] : List Value).reverse ++ .ref (ad (a + 1)) :: r.map (cvV ad)))
        exact tx_V (adK := fun i => ad (i + 1)) (k := 3) (maxL := 2) (idx := 64) a a1 [.int k] (r.map (cvV ad)) hM rfl hx hb hml htw (own9 h9) r4.1 hST hAZ r3 wm_697 wm_695 wm_696 wm_163 wm_694 ⟨by decide, by decide, by show _ = some 1; decide +kernel⟩ ⟨by omega, by omega⟩ hf (by rw [cats_cv]; exact hc2) hdg fin
      · cases htop
    · cases htop
  · next k a r =>
    split at htop
    · next t ht =>
      have e1 := Option.some.inj htop
      subst e1
      obtain ⟨a1, a2, a3⟩ := tx_get ht
      obtain ⟨h9, hi⟩ := hpm.2.2 rfl
      subst hi
      have hc2 : cats r ≤ 8 := Nat.le_trans (Nat.le_add_left _ _) (show 1 + cats r ≤ 8 by have := hcat; simpa [cats, Value.category] using this)
      rw [← a2] at fin
      have hM := tx_ix (l := l) (Z0 := Z0) (adK := fun i => ad (i + 1)) (adV := adV) (fm := fm) a a1 (c := k)
      show W p l e R s m args below meth c H locs cells slots Q (F0 m pc ls (([.int k] : List Value).reverse ++ .ref (ad (a + 1)) :: r.map (cvV ad)))
      exact tx_V (adK := fun i => ad (i + 1)) (k := 3) (maxL := 2) (idx := 50) a a1 [.int k] (r.map (cvV ad)) hM rfl hx hb hml htw (own9 h9) r4.1 hST hAZ r3 wm_744 wm_742 wm_743 wm_163 wm_741 ⟨by decide, by decide, by show _ = some 1; decide +kernel⟩ ⟨by omega, by omega⟩ hf (by rw [cats_cv]; exact hc2) hdg fin
    · cases htop
  · cases htop

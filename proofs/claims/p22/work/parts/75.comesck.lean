/-! comes: its contracts -/
def PairOK (R : pR) : Prop := ∀ i, i < 30 → (R.1 40 i).toInt = -1 → 0 ≤ (R.1 39 i).toInt
/-- the code of rule r of the bank lies in the bank's own part -/
def RG (R : pR) (r : Nat) : Prop := ∀ f t : Nat, (R.1 61 (7 * (R.2 38).toNatClampNeg + r)).toInt = (f : Int) → (R.1 62 (7 * (R.2 38).toNatClampNeg + r)).toInt = (t : Int) → t ≤ f ∨ (580 * (R.2 38).toNatClampNeg ≤ f ∧ t ≤ 580 * (R.2 38).toNatClampNeg + 580)
def VX (R : pR) (r : Nat) : Prop := VB R r ∧ RG R r
def Good (R : pR) : Prop := PairOK R ∧ VX R 6 ∧ ∀ r : Nat, (r : Int) < (R.1 56 (R.2 38).toNatClampNeg).toInt → VX R r
def XL (ks : List Nat) (w : pW) : Prop := ∃ R, Good R ∧ FZ KTab ks R w
theorem XL_xs {ks : List Nat} : XS KTab ks (XL ks) := by
  intro w w' hF h
  obtain ⟨R, h1, h2⟩ := h
  exact ⟨R, h1, FZ_xs w w' hF h2⟩
section CMK
variable {ks : List Nat} {P : Nat} {w : pW} {xs : Nat → Int32} {L : Nat} {R : pR} {ρ : Nat → Value}
/-- a frozen field of the model lies in its range -/
theorem fld {f i lo hi ci : Nat} {fds : List Ds} (hT : Typed KTab ks P w) (hF : FZ KTab ks R w) (hi0 : ks[i]? = some 11) (hK : KTab[11]? = some (.inl (ci, fds))) (hd : fds[f]? = some (5, lo, hi)) : okI lo hi (.int (R.2 f)) := by
  obtain ⟨kd, e, h1, h2, h3⟩ := hT.2 i 11 hi0
  obtain ⟨fs, e1, e2⟩ := hF.2 i 11 ci fds hi0 hK
  rw [hK] at h1
  cases h1
  rw [e1] at h2
  cases h2
  obtain ⟨v, q1, q2⟩ := h3.2.2 f _ hd
  rw [e2 f _ hd rfl] at q1
  cases q1
  exact q2
theorem row {k n i j lo hi : Nat} (hT : Typed KTab ks P w) (hF : FZ KTab ks R w) (hi0 : ks[i]? = some k) (hK : KTab[k]? = some (.inr (0, n, (5, lo, hi)))) (hj : j < n) : okI lo hi (.int (R.1 k j)) := by
  obtain ⟨kd, e, h1, h2, h3⟩ := hT.2 i k hi0
  have e1 := hF.1 i k n _ hi0 hK rfl
  rw [hK] at h1
  cases h1
  rw [e1] at h2
  cases h2
  exact h3.2.2.2 j hj
theorem comes_in (hU : Uq KTab ks) {r : Nat} (hr : r < 7) (hP : P + 4 * 16777216 ≤ PMax) (hT : Typed KTab ks P w) (hF : FZ KTab ks R w) (hV : VB R r) (h0 : okD ks P (1, 11, 0) (ρ 0)) (h1 : ∃ x : Int32, ρ 1 = .int x ∧ x.toInt = (r : Int)) (h2 : ∀ s, 2 ≤ s → s < 6 → ∃ x : Int32, ρ s = .int x) : Rs PP FF GM TX xs L 3 mX11_comes 0 (lArgs 0 ((List.range 6).map ρ)) [] w (CmQ ks P w R) := by
  have hP3 : P + CrMax + 3 * 16777216 ≤ PMax := by simp only [CrMax, PMax] at *; omega
  obtain ⟨mi, em, km⟩ := id h0
  obtain ⟨x1, e1, ex1⟩ := h1
  have hbk := fld (f := 38) hT hF km rfl rfl
  obtain ⟨bx, ebx, b1, b2⟩ := hbk
  cases ebx
  have hcb := clamp_toInt (x := R.2 38) (by omega)
  have hb : (R.2 38).toNatClampNeg < 2 := by omega
  generalize hbb : (R.2 38).toNatClampNeg = b at hcb hb
  obtain ⟨fs, g1, g2⟩ := hF.2 mi 11 _ _ km rfl
  let ρs : Nat → Value := fun s => if s = 6 then .int (R.2 38) else ρ s
  have hGs : Ga KTab (FZ KTab ks R) ks P 7 ρs [(78, 999)] w (cm_s b r) ρs (lArgs 0 ((List.range 6).map ρ)) [] w := by
    have hd : Sd ks P ρs (cm_s b r).1 := by
      intro s d hs
      have hl : s < 7 := (List.getElem?_eq_some_iff.mp hs).1
      have full : ∀ {s : Nat}, 2 ≤ s → s < 6 → okD ks P dFull (ρ s) := fun a b => by
        obtain ⟨x, e⟩ := h2 _ a b
        rw [e]
        exact okI_full x
      match s, hl, hs with
      | 0, _, hs => cases hs; exact h0
      | 1, _, hs => cases hs; exact ⟨x1, e1, by simp only [Zb]; omega, by simp only [Zb]; omega⟩
      | 2, _, hs => cases hs; exact full (s := 2) (by decide) (by decide)
      | 3, _, hs => cases hs; exact full (s := 3) (by decide) (by decide)
      | 4, _, hs => cases hs; exact full (s := 4) (by decide) (by decide)
      | 5, _, hs => cases hs; exact full (s := 5) (by decide) (by decide)
      | 6, _, hs => cases hs; exact ⟨R.2 38, rfl, by simp only [Zb]; omega, by simp only [Zb]; omega⟩
    refine ⟨hd, ?_, ⟨rfl, fun s hs => by cases hs⟩, ?_, hT, hF, ?_, fun s _ => rfl, Nat.le_refl _, by simp only [CrMax, PMax] at *; omega, Nat.zero_le _⟩
    · have e : lArgsA (cm_s b r).1 0 (List.range 6) = (cm_s b r).2.1 := rfl
      have em : (List.range 6).map ρs = (List.range 6).map ρ := rfl
      rw [← e, ← em]
      exact lArgsA_ok hd (fun s hs => by have := List.mem_range.mp hs; exact (show s < 7 by omega))
    · intro f hf
      rw [List.mem_singleton.mp hf]
      exact ⟨fk (k := 38) ⟨mi + 3, _, fs, em, g1, g2 38 _ rfl rfl⟩, show 0 < 7 by decide, show 0 < 7 by decide, Or.inr (Or.inr (Or.inr (show 6 < 7 by decide)))⟩
    · intro i k hk
      exact ⟨fun _ a ha => ha, fun ci fs h => ⟨fs, h, fun _ _ => rfl⟩⟩
  refine seg_ok (E := cm_e) (R0 := R) (xs := xs) (L := L) hU cm_hC (all2 cm_s_k hb hr) rfl rfl ((GZ_nil rfl).mpr hGs) hP3 ?_ ?_
  · intro c hc ρ2 lc' st' w' hag hg2
    rw [List.mem_singleton.mp hc] at hg2 ⊢
    have hg2 := (GZ_nil (show lgF (cm_p b r).2.1.2.2.2 = [] from rfl)).mp hg2
    have hmt := eq_of_beq (all2 cm_m hb hr)
    have hPM : P + (stC (cm_p b r)).2.2.2.2 ≤ PMax := hg2.2.2.2.2.2.2.2.2.2.1
    have hg4 := mtZ_ok (ρ0 := ρs) hmt (show wfU (cm_h b r) = true from rfl) hg2 (Nat.le_refl _) (fun _ _ => rfl) hPM
    obtain ⟨i1, ei1, i10, ek⟩ := rdZ hg2 (a := 10) (i := 13) (s := 7) (k := 61) (by simp [cm_p]) rfl rfl rfl
    obtain ⟨i2, ei2, i20, et⟩ := rdZ hg2 (a := 9) (i := 11) (s := 12) (k := 62) (by simp [cm_p]) rfl rfl rfl
    have v1 : okI (Zb + (7 * b + r)) (Zb + (7 * b + r)) (ρ2 13) := hg2.1 13 _ rfl
    have v2 : okI (Zb + (7 * b + r)) (Zb + (7 * b + r)) (ρ2 11) := hg2.1 11 _ rfl
    rw [ei1] at v1
    rw [ei2] at v2
    obtain ⟨z1, ez1, v3, v4⟩ := v1
    cases ez1
    obtain ⟨z2, ez2, v5, v6⟩ := v2
    cases ez2
    simp only [Zb] at v3 v4 v5 v6
    have c1 := clamp_toInt i10
    have c2 := clamp_toInt i20
    have d1 : i1.toNatClampNeg = 7 * b + r := by omega
    have d2 : i2.toNatClampNeg = 7 * b + r := by omega
    rw [d1] at ek
    rw [d2] at et
    have kr0 : okI Zb (Zb + 1159) (ρ2 7) := hg2.1 7 _ rfl
    rw [ek] at kr0
    obtain ⟨z3, ez3, v7, v8⟩ := kr0
    cases ez3
    have nr0 : okI Zb Zb (ρ2 8) := hg2.1 8 _ rfl
    obtain ⟨nx, en, v9, v10⟩ := nr0
    simp only [Zb] at v7 v8 v9 v10
    have hlt := f10_of hg2 (x := 7) (y := 12) (c := 2147483647) (by simp [cm_p])
    rw [ek, et, iv_int, iv_int] at hlt
    have cf := clamp_toInt (x := R.1 61 (7 * b + r)) (by omega)
    have ct := clamp_toInt (x := R.1 62 (7 * b + r)) (by omega)
    have cn := clamp_toInt (x := nx) (by omega)
    have hV2 := hV (R.1 61 (7 * b + r)).toNatClampNeg (R.1 62 (7 * b + r)).toNatClampNeg (by rw [hbb]; omega) (by rw [hbb]; omega)
    refine cm_loop hU hb hr hP3 ((R.1 62 (7 * b + r)).toNatClampNeg - (R.1 61 (7 * b + r)).toNatClampNeg) _ lc' st' w' (R.1 61 (7 * b + r)) nx (R.1 62 (7 * b + r)) hg4 ek en et (by omega) ?_
    rw [show nx.toNatClampNeg = 0 by omega]
    exact hV2
  · intro po hpo v w' han
    rw [List.mem_singleton.mp hpo] at han
    obtain ⟨ρ3, -, d3, -, t3, f3, ef3, ev⟩ := han
    have := d3 7 (0, Zb, Zb) rfl
    obtain ⟨x, ex, -⟩ := id (okD0 this)
    refine ⟨⟨x, ?_⟩, t3, f3, ef3⟩
    rw [ev]
    show some (ρ3 7) = _
    rw [ex]
theorem comes_po {c : Ctr} {n : Nat} {v : Option Value} {w' : pW} {ρ : Nat → Value} (hG : Good R) (hc1 : c.2.2.1.length = n) (hc2 : c.2.2.2.2.2.1 = 0) (hc3 : c.2.2.2.2.1 = [(78, 999)]) (hc4 : c.2.2.2.2.2.2.2 = [(some n, c.2.2.1 ++ [dFull], [])]) (hd : Sd ks P ρ c.2.2.1) (h : CmQ ks P w R v w') : PoOK KTab (XL ks) ks c P ρ w v w' := by
  obtain ⟨⟨x, ex⟩, t, f, e⟩ := h
  refine ⟨(some n, c.2.2.1 ++ [dFull], []), by rw [hc4]; exact List.mem_singleton_self _, upS ρ n (.int x), fun s hs => upS_ne (by omega), ?_, (fun f hf => by cases hf), (by simp), (by rw [hc2]; exact t), ⟨R, hG, f⟩, (by rw [hc3]; exact e), ?_, fun s hs => ?_⟩
  · rw [hc2]
    intro s d hs
    simp only at hs
    by_cases hl : s < c.2.2.1.length
    · rw [List.getElem?_append_left hl] at hs
      rw [upS_ne (by omega)]
      exact hd s d hs
    · rw [List.getElem?_append_right (by omega)] at hs
      have hz : s - c.2.2.1.length < 1 := (List.getElem?_eq_some_iff.mp hs).1
      have he : s = n := by omega
      subst he
      rw [hc1, Nat.sub_self] at hs
      cases hs
      rw [upS_eq]
      exact okI_full x
  · simp only [Option.map_some, upS_eq]
    exact ex
  · have := Option.some.inj hs
    subst this
    simp only [List.length_append, List.length_singleton]
    omega
theorem ck_comes6 (hU : Uq KTab ks) : CK KTab (XL ks) ks PP FF GM xs L c_comes6 := by
  intro P ρ w hd hm hT hX hPM
  obtain ⟨R, hG, hF⟩ := hX
  refine ⟨mX11_comes, 5, rfl, ?_⟩
  have v1 : okI (Zb + 6) (Zb + 6) (ρ 1) := hd 1 _ rfl
  obtain ⟨x1, e1, a1, a2⟩ := v1
  simp only [Zb] at a1 a2
  refine Rs.imp (comes_in hU (r := 6) (by decide) hPM hT hF hG.2.1.1 (hd 0 _ rfl) ⟨x1, e1, by omega⟩ (fun s h1 h2 => ?_)) (fun v w' h => comes_po (n := 6) hG rfl rfl rfl rfl hd h)
  have : ∃ d, (c_comes6.2.2.1)[s]? = some d ∧ d = dFull := by
    have : s = 2 ∨ s = 3 ∨ s = 4 ∨ s = 5 := by omega
    rcases this with rfl | rfl | rfl | rfl <;> exact ⟨_, rfl, rfl⟩
  obtain ⟨d, e, rfl⟩ := this
  obtain ⟨x, ex, -⟩ := okD0 (hd s _ e)
  exact ⟨x, ex⟩
theorem ck_comes (hU : Uq KTab ks) : CK KTab (XL ks) ks PP FF GM xs L c_comes := by
  intro P ρ w hd hm hT hX hPM
  obtain ⟨R, hG, hF⟩ := hX
  refine ⟨mX11_comes, 5, rfl, ?_⟩
  have v1 : okI Zb (Zb + 5) (ρ 1) := hd 1 _ rfl
  obtain ⟨x1, e1, a1, a2⟩ := v1
  simp only [Zb] at a1 a2
  have c0 : 0 ≤ x1.toInt := by clear hPM; omega
  have c1 := clamp_toInt c0
  have c2 : x1.toNatClampNeg < 7 := by clear hPM; omega
  have c3 : x1.toInt = (x1.toNatClampNeg : Int) := c1.symm
  -- r is less than the bank's tunes
  have hGa : Ga KTab (FZ KTab ks R) ks P 9 ρ [] w (c_comes.2.2.1, [], [], c_comes.2.2.2.1, 0) ρ [] [] w := by
    refine ⟨hd, (fun q hq => by cases hq), ⟨rfl, (fun s hs => by cases hs)⟩, fun f hf => ⟨hm f hf, ?_⟩, hT, hF, fun i k hk => ⟨fun _ a ha => ha, fun ci fs h => ⟨fs, h, fun _ _ => rfl⟩⟩, fun s _ => rfl, Nat.le_refl _, Nat.le_trans (Nat.le_add_right _ _) hPM, Nat.zero_le _⟩
    have : (c_comes.2.2.2.1.all (wfF 9)) = true := rfl
    exact wfF_ok (List.all_eq_true.mp this f hf)
  have eb := rdF hGa (o := 0) (f := 38) (s := 6) (by decide) rfl rfl rfl rfl
  obtain ⟨x, ex, x0, et⟩ := rdZ hGa (a := 7) (i := 6) (s := 8) (k := 56) (by decide) rfl rfl rfl
  rw [eb] at ex
  cases ex
  have hlt := f10_of hGa (x := 1) (y := 8) (c := 2147483647) (by decide)
  rw [e1, et, iv_int, iv_int] at hlt
  refine Rs.imp (comes_in hU (r := x1.toNatClampNeg) c2 hPM hT hF (hG.2.2 _ (by clear hPM; omega)).1 (hd 0 _ rfl) ⟨x1, e1, c3⟩ (fun s h1 h2 => ?_)) (fun v w' h => comes_po (n := 9) hG rfl rfl rfl rfl hd h)
  have : ∃ d, (c_comes.2.2.1)[s]? = some d ∧ d = dFull := by
    have : s = 2 ∨ s = 3 ∨ s = 4 ∨ s = 5 := by omega
    rcases this with rfl | rfl | rfl | rfl <;> exact ⟨_, rfl, rfl⟩
  obtain ⟨d, e, rfl⟩ := this
  obtain ⟨x, ex, -⟩ := okD0 (hd s _ e)
  exact ⟨x, ex⟩
end CMK

/-! Sights: isSo, tellIce, tellSkater -/
section SGT
variable {ks : List Nat} {P : Nat} {w : pW} {xs : Nat → Int32} {L : Nat} {R : pR} {ρ : Nat → Value}
theorem Ga.en {X : pW → Prop} {KT : List Kd} {eff : List (Nat × Nat)} {ds : List Ds} {me : List Fa} {nA : Nat} {ρ1 : Nat → Value} (hd : Sd ks P ρ ds) (hm : ∀ f ∈ me, okF P ρ w f ∧ fsc ds.length f) (hT : Typed KT ks P w) (hX : X w) (hP : P ≤ PMax) (hn : nA ≤ ds.length) (he : (List.range nA).map ρ1 = (List.range nA).map ρ) : Ga KT X ks P ds.length ρ eff w (ds, lArgsA ds 0 (List.range nA), [], me, 0) ρ (lArgs 0 ((List.range nA).map ρ1)) [] w := by
  refine ⟨hd, ?_, ⟨rfl, fun s hs => by cases hs⟩, hm, hT, hX, ?_, fun s _ => rfl, Nat.le_refl _, hP, Nat.zero_le _⟩
  · rw [he]
    exact lArgsA_ok hd (fun s hs => by have := List.mem_range.mp hs; omega)
  · intro i k hk
    exact ⟨fun _ a ha => ha, fun ci fs h => ⟨fs, h, fun _ _ => rfl⟩⟩
theorem mkPo {X : pW → Prop} {KT : List Kd} {c : Ctr} {n : Nat} {e : Ds} {v : Option Value} {u : Value} {w' : pW} (hX : X w') (hc1 : c.2.2.1.length = n) (hc2 : c.2.2.2.2.2.1 = 0) (hc4 : c.2.2.2.2.2.2.2 = [(some n, c.2.2.1 ++ [e], [])]) (hd : Sd ks P ρ c.2.2.1) (hv : v = some u) (hu : okD ks P e u) (hT : Typed KT ks P w') (hE : Ef ks c.2.2.2.2.1 w w') : PoOK KT X ks c P ρ w v w' := by
  refine ⟨(some n, c.2.2.1 ++ [e], []), by rw [hc4]; exact List.mem_singleton_self _, upS ρ n u, fun s hs => upS_ne (by omega), ?_, (fun f hf => by cases hf), (by simp), (by rw [hc2]; exact hT), hX, hE, ?_, fun s hs => ?_⟩
  · rw [hc2]
    intro s d hs
    simp only at hs
    by_cases hl : s < c.2.2.1.length
    · rw [List.getElem?_append_left hl] at hs
      rw [upS_ne (by omega)]
      exact hd s d hs
    · rw [List.getElem?_append_right (by omega)] at hs
      have hz : s - c.2.2.1.length < 1 := (List.getElem?_eq_some_iff.mp hs).1
      have he : s = n := by omega
      subst he
      rw [hc1, Nat.sub_self] at hs
      cases hs
      rw [upS_eq]
      exact hu
  · simp only [Option.map_some, upS_eq]
    exact hv
  · have := Option.some.inj hs
    subst this
    simp only [List.length_append, List.length_singleton]
    omega
/-- a field of an object: what it refers to -/
theorem fref {i k ci f k' : Nat} {fds : List Ds} (hT : Typed KTab ks P w) (hi : ks[i]? = some k) (hK : KTab[k]? = some (.inl (ci, fds))) (hf : fds[f]? = some (1, k', 0)) : ∃ (fs : List Value) (j : Nat), w[i]? = some (.inr (ci, fs)) ∧ fs[f]? = some (.ref (j + 3)) ∧ ks[j]? = some k' := by
  obtain ⟨kd, e, h1, h2, h3⟩ := hT.2 i k hi
  rw [hK] at h1
  cases h1
  rcases e with e | ⟨c, fs⟩
  · exact h3.elim
  · obtain ⟨v, q1, j, q2, q3⟩ := h3.2.2 f _ hf
    rw [q2] at q1
    have := h3.1
    simp only at this
    subst this
    exact ⟨fs, j, h2, q1, q3⟩
theorem hP2 {K : Nat} (h : P + (2 + 1) * 16777216 ≤ K) : P + CrMax + 2 * 16777216 ≤ K := by
  have : CrMax = 8388608 := rfl
  omega
theorem ck_isSo (hU : Uq KTab ks) : CK KTab (XL ks) ks PP FF GM xs L c_isSo := by
  intro P ρ w hd hm hT hX hPM
  have hP0 : P ≤ PMax := Nat.le_trans (Nat.le_add_right _ _) hPM
  have hPs : P + CrMax + 2 * 16777216 ≤ PMax := hP2 hPM
  clear hPM
  obtain ⟨R, hG, hF⟩ := hX
  refine ⟨mX8_isSo, 2, rfl, ?_⟩
  obtain ⟨si, es, hs⟩ := id (hd 0 (1, 6, 0) rfl)
  obtain ⟨x1, e1, a1, a2⟩ := id (okD0 (hd 1 (0, Zb, Zb + 29) rfl))
  simp only [Zb] at a1 a2
  have c1 := clamp_toInt (x := x1) (by omega)
  have hx30 : x1.toNatClampNeg < 30 := by omega
  obtain ⟨fs, j3, g1, g2, g3⟩ := fref (f := 3) hT hs rfl rfl
  obtain ⟨fs', j2, g1', g2', g3'⟩ := fref (f := 2) hT hs rfl rfl
  rw [g1] at g1'
  cases g1'
  have r3 := hF.1 j3 40 30 _ g3 rfl rfl
  have r2 := hF.1 j2 39 30 _ g3' rfl rfl
  have o3 := row hT hF g3 (k := 40) rfl hx30
  have o2 := row hT hF g3' (k := 39) rfl hx30
  let ρs : Nat → Value := fun s => if s = 3 then .ref (j3 + 3) else if s = 4 then .int (R.1 40 x1.toNatClampNeg) else if s = 5 then .ref (j2 + 3) else if s = 6 then .int (R.1 39 x1.toNatClampNeg) else ρ s
  obtain ⟨y3, ey3, b1, b2⟩ := id o3
  cases ey3
  obtain ⟨y2, ey2, b3, b4⟩ := id o2
  cases ey2
  have hfin : ∀ (sr cr : Ds) (q : Po) (E : Env), E.1 = KTab → E.2.1 = FF → E.2.2.1 = PP → E.2.2.2.1 = GM → E.2.2.2.2.1 = [] → E.2.2.2.2.2.1 = [] → okD ks P sr (.int (R.1 40 x1.toNatClampNeg)) → okD ks P cr (.int (R.1 39 x1.toNatClampNeg)) → chkZ E 3000 2 mX8_isSo [] [] 0 ([(1, 6, 0), (0, Zb, Zb + 29), (1, 5, 0), (1, 40, 0), sr, (1, 39, 0), cr], [(0, 0), (1, 1), (2, 2)], [], [(1003, 0, 0, 3), (2, 3, 1, 4), (1002, 0, 0, 5), (2, 5, 1, 6)], 0) [] [q] = true → wfP 7 q = true → q.1 = some 7 → q.2.1[7]? = some (0, Zb, Zb + 1) → q.2.2 = [] → Rs PP FF GM TX xs L 2 mX8_isSo 0 (lArgs 0 ((List.range 3).map ρ)) [] w (PoOK KTab (XL ks) ks c_isSo P ρ w) := by
    intro sr cr q E hE1 hE2 hE3 hE4 hE5 hE6 hsr hcr hchk hwq hq1 hq2 hq3
    obtain ⟨KT1, F1, PP1, GM1, eff1, cts1, ants1, scr1⟩ := E
    simp only at hE1 hE2 hE3 hE4 hE5 hE6
    subst hE1 hE2 hE3 hE4 hE5 hE6
    have hds : Sd ks P ρs [(1, 6, 0), (0, Zb, Zb + 29), (1, 5, 0), (1, 40, 0), sr, (1, 39, 0), cr] := by
      intro s d hs
      have hl : s < 7 := (List.getElem?_eq_some_iff.mp hs).1
      match s, hl, hs with
      | 0, _, hs => cases hs; exact hd 0 _ rfl
      | 1, _, hs => cases hs; exact hd 1 _ rfl
      | 2, _, hs => cases hs; exact hd 2 _ rfl
      | 3, _, hs => cases hs; exact ⟨j3, rfl, g3⟩
      | 4, _, hs => cases hs; exact hsr
      | 5, _, hs => cases hs; exact ⟨j2, rfl, g3'⟩
      | 6, _, hs => cases hs; exact hcr
    have hfs : ∀ f ∈ [((1003, 0, 0, 3) : Fa), (2, 3, 1, 4), (1002, 0, 0, 5), (2, 5, 1, 6)], okF P ρs w f ∧ fsc 7 f := by
      intro f hf
      have wf : ([((1003, 0, 0, 3) : Fa), (2, 3, 1, 4), (1002, 0, 0, 5), (2, 5, 1, 6)].all (wfF 7)) = true := rfl
      refine ⟨?_, wfF_ok (List.all_eq_true.mp wf f hf)⟩
      simp only [List.mem_cons, List.not_mem_nil, or_false] at hf
      rcases hf with rfl | rfl | rfl | rfl
      · exact fk (k := 3) ⟨si + 3, _, fs, es, g1, g2⟩
      · exact f2 ⟨j3 + 3, x1, 0, 30, R.1 40, rfl, e1, r3, rfl, by omega⟩
      · exact fk (k := 2) ⟨si + 3, _, fs, es, g1, g2'⟩
      · exact f2 ⟨j2 + 3, x1, 0, 30, R.1 39, rfl, e1, r2, rfl, by omega⟩
    have hGs := Ga.en (KT := KTab) (X := FZ KTab ks R) (eff := []) (nA := 3) (ρ1 := ρ) hds hfs hT hF hP0 (show 3 ≤ 7 by decide) rfl
    refine seg_ok (E := (KTab, FF, PP, GM, [], [], ants1, scr1)) (R0 := R) (xs := xs) (L := L) hU (fun R c hc => by cases hc) hchk rfl (by simp only [List.all_cons, List.all_nil, Bool.and_true]; exact hwq) ((GZ_nil (show lgF [((1003, 0, 0, 3) : Fa), (2, 3, 1, 4), (1002, 0, 0, 5), (2, 5, 1, 6)] = [] from rfl)).mpr hGs) hPs (fun c hc => by cases hc) ?_
    intro po hpo v w' han
    rw [List.mem_singleton.mp hpo] at han
    obtain ⟨ρ3, -, d3, -, t3, f3, ef3, ev⟩ := han
    rw [hq3] at f3
    exact mkPo (n := 3) (e := (0, Zb, Zb + 1)) (u := ρ3 7) ⟨R, hG, f3⟩ rfl rfl rfl hd (by rw [ev, hq1]; rfl) (d3 7 _ hq2) t3 ef3
  by_cases hm1 : (R.1 40 x1.toNatClampNeg).toInt = -1
  · have := hG.1 _ hx30 hm1
    exact hfin (0, Zb - 1, Zb - 1) (0, Zb, Zb + 24) is_b_q0 is_b_e rfl rfl rfl rfl rfl rfl (oD0 ⟨_, rfl, by simp only [Zb]; omega, by simp only [Zb]; omega⟩) (oD0 ⟨_, rfl, by simp only [Zb]; omega, b4⟩) is_b_k rfl rfl rfl rfl
  · exact hfin (0, Zb, Zb + 5) (0, Zb - 1, Zb + 24) is_a_q0 is_a_e rfl rfl rfl rfl rfl rfl (oD0 ⟨_, rfl, by simp only [Zb] at b1 ⊢; omega, b2⟩) (oD0 ⟨_, rfl, b3, b4⟩) is_a_k rfl rfl rfl rfl
theorem tell_hC : ∀ R, ∀ c ∈ [c_Sights_tell], CK KTab (FZ KTab ks R) ks PP FF GM xs L c := fun R => List.forall_mem_cons.mpr ⟨ck_c_Sights_tell FZ_xs, fun _ h => by cases h⟩
theorem VB_of {R R' : pR} (h1 : R'.1 61 = R.1 61) (h2 : R'.1 62 = R.1 62) (h3 : R'.1 74 = R.1 74) (h4 : R'.2 = R.2) {r : Nat} (h : VB R r) : VB R' r := by
  unfold VB at h ⊢
  rw [h1, h2, h3, h4]
  exact h
theorem VX_of {R R' : pR} (h1 : R'.1 61 = R.1 61) (h2 : R'.1 62 = R.1 62) (h3 : R'.1 74 = R.1 74) (h4 : R'.2 = R.2) {r : Nat} (h : VX R r) : VX R' r := by
  refine ⟨VB_of h1 h2 h3 h4 h.1, ?_⟩
  have h := h.2
  unfold RG at h ⊢
  rw [h1, h2, h4]
  exact h
theorem Good_of {R R' : pR} (h1 : R'.1 61 = R.1 61) (h2 : R'.1 62 = R.1 62) (h3 : R'.1 74 = R.1 74) (h4 : R'.2 = R.2) (h5 : R'.1 56 = R.1 56) (hp : PairOK R') (h : Good R) : Good R' := by
  refine ⟨hp, VX_of h1 h2 h3 h4 h.2.1, fun r hr => VX_of h1 h2 h3 h4 (h.2.2 r ?_)⟩
  rw [h5, h4] at hr
  exact hr
theorem ck_tellIce (hU : Uq KTab ks) : CK KTab (XL ks) ks PP FF GM xs L c_tellIce := by
  intro P ρ w hd hm hT hX hPM
  have hP0 : P ≤ PMax := Nat.le_trans (Nat.le_add_right _ _) hPM
  have hPs : P + CrMax + 2 * 16777216 ≤ PMax := hP2 hPM
  clear hPM
  obtain ⟨R, hG, hF⟩ := hX
  refine ⟨mX8_tellIce, 5, rfl, ?_⟩
  have hGs := Ga.en (KT := KTab) (X := FZ KTab ks R) (eff := c_tellIce.2.2.2.2.1) (me := []) (nA := 6) (ρ1 := ρ) hd (fun f hf => by cases hf) hT hF hP0 (by decide) rfl
  refine seg_ok (E := ti_e) (R0 := R) (xs := xs) (L := L) hU tell_hC ti_k rfl rfl ((GZ_nil (show lgF [] = [] from rfl)).mpr hGs) hPs (fun c hc => by cases hc) ?_
  intro po hpo v w' han
  simp only [List.mem_cons, List.not_mem_nil, or_false] at hpo
  rcases hpo with rfl | rfl
  · obtain ⟨ρ3, -, d3, -, t3, f3, ef3, ev⟩ := han
    obtain ⟨x, ex, -⟩ := id (okD0 (d3 6 (0, Zb - 1, Zb - 1) rfl))
    exact mkPo (n := 6) (e := dFull) (u := ρ3 6) ⟨R, hG, f3⟩ rfl rfl rfl hd (by rw [ev]; rfl) (by rw [ex]; exact okI_full x) t3 ef3
  · obtain ⟨ρ3, hag, d3, -, t3, f3, ef3, ev⟩ := han
    obtain ⟨x, ex, -⟩ := id (okD0 (d3 6 (0, Zb, Zb + 29) rfl))
    obtain ⟨i, ei, i1, i2⟩ := id (okD0 (d3 7 (0, Zb, Zb + 29) rfl))
    obtain ⟨m, em, m1, m2⟩ := id (okD0 (d3 8 (0, Zb - 1, Zb - 1) rfl))
    obtain ⟨c, ec, c1, c2⟩ := id (okD0 (d3 2 (0, Zb, Zb + 24) rfl))
    simp only [Zb] at c1
    have hR : evL ρ3 (lgF ti_q1.2.2) R = wrR ρ3 (140, 7, 8, 0) (wrR ρ3 (139, 7, 2, 0) R) := rfl
    rw [hR] at f3
    refine mkPo (n := 6) (e := dFull) (u := ρ3 6) ⟨wrR ρ3 (140, 7, 8, 0) (wrR ρ3 (139, 7, 2, 0) R), Good_of (R := R) rfl rfl rfl rfl rfl ?_ hG, f3⟩ rfl rfl rfl hd (by rw [ev]; rfl) (by rw [ex]; exact okI_full x) t3 ef3
    intro j hj h40
    have e40 : (wrR ρ3 (140, 7, 8, 0) (wrR ρ3 (139, 7, 2, 0) R)).1 40 = upd (R.1 40) i.toNatClampNeg m := by
      show upd (R.1 40) (intV (ρ3 7)).toNatClampNeg (intV (ρ3 8)) = _
      rw [ei, em]
      rfl
    have e39 : (wrR ρ3 (140, 7, 8, 0) (wrR ρ3 (139, 7, 2, 0) R)).1 39 = upd (R.1 39) i.toNatClampNeg c := by
      show upd (R.1 39) (intV (ρ3 7)).toNatClampNeg (intV (ρ3 2)) = _
      rw [ei, ec]
      rfl
    rw [e40] at h40
    rw [e39]
    by_cases hji : j = i.toNatClampNeg
    · subst hji
      rw [pk_us]
      omega
    · rw [pk_un hji] at h40 ⊢
      exact hG.1 j hj h40
theorem ck_tellSkater (hU : Uq KTab ks) : CK KTab (XL ks) ks PP FF GM xs L c_tellSkater := by
  intro P ρ w hd hm hT hX hPM
  have hP0 : P ≤ PMax := Nat.le_trans (Nat.le_add_right _ _) hPM
  have hPs : P + CrMax + 2 * 16777216 ≤ PMax := hP2 hPM
  clear hPM
  obtain ⟨R, hG, hF⟩ := hX
  refine ⟨mX8_tellSkater, 4, rfl, ?_⟩
  have hGs := Ga.en (KT := KTab) (X := FZ KTab ks R) (eff := c_tellSkater.2.2.2.2.1) (me := []) (nA := 5) (ρ1 := ρ) hd (fun f hf => by cases hf) hT hF hP0 (by decide) rfl
  refine seg_ok (E := ts_e) (R0 := R) (xs := xs) (L := L) hU tell_hC ts_k rfl rfl ((GZ_nil (show lgF [] = [] from rfl)).mpr hGs) hPs (fun c hc => by cases hc) ?_
  intro po hpo v w' han
  simp only [List.mem_cons, List.not_mem_nil, or_false] at hpo
  rcases hpo with rfl | rfl
  · obtain ⟨ρ3, -, d3, -, t3, f3, ef3, ev⟩ := han
    obtain ⟨x, ex, -⟩ := id (okD0 (d3 5 (0, Zb - 1, Zb - 1) rfl))
    exact mkPo (n := 5) (e := dFull) (u := ρ3 5) ⟨R, hG, f3⟩ rfl rfl rfl hd (by rw [ev]; rfl) (by rw [ex]; exact okI_full x) t3 ef3
  · obtain ⟨ρ3, hag, d3, -, t3, f3, ef3, ev⟩ := han
    obtain ⟨x, ex, -⟩ := id (okD0 (d3 5 (0, Zb, Zb + 29) rfl))
    obtain ⟨i, ei, i1, i2⟩ := id (okD0 (d3 6 (0, Zb, Zb + 29) rfl))
    obtain ⟨m, em, m1, m2⟩ := id (okD0 (d3 7 (0, Zb - 1, Zb - 1) rfl))
    obtain ⟨c, ec, c1, c2⟩ := id (okD0 (d3 2 (0, Zb, Zb + 5) rfl))
    simp only [Zb] at c1
    have hR : evL ρ3 (lgF ts_q1.2.2) R = wrR ρ3 (140, 6, 2, 0) (wrR ρ3 (139, 6, 7, 0) R) := rfl
    rw [hR] at f3
    refine mkPo (n := 5) (e := dFull) (u := ρ3 5) ⟨wrR ρ3 (140, 6, 2, 0) (wrR ρ3 (139, 6, 7, 0) R), Good_of (R := R) rfl rfl rfl rfl rfl ?_ hG, f3⟩ rfl rfl rfl hd (by rw [ev]; rfl) (by rw [ex]; exact okI_full x) t3 ef3
    intro j hj h40
    have e40 : (wrR ρ3 (140, 6, 2, 0) (wrR ρ3 (139, 6, 7, 0) R)).1 40 = upd (R.1 40) i.toNatClampNeg c := by
      show upd (R.1 40) (intV (ρ3 6)).toNatClampNeg (intV (ρ3 2)) = _
      rw [ei, ec]
      rfl
    have e39 : (wrR ρ3 (140, 6, 2, 0) (wrR ρ3 (139, 6, 7, 0) R)).1 39 = upd (R.1 39) i.toNatClampNeg m := by
      show upd (R.1 39) (intV (ρ3 6)).toNatClampNeg (intV (ρ3 7)) = _
      rw [ei, em]
      rfl
    rw [e40] at h40
    rw [e39]
    by_cases hji : j = i.toNatClampNeg
    · subst hji
      rw [pk_us] at h40
      omega
    · rw [pk_un hji] at h40 ⊢
      exact hG.1 j hj h40
end SGT

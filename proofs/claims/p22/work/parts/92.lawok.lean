/-! the law goes through, pass by pass -/
section LWO
variable {X : pW → Prop} {ks : List Nat} {P : Nat} {w0 : pW} {xs : Nat → Int32} {L : Nat} {E : Env}
theorem segX_ok {n d pc n0 cl : Nat} {M : pM} {an : List (Nat × List An)} {cuts : List Nat} {σ : aS} {pats : List Cu} (hXs : XS E.1 ks X) (hC : ∀ c ∈ E.2.2.2.2.2.1, CK E.1 X ks E.2.2.1 E.2.1 E.2.2.2.1 xs L c) (h : chkX E n d M an cuts pc σ n0 cl pats = true) (hwc : pats.all wfU = true) (hn0 : n0 ≤ σ.1.length) {m0 : Nat} {ρm ρ : Nat → Value} {lc : pL} {st : List Value} {w : pW} {Q : Option Value → pW → Prop} (hG : Ga E.1 X ks P m0 ρm E.2.2.2.2.1 w0 σ ρ lc st w) (hP : P + CrMax + d * 16777216 ≤ PMax) (hcl : P + cl ≤ PMax) (hS : ScrOK L E.2.2.2.2.2.2.2 σ.1.length ρ)
    (kc : ∀ c ∈ pats, ∀ (P' : Nat) (ρ' : Nat → Value) (lc' : pL) (st' : List Value) (w' : pW), P' ≤ P + cl → (∀ s, s < n0 → ρ' s = ρ s) → Ga E.1 X ks P' n0 ρ E.2.2.2.2.1 w0 (stC c) ρ' lc' st' w' → Rs E.2.2.1 E.2.1 E.2.2.2.1 TX xs L d M c.1 lc' st' w' Q) : Rs E.2.2.1 E.2.1 E.2.2.2.1 TX xs L d M pc lc st w Q := by
  unfold chkX at h
  split at h
  · next outs hex =>
    refine ex_ok hXs hC n _ _ _ _ _ _ _ _ hex σ.1.length ρ ρ lc st w Q hG.rb hP hS (fun o ho ρ' lc' st' w' hg => ?_)
    have hoo := List.all_eq_true.mp h o ho
    unfold okX at hoo
    rw [Bool.and_eq_true, nbl] at hoo
    obtain ⟨ho0, hoo⟩ := hoo
    split at hoo
    · next pc' hpc =>
      obtain ⟨c, hc, hq⟩ := List.any_eq_true.mp hoo
      simp only [Bool.and_eq_true, nbe] at hq
      obtain ⟨q1, q2⟩ := hq
      obtain ⟨τ, hτ⟩ := Option.isSome_iff_exists.mp q2
      have g2 := mtC_ok (ρ0 := ρ) hτ (List.all_eq_true.mp hwc c hc) hg hn0 (fun _ _ => rfl) (by omega)
      try rw [hpc]
      try simp only
      rw [← q1]
      exact kc c hc _ _ lc' st' w' (by omega) g2.2.2.2.2.2.2.2.1 g2
    · cases hoo
  · cases h
theorem rd6 {d p : Nat} {kk : Fin 4} {lc : pL} {st : List Value} {w : pW} {a : Nat} {x : Int32} {Q : Option Value → pW → Prop} (i0 : instrAt mL_law p = some (.aload_n kk)) (i1 : instrAt mL_law (p + 1) = some (.aload_n 0)) (i2 : instrAt mL_law (p + 2) = some (.iload_n 3)) (i3 : instrAt mL_law (p + 3) = some (.iconst 1)) (i4 : instrAt mL_law (p + 4) = some .iadd) (i5 : instrAt mL_law (p + 5) = some .iaload) (h1 : lGet lc (kk : Nat) = some (.ref a)) (h0 : lGet lc 0 = some (.ref 0)) (h3 : lGet lc 3 = some (.int x)) (hx : 0 ≤ x.toInt) (h6 : x.toInt + 6 ≤ (L : Int) - 1) (hL : L ≤ 3073) (k : Rs PP FF GM TX xs L d mL_law (p + 6) lc (.int (xs (x + 1).toNatClampNeg) :: .ref a :: st) w Q) : Rs PP FF GM TX xs L d mL_law p lc st w Q := by
  have e1 : (x + 1).toInt = x.toInt + 1 := by
    rw [Int32.toInt_add, show (1 : Int32).toInt = 1 from rfl, bmod32 (by omega) (by omega)]
  have c1 := clamp_toInt (x := x + 1) (by omega)
  have hin : inB (x + 1) (L - 1) = true := by
    unfold inB
    rw [Bool.and_eq_true, decide_eq_true_eq]
    refine ⟨?_, by omega⟩
    have := not_neg (x := x + 1) (by omega)
    simpa using this
  have hald : aldI xs L w 0 (x + 1) [0] = some (xs (x + 1).toNatClampNeg) := by
    unfold aldI
    have : wAt w 0 = none := rfl
    rw [this]
    simp only
    rw [if_pos (by rw [hin]; rfl)]
  refine Rs.step (pc' := p + 1) (lc' := lc) (st' := .ref a :: st) (w1 := w) i0 (by simp only [sstep, h1]) ?_
  refine Rs.step (pc' := p + 2) (lc' := lc) (st' := .ref 0 :: .ref a :: st) (w1 := w) i1 (by simp only [sstep]; rw [show ((0 : Fin 4) : Nat) = 0 from rfl, h0]) ?_
  refine Rs.step (pc' := p + 3) (lc' := lc) (st' := .int x :: .ref 0 :: .ref a :: st) (w1 := w) i2 (by simp only [sstep]; rw [show ((3 : Fin 4) : Nat) = 3 from rfl, h3]) ?_
  refine Rs.step (pc' := p + 4) (lc' := lc) (st' := .int 1 :: .int x :: .ref 0 :: .ref a :: st) (w1 := w) i3 (by simp only [sstep]; rfl) ?_
  refine Rs.step (pc' := p + 5) (lc' := lc) (st' := .int (x + 1) :: .ref 0 :: .ref a :: st) (w1 := w) i4 (by simp only [sstep]) ?_
  refine Rs.step (pc' := p + 6) (lc' := lc) (st' := .int (xs (x + 1).toNatClampNeg) :: .ref a :: st) (w1 := w) i5 (by simp only [sstep]; rw [hald]) ?_
  exact k
def LwQ (ks : List Nat) (v : Option Value) (w' : pW) : Prop := v = some (.int 1) ∧ ∃ P', Typed KTab ks P' w'
theorem lz_pass (hU : Uq KTab ks) (hp : CK KTab (XL ks) ks PP FF GM xs L c_pond) (hL : L ≤ 3073) {P : Nat} (hP : P + 1082808 + CrMax + 60 * 16777216 ≤ PMax) {ρ : Nat → Value} {lc : pL} {st : List Value} {w : pW} {x : Int32} {Q : Option Value → pW → Prop} (hG : Ga KTab (XL ks) ks P 0 ρ lz_e.2.2.2.2.1 w0 (stC lz_h) ρ lc st w) (hx : ρ 2 = .int x) (h0 : 0 ≤ x.toInt) (h6 : x.toInt + 6 ≤ (L : Int) - 1)
    (k : ∀ (P' : Nat) (ρ' : Nat → Value) (lc' : pL) (st' : List Value) (w' : pW) (y : Int32), P' ≤ P + 1082808 → Ga KTab (XL ks) ks P' 0 ρ' lz_e.2.2.2.2.1 w0 (stC lz_h) ρ' lc' st' w' → ρ' 2 = .int y → y.toInt = x.toInt + 6 → Rs PP FF GM TX xs L 60 mL_law 18 lc' st' w' Q) : Rs PP FF GM TX xs L 60 mL_law 27 lc st w Q := by
  have hC := lz_cts (xs := xs) (L := L) hU hp
  have hS : ∀ {n : Nat} {r : Nat → Value}, 2 < n → r 2 = .int x → ScrOK L lz_e.2.2.2.2.2.2.2 n r := by
    intro n r hn hr s0 hs
    cases hs
    rw [hr, iv_int]
    exact ⟨hn, h0, h6⟩
  -- behind a pass
  have hend : ∀ (P' : Nat) (r ρ' : Nat → Value) (lc' : pL) (st' : List Value) (w' : pW), P' ≤ P + 1082808 → r 2 = .int x → Ga KTab (XL ks) ks P' 3 r lz_e.2.2.2.2.1 w0 (stC lz_p) ρ' lc' st' w' → Rs PP FF GM TX xs L 60 mL_law 18 lc' st' w' Q := by
    intro P' r ρ' lc' st' w' hPP hr hg
    have a2 : ρ' 2 = .int x := (hg.2.2.2.2.2.2.2.1 2 (by decide)).trans hr
    obtain ⟨y, ey, y1, y2⟩ := id (okD0 (hg.1 12 (0, Zb + 6, Zb + 3078) rfl))
    have u1 := (hg.2.2.2.1 (10, 2, 12, 2147483642) (by decide)).1.2.2.2.2.1 rfl
    have u2 := (hg.2.2.2.1 (10, 12, 2, 2147483654) (by decide)).1.2.2.2.2.1 rfl
    simp only [a2, ey, iv_int] at u1 u2
    have g3 : Ga KTab (XL ks) ks P' 3 r lz_e.2.2.2.2.1 w0 (stC lz_p3) ρ' lc' st' w' := by
      refine hg.re (ds := (stC lz_p3).1) (me := (stC lz_p3).2.2.2.1) rfl (fun s d hs => ?_) hg.2.2.2.1
      by_cases hs12 : s = 12
      · subst hs12
        cases hs
        rw [ey]
        exact ⟨y, rfl, by simp only [Zb]; omega, by simp only [Zb]; omega⟩
      · have e : (stC lz_p3).1 = (stC lz_p).1.set 12 (0, Zb + 6, Zb + 3072) := rfl
        rw [e, List.getElem?_set_ne (Ne.symm hs12)] at hs
        exact hg.1 s d hs
    have hPM : P' + (stC lz_p3).2.2.2.2 ≤ PMax := hg.2.2.2.2.2.2.2.2.2.1
    have g4 := mtC_ok (ρ0 := fun s => ρ' (nth [0, 1, 12, 3, 4, 5, 6, 7, 8, 9, 10, 11] s)) lz_m (show wfU lz_h = true from rfl) g3 (Nat.zero_le _) (fun s hs => absurd hs (Nat.not_lt_zero _)) hPM
    exact k P' _ lc' st' w' y hPP g4 ey (by omega)
  have hP1 : P + CrMax + 60 * 16777216 ≤ PMax := by omega
  refine segX_ok (E := lz_e) (xs := xs) (L := L) XL_xs hC lz_k0 rfl (by decide) hG hP1 (by omega) (hS (by decide) hx) ?_
  intro c hc P' ρ' lc' st' w' hPP hag hg
  have a2 : ρ' 2 = .int x := (hag 2 (by decide)).trans hx
  rcases List.mem_cons.mp hc with rfl | hc
  · exact hend P' ρ ρ' lc' st' w' (by omega) hx hg
  · have hb : Ga KTab (XL ks) ks P' 3 ρ lz_e.2.2.2.2.1 w0 (stC lz_h) ρ' lc' st' w' := by
      obtain ⟨pc, -, rfl⟩ := List.mem_map.mp hc
      exact hg
    have one : ∀ {pc : Nat}, chkX lz_e 3000 60 mL_law lz_a [18] pc lz_s 3 1082808 [lz_p] = true → Rs PP FF GM TX xs L 60 mL_law pc lc' st' w' Q := by
      intro pc hk
      refine segX_ok (E := lz_e) (xs := xs) (L := L) XL_xs hC hk rfl (by decide) hb (by omega) (by omega) (hS (by decide) a2) ?_
      intro c hc P2 ρ2 lc2 st2 w2 hPP2 hag2 hg2
      rw [List.mem_singleton.mp hc] at hg2 ⊢
      exact hend P2 ρ' ρ2 lc2 st2 w2 (by omega) a2 hg2
    simp only [List.map_cons, List.map_nil, List.mem_cons, List.not_mem_nil, or_false] at hc
    rcases hc with rfl | rfl | rfl | rfl | rfl | rfl | rfl | rfl | rfl | rfl | rfl | rfl | rfl | rfl | rfl | rfl | rfl | rfl | rfl | rfl | rfl | rfl | rfl | rfl | rfl | rfl
    · exact one lz_c0
    · exact one lz_c1
    · exact one lz_c2
    · exact one lz_c3
    · exact one lz_c4
    · exact one lz_c5
    · exact one lz_c6
    · exact one lz_c7
    · exact one lz_c8
    · exact one lz_c9
    · exact one lz_c10
    · exact one lz_c11
    · exact one lz_c12
    · exact one lz_c13
    · exact one lz_c14
    · exact one lz_c15
    · exact one lz_c16
    · exact one lz_c17
    · exact one lz_c18
    · exact one lz_c19
    · -- later
      have l0 := (hb.2.1 (0, 3) (by decide)).1
      have l1 := (hb.2.1 (1, 0) (by decide)).1
      have l3 := (hb.2.1 (3, 2) (by decide)).1
      obtain ⟨ox, eox, -⟩ := id (hb.1 0 (1, 0, 0) rfl)
      have e3 : ρ' 3 = .ref 0 := hb.1 3 (8, 0, 0) rfl
      simp only [e3] at l0
      simp only [eox] at l1
      simp only [a2] at l3
      refine rd6 (p := 768) (kk := 1) (by decide +kernel) (by decide +kernel) (by decide +kernel) (by decide +kernel) (by decide +kernel) (by decide +kernel) l1 l0 l3 h0 h6 hL ?_
      have hst0 : st' = [] := hb.stq
      subst hst0
      have g1 := (hb.pu (d := dFull) (v := .int (xs (x + 1).toNatClampNeg)) (okI_full _) nof).stk (r := [12, 0]) (fun s hs => by
        simp only [List.mem_cons, List.not_mem_nil, or_false] at hs
        rcases hs with rfl | rfl
        · exact (show 12 < 13 by decide)
        · exact (show 0 < 13 by decide))
      have em : [12, 0].map (upS ρ' (stC lz_h).1.length (.int (xs (x + 1).toNatClampNeg))) = [.int (xs (x + 1).toNatClampNeg), .ref (ox + 3)] := by
        simp only [List.map_cons, List.map_nil]
        rw [show upS ρ' (stC lz_h).1.length (.int (xs (x + 1).toNatClampNeg)) 12 = .int (xs (x + 1).toNatClampNeg) from upS_eq _ _ _, show upS ρ' (stC lz_h).1.length (.int (xs (x + 1).toNatClampNeg)) 0 = ρ' 0 from upS_ne (by decide), eox]
      rw [em] at g1
      have b2 : upS ρ' (stC lz_h).1.length (.int (xs (x + 1).toNatClampNeg)) 2 = .int x := (upS_ne (by decide)).trans a2
      refine segX_ok (E := lz_e) (xs := xs) (L := L) (σ := lz_s1) XL_xs hC lz_k1 rfl (by decide) g1 (by omega) (by omega) (hS (by decide) b2) ?_
      intro c hc P2 ρ2 lc2 st2 w2 hPP2 hag2 hg2
      have c2 : ρ2 2 = .int x := (hag2 2 (by decide)).trans b2
      have c12 : ρ2 12 = .int (xs (x + 1).toNatClampNeg) := (hag2 12 (by decide)).trans (upS_eq _ _ _)
      have fin4 : ∀ (q : Cu) (t : aS) (z n : Nat), q.1 = 777 → stC q = stC c → t = setSt (stC q) [12, 1, z] → q.2.1.2.2.1 = [z] → z < n → 13 < n → (0, 3) ∈ (stC q).2.1 → (2, 1) ∈ (stC q).2.1 → (3, 2) ∈ (stC q).2.1 → (stC q).1[3]? = some (8, 0, 0) → (stC q).1[1]? = some (1, 11, 0) → (stC q).1.length = n → chkX lz_e 3000 60 mL_law lz_a [18] 783 t 3 0 [lz_p] = true → Rs PP FF GM TX xs L 60 mL_law q.1 lc2 st2 w2 Q := by
        intro q t z n hq1 hqc ht hqs hzn hn13 m0 m2 m3 d3 d1 hlen hk
        rw [← hqc] at hg2
        have l0 := (hg2.2.1 (0, 3) m0).1
        have l2 := (hg2.2.1 (2, 1) m2).1
        have l3 := (hg2.2.1 (3, 2) m3).1
        obtain ⟨om, eom, -⟩ := id (hg2.1 1 (1, 11, 0) d1)
        have e3 : ρ2 3 = .ref 0 := hg2.1 3 (8, 0, 0) d3
        simp only [e3] at l0
        simp only [eom] at l2
        simp only [c2] at l3
        rw [hq1]
        have hst : st2 = [ρ2 z] := by
          have := hg2.stq
          rw [show (stC q).2.2.1 = [z] from hqs] at this
          exact this
        refine rd6 (p := 777) (kk := 2) (by decide +kernel) (by decide +kernel) (by decide +kernel) (by decide +kernel) (by decide +kernel) (by decide +kernel) l2 l0 l3 h0 h6 hL ?_
        have g5 := hg2.stk (r := [12, 1, z]) (fun s hs => by
          rw [hlen]
          simp only [List.mem_cons, List.not_mem_nil, or_false] at hs
          omega)
        simp only [List.map_cons, List.map_nil, c12, eom] at g5
        rw [← ht] at g5
        rw [hst]
        refine segX_ok (E := lz_e) (xs := xs) (L := L) XL_xs hC hk rfl (by rw [ht]; show 3 ≤ (stC q).1.length; rw [hlen]; omega) g5 (by omega) (by omega) (hS (by rw [ht]; show 2 < (stC q).1.length; rw [hlen]; omega) c2) ?_
        intro c' hc' P4 ρ4 lc4 st4 w4 hPP4 hag4 hg4
        rw [List.mem_singleton.mp hc'] at hg4 ⊢
        exact hend P4 ρ2 ρ4 lc4 st4 w4 (by omega) c2 hg4
      simp only [List.mem_cons, List.not_mem_nil, or_false] at hc
      rcases hc with rfl | rfl | rfl | rfl
      · exact fin4 lz_q0 lz_t0 13 14 rfl rfl rfl rfl (by decide) (by decide) (by decide) (by decide) (by decide) rfl rfl rfl lz_k20
      · exact fin4 lz_q1 lz_t1 13 14 rfl rfl rfl rfl (by decide) (by decide) (by decide) (by decide) (by decide) rfl rfl rfl lz_k21
      · exact fin4 lz_q2 lz_t2 13 14 rfl rfl rfl rfl (by decide) (by decide) (by decide) (by decide) (by decide) rfl rfl rfl lz_k22
      · exact fin4 lz_q3 lz_t3 14 15 rfl rfl rfl rfl (by decide) (by decide) (by decide) (by decide) (by decide) rfl rfl rfl lz_k23
    · exact one lz_c21
    · exact one lz_c22
    · exact one lz_c23
    · exact one lz_c24
    · exact one lz_c25
end LWO

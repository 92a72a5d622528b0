/-! writes of what is frozen: sound -/
section EZP
variable {KT : List Kd} {X : pW → Prop} {ks : List Nat} {P n0 : Nat} {ρ0 : Nat → Value} {eff : List (Nat × Nat)} {w0 : pW} {σ : aS} {ρ : Nat → Value} {lc : pL} {st : List Value} {w : pW}
variable {pp : pP} {F : pF} {Gm : pG} {xs : Nat → Int32} {L d : Nat} {M : pM} {pc : Nat} {R R0 : pR} {E : Env}
theorem thD_ok {B : Nat} {e : Ds} {v : Value} : okD ks B (thD e) v ↔ okD ks B e v := by
  obtain ⟨t, a, b⟩ := e
  unfold thD
  split
  · next h =>
    simp only [nbe] at h
    subst h
    exact Iff.rfl
  · exact Iff.rfl
theorem thD_el {B j : Nat} {e : Ds} {v : Value} : okD ks B (elD (thD e) j) v ↔ okD ks B (elD e j) v := by
  obtain ⟨t, a, b⟩ := e
  unfold thD
  split
  · next h =>
    simp only [nbe] at h
    subst h
    exact Iff.rfl
  · exact Iff.rfl
theorem thK_ok {B : Nat} {kd : Kd} {e : pE} : okE ks B (thK kd) e ↔ okE ks B kd e := by
  rcases kd with ⟨ci, fds⟩ | ⟨t, n, dd⟩ <;> rcases e with ⟨t', n', a⟩ | ⟨c, fs⟩
  · exact Iff.rfl
  · unfold thK okE
    simp only [List.length_map, List.getElem?_map]
    refine and_congr Iff.rfl (and_congr Iff.rfl ⟨fun h j d hj => ?_, fun h j d hj => ?_⟩)
    · obtain ⟨v, h1, h2⟩ := h j (thD d) (by rw [hj]; rfl)
      exact ⟨v, h1, thD_ok.mp h2⟩
    · cases hq : fds[j]? with
      | none => rw [hq] at hj; cases hj
      | some d0 =>
        rw [hq] at hj
        have := Option.some.inj hj
        subst this
        obtain ⟨v, h1, h2⟩ := h j d0 hq
        exact ⟨v, h1, thD_ok.mpr h2⟩
  · unfold thK okE
    simp only
    refine and_congr Iff.rfl (and_congr Iff.rfl ?_)
    rcases a with f | f | f | f | f
    · simp only
      exact and_congr Iff.rfl ⟨fun h j hj => thD_el.mp (h j hj), fun h j hj => thD_el.mpr (h j hj)⟩
    · exact Iff.rfl
    · exact Iff.rfl
    · exact Iff.rfl
    · simp only
      have e : (thD dd).2.1 = dd.2.1 := by unfold thD; split <;> rfl
      rw [e]
  · exact Iff.rfl
theorem thaw_at {k : Nat} {kd : Kd} (h : KT[k]? = some kd) : (thaw KT)[k]? = some (thK kd) := by
  unfold thaw
  rw [List.getElem?_map, h]
  rfl
theorem thaw_ty {B : Nat} : Typed (thaw KT) ks B w ↔ Typed KT ks B w := by
  constructor
  · intro h
    refine ⟨h.1, fun i k hk => ?_⟩
    obtain ⟨kd, e, h1, h2, h3⟩ := h.2 i k hk
    cases hq : KT[k]? with
    | none => unfold thaw at h1; rw [List.getElem?_map, hq] at h1; cases h1
    | some kd0 =>
      rw [thaw_at hq] at h1
      have := Option.some.inj h1
      subst this
      exact ⟨kd0, e, rfl, h2, thK_ok.mp h3⟩
  · intro h
    refine ⟨h.1, fun i k hk => ?_⟩
    obtain ⟨kd, e, h1, h2, h3⟩ := h.2 i k hk
    exact ⟨_, e, thaw_at h1, h2, thK_ok.mpr h3⟩
theorem Ga.th (h : Ga KT X ks P n0 ρ0 eff w0 σ ρ lc st w) : Ga (thaw KT) (fun _ => True) ks P n0 ρ0 eff w0 σ ρ lc st w := by
  obtain ⟨g1, g2, g3, g4, g5, g6, g7⟩ := h
  exact ⟨g1, g2, g3, g4, thaw_ty.mpr g5, trivial, g7⟩
theorem Ga.uth (h : Ga (thaw KT) (fun _ => True) ks P n0 ρ0 eff w0 σ ρ lc st w) (hX : X w) : Ga KT X ks P n0 ρ0 eff w0 σ ρ lc st w := by
  obtain ⟨g1, g2, g3, g4, g5, g6, g7⟩ := h
  exact ⟨g1, g2, g3, g4, thaw_ty.mp g5, hX, g7⟩
theorem Ga.ub2 {Y : pW → Prop} (h : Ga KT Y ks P n0 ρ0 eff w0 σ ρ lc st w) {τ : aS} {ρ' : Nat → Value} {lc' : pL} {st' : List Value} {w' : pW} (k : Ga KT X ks P σ.1.length ρ eff w0 τ ρ' lc' st' w') : Ga KT X ks P n0 ρ0 eff w0 τ ρ' lc' st' w' := by
  obtain ⟨g1, g2, g3, g4, g5, g6, g7, g8, g9, g10⟩ := k
  have h8 := h.2.2.2.2.2.2.2.1
  have h9 := h.2.2.2.2.2.2.2.2.1
  exact ⟨g1, g2, g3, g4, g5, g6, g7, fun s hs => (g8 s (Nat.lt_of_lt_of_le hs h9)).trans (h8 s hs), Nat.le_trans h9 g9, g10⟩
theorem XS_true : XS KT ks (fun _ => True) := fun _ _ _ _ => trivial
theorem okF_lg {B : Nat} {op a b : Nat} (h1 : 100 ≤ op) (h2 : op ≤ 999) : okF B ρ w (op, a, b, 0) := by
  have k : ∀ {p : Prop} {c : Nat}, c < 100 → op = c → p := fun c1 e => by omega
  exact ⟨fun e => k (by decide) e, fun e => k (by decide) e, fun e => k (by decide) e, fun e => k (by decide) e, fun e => k (by decide) e, fun e => k (by decide) e, fun e => k (by decide) e, fun e => by simp only at e; omega⟩
/-- one more row of the log -/
theorem Ga.lg1 {op a b : Nat} (h1 : 100 ≤ op) (h2 : op ≤ 999) (ha : a < σ.1.length) (hb : b < σ.1.length) (h : Ga KT X ks P n0 ρ0 eff w0 σ ρ lc st w) : Ga KT X ks P n0 ρ0 eff w0 (σ.1, σ.2.1, σ.2.2.1, (op, a, b, 0) :: σ.2.2.2.1, σ.2.2.2.2) ρ lc st w := by
  obtain ⟨g1, g2, g3, g4, g5⟩ := h
  refine ⟨g1, g2, g3, fun f hf => ?_, g5⟩
  rcases List.mem_cons.mp hf with rfl | hf
  · exact ⟨okF_lg h1 h2, ha, hb, Or.inr (Or.inr (Or.inr (Nat.lt_of_le_of_lt (Nat.zero_le _) ha)))⟩
  · exact g4 f hf
theorem lgF_cons {f : Fa} {me : List Fa} (h1 : 100 ≤ f.1) (h2 : f.1 ≤ 999) : lgF (f :: me) = f :: lgF me := by
  unfold lgF
  rw [List.filter_cons, if_pos (by simp only [Bool.and_eq_true, nbl]; exact ⟨h1, h2⟩)]
/-- a write of a frozen row or field -/
theorem zSt_ok {ins : Instr} {q : Nat × aS} (hU : Uq E.1 ks) (hG : GZ E.1 ks R0 P n0 ρ0 E.2.2.2.2.1 w0 σ ρ lc st w) (h : zSt E M σ ins pc = some q) : ∃ (ρ' : Nat → Value) (lc' : pL) (st' : List Value) (w' : pW), sstep E.2.2.1 E.2.1 xs L M.1 M.2.2.2.1 (isInit M.2.1) ins pc lc st w = some (q.1, lc', st', w') ∧ GZ E.1 ks R0 P n0 ρ0 E.2.2.2.2.1 w0 q.2 ρ' lc' st' w' := by
  have hX := hG.2.2.2.2.2.1
  unfold zSt at h
  split at h
  · split at h
    · next v i a r0 hst =>
      split at h
      · next k hk =>
        split at h
        · next n lo hi hK =>
          split at h
          · next hk9 =>
            rw [nbl] at hk9
            split at h
            · next q0 hq0 =>
              split at h
              · next hlg =>
                have := Option.some.inj h
                subst this
                have hT := Ga.rb (Ga.th hG)
                obtain ⟨a', x, y, r, w1, e1, e2, τ, e3, g⟩ := astA_ok XS_true (fun t ht => by simp at ht; omega) hT hq0
                have e3 := List.head_eq_of_cons_eq e3
                subst e3
                obtain ⟨b, eb, kb⟩ := hG.kd hk
                have e1' := e1
                rw [hG.stq, hst] at e1'
                simp only [List.map_cons, List.cons.injEq] at e1'
                obtain ⟨ev, ei, ea, -⟩ := e1'
                rw [eb] at ea
                cases ea
                have hw := hX.1 b k n _ kb hK rfl
                unfold astI at e2
                rw [wAt3, hw] at e2
                simp only at e2
                split at e2
                · have e2 := Option.some.inj e2
                  subst e2
                  have hbl : b < w.length := (List.getElem?_eq_some_iff.mp hw).1
                  have hil : i < σ.1.length := hG.sl (by rw [hst]; exact List.mem_cons_of_mem _ List.mem_cons_self)
                  have hvl : v < σ.1.length := hG.sl (by rw [hst]; exact List.mem_cons_self)
                  have e9 := g.2.2.2.2.2.2.2.2.1
                  refine ⟨ρ, lc, r.map ρ, wSet w (b + 3) (.inl (0, n, .inl (upd ((evL ρ (lgF σ.2.2.2.1) R0).1 k) x.toNatClampNeg (naI 0 y)))), ?_, ?_⟩
                  · rw [e1]
                    simp only [sstep, astI, wAt3, hw]
                    rw [if_pos (by assumption)]
                    rfl
                  · unfold GZ logS
                    simp only
                    rw [lgF_cons (by simp only; omega) (by simp only; omega), eq_of_beq hlg]
                    refine Ga.ub2 hG (Ga.lg1 (op := 100 + k) (by omega) (by omega) (Nat.lt_of_lt_of_le hil e9) (Nat.lt_of_lt_of_le hvl e9) (Ga.uth g ?_))
                    rw [evL]
                    have ei' : intV (ρ i) = x := by rw [ei]; rfl
                    have ev' : intV (ρ v) = y := by rw [ev]; rfl
                    unfold wrR
                    simp only [ei', ev']
                    rw [if_pos (by omega)]
                    have hset : ∀ j, (wSet w (b + 3) (.inl (0, n, .inl (upd ((evL ρ (lgF σ.2.2.2.1) R0).1 k) x.toNatClampNeg (naI 0 y)))))[j]? = if j = b then some (.inl (0, n, .inl (upd ((evL ρ (lgF σ.2.2.2.1) R0).1 k) x.toNatClampNeg y))) else w[j]? := fun j => get_set hbl
                    refine ⟨fun i' k' n' d' hi' hK' hd' => ?_, fun i' k' ci fds hi' hK' => ?_⟩
                    · rw [hset]
                      by_cases hib : i' = b
                      · subst hib
                        rw [kb] at hi'
                        cases hi'
                        rw [hK] at hK'
                        cases hK'
                        rw [if_pos rfl]
                        simp only
                        rw [if_pos (by omega)]
                      · rw [if_neg hib]
                        have hkk : ¬ k' = 100 + k - 100 := fun e => by
                          have e : k' = k := by omega
                          subst e
                          exact hib (hU.1 i' b k' n' d' hi' kb hK' hd')
                        simp only
                        rw [if_neg hkk]
                        exact hX.1 i' k' n' d' hi' hK' hd'
                    · obtain ⟨fs, q1, q2⟩ := hX.2 i' k' ci fds hi' hK'
                      refine ⟨fs, ?_, q2⟩
                      rw [hset, if_neg (fun e => by subst e; rw [hw] at q1; cases q1)]
                      exact q1
                · cases e2
              · cases h
            · cases h
          · cases h
        · cases h
      · cases h
    · cases h
  · next ix =>
    split at h
    · next v o r0 ci f hst hp =>
      split at h
      · next k hk =>
        split at h
        · next cj fds hK =>
          split at h
          · next lo hi hf =>
            split at h
            · next hc =>
              simp only [Bool.and_eq_true, nbl] at hc
              split at h
              · next q0 hq0 =>
                split at h
                · next hlg =>
                  have := Option.some.inj h
                  subst this
                  have hT := Ga.rb (Ga.th hG)
                  obtain ⟨q1, hq1, ρ', lc', st', w', hs, g⟩ := k_putfield (pp := E.2.2.1) (F := E.2.1) (xs := xs) (L := L) (own := M.1) (nL := M.2.2.2.1) (ini := isInit M.2.1) (pc := pc) (i := ix) XS_true hT (l := [q0]) (by simp only [ai1]; exact hq0)
                  rw [List.mem_singleton.mp hq1] at hs g
                  obtain ⟨b, eb, kb⟩ := hG.kd hk
                  obtain ⟨fs, hw, hfs⟩ := hX.2 b k cj fds kb hK
                  obtain ⟨y, ey⟩ := hG.tI hc.2
                  have e8 := g.2.2.2.2.2.2.2.1
                  have e9 := g.2.2.2.2.2.2.2.2.1
                  have hvl : v < σ.1.length := hG.sl (by rw [hst]; exact List.mem_cons_self)
                  refine ⟨ρ', lc', st', w', hs, ?_⟩
                  rw [hG.stq, hst, List.map_cons, List.map_cons, eb] at hs
                  simp only [sstep, hp] at hs
                  have hbl : b < w.length := (List.getElem?_eq_some_iff.mp hw).1
                  unfold putF at hs
                  rw [wAt3, hw] at hs
                  split at hs
                  · next w1 hw1 =>
                    simp only [Option.some.injEq, Prod.mk.injEq] at hs
                    obtain ⟨-, -, -, rfl⟩ := hs
                    split at hw1
                    · next c1 fs1 ty fin e1 e2 =>
                      cases e1
                      split at hw1
                      · next hcond =>
                        simp only [Bool.and_eq_true, beq_iff_eq, decide_eq_true_eq] at hcond
                        have hw1 := Option.some.inj hw1
                        subst hw1
                        have hcj := hcond.1.1.1
                        have hfl := hcond.1.2
                        subst hcj
                        unfold GZ logS
                        simp only
                        rw [lgF_cons (by simp only; omega) (by simp only; omega), eq_of_beq hlg]
                        refine Ga.ub2 hG (Ga.lg1 (op := 300 + f) (by omega) (by omega) (Nat.lt_of_lt_of_le hvl e9) (Nat.lt_of_lt_of_le hvl e9) (Ga.uth g ?_))
                        rw [evL, evL_ext e8 (fun f hf => ⟨(hG.2.2.2.1 f (lgF_mem hf)).2.1, (hG.2.2.2.1 f (lgF_mem hf)).2.2.1⟩)]
                        have ev' : intV (ρ' v) = y := by rw [e8 v hvl, ey]; rfl
                        unfold wrR
                        simp only [ev']
                        rw [if_neg (by omega)]
                        have hset : ∀ j, (wSet w (b + 3) (.inr (cj, fs.set f (ρ v))))[j]? = if j = b then some (.inr (cj, fs.set f (ρ v))) else w[j]? := fun j => get_set hbl
                        refine ⟨fun i' k' n' d' hi' hK' hd' => ?_, fun i' k' ci' fds' hi' hK' => ?_⟩
                        · rw [hset, if_neg (fun e => by subst e; have := hX.1 _ _ _ _ hi' hK' hd'; rw [hw] at this; cases this)]
                          exact hX.1 i' k' n' d' hi' hK' hd'
                        · obtain ⟨fs', q1, q2⟩ := hX.2 i' k' ci' fds' hi' hK'
                          by_cases hib : i' = b
                          · subst hib
                            rw [kb] at hi'
                            cases hi'
                            rw [hK] at hK'
                            cases hK'
                            rw [hw] at q1
                            cases q1
                            refine ⟨fs.set f (ρ v), by rw [hset, if_pos rfl], fun g dg hg hdg => ?_⟩
                            simp only
                            by_cases hgf : g = f
                            · subst hgf
                              rw [List.getElem?_set_self hfl, if_pos (by omega), ey]
                            · rw [List.getElem?_set_ne (Ne.symm hgf), if_neg (by omega)]
                              exact q2 g dg hg hdg
                          · refine ⟨fs', by rw [hset, if_neg hib]; exact q1, fun g dg hg hdg => ?_⟩
                            exact absurd (hU.2 i' b k' k ci' cj g f fds' fds dg _ hi' kb hK' hK hg hdg hf rfl) hib
                      · cases hw1
                    · cases hw1
                  · cases hs
                · cases h
              · cases h
            · cases h
          · cases h
        · cases h
      · cases h
    · cases h
  · cases h
end EZP

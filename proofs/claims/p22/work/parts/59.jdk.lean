/-! the JDK's methods, and how a method is called -/
section JDK
variable {KT : List Kd} {X : pW → Prop} {ks : List Nat} {P n0 : Nat} {ρ0 : Nat → Value} {eff : List (Nat × Nat)} {w0 : pW} {σ : aS} {ρ : Nat → Value} {lc : pL} {st : List Value} {w : pW}
variable {pp : pP} {F : pF} {Gm : pG} {xs : Nat → Int32} {L d : Nat} {M : pM} {pc : Nat}
/-- a row written anew as a whole -/
theorem Ga.wr (hXs : XS KT ks X) (hG : Ga KT X ks P n0 ρ0 eff w0 σ ρ lc st w) {b k n : Nat} {e : Ds} {f g : Nat → Int32} {r : List Nat} (kb : ks[b]? = some k) (hK : KT[k]? = some (.inr (0, n, e))) (hw : w[b]? = some (.inl (0, n, .inl f))) (h5 : e.1 ≠ 5) (hg : ∀ j : Nat, j < n → okD ks (P + σ.2.2.2.2) (elD e j) (.int (g j))) (heff : (k, 999) ∈ eff) (hr : ∀ s ∈ r, s < σ.1.length) : Ga KT X ks P n0 ρ0 eff w0 (σ.1, σ.2.1, r, σ.2.2.2.1.filter (fun f => !(Nat.beq f.1 2 && isKd σ.1 f.2.1 k)), σ.2.2.2.2) ρ lc (r.map ρ) (w.set b (.inl (0, n, .inl g))) := by
  have hbl : b < w.length := (List.getElem?_eq_some_iff.mp hw).1
  refine hG.sto hXs hr ?_ ?_ ?_ ?_ hG.2.2.2.2.2.2.2.2.2.2
  · exact hG.2.2.2.2.1.set kb hK ⟨rfl, rfl, Or.inl rfl, fun j hj => hg j hj⟩
  · intro j k' kd' hj hK'
    by_cases hjb : j = b
    · subst hjb
      rw [kb] at hj
      cases hj
      rw [hK] at hK'
      cases hK'
      intro e
      exact absurd e h5
    · rcases kd' with o' | r'
      · intro ci' fs' hw'
        exact ⟨fs', by rw [get_set hbl, if_neg hjb]; exact hw', fun _ _ _ _ => rfl⟩
      · intro _
        rw [get_set hbl, if_neg hjb]
  · intro j k' hj
    by_cases hjb : j = b
    · subst hjb
      rw [kb] at hj
      cases hj
      exact ⟨fun hn => absurd heff hn, fun ci' fs' hw' => by rw [hw] at hw'; cases hw'⟩
    · exact ⟨fun _ a' ha' => by rw [get_set hbl, if_neg hjb]; exact ha', fun ci' fs' hw' => ⟨fs', by rw [get_set hbl, if_neg hjb]; exact hw', fun _ _ => rfl⟩⟩
  · intro q hq
    obtain ⟨hg1, hg2⟩ := List.mem_filter.mp hq
    obtain ⟨b1, b2⟩ := hG.2.2.2.1 q hg1
    refine ⟨⟨fun e => ?_, b1.2.1, b1.2.2.1, b1.2.2.2.1, b1.2.2.2.2.1, b1.2.2.2.2.2.1, b1.2.2.2.2.2.2.1, fun e => ?_⟩, b2⟩
    · obtain ⟨j, y, t', n', q', q1, q2, q3, q4⟩ := b1.1 e
      obtain ⟨j', rfl, hj'⟩ := wAt_some q3
      by_cases hjb : j' = b
      · subst hjb
        simp only [Bool.not_eq_true', Bool.and_eq_false_iff] at hg2
        rcases hg2 with hg2 | hg2
        · rw [nbe.mpr e] at hg2; cases hg2
        · obtain ⟨j2, k2, z1, z2, z3⟩ := isKd_no hG hg2
          rw [q1] at z1
          cases z1
          rw [kb] at z2
          cases z2
          exact absurd rfl z3
      · exact ⟨j' + 3, y, t', n', q', q1, q2, by rw [wAt3, get_set hbl, if_neg hjb]; exact hj', q4⟩
    · obtain ⟨j, c', fs', q1, q2, q3⟩ := b1.2.2.2.2.2.2.2 e
      obtain ⟨j', rfl, hj'⟩ := wAt_some q2
      exact ⟨j' + 3, c', fs', q1, by rw [wAt3, get_set hbl, if_neg (fun e => by subst e; rw [hw] at hj'; cases hj')]; exact hj', q3⟩
theorem not_neg {x : Int32} (h : 0 ≤ x.toInt) : decide (¬ x < 0) = true := by
  rw [decide_eq_true_eq, Int32.lt_iff_toInt_lt, Int32.toInt_zero]
  omega
theorem jdk1_ok {τ : aS} {i j : Nat} (hXs : XS KT ks X) (hG : Ga KT X ks P n0 ρ0 eff w0 σ ρ lc st w) (hp : pp.2.2.2 M.1 i = some (1, j)) (h : jdkA KT eff σ 1 d = some τ) : ∃ (st' : List Value) (w' : pW) (ρ' : Nat → Value), acallS pp Gm M d i pc lc st w = some (.inr (.inl (pc + 3, lc, st', w'))) ∧ Ga KT X ks P n0 ρ0 eff w0 τ ρ' lc st' w' := by
  unfold jdkA at h
  split at h
  · next n dp dst sp src r _ hst =>
    split at h
    · next k0 k1 hk0 hk1 =>
      split at h
      · next n0' a b n1' a' b' hK0 hK1 =>
        split at h
        · next u v x y x' y' hn hsp hdp =>
          split at h
          · next hc =>
            simp only [Bool.and_eq_true, nbl, Zb] at hc
            obtain ⟨c1, c2, c3, c4, c5, c6, c7, c8, c9, c10⟩ := hc
            have := Option.some.inj h
            subst this
            obtain ⟨i0, e0, kk0⟩ := hG.kd hk0
            obtain ⟨i1, e1, kk1⟩ := hG.kd hk1
            obtain ⟨f, hf, hfo⟩ := hG.row kk0 hK0 (Or.inl rfl)
            obtain ⟨g, hg, hgo⟩ := hG.row kk1 hK1 (Or.inl rfl)
            obtain ⟨nv, en, p1, p2⟩ := hG.rg hn
            obtain ⟨sv, es, p3, p4⟩ := hG.rg hsp
            obtain ⟨dv, ed, p5, p6⟩ := hG.rg hdp
            have hr : ∀ s ∈ r, s < σ.1.length := fun s hs => hG.sl (by rw [hst]; exact List.mem_cons_of_mem _ (List.mem_cons_of_mem _ (List.mem_cons_of_mem _ (List.mem_cons_of_mem _ (List.mem_cons_of_mem _ hs)))))
            have q1 := clamp_toInt (x := nv) (by omega)
            have q2 := clamp_toInt (x := sv) (by omega)
            have q3 := clamp_toInt (x := dv) (by omega)
            refine ⟨r.map ρ, w.set i1 (.inl (0, n1', .inl (va_cpy f g sv.toNatClampNeg dv.toNatClampNeg nv.toNatClampNeg))), ρ, ?_, ?_⟩
            · have hcat := catsA_ok hG.sd hr
              unfold acallS
              rw [hp]
              simp only
              rw [hG.stq, hst]
              simp only [List.map_cons]
              rw [en, es, ed, e0, e1]
              simp only
              rw [if_pos (by simp only [Bool.and_eq_true, decide_eq_true_eq]; exact ⟨by rw [hcat]; exact c9, by omega⟩)]
              have hac : acpy w (i0 + 3) sv (i1 + 3) dv nv = some (wSet w (i1 + 3) (.inl (0, n1', .inl (va_cpy f g sv.toNatClampNeg dv.toNatClampNeg nv.toNatClampNeg)))) := by
                unfold acpy
                rw [wAt3, wAt3, hf, hg]
                simp only
                rw [if_pos (by
                  rw [not_neg (x := sv) (by omega), not_neg (x := dv) (by omega), not_neg (x := nv) (by omega)]
                  simp only [Bool.true_and, Bool.and_eq_true, decide_eq_true_eq]
                  omega)]
              rw [hac]
              rfl
            · refine hG.wr hXs kk1 hK1 hg (by simp) (fun j hj => ?_) (mem_cont c8) hr
              rw [elD_n (by simp)]
              unfold va_cpy
              split
              · next hh =>
                have := hfo (sv.toNatClampNeg + (j - dv.toNatClampNeg)) (by omega)
                rw [elD_n (by simp)] at this
                exact okI_w (okD0 this) c1 c2
              · have := hgo j hj
                rw [elD_n (by simp)] at this
                exact this
          · cases h
        · cases h
      · cases h
    · cases h
  all_goals first | cases h | (next he _ => cases he) | (next he => cases he)
theorem jdk8_ok {τ : aS} {i j op : Nat} (hop : op = 8 ∨ op = 9) (hG : Ga KT X ks P n0 ρ0 eff w0 σ ρ lc st w) (hp : pp.2.2.2 M.1 i = some (op, j)) (h : jdkA KT eff σ op d = some τ) : ∃ (st' : List Value) (w' : pW) (ρ' : Nat → Value), acallS pp Gm M d i pc lc st w = some (.inr (.inl (pc + 3, lc, st', w'))) ∧ Ga KT X ks P n0 ρ0 eff w0 τ ρ' lc st' w' := by
  have hz := zbi
  rcases hop with rfl | rfl
  · unfold jdkA at h
    split at h
    · next he _ => cases he
    · next b a r _ hst =>
      split at h
      · next hc =>
        simp only [Bool.and_eq_true, nbl] at hc
        have hr : ∀ s ∈ r, s < σ.1.length := fun s hs => hG.sl (by rw [hst]; exact List.mem_cons_of_mem _ (List.mem_cons_of_mem _ hs))
        have hal : a < σ.1.length := hG.sl (by rw [hst]; exact List.mem_cons_of_mem _ List.mem_cons_self)
        have hbl : b < σ.1.length := hG.sl (by rw [hst]; exact List.mem_cons_self)
        have hcat := catsA_ok hG.sd hr
        have call : ∀ {x y : Int32}, ρ a = .int x → ρ b = .int y → acallS pp Gm M d i pc lc st w = some (.inr (.inl (pc + 3, lc, .int (if x < y then y else x) :: r.map ρ, w))) := by
          intro x y ex ey
          unfold acallS
          rw [hp]
          simp only
          rw [hG.stq, hst]
          simp only [List.map_cons]
          rw [ex, ey]
          simp only
          rw [if_pos (by simp only [Bool.and_eq_true, decide_eq_true_eq]; exact ⟨by rw [hcat]; exact hc.1, by omega⟩)]
        split at h
        · next x y u v ha hb =>
          have := Option.some.inj h
          subst this
          obtain ⟨xv, ex, x1, x2⟩ := hG.d0 ha
          obtain ⟨yv, ey, y1, y2⟩ := hG.d0 hb
          have e1 : (if xv < yv then yv else xv).toInt = max xv.toInt yv.toInt := by
            by_cases hh : xv < yv
            · rw [if_pos hh]
              rw [Int32.lt_iff_toInt_lt] at hh
              omega
            · rw [if_neg hh]
              rw [Int32.lt_iff_toInt_lt] at hh
              omega
          refine ⟨_, w, _, call ex ey, (hG.stk hr).pu (d := (0, max x u, max y v)) ⟨_, rfl, ?_, ?_⟩ ?_⟩
          · rw [e1]; simp only [Nat.max_def]; split <;> omega
          · rw [e1]; simp only [Nat.max_def]; split <;> omega
          · intro f hf
            rcases List.mem_cons.mp hf with rfl | hf
            · refine ⟨f10 ?_, Nat.lt_succ_of_lt hal, Nat.lt_succ_self _, Or.inl rfl⟩
              rw [upS_eq, upS_ne (show a < (setSt σ r).1.length from hal), ex, iv_int, iv_int, e1]
              omega
            · rw [List.mem_singleton.mp hf]
              refine ⟨f10 ?_, Nat.lt_succ_of_lt hbl, Nat.lt_succ_self _, Or.inl rfl⟩
              rw [upS_eq, upS_ne (show b < (setSt σ r).1.length from hbl), ey, iv_int, iv_int, e1]
              omega
        · split at h
          · next hI =>
            simp only [Bool.and_eq_true] at hI
            have := Option.some.inj h
            subst this
            obtain ⟨xv, ex⟩ := hG.tI hI.1
            obtain ⟨yv, ey⟩ := hG.tI hI.2
            exact ⟨_, w, _, call ex ey, (hG.stk hr).pu (d := dFull) (okI_full _) nof⟩
          · cases h
      · cases h
    all_goals first | cases h | (next he _ => cases he) | (next he => cases he)
  · unfold jdkA at h
    split at h
    · next he _ => cases he
    · next he _ => cases he
    · next b a r _ hst =>
      split at h
      · next hc =>
        simp only [Bool.and_eq_true, nbl] at hc
        have hr : ∀ s ∈ r, s < σ.1.length := fun s hs => hG.sl (by rw [hst]; exact List.mem_cons_of_mem _ (List.mem_cons_of_mem _ hs))
        have hal : a < σ.1.length := hG.sl (by rw [hst]; exact List.mem_cons_of_mem _ List.mem_cons_self)
        have hbl : b < σ.1.length := hG.sl (by rw [hst]; exact List.mem_cons_self)
        have hcat := catsA_ok hG.sd hr
        have call : ∀ {x y : Int32}, ρ a = .int x → ρ b = .int y → acallS pp Gm M d i pc lc st w = some (.inr (.inl (pc + 3, lc, .int (if y < x then y else x) :: r.map ρ, w))) := by
          intro x y ex ey
          unfold acallS
          rw [hp]
          simp only
          rw [hG.stq, hst]
          simp only [List.map_cons]
          rw [ex, ey]
          simp only
          rw [if_pos (by simp only [Bool.and_eq_true, decide_eq_true_eq]; exact ⟨by rw [hcat]; exact hc.1, by omega⟩)]
        split at h
        · next x y u v ha hb =>
          have := Option.some.inj h
          subst this
          obtain ⟨xv, ex, x1, x2⟩ := hG.d0 ha
          obtain ⟨yv, ey, y1, y2⟩ := hG.d0 hb
          have e1 : (if yv < xv then yv else xv).toInt = min xv.toInt yv.toInt := by
            by_cases hh : yv < xv
            · rw [if_pos hh]
              rw [Int32.lt_iff_toInt_lt] at hh
              omega
            · rw [if_neg hh]
              rw [Int32.lt_iff_toInt_lt] at hh
              omega
          refine ⟨_, w, _, call ex ey, (hG.stk hr).pu (d := (0, min x u, min y v)) ⟨_, rfl, ?_, ?_⟩ ?_⟩
          · rw [e1]; simp only [Nat.min_def]; split <;> omega
          · rw [e1]; simp only [Nat.min_def]; split <;> omega
          · intro f hf
            rcases List.mem_cons.mp hf with rfl | hf
            · refine ⟨f10 ?_, Nat.lt_succ_self _, Nat.lt_succ_of_lt hal, Or.inl rfl⟩
              rw [upS_eq, upS_ne (show a < (setSt σ r).1.length from hal), ex, iv_int, iv_int, e1]
              omega
            · rw [List.mem_singleton.mp hf]
              refine ⟨f10 ?_, Nat.lt_succ_self _, Nat.lt_succ_of_lt hbl, Or.inl rfl⟩
              rw [upS_eq, upS_ne (show b < (setSt σ r).1.length from hbl), ey, iv_int, iv_int, e1]
              omega
        · split at h
          · next hI =>
            simp only [Bool.and_eq_true] at hI
            have := Option.some.inj h
            subst this
            obtain ⟨xv, ex⟩ := hG.tI hI.1
            obtain ⟨yv, ey⟩ := hG.tI hI.2
            exact ⟨_, w, _, call ex ey, (hG.stk hr).pu (d := dFull) (okI_full _) nof⟩
          · cases h
      · cases h
    all_goals first | cases h | (next he _ => cases he) | (next he => cases he)
end JDK

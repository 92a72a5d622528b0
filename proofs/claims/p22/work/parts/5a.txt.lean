/-! the texts' methods, how a method is called, how it ends -/
section TXA
variable {KT : List Kd} {X : pW → Prop} {ks : List Nat} {P n0 : Nat} {ρ0 : Nat → Value} {eff : List (Nat × Nat)} {w0 : pW} {σ : aS} {ρ : Nat → Value} {lc : pL} {st : List Value} {w : pW}
variable {pp : pP} {F : pF} {Gm : pG} {xs : Nat → Int32} {L d : Nat} {M : pM} {pc : Nat}
theorem tx_len : ∀ a, a = 1 ∨ a = 2 → ∃ t, TX[a - 1]? = some t ∧ t.length = (if a = 1 then 176 else 11) := by
  intro a h
  rcases h with rfl | rfl
  · exact ⟨_, rfl, rfl⟩
  · exact ⟨_, rfl, rfl⟩
theorem acV {op i j : Nat} {st' : List Value} (hp : pp.2.2.2 M.1 i = some (op, j)) (h0 : op ≠ 0) (ht : tops TX op st = some st') (hc : cats st' ≤ 8) (hd : 6 ≤ d) : acallV pp Gm TX M d i pc lc st w = some (.inr (.inl (pc + 3, lc, st', w))) := by
  unfold acallV
  rw [hp]
  split
  · next e => exact absurd (Prod.mk.inj (Option.some.inj e)).1 h0
  · next e =>
    have := (Prod.mk.inj (Option.some.inj e)).1
    subst this
    rw [ht]
    simp only
    rw [if_pos (by simp only [Bool.and_eq_true, decide_eq_true_eq]; exact ⟨hc, hd⟩)]
  · next e => cases e
theorem chAt_ok (t : List Int32) (k : Nat) : okI Zb (Zb + 255) (.int (chAt t k)) := by
  unfold chAt
  obtain ⟨l1, l2⟩ := and_nn (x := t.getD k 0) (y := 255) (by decide)
  have e : (255 : Int32).toInt = 255 := rfl
  exact ⟨_, rfl, by simp only [Zb]; omega, by simp only [Zb]; omega⟩
theorem jdk3_ok {τ : aS} {i j op : Nat} (hop : op = 3 ∨ op = 4 ∨ op = 5) (hG : Ga KT X ks P n0 ρ0 eff w0 σ ρ lc st w) (hp : pp.2.2.2 M.1 i = some (op, j)) (h : jdkA KT eff σ op d = some τ) : ∃ (st' : List Value) (w' : pW) (ρ' : Nat → Value), acallV pp Gm TX M d i pc lc st w = some (.inr (.inl (pc + 3, lc, st', w'))) ∧ Ga KT X ks P n0 ρ0 eff w0 τ ρ' lc st' w' := by
  have cc : ∀ {r : List Nat} {x : Int32}, (∀ s ∈ r, s < σ.1.length) → catsA σ.1 r ≤ 7 → cats (.int x :: r.map ρ) ≤ 8 := by
    intro r x hr hc
    have e := catsA_ok hG.sd hr
    have e2 : cats (.int x :: r.map ρ) = 1 + cats (r.map ρ) := by
      unfold cats
      rw [List.map_cons, List.sum_cons]
      rfl
    omega
  rcases hop with rfl | rfl | rfl
  · unfold jdkA at h
    split at h
    · next he _ => cases he
    · next he _ => cases he
    · next he _ => cases he
    · next o r _ hst =>
      have hr : ∀ s ∈ r, s < σ.1.length := fun s hs => hG.sl (by rw [hst]; exact List.mem_cons_of_mem _ hs)
      split at h
      · next hc =>
        simp only [Bool.and_eq_true, nbl] at hc
        have fin : ∀ {a : Nat} {t : List Int32} {n : Nat}, ρ o = .ref (a + 1) → TX[a]? = some t → t.length = n → n = 176 ∨ n = 11 → τ = push (setSt σ r) (0, Zb + n, Zb + n) nf0 → ∃ (st' : List Value) (w' : pW) (ρ' : Nat → Value), acallV pp Gm TX M d i pc lc st w = some (.inr (.inl (pc + 3, lc, st', w'))) ∧ Ga KT X ks P n0 ρ0 eff w0 τ ρ' lc st' w' := by
          intro a t n eo et el hn e
          subst e
          refine ⟨.int (nI n) :: r.map ρ, w, _, acV hp (by decide) ?_ (cc hr hc.1) hc.2, (hG.stk hr).pu (d := (0, Zb + n, Zb + n)) ⟨_, rfl, ?_, ?_⟩ nof⟩
          · rw [hG.stq, hst, List.map_cons, eo]
            simp only [tops, et, el]
          · rw [nI_toInt (by omega)]; simp only [Zb]; omega
          · rw [nI_toInt (by omega)]; simp only [Zb]; omega
        split at h
        · next b ho =>
          obtain ⟨t, et, el⟩ := tx_len 1 (Or.inl rfl)
          exact fin (a := 0) (hG.1 o _ ho) et (el.trans (if_pos rfl)) (Or.inl rfl) (Option.some.inj h).symm
        · next b ho =>
          obtain ⟨t, et, el⟩ := tx_len 2 (Or.inr rfl)
          exact fin (a := 1) (hG.1 o _ ho) et (el.trans (if_neg (by decide))) (Or.inr rfl) (Option.some.inj h).symm
        · cases h
      · cases h
    all_goals first | cases h | (next he _ => cases he) | (next he => cases he)
  · unfold jdkA at h
    split at h
    · next he _ => cases he
    · next he _ => cases he
    · next he _ => cases he
    · next he _ => cases he
    · next ix o r _ hst =>
      have hr : ∀ s ∈ r, s < σ.1.length := fun s hs => hG.sl (by rw [hst]; exact List.mem_cons_of_mem _ (List.mem_cons_of_mem _ hs))
      split at h
      · next hc =>
        simp only [Bool.and_eq_true, nbl] at hc
        have fin : ∀ {a : Nat} {t : List Int32}, ρ o = .ref (a + 1) → TX[a]? = some t → inA σ.1 ix t.length = true → τ = push (setSt σ r) (0, Zb, Zb + 255) nf0 → ∃ (st' : List Value) (w' : pW) (ρ' : Nat → Value), acallV pp Gm TX M d i pc lc st w = some (.inr (.inl (pc + 3, lc, st', w'))) ∧ Ga KT X ks P n0 ρ0 eff w0 τ ρ' lc st' w' := by
          intro a t eo et hin e
          subst e
          obtain ⟨x, ex, h0, hlt, hib⟩ := inA_ok hG hin
          refine ⟨.int (chAt t x.toNatClampNeg) :: r.map ρ, w, _, acV hp (by decide) ?_ (cc hr hc.1) hc.2, (hG.stk hr).pu (d := (0, Zb, Zb + 255)) (v := .int (chAt t x.toNatClampNeg)) (oD0 (chAt_ok t _)) nof⟩
          rw [hG.stq, hst, List.map_cons, List.map_cons, eo, ex]
          simp only [tops, et, hib, if_true]
        split at h
        · next b ho =>
          split at h
          · next hi =>
            obtain ⟨t, et, el⟩ := tx_len 1 (Or.inl rfl)
            exact fin (a := 0) (hG.1 o _ ho) et (by rw [el, if_pos rfl]; exact hi) (Option.some.inj h).symm
          · cases h
        · next b ho =>
          split at h
          · next hi =>
            obtain ⟨t, et, el⟩ := tx_len 2 (Or.inr rfl)
            exact fin (a := 1) (hG.1 o _ ho) et (by rw [el, if_neg (by decide)]; exact hi) (Option.some.inj h).symm
          · cases h
        · cases h
      · cases h
    all_goals first | cases h | (next he _ => cases he) | (next he => cases he)
  · unfold jdkA at h
    split at h
    · next he _ => cases he
    · next he _ => cases he
    · next he _ => cases he
    · next he _ => cases he
    · next he _ => cases he
    · next c o r _ hst =>
      have hr : ∀ s ∈ r, s < σ.1.length := fun s hs => hG.sl (by rw [hst]; exact List.mem_cons_of_mem _ (List.mem_cons_of_mem _ hs))
      split at h
      · next hc =>
        simp only [Bool.and_eq_true, nbl] at hc
        obtain ⟨x, ex⟩ := hG.tI hc.1
        have fin : ∀ {a : Nat} {t : List Int32}, ρ o = .ref (a + 1) → TX[a]? = some t → τ = push (setSt σ r) dFull nf0 → ∃ (st' : List Value) (w' : pW) (ρ' : Nat → Value), acallV pp Gm TX M d i pc lc st w = some (.inr (.inl (pc + 3, lc, st', w'))) ∧ Ga KT X ks P n0 ρ0 eff w0 τ ρ' lc st' w' := by
          intro a t eo et e
          subst e
          refine ⟨.int (ixF x t 0) :: r.map ρ, w, _, acV hp (by decide) ?_ (cc hr hc.2.1) hc.2.2, (hG.stk hr).pu (d := dFull) (okI_full _) nof⟩
          rw [hG.stq, hst, List.map_cons, List.map_cons, eo, ex]
          simp only [tops, et]
        split at h
        · next b ho => exact fin (a := 0) (hG.1 o _ ho) rfl (Option.some.inj h).symm
        · next b ho => exact fin (a := 1) (hG.1 o _ ho) rfl (Option.some.inj h).symm
        · cases h
      · cases h
    all_goals first | cases h | (next he _ => cases he) | (next he => cases he)
theorem calA_ok {i j op : Nat} {M' : pM} {args r : List Nat} (hG : Ga KT X ks P n0 ρ0 eff w0 σ ρ lc st w) (hp : pp.2.2.2 M.1 i = some (op, j)) (h : calA KT Gm σ op j = some (M', args, r)) : (∃ na, Gm[j]? = some (M', na)) ∧ (∀ s ∈ args, s < σ.1.length) ∧ (∀ s ∈ r, s < σ.1.length) ∧ ((op = 0 ∧ acallV pp Gm TX M d i pc lc st w = some (.inr (.inr (M', args.map ρ, pc + 3, lc, r.map ρ)))) ∨ (op = 6 ∧ acallS pp Gm M d i pc lc st w = some (.inr (.inr (M', args.map ρ, pc + 3, lc, r.map ρ))))) := by
  unfold calA at h
  split at h
  · next M1 na hM =>
    have htk : ∀ s ∈ (σ.2.2.1.take na).reverse, s < σ.1.length := fun s hs => hG.sl (List.mem_of_mem_take (List.mem_reverse.mp hs))
    split at h
    · next h0 =>
      rw [nbe] at h0
      subst h0
      split at h
      · next o r' hdr =>
        split at h
        · next k hk =>
          split at h
          · next cj fds hK =>
            split at h
            · next hc =>
              simp only [Bool.and_eq_true, nbe, nbl] at hc
              obtain ⟨c1, c2, c3, c4⟩ := hc
              have := Option.some.inj h
              simp only [Prod.mk.injEq] at this
              obtain ⟨rfl, rfl, rfl⟩ := this
              have hdl : ∀ s ∈ o :: r', s < σ.1.length := fun s hs => hG.sl (List.mem_of_mem_drop (by rw [hdr]; exact hs))
              have hal : ∀ s ∈ o :: (σ.2.2.1.take na).reverse, s < σ.1.length := fun s hs => by
                rcases List.mem_cons.mp hs with rfl | hs
                · exact hdl _ List.mem_cons_self
                · exact htk s hs
              refine ⟨⟨na, hM⟩, hal, fun s hs => hdl s (List.mem_cons_of_mem _ hs), Or.inl ⟨rfl, ?_⟩⟩
              obtain ⟨b, eb, kb⟩ := hG.kd hk
              obtain ⟨fs, hw, -, -⟩ := hG.obj kb hK
              have hcr := catsA_ok hG.sd (l := r') (fun s hs => hdl s (List.mem_cons_of_mem _ hs))
              have hca := catsA_ok hG.sd hal
              unfold acallV
              rw [hp]
              simp only
              rw [hM]
              simp only
              rw [hG.stq, ← List.map_drop, hdr, List.map_cons, eb]
              simp only
              rw [wAt3, hw]
              simp only
              have e1 : ((σ.2.2.1.map ρ).take na).reverse = (σ.2.2.1.take na).reverse.map ρ := by rw [← List.map_take, List.map_reverse]
              rw [e1]
              have e2 : (Value.ref (b + 3) :: (σ.2.2.1.take na).reverse.map ρ) = (o :: (σ.2.2.1.take na).reverse).map ρ := by rw [List.map_cons, eb]
              rw [e2, if_pos (by
                simp only [Bool.and_eq_true, decide_eq_true_eq, beq_iff_eq, List.length_map]
                exact ⟨c1, by rw [hcr]; exact c2, c3, by rw [hca]; exact c4⟩)]
            · cases h
          · cases h
        · cases h
      · cases h
    · split at h
      · next h6 =>
        rw [nbe] at h6
        subst h6
        split at h
        · next hc =>
          simp only [Bool.and_eq_true, nbl] at hc
          obtain ⟨c2, c3, c4⟩ := hc
          have := Option.some.inj h
          simp only [Prod.mk.injEq] at this
          obtain ⟨rfl, rfl, rfl⟩ := this
          have hdl : ∀ s ∈ σ.2.2.1.drop na, s < σ.1.length := fun s hs => hG.sl (List.mem_of_mem_drop hs)
          refine ⟨⟨na, hM⟩, htk, hdl, Or.inr ⟨rfl, ?_⟩⟩
          have hcr := catsA_ok hG.sd hdl
          have hca := catsA_ok hG.sd htk
          unfold acallS
          rw [hp]
          simp only
          rw [hM]
          simp only
          rw [hG.stq, ← List.map_drop]
          have e1 : ((σ.2.2.1.map ρ).take na).reverse = (σ.2.2.1.take na).reverse.map ρ := by rw [← List.map_take, List.map_reverse]
          rw [e1, if_pos (by
            simp only [Bool.and_eq_true, decide_eq_true_eq, List.length_map]
            exact ⟨by rw [hcr]; exact c2, c3, by rw [hca]; exact c4⟩)]
        · cases h
      · cases h
  · cases h
theorem retA_ok {ins : Instr} {o : Out} (hG : Ga KT X ks P n0 ρ0 eff w0 σ ρ lc st w) (h : retA M ins σ = some o) : ∃ x, o = (.inr x, σ) ∧ aret M ins st = some (x.map ρ) ∧ isRet ins = true := by
  unfold retA at h
  split at h
  · next s hst hty =>
    split at h
    · next hI =>
      obtain ⟨x, ex⟩ := hG.tI hI
      refine ⟨some s, (Option.some.inj h).symm, ?_, rfl⟩
      unfold aret
      rw [hG.stq, hst, List.map_cons, ex, hty, Option.map_some, ex]
      rfl
    · cases h
  · next s hst hty =>
    split at h
    · next a b hr =>
      split at h
      · next hc =>
        simp only [Bool.and_eq_true, nbl, Zb] at hc
        obtain ⟨x, ex, h1, h2⟩ := hG.rg hr
        refine ⟨some s, (Option.some.inj h).symm, ?_, rfl⟩
        unfold aret
        rw [hG.stq, hst, List.map_cons, ex, hty]
        simp only [List.map_nil]
        have : x = 0 ∨ x = 1 := by
          rcases (show x.toInt = 0 ∨ x.toInt = 1 by omega) with e | e
          · exact Or.inl (Int32.toInt_inj.mp e)
          · exact Or.inr (Int32.toInt_inj.mp e)
        rw [if_pos this]
        rw [Option.map_some, ex]
      · cases h
    · cases h
  · next s hst hty =>
    split at h
    · next hI =>
      obtain ⟨x, ex⟩ := hG.tJ hI
      refine ⟨some s, (Option.some.inj h).symm, ?_, rfl⟩
      unfold aret
      rw [hG.stq, hst, List.map_cons, ex, hty, Option.map_some, ex]
      rfl
    · cases h
  · next s n hst hty =>
    split at h
    · next hI =>
      obtain ⟨x, ex⟩ := hG.tN hI
      refine ⟨some s, (Option.some.inj h).symm, ?_, rfl⟩
      unfold aret
      rw [hG.stq, hst, List.map_cons, ex, hty, Option.map_some, ex]
      rfl
    · cases h
  · next hst hty =>
    refine ⟨none, (Option.some.inj h).symm, ?_, rfl⟩
    unfold aret
    rw [hG.stq, hst, hty]
    rfl
  · cases h
theorem insA_ok {pc : Nat} {ins : Instr} (h : insA M pc = some ins) : instrAt M pc = some ins := by
  unfold insA at h
  unfold instrAt
  have e : (fun q : Nat × Instr => Nat.beq q.1 pc) = (fun q => q.1 == pc) := by
    funext q
    rw [Bool.eq_iff_iff, nbe, beq_iff_eq]
  rw [e] at h
  split at h
  · next q hq => rw [hq]; exact h
  · cases h
end TXA

/-! execution is sound -/
def OutP (KT : List Kd) (X : pW → Prop) (ks : List Nat) (P n0 : Nat) (ρ0 : Nat → Value) (eff : List (Nat × Nat)) (w0 : pW) (pp : pP) (F : pF) (Gm : pG) (xs : Nat → Int32) (L d : Nat) (M : pM) (Q : Option Value → pW → Prop) (o : Out) : Prop := ∀ (ρ : Nat → Value) (lc : pL) (st : List Value) (w : pW), Ga KT X ks P n0 ρ0 eff w0 o.2 ρ lc st w → match o.1 with
  | .inl pc => Rs pp F Gm TX xs L d M pc lc st w Q
  | .inr x => Q (x.map ρ) w
def ScrOK (L : Nat) (scr : Option Nat) (n0 : Nat) (ρ0 : Nat → Value) : Prop := ∀ s0, scr = some s0 → s0 < n0 ∧ 0 ≤ iv (ρ0 s0) ∧ iv (ρ0 s0) + 6 ≤ (L : Int) - 1
section EXO
variable {X : pW → Prop} {ks : List Nat} {P : Nat} {w0 : pW} {xs : Nat → Int32} {L : Nat} {E : Env}
def ExOK (X : pW → Prop) (ks : List Nat) (P : Nat) (w0 : pW) (xs : Nat → Int32) (L : Nat) (E : Env) (f : ExT) : Prop := ∀ (d : Nat) (M : pM) (an : List (Nat × List An)) (cuts : List Nat) (first : Bool) (pc : Nat) (σ : aS) (outs : List Out), f d M an cuts first pc σ = some outs → ∀ (n0 : Nat) (ρ0 ρ : Nat → Value) (lc : pL) (st : List Value) (w : pW) (Q : Option Value → pW → Prop), Ga E.1 X ks P n0 ρ0 E.2.2.2.2.1 w0 σ ρ lc st w → P + CrMax + d * 16777216 ≤ PMax → ScrOK L E.2.2.2.2.2.2.2 n0 ρ0 → (∀ o ∈ outs, OutP E.1 X ks P n0 ρ0 E.2.2.2.2.1 w0 E.2.2.1 E.2.1 E.2.2.2.1 xs L d M Q o) → Rs E.2.2.1 E.2.1 E.2.2.2.1 TX xs L d M pc lc st w Q
theorem ScrOK.up {n0 : Nat} {ρ0 : Nat → Value} {σ : aS} {ρ : Nat → Value} {lc : pL} {st : List Value} {w : pW} {scr : Option Nat} {KT : List Kd} {eff : List (Nat × Nat)} (h : ScrOK L scr n0 ρ0) (hG : Ga KT X ks P n0 ρ0 eff w0 σ ρ lc st w) : ScrOK L scr σ.1.length ρ := by
  intro s0 hs
  obtain ⟨h1, h2, h3⟩ := h s0 hs
  have h8 := hG.2.2.2.2.2.2.2.1
  have h9 := hG.2.2.2.2.2.2.2.2.1
  rw [h8 s0 h1]
  exact ⟨Nat.lt_of_lt_of_le h1 h9, h2, h3⟩
theorem backI_ok {σ : aS} {pc : Nat} {r : List Nat} : ∀ {outs : List Out} {l : List (Nat × aS)}, backI σ pc r outs = some l → ∀ o ∈ outs, ∃ x, o.1 = .inr x ∧ (∀ s, x = some s → s < o.2.1.length) ∧ (pc, (o.2.1, σ.2.1, puR x r, o.2.2.2.2.1, o.2.2.2.2.2)) ∈ l
  | [], _, _, o, ho => by cases ho
  | o' :: outs, l, h, o, ho => by
    rw [backI] at h
    split at h
    · next x l' hx hl =>
      split at h
      · next hlt =>
        have := Option.some.inj h
        subst this
        rcases List.mem_cons.mp ho with rfl | ho
        · exact ⟨x, hx, fun s hs => by subst hs; exact nbl.mp hlt, List.mem_cons_self⟩
        · obtain ⟨x', h1, h3, h2⟩ := backI_ok hl o ho
          exact ⟨x', h1, h3, List.mem_cons_of_mem _ h2⟩
      · cases h
    · cases h
theorem hp_dn {d' : Nat} (h : P + CrMax + (d' + 1) * 16777216 ≤ PMax) : P + CrMax + d' * 16777216 ≤ PMax := Nat.le_trans (Nat.add_le_add_left (Nat.mul_le_mul_right _ (Nat.le_succ d')) _) h
theorem hp_ct {d' k cr : Nat} (h : P + CrMax + (d' + 1) * 16777216 ≤ PMax) (hc : cr ≤ CrMax) (hk : k + 1 ≤ d' + 1) : P + cr + (k + 1) * 16777216 ≤ PMax := Nat.le_trans (Nat.add_le_add (Nat.add_le_add_left hc _) (Nat.mul_le_mul_right _ hk)) h
theorem take_map {ρ : Nat → Value} {τ args : List Nat} (h : τ.take args.length = args) (hl : args.length ≤ τ.length) : (List.range args.length).map (fun s => ρ (nth τ s)) = args.map ρ := by
  apply List.ext_getElem
  · simp
  · intro i h1 h2
    simp only [List.getElem_map, List.getElem_range]
    have hi : i < args.length := by simpa using h2
    have e : τ[i]? = some args[i] := by
      have e1 : (τ.take args.length)[i]? = args[i]? := by rw [h]
      rw [List.getElem?_take_of_lt hi, List.getElem?_eq_getElem hi] at e1
      exact e1
    rw [nth_eq e]
theorem scrA_ok {KT : List Kd} {n0 : Nat} {ρ0 : Nat → Value} {eff : List (Nat × Nat)} {σ τ : aS} {ρ : Nat → Value} {lc : pL} {st : List Value} {w : pW} {pp : pP} {F : pF} {own nL pc : Nat} {ini : Bool} {ins : Instr} {scr : Option Nat} (hG : Ga KT X ks P n0 ρ0 eff w0 σ ρ lc st w) (hS : ScrOK L scr n0 ρ0) (hi : isScr scr ins σ = true) (h : scrA scr σ = some τ) : Nx KT X ks P n0 ρ0 eff w0 pp F xs L own nL ini ins pc lc st w [(pc + 1, τ)] := by
  unfold scrA at h
  split at h
  · next s0 i a r hst =>
    split at h
    · next b0 b p m ha hn =>
      split at h
      · next hc =>
        simp only [Bool.and_eq_true, nbe, nbl] at hc
        obtain ⟨c1, c2, c3, c4⟩ := hc
        subst c1
        have := Option.some.inj h
        subst this
        obtain ⟨s1, s2, s3⟩ := hS b rfl
        have h8 := hG.2.2.2.2.2.2.2.1 b s1
        have e := nrm_ok4 hG.sd hG.sm hn
        obtain ⟨x, ex⟩ := hG.tI c4
        rw [ex, iv_int] at e
        simp only [bv, h8] at e
        have ea : ρ a = .ref 0 := hG.1 a _ ha
        have hr : ∀ s ∈ r, s < σ.1.length := fun s hs => hG.sl (by rw [hst]; exact List.mem_cons_of_mem _ (List.mem_cons_of_mem _ hs))
        have hins : ins = .iaload := by
          unfold isScr at hi
          split at hi
          · rfl
          · cases hi
        subst hins
        have q1 := clamp_toInt (x := x) (by omega)
        have hin : inB x (L - 1) = true := by
          unfold inB
          rw [Bool.and_eq_true, decide_eq_true_eq]
          refine ⟨?_, by omega⟩
          have := not_neg (x := x) (by omega)
          simpa using this
        refine ⟨_, List.mem_singleton_self _, _, lc, _, w, ?_, (hG.stk hr).pu (d := dFull) (v := .int (xs x.toNatClampNeg)) (okI_full _) nof⟩
        rw [hG.stq, hst, List.map_cons, List.map_cons, ex, ea]
        have hald : aldI xs L w 0 x [0] = some (xs x.toNatClampNeg) := by
          unfold aldI
          have : wAt w 0 = none := rfl
          rw [this]
          simp only
          rw [if_pos (by rw [hin]; rfl)]
        simp only [sstep, hald]
      · cases h
    · cases h
  · cases h
theorem exI_ok {f : ExT} (hXs : XS E.1 ks X) (hC : ∀ c ∈ E.2.2.2.2.2.1, CK E.1 X ks E.2.2.1 E.2.1 E.2.2.2.1 xs L c) (ih : ExOK X ks P w0 xs L E f) {d : Nat} {M : pM} {an : List (Nat × List An)} {cuts : List Nat} {pr : Bool} {pc : Nat} {σ : aS} {outs : List Out} (h : exI E f d M an cuts pr pc σ = some outs) {n0 : Nat} {ρ0 ρ : Nat → Value} {lc : pL} {st : List Value} {w : pW} {Q : Option Value → pW → Prop} (hG : Ga E.1 X ks P n0 ρ0 E.2.2.2.2.1 w0 σ ρ lc st w) (hP : P + CrMax + d * 16777216 ≤ PMax) (hS : ScrOK L E.2.2.2.2.2.2.2 n0 ρ0) (hO : ∀ o ∈ outs, OutP E.1 X ks P n0 ρ0 E.2.2.2.2.1 w0 E.2.2.1 E.2.1 E.2.2.2.1 xs L d M Q o) : Rs E.2.2.1 E.2.1 E.2.2.2.1 TX xs L d M pc lc st w Q := by
  unfold exI at h
  split at h
  · cases h
  · next ins hins =>
    have hi := insA_ok hins
    split at h
    · next hret =>
      split at h
      · next o ho =>
        have := Option.some.inj h
        subst this
        obtain ⟨x, rfl, e2, -⟩ := retA_ok hG ho
        have := hO _ (List.mem_singleton_self _) ρ lc st w hG
        refine Rs.ret (v := x.map ρ) hi ?_ this
        unfold astep
        cases ins <;> first | (simp only; rw [e2]; rfl) | (cases hret; done)
      · cases h
    · split at h
      · next i hinv =>
        split at h
        · next op j hp =>
          split at h
          · next hop =>
            split at h
            · next hop2 =>
              split at h
              · next M' args r hcal =>
                obtain ⟨⟨na, hM⟩, hal, hrl, hcall⟩ := calA_ok (d := d) (pc := pc) hG hp hcal
                have hA : astep E.2.2.1 E.2.1 E.2.2.2.1 TX xs L M d ins pc lc st w = some (.inr (.inr (M', args.map ρ, pc + 3, lc, r.map ρ))) := by
                  unfold isInv at hinv
                  split at hinv
                  · cases hinv
                    rcases hcall with ⟨e, k⟩ | ⟨e, k⟩
                    · exact k
                    · subst e; cases hop
                  · cases hinv
                    rcases hcall with ⟨e, k⟩ | ⟨e, k⟩
                    · subst e; cases hop
                    · exact k
                  · cases hinv
                split at h
                · cases h
                · next d' =>
                  split at h
                  · next l htk =>
                    obtain ⟨c, hc, τ, c1, c2, c3, c4, c5, c6, c7, c8, c9⟩ := tkC_ok htk
                    obtain ⟨t1, t2, t3, t4⟩ := chkP_ok hG.sd hG.sm c2
                    have hcm := hG.2.2.2.2.2.2.2.2.2.2
                    obtain ⟨M1, na1, e1, e2⟩ := hC c hc (P + σ.2.2.2.2) (fun s => ρ (nth τ s)) w t3 t4 hG.2.2.2.2.1 hG.2.2.2.2.2.1 (hp_ct hP hcm c5)
                    rw [c1, hM] at e1
                    cases e1
                    rw [← c3, take_map c8 (by omega)] at e2
                    refine Rs.call hi hA (e2.deep (by omega)) (fun v w1 hv => ?_)
                    obtain ⟨σ', hσ, ρ', g⟩ := apP_ok hG c2 hrl c7 c6 hv
                    rw [← c9] at hσ
                    obtain ⟨a, ha, hsub⟩ := cat_mem h σ' hσ
                    exact ih _ _ _ _ _ _ _ _ ha n0 ρ0 ρ' lc _ w1 Q g hP hS (fun o ho => hO o (hsub o ho))
                  · split at h
                    · next outs' hout =>
                      split at h
                      · next l hback =>
                        have hG2 : Ga E.1 X ks P σ.1.length ρ E.2.2.2.2.1 w0 (σ.1, lArgsA σ.1 0 args, [], σ.2.2.2.1, σ.2.2.2.2) ρ (lArgs 0 (args.map ρ)) [] w := by
                          obtain ⟨g1, g2, g3, g4, g5, g6, g7, g8, g9, g10⟩ := hG.rb
                          exact ⟨g1, lArgsA_ok hG.sd hal, ⟨rfl, fun s hs => by cases hs⟩, g4, g5, g6, g7, g8, g9, g10⟩
                        have hc := ih _ _ _ _ _ _ _ _ hout σ.1.length ρ ρ _ _ w (fun v w1 => ∃ o ∈ outs', ∃ (x : Option Nat) (ρ' : Nat → Value) (lc' : pL) (st' : List Value), o.1 = .inr x ∧ v = x.map ρ' ∧ Ga E.1 X ks P σ.1.length ρ E.2.2.2.2.1 w0 o.2 ρ' lc' st' w1) hG2 (hp_dn hP) (hS.up hG) (fun o ho ρ' lc' st' w' hg => by
                          obtain ⟨x, hx, -, -⟩ := backI_ok hback o ho
                          rw [hx]
                          exact ⟨o, ho, x, ρ', lc', st', hx, rfl, hg⟩)
                        refine Rs.call hi hA hc (fun v w1 hv => ?_)
                        obtain ⟨o, ho, x, ρ', lc', st', hx, rfl, hg⟩ := hv
                        obtain ⟨x', hx', hlt, hmem⟩ := backI_ok hback o ho
                        rw [hx] at hx'
                        cases hx'
                        obtain ⟨a, ha, hsub⟩ := cat_mem h _ hmem
                        have e8 := hg.2.2.2.2.2.2.2.1
                        have e9 := hg.2.2.2.2.2.2.2.2.1
                        have hrr : r.map ρ' = r.map ρ := List.map_congr_left (fun s hs => e8 s (hrl s hs))
                        have g2 : Ga E.1 X ks P n0 ρ0 E.2.2.2.2.1 w0 (o.2.1, σ.2.1, puR x r, o.2.2.2.2.1, o.2.2.2.2.2) ρ' lc ((x.map ρ').toList ++ r.map ρ) w1 := by
                          obtain ⟨g1, g2, g3, g4, g5, g6, g7, g8, g9, g10⟩ := hG.ub hg
                          refine ⟨g1, fun q hq => ?_, ⟨?_, ?_⟩, g4, g5, g6, g7, g8, g9, g10⟩
                          · obtain ⟨a1, a2⟩ := hG.2.1 q hq
                            exact ⟨by rw [e8 _ a2]; exact a1, Nat.lt_of_lt_of_le a2 e9⟩
                          · cases x with
                            | none => exact hrr.symm
                            | some s => simp only [Option.map_some, Option.toList_some, List.singleton_append, puR, List.map_cons, hrr]
                          · intro s hs
                            cases x with
                            | none => exact Nat.lt_of_lt_of_le (hrl s hs) e9
                            | some s' =>
                              rcases List.mem_cons.mp hs with rfl | hs
                              · exact hlt _ rfl
                              · exact Nat.lt_of_lt_of_le (hrl s hs) e9
                        exact ih _ _ _ _ _ _ _ _ ha n0 ρ0 ρ' lc _ w1 Q g2 hP hS (fun o ho => hO o (hsub o ho))
                      · cases h
                    · cases h
              · cases h
            · next hop2 =>
              split at h
              · next τ hj =>
                have fin : ∀ {st' : List Value} {w' : pW} {ρ' : Nat → Value}, astep E.2.2.1 E.2.1 E.2.2.2.1 TX xs L M d ins pc lc st w = some (.inr (.inl (pc + 3, lc, st', w'))) → Ga E.1 X ks P n0 ρ0 E.2.2.2.2.1 w0 τ ρ' lc st' w' → Rs E.2.2.1 E.2.1 E.2.2.2.1 TX xs L d M pc lc st w Q := by
                  intro st' w' ρ' hA g
                  exact Rs.next hi hA (ih _ _ _ _ _ _ _ _ h n0 ρ0 ρ' lc st' w' Q g hP hS hO)
                unfold isInv at hinv
                split at hinv
                · have := Option.some.inj hinv
                  subst this
                  simp only [opOK, Bool.or_eq_true, nbe] at hop hop2
                  have ho : op = 3 ∨ op = 4 ∨ op = 5 := by omega
                  obtain ⟨st', w', ρ', e, g⟩ := jdk3_ok (pc := pc) ho hG hp hj
                  exact fin e g
                · have := Option.some.inj hinv
                  subst this
                  simp only [opOK, Bool.or_eq_true, nbe] at hop hop2
                  have ho : op = 1 ∨ op = 8 ∨ op = 9 := by omega
                  rcases ho with rfl | ho
                  · obtain ⟨st', w', ρ', e, g⟩ := jdk1_ok (pc := pc) hXs hG hp hj
                    exact fin e g
                  · obtain ⟨st', w', ρ', e, g⟩ := jdk8_ok (pc := pc) ho hG hp hj
                    exact fin e g
                · cases hinv
              · cases h
          · cases h
        · cases h
      · next hinv =>
        split at h
        · next l hl =>
          have hnx : Nx E.1 X ks P n0 ρ0 E.2.2.2.2.1 w0 E.2.2.1 E.2.1 xs L M.1 M.2.2.2.1 (isInit M.2.1) ins pc lc st w l := by
            split at hl
            · next hscr =>
              split at hl
              · next τ hτ =>
                have := Option.some.inj hl
                subst this
                exact scrA_ok hG hS hscr hτ
              · cases hl
            · split at hl
              · exact prA_ok hG hl
              · exact ai1_ok hXs hG hl
          obtain ⟨q, hq, ρ', lc', st', w', hs, g⟩ := hnx
          obtain ⟨a, ha, hsub⟩ := cat_mem h q hq
          exact Rs.step hi hs (ih _ _ _ _ _ _ _ _ ha n0 ρ0 ρ' lc' st' w' Q g hP hS (fun o ho => hO o (hsub o ho)))
        · cases h
theorem ex_ok (hXs : XS E.1 ks X) (hC : ∀ c ∈ E.2.2.2.2.2.1, CK E.1 X ks E.2.2.1 E.2.1 E.2.2.2.1 xs L c) : ∀ n : Nat, ExOK X ks P w0 xs L E (ex E n) := by
  intro n
  induction n with
  | zero =>
    intro d M an cuts first pc σ outs h
    cases h
  | succ n ih =>
    intro d M an cuts first pc σ outs h n0 ρ0 ρ lc st w Q hG hP hS hO
    have h : exB E (ex E n) d M an cuts first pc σ = some outs := h
    unfold exB at h
    split at h
    · have := Option.some.inj h
      subst this
      exact hO _ (List.mem_singleton_self _) ρ lc st w hG
    · split at h
      · next l hl =>
        obtain ⟨τ, hτ, ρ', g⟩ := anL_ok hG hl
        obtain ⟨a, ha, hsub⟩ := cat_mem h τ hτ
        exact exI_ok hXs hC ih ha g hP hS (fun o ho => hO o (hsub o ho))
      · cases h
end EXO

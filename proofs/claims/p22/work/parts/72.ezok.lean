/-! execution with a log is sound -/
section EZQ
variable {ks : List Nat} {P : Nat} {w0 : pW} {xs : Nat → Int32} {L : Nat} {E : Env} {R0 : pR}
def OutZ (ks : List Nat) (R0 : pR) (P n0 : Nat) (ρ0 : Nat → Value) (w0 : pW) (xs : Nat → Int32) (L : Nat) (E : Env) (d : Nat) (M : pM) (Q : Option Value → pW → Prop) (o : Out) : Prop := ∀ (ρ : Nat → Value) (lc : pL) (st : List Value) (w : pW), GZ E.1 ks R0 P n0 ρ0 E.2.2.2.2.1 w0 o.2 ρ lc st w → match o.1 with
  | .inl pc => Rs E.2.2.1 E.2.1 E.2.2.2.1 TX xs L d M pc lc st w Q
  | .inr x => Q (x.map ρ) w
def EzOK (ks : List Nat) (R0 : pR) (P : Nat) (w0 : pW) (xs : Nat → Int32) (L : Nat) (E : Env) (f : ExT) : Prop := ∀ (d : Nat) (M : pM) (an : List (Nat × List An)) (cuts : List Nat) (first : Bool) (pc : Nat) (σ : aS) (outs : List Out), f d M an cuts first pc σ = some outs → ∀ (n0 : Nat) (ρ0 ρ : Nat → Value) (lc : pL) (st : List Value) (w : pW) (Q : Option Value → pW → Prop), GZ E.1 ks R0 P n0 ρ0 E.2.2.2.2.1 w0 σ ρ lc st w → P + CrMax + d * 16777216 ≤ PMax → (∀ o ∈ outs, OutZ ks R0 P n0 ρ0 w0 xs L E d M Q o) → Rs E.2.2.1 E.2.1 E.2.2.2.1 TX xs L d M pc lc st w Q
theorem ezI_ok {f : ExT} (hU : Uq E.1 ks) (hC : ∀ R, ∀ c ∈ E.2.2.2.2.2.1, CK E.1 (FZ E.1 ks R) ks E.2.2.1 E.2.1 E.2.2.2.1 xs L c) (ih : EzOK ks R0 P w0 xs L E f) {d : Nat} {M : pM} {an : List (Nat × List An)} {cuts : List Nat} {pr : Bool} {pc : Nat} {σ : aS} {outs : List Out} (h : ezI E f d M an cuts pr pc σ = some outs) {n0 : Nat} {ρ0 ρ : Nat → Value} {lc : pL} {st : List Value} {w : pW} {Q : Option Value → pW → Prop} (hG : GZ E.1 ks R0 P n0 ρ0 E.2.2.2.2.1 w0 σ ρ lc st w) (hP : P + CrMax + d * 16777216 ≤ PMax) (hO : ∀ o ∈ outs, OutZ ks R0 P n0 ρ0 w0 xs L E d M Q o) : Rs E.2.2.1 E.2.1 E.2.2.2.1 TX xs L d M pc lc st w Q := by
  have hB := Ga.rb hG
  unfold ezI at h
  split at h
  · cases h
  · next ins hins =>
    have hi := insA_ok hins
    split at h
    · next hret =>
      split at h
      · next o ho =>
        have := Option.some.inj h
        subst this
        obtain ⟨x, rfl, e2, -⟩ := retA_ok hG ho
        have := hO _ (List.mem_singleton_self _) ρ lc st w hG
        refine Rs.ret (v := x.map ρ) hi ?_ this
        unfold astep
        cases ins <;> first | (simp only; rw [e2]; rfl) | (cases hret; done)
      · cases h
    · split at h
      · next i hinv =>
        split at h
        · next op j hp =>
          split at h
          · next hop =>
            split at h
            · next hop2 =>
              split at h
              · next M' args r hcal =>
                obtain ⟨⟨na, hM⟩, hal, hrl, hcall⟩ := calA_ok (d := d) (pc := pc) hG hp hcal
                have hA : astep E.2.2.1 E.2.1 E.2.2.2.1 TX xs L M d ins pc lc st w = some (.inr (.inr (M', args.map ρ, pc + 3, lc, r.map ρ))) := by
                  unfold isInv at hinv
                  split at hinv
                  · cases hinv
                    rcases hcall with ⟨e, k⟩ | ⟨e, k⟩
                    · exact k
                    · subst e; cases hop
                  · cases hinv
                    rcases hcall with ⟨e, k⟩ | ⟨e, k⟩
                    · subst e; cases hop
                    · exact k
                  · cases hinv
                split at h
                · cases h
                · next d' =>
                  split at h
                  · next l htk =>
                    split at h
                    · next hlg =>
                      obtain ⟨c, hc, τ, c1, c2, c3, c4, c5, c6, c7, c8, c9⟩ := tkC_ok htk
                      obtain ⟨t1, t2, t3, t4⟩ := chkP_ok hG.sd hG.sm c2
                      have hcm := hG.2.2.2.2.2.2.2.2.2.2
                      obtain ⟨M1, na1, e1, e2⟩ := hC _ c hc (P + σ.2.2.2.2) (fun s => ρ (nth τ s)) w t3 t4 hG.2.2.2.2.1 hG.2.2.2.2.2.1 (hp_ct hP hcm c5)
                      rw [c1, hM] at e1
                      cases e1
                      rw [← c3, take_map c8 (by omega)] at e2
                      refine Rs.call hi hA (e2.deep (by omega)) (fun v w1 hv => ?_)
                      obtain ⟨σ', hσ, ρ', g⟩ := apP_ok hB c2 hrl c7 c6 hv
                      rw [← c9] at hσ
                      obtain ⟨a, ha, hsub⟩ := cat_mem h σ' hσ
                      exact ih _ _ _ _ _ _ _ _ ha n0 ρ0 ρ' lc _ w1 Q (GZ.go hG g (List.all_eq_true.mp hlg σ' hσ)) hP (fun o ho => hO o (hsub o ho))
                    · cases h
                  · split at h
                    · next outs' hout =>
                      split at h
                      · next l hback =>
                        have hG2 : GZ E.1 ks R0 P σ.1.length ρ E.2.2.2.2.1 w0 (σ.1, lArgsA σ.1 0 args, [], σ.2.2.2.1, σ.2.2.2.2) ρ (lArgs 0 (args.map ρ)) [] w := by
                          obtain ⟨g1, g2, g3, g4, g5, g6, g7, g8, g9, g10⟩ := hB
                          exact ⟨g1, lArgsA_ok hG.sd hal, ⟨rfl, fun s hs => by cases hs⟩, g4, g5, g6, g7, g8, g9, g10⟩
                        have hc := ih _ _ _ _ _ _ _ _ hout σ.1.length ρ ρ _ _ w (fun v w1 => ∃ o ∈ outs', ∃ (x : Option Nat) (ρ' : Nat → Value) (lc' : pL) (st' : List Value), o.1 = .inr x ∧ v = x.map ρ' ∧ GZ E.1 ks R0 P σ.1.length ρ E.2.2.2.2.1 w0 o.2 ρ' lc' st' w1) hG2 (hp_dn hP) (fun o ho ρ' lc' st' w' hg => by
                          obtain ⟨x, hx, -, -⟩ := backI_ok hback o ho
                          rw [hx]
                          exact ⟨o, ho, x, ρ', lc', st', hx, rfl, hg⟩)
                        refine Rs.call hi hA hc (fun v w1 hv => ?_)
                        obtain ⟨o, ho, x, ρ', lc', st', hx, rfl, hg⟩ := hv
                        obtain ⟨x', hx', hlt, hmem⟩ := backI_ok hback o ho
                        rw [hx] at hx'
                        cases hx'
                        obtain ⟨a, ha, hsub⟩ := cat_mem h _ hmem
                        have e8 := hg.2.2.2.2.2.2.2.1
                        have e9 := hg.2.2.2.2.2.2.2.2.1
                        have hrr : r.map ρ' = r.map ρ := List.map_congr_left (fun s hs => e8 s (hrl s hs))
                        have g2 : GZ E.1 ks R0 P n0 ρ0 E.2.2.2.2.1 w0 (o.2.1, σ.2.1, puR x r, o.2.2.2.2.1, o.2.2.2.2.2) ρ' lc ((x.map ρ').toList ++ r.map ρ) w1 := by
                          obtain ⟨g1, g2, g3, g4, g5, g6, g7, g8, g9, g10⟩ := Ga.ub2 hG hg
                          refine ⟨g1, fun q hq => ?_, ⟨?_, ?_⟩, g4, g5, g6, g7, g8, g9, g10⟩
                          · obtain ⟨a1, a2⟩ := hG.2.1 q hq
                            exact ⟨by rw [e8 _ a2]; exact a1, Nat.lt_of_lt_of_le a2 e9⟩
                          · cases x with
                            | none => exact hrr.symm
                            | some s => simp only [Option.map_some, Option.toList_some, List.singleton_append, puR, List.map_cons, hrr]
                          · intro s hs
                            cases x with
                            | none => exact Nat.lt_of_lt_of_le (hrl s hs) e9
                            | some s' =>
                              rcases List.mem_cons.mp hs with rfl | hs
                              · exact hlt _ rfl
                              · exact Nat.lt_of_lt_of_le (hrl s hs) e9
                        exact ih _ _ _ _ _ _ _ _ ha n0 ρ0 ρ' lc _ w1 Q g2 hP (fun o ho => hO o (hsub o ho))
                      · cases h
                    · cases h
              · cases h
            · next hop2 =>
              split at h
              · next τ hj =>
                split at h
                · next hlg =>
                  have fin : ∀ {st' : List Value} {w' : pW} {ρ' : Nat → Value}, astep E.2.2.1 E.2.1 E.2.2.2.1 TX xs L M d ins pc lc st w = some (.inr (.inl (pc + 3, lc, st', w'))) → Ga E.1 (FZ E.1 ks (evL ρ (lgF σ.2.2.2.1) R0)) ks P σ.1.length ρ E.2.2.2.2.1 w0 τ ρ' lc st' w' → Rs E.2.2.1 E.2.1 E.2.2.2.1 TX xs L d M pc lc st w Q := by
                    intro st' w' ρ' hA g
                    exact Rs.next hi hA (ih _ _ _ _ _ _ _ _ h n0 ρ0 ρ' lc st' w' Q (GZ.go hG g hlg) hP hO)
                  unfold isInv at hinv
                  split at hinv
                  · have := Option.some.inj hinv
                    subst this
                    simp only [opOK, Bool.or_eq_true, nbe] at hop hop2
                    have ho : op = 3 ∨ op = 4 ∨ op = 5 := by omega
                    obtain ⟨st', w', ρ', e, g⟩ := jdk3_ok (pc := pc) ho hB hp hj
                    exact fin e g
                  · have := Option.some.inj hinv
                    subst this
                    simp only [opOK, Bool.or_eq_true, nbe] at hop hop2
                    have ho : op = 1 ∨ op = 8 ∨ op = 9 := by omega
                    rcases ho with rfl | ho
                    · obtain ⟨st', w', ρ', e, g⟩ := jdk1_ok (pc := pc) FZ_xs hB hp hj
                      exact fin e g
                    · obtain ⟨st', w', ρ', e, g⟩ := jdk8_ok (pc := pc) ho hB hp hj
                      exact fin e g
                  · cases hinv
                · cases h
              · cases h
          · cases h
        · cases h
      · next hinv =>
        split at h
        · next q hz =>
          obtain ⟨ρ', lc', st', w', hs, g⟩ := zSt_ok (xs := xs) (L := L) hU hG hz
          exact Rs.step hi hs (ih _ _ _ _ _ _ _ _ h n0 ρ0 ρ' lc' st' w' Q g hP hO)
        · split at h
          · next l hl =>
            split at h
            · next hlg =>
              have hnx : Nx E.1 (FZ E.1 ks (evL ρ (lgF σ.2.2.2.1) R0)) ks P σ.1.length ρ E.2.2.2.2.1 w0 E.2.2.1 E.2.1 xs L M.1 M.2.2.2.1 (isInit M.2.1) ins pc lc st w l := by
                split at hl
                · exact prA_ok hB hl
                · exact ai1_ok FZ_xs hB hl
              obtain ⟨q, hq, ρ', lc', st', w', hs, g⟩ := hnx
              obtain ⟨a, ha, hsub⟩ := cat_mem h q hq
              exact Rs.step hi hs (ih _ _ _ _ _ _ _ _ ha n0 ρ0 ρ' lc' st' w' Q (GZ.go hG g (List.all_eq_true.mp hlg q hq)) hP (fun o ho => hO o (hsub o ho)))
            · cases h
          · cases h
theorem ez_ok (hU : Uq E.1 ks) (hC : ∀ R, ∀ c ∈ E.2.2.2.2.2.1, CK E.1 (FZ E.1 ks R) ks E.2.2.1 E.2.1 E.2.2.2.1 xs L c) : ∀ n : Nat, EzOK ks R0 P w0 xs L E (ez E n) := by
  intro n
  induction n with
  | zero =>
    intro d M an cuts first pc σ outs h
    cases h
  | succ n ih =>
    intro d M an cuts first pc σ outs h n0 ρ0 ρ lc st w Q hG hP hO
    have h : ezB E (ez E n) d M an cuts first pc σ = some outs := h
    unfold ezB at h
    split at h
    · have := Option.some.inj h
      subst this
      exact hO _ (List.mem_singleton_self _) ρ lc st w hG
    · split at h
      · next l hl =>
        split at h
        · next hlg =>
          obtain ⟨τ, hτ, ρ', g⟩ := anL_ok (Ga.rb hG) hl
          obtain ⟨a, ha, hsub⟩ := cat_mem h τ hτ
          exact ezI_ok hU hC ih ha (GZ.go hG g (List.all_eq_true.mp hlg τ hτ)) hP (fun o ho => hO o (hsub o ho))
        · cases h
      · cases h
/-! segments: outs are of patterns or of answers, their logs as said -/
def lgM (σ : aS) (l : List Nat) (pme : List Fa) : Bool := lgF σ.2.2.2.1 == (lgF pme).map (mapF l)
def logT : List Fa → List Fa → List (Nat × Nat)
  | f :: l, g :: m => (f.2.1, g.2.1) :: (f.2.2.1, g.2.2.1) :: logT l m
  | _, _ => []
def mtZ (n0 : Nat) (σ : aS) (c : Cu) : Option (List Nat) := match locT σ c.2.1.2.1 (idT n0 0 ++ logT (lgF c.2.1.2.2.2) (lgF σ.2.2.2.1)) with
  | some τ => match stkT c.2.1.2.2.1 σ.2.2.1 τ with
    | some τ1 => match mtch σ τ1 c.2.1.1 c.2.1.2.2.2 with
      | some l => if (l.take n0 == List.range n0) && (Nat.ble n0 l.length && (c.2.1.2.1.all (fun q => match lgetA σ.2.1 q.1 with | some s => Nat.beq s (nth l q.2) && Nat.ble (q.2 + 1) l.length | none => false) && ((c.2.1.2.2.1.map (nth l) == σ.2.2.1) && c.2.1.2.2.1.all (fun s => Nat.ble (s + 1) l.length)))) then some l else none
      | none => none
    | none => none
  | none => none
def mtY (n0 : Nat) (σ : aS) (x : Option Nat) (po : Po) : Option (List Nat) := match x, po.1 with
  | none, none => (match mtch σ (idT n0 0 ++ logT (lgF po.2.2) (lgF σ.2.2.2.1)) po.2.1 po.2.2 with
    | some l => if (l.take n0 == List.range n0) && Nat.ble n0 l.length then some l else none
    | none => none)
  | some s, some p => (match mtch σ (addT (idT n0 0 ++ logT (lgF po.2.2) (lgF σ.2.2.2.1)) p s) po.2.1 po.2.2 with
    | some l => if (l.take n0 == List.range n0) && (Nat.ble n0 l.length && (Nat.beq (nth l p) s && Nat.ble (p + 1) l.length)) then some l else none
    | none => none)
  | _, _ => none
theorem mtZ_ok {X : pW → Prop} {KT : List Kd} {n0 n1 : Nat} {ρ0 ρ1 ρ : Nat → Value} {eff : List (Nat × Nat)} {σ : aS} {lc : pL} {st : List Value} {w : pW} {c : Cu} {τ : List Nat} (h : mtZ n0 σ c = some τ) (hw : wfU c = true) (hG : Ga KT X ks P n1 ρ1 eff w0 σ ρ lc st w) (h1 : n0 ≤ n1) (h2 : ∀ s, s < n0 → ρ1 s = ρ0 s) (hP : P + σ.2.2.2.2 ≤ PMax) : Ga KT X ks (P + σ.2.2.2.2) n0 ρ0 eff w0 (c.2.1.1, c.2.1.2.1, c.2.1.2.2.1, c.2.1.2.2.2, 0) (fun s => ρ (nth τ s)) lc st w := by
  unfold mtZ at h
  split at h
  · split at h
    · split at h
      · next l hl =>
        split at h
        · next hc =>
          have := Option.some.inj h
          subst this
          simp only [Bool.and_eq_true, beq_iff_eq, nbl] at hc
          obtain ⟨c1, c2, c3, c4, c5⟩ := hc
          obtain ⟨t1, t2, t3, t4⟩ := chkP_ok hG.sd hG.sm (mtch_ok hl)
          obtain ⟨g1, g2, g3, g4, g5, g6, g7, g8, g9, g10, g11⟩ := hG
          unfold wfU at hw
          simp only [Bool.and_eq_true] at hw
          refine ⟨t3, fun q hq => ?_, ⟨?_, fun s hs => ?_⟩, fun f hf => ⟨t4 f hf, wfF_ok (List.all_eq_true.mp hw.1 f hf)⟩, g5, g6, g7, fun s hs => ?_, by rw [← t1]; exact c2, hP, Nat.zero_le _⟩
          · have k := List.all_eq_true.mp c3 q hq
            split at k
            · next s hs =>
              simp only [Bool.and_eq_true, nbe, nbl] at k
              have k2 := Ga.lg (KT := KT) (X := X) (P := P) (n0 := n1) (ρ0 := ρ1) (eff := eff) (w0 := w0) (st := st) (w := w) ⟨g1, g2, g3, g4, g5, g6, g7, g8, g9, g10, g11⟩ hs
              refine ⟨?_, by rw [← t1]; exact k.2⟩
              show lGet lc q.1 = some (ρ (nth l q.2))
              rw [← k.1]
              exact k2.1
            · cases k
          · rw [g3.1, ← c4, List.map_map]
            rfl
          · have k := List.all_eq_true.mp c5 s hs
            rw [nbl] at k
            show s < c.2.1.1.length
            omega
          · show ρ (nth l s) = ρ0 s
            rw [take_id c1 s hs, g8 s (Nat.lt_of_lt_of_le hs h1)]
            exact h2 s hs
        · cases h
      · cases h
    · cases h
  · cases h
def okZ (n0 : Nat) (pats : List Cu) (pos : List Po) (o : Out) : Bool := Nat.beq o.2.2.2.2.2 0 && (match o.1 with
  | .inl pc => pats.any (fun c => Nat.beq c.1 pc && (match mtZ n0 o.2 c with
    | some l => lgM o.2 l c.2.1.2.2.2
    | none => false))
  | .inr x => pos.any (fun p => match mtY n0 o.2 x p with
    | some l => lgM o.2 l p.2.2
    | none => false))
noncomputable def chkZ (E : Env) (n d : Nat) (M : pM) (an : List (Nat × List An)) (cuts : List Nat) (pc : Nat) (σ : aS) (pats : List Cu) (pos : List Po) : Bool := match ez E n d M an cuts true pc σ with
  | some outs => outs.all (okZ σ.1.length pats pos)
  | none => false
def wfP (n0 : Nat) (p : Po) : Bool := p.2.2.all (wfF p.2.1.length) && (Nat.ble n0 p.2.1.length && ltR p.1 p.2.1.length)
/-- an answer of a segment from σ, ρ -/
def AnsZ (KT : List Kd) (ks : List Nat) (R0 : pR) (P : Nat) (eff : List (Nat × Nat)) (w0 : pW) (n : Nat) (ρ : Nat → Value) (p : Po) (v : Option Value) (w' : pW) : Prop := ∃ ρ' : Nat → Value, (∀ s, s < n → ρ' s = ρ s) ∧ Sd ks P ρ' p.2.1 ∧ (∀ f ∈ p.2.2, okF P ρ' w' f ∧ fsc p.2.1.length f) ∧ Typed KT ks P w' ∧ FZ KT ks (evL ρ' (lgF p.2.2) R0) w' ∧ Ef ks eff w0 w' ∧ v = p.1.map ρ'
theorem evL_map {ρ : Nat → Value} {l : List Nat} : ∀ {me : List Fa}, (∀ f ∈ me, 100 ≤ f.1 ∧ f.1 ≤ 999) → evL ρ (me.map (mapF l)) R0 = evL (fun s => ρ (nth l s)) me R0
  | [], _ => rfl
  | f :: me, h => by
    have h1 := h f List.mem_cons_self
    rw [List.map_cons, evL, evL, evL_map (fun g hg => h g (List.mem_cons_of_mem _ hg))]
    have e : mapF l f = (f.1, nth l f.2.1, nth l f.2.2.1, nth l f.2.2.2) := by
      unfold mapF
      rw [if_neg (by simp only [Bool.or_eq_true, nbe]; omega), if_neg (by rw [nbl]; omega)]
    rw [e]
    rfl
theorem lgF_rng {me : List Fa} : ∀ f ∈ lgF me, 100 ≤ f.1 ∧ f.1 ≤ 999 := by
  intro f hf
  have := (List.mem_filter.mp hf).2
  simp only [Bool.and_eq_true, nbl] at this
  exact this
theorem seg_ok {n d : Nat} {M : pM} {an : List (Nat × List An)} {cuts : List Nat} {pc : Nat} {σ : aS} {pats : List Cu} {pos : List Po} (hU : Uq E.1 ks) (hC : ∀ R, ∀ c ∈ E.2.2.2.2.2.1, CK E.1 (FZ E.1 ks R) ks E.2.2.1 E.2.1 E.2.2.2.1 xs L c) (h : chkZ E n d M an cuts pc σ pats pos = true) (hwc : pats.all wfU = true) (hwp : pos.all (wfP σ.1.length) = true) {n0 : Nat} {ρ0 ρ : Nat → Value} {lc : pL} {st : List Value} {w : pW} {Q : Option Value → pW → Prop} (hG : GZ E.1 ks R0 P n0 ρ0 E.2.2.2.2.1 w0 σ ρ lc st w) (hP : P + CrMax + d * 16777216 ≤ PMax)
    (kc : ∀ c ∈ pats, ∀ (ρ' : Nat → Value) (lc' : pL) (st' : List Value) (w' : pW), (∀ s, s < σ.1.length → ρ' s = ρ s) → GZ E.1 ks R0 P n0 ρ0 E.2.2.2.2.1 w0 (c.2.1.1, c.2.1.2.1, c.2.1.2.2.1, c.2.1.2.2.2, 0) ρ' lc' st' w' → Rs E.2.2.1 E.2.1 E.2.2.2.1 TX xs L d M c.1 lc' st' w' Q)
    (kr : ∀ p ∈ pos, ∀ (v : Option Value) (w' : pW), AnsZ E.1 ks R0 P E.2.2.2.2.1 w0 σ.1.length ρ p v w' → Q v w') : Rs E.2.2.1 E.2.1 E.2.2.2.1 TX xs L d M pc lc st w Q := by
  unfold chkZ at h
  split at h
  · next outs hex =>
    have hB : GZ E.1 ks R0 P σ.1.length ρ E.2.2.2.2.1 w0 σ ρ lc st w := Ga.rb hG
    refine ez_ok hU hC n _ _ _ _ _ _ _ _ hex σ.1.length ρ ρ lc st w Q hB hP (fun o ho ρ' lc' st' w' hg => ?_)
    have hoo := List.all_eq_true.mp h o ho
    unfold okZ at hoo
    rw [Bool.and_eq_true, nbe] at hoo
    obtain ⟨ho0, hoo⟩ := hoo
    have e8 := hg.2.2.2.2.2.2.2.1
    split at hoo
    · next pc' hpc =>
      obtain ⟨c, hc, hq⟩ := List.any_eq_true.mp hoo
      simp only [Bool.and_eq_true, nbe] at hq
      obtain ⟨q1, q2⟩ := hq
      split at q2
      · next l hl =>
        have hw := List.all_eq_true.mp hwc c hc
        have hPM : P + o.2.2.2.2.2 ≤ PMax := by
          rw [ho0]
          exact hg.2.2.2.2.2.2.2.2.2.1
        have g2 := mtZ_ok (ρ0 := ρ) hl hw hg (Nat.le_refl _) (fun _ _ => rfl) hPM
        rw [ho0, Nat.add_zero] at g2
        have e9 := g2.2.2.2.2.2.2.2.1
        rw [← q1]
        refine kc c hc (fun s => ρ' (nth l s)) lc' st' w' e9 ?_
        have hx : evL (fun s => ρ' (nth l s)) (lgF c.2.1.2.2.2) R0 = evL ρ' (lgF o.2.2.2.2.1) R0 := by
          unfold lgM at q2
          rw [eq_of_beq q2, evL_map lgF_rng]
        unfold GZ
        simp only
        rw [hx]
        exact Ga.ub2 hG g2
      · cases q2
    · next x hx =>
      obtain ⟨p, hp, hq⟩ := List.any_eq_true.mp hoo
      have hwp2 := List.all_eq_true.mp hwp p hp
      unfold wfP at hwp2
      simp only [Bool.and_eq_true, nbl] at hwp2
      split at hq
      · next l hl =>
        unfold lgM at hq
        have hx2 : evL (fun s => ρ' (nth l s)) (lgF p.2.2) R0 = evL ρ' (lgF o.2.2.2.2.1) R0 := by
          rw [eq_of_beq hq, evL_map lgF_rng]
        have fin : ∀ {τ0 : List (Nat × Nat)}, mtch o.2 τ0 p.2.1 p.2.2 = some l → l.take σ.1.length = List.range σ.1.length → x.map ρ' = p.1.map (fun s => ρ' (nth l s)) → Q (x.map ρ') w' := by
          intro τ0 hm2 ht hv
          obtain ⟨t1, t2, t3, t4⟩ := chkP_ok hg.sd hg.sm (mtch_ok hm2)
          rw [ho0, Nat.add_zero] at t3 t4
          have g5 := hg.2.2.2.2.1
          rw [ho0, Nat.add_zero] at g5
          refine kr p hp _ w' ⟨fun s => ρ' (nth l s), fun s hs => ?_, t3, fun f hf => ⟨t4 f hf, wfF_ok (List.all_eq_true.mp hwp2.1 f hf)⟩, g5, by rw [hx2]; exact hg.2.2.2.2.2.1, hg.2.2.2.2.2.2.1, hv⟩
          show ρ' (nth l s) = ρ s
          rw [take_id ht s hs]
          exact e8 s hs
        unfold mtY at hl
        split at hl
        · next hxp =>
          split at hl
          · next l' hm2 =>
            split at hl
            · next hc =>
              simp only [Bool.and_eq_true, beq_iff_eq, nbl] at hc
              have := Option.some.inj hl
              subst this
              refine fin hm2 hc.1 ?_
              rw [hxp]
              rfl
            · cases hl
          · cases hl
        · next s q hqq =>
          split at hl
          · next l' hm2 =>
            split at hl
            · next hc =>
              simp only [Bool.and_eq_true, beq_iff_eq, nbe, nbl] at hc
              have := Option.some.inj hl
              subst this
              refine fin hm2 hc.1 ?_
              rw [hqq]
              simp only [Option.map_some]
              rw [hc.2.2.1]
            · cases hl
          · cases hl
        · cases hl
      · cases hq
  · cases h
end EZQ

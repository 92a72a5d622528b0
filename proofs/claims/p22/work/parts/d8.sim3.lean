/-! the run of the machine, with the room known where a text is asked -/
section CALL2
variable {p : Program} {l : Launch} {e : Jvm.Env} {R : Room} {s : State} {m : MethodId} {args : Array Value} {below : List Frame} {meth : Method} {c : Code} {H : Heap} {locs : List Loc} {cells slots : Nat} {Q : State → Prop}
variable {G : va_G} {cI cZ cB cJ cE : ClassId} {A : Nat → Prop} {Z0 : Nat}
def TopsOK2 (l : Launch) (pp : pP) (tx : pT) (xs : Nat → Int32) (L : Nat) (SX : pX) (tr : List (String × Nat × Nat)) (Z0 : Nat) (G : va_G) (cI cZ cB cJ cE : ClassId) : Prop :=
  ∀ (p : Program) (e : Jvm.Env) (R : Room) (s : State) (m : MethodId) (args : Array Value) (below : List Frame) (meth : Method) (c : Code) (H : Heap) (locs : List Loc) (cells slots : Nat) (Q : State → Prop) (A : Nat → Prop) (M : pM) (pc d op j i : Nat) (lc : pL) (st st' : List Value) (w : pW) (ad : Nat → Nat) (ls : Array Slot),
    Cx p s m args meth c G cI cZ cB cJ cE A Z0 M → EXf xs L tr Z0 ad s → SX ad s → Rn s G cI cZ cB cJ cE A M.2.2.2.1 ad H locs ls lc w → scS (w.length + 3) st → 6 ≤ d → d ≤ R.frames ∧ 60 * d ≤ R.locals → pp.2.2.2 M.1 i = some (op, j) → tops tx op st = some st' → cats st' ≤ 8 → DecAt M.2.2.1 pc (.invokevirtual i) →
    cells ≤ R.cells ∧ slots ≤ R.slots → Go p l e R s m args below meth c Q G cI cZ cB cJ cE A M (w.length + 3) ad cells slots (pc + 3) lc st' w → W p l e R s m args below meth c H locs cells slots Q (F0 m pc ls (st.map (cvV ad)))
theorem next_ok2 {pp : pP} {F : pF} {Gm : pG} {tx : pT} {xs : Nat → Int32} {L : Nat} {SX : pX} {tr : List (String × Nat × Nat)} (hF : ClsOK F) (hPo : PoolOK pp tr) (hCa : CallsOK pp Gm) (hT : TopsOK2 l pp tx xs L SX tr Z0 G cI cZ cB cJ cE) {M : pM} (C : Cx p s m args meth c G cI cZ cB cJ cE A Z0 M) {ins : Instr} {d pc : Nat} {lc : pL} {st : List Value} {w : pW} {pc' : Nat} {lc' : pL} {st' : List Value} {w' : pW} {ad : Nat → Nat} {ls : Array Slot} (hX : EXf xs L tr Z0 ad s) (hSx : SX ad s) (hd : DecAt M.2.2.1 pc ins) (h : astep pp F Gm tx xs L M d ins pc lc st w = some (.inr (.inl (pc', lc', st', w')))) (hrm : d ≤ R.frames ∧ 60 * d ≤ R.locals) (hR : Rn s G cI cZ cB cJ cE A M.2.2.2.1 ad H locs ls lc w) (hs : scS (w.length + 3) st) (hroom : cells + (w'.length - w.length) ≤ R.cells ∧ slots + (slW w' - slW w) ≤ R.slots)
    (k : Go p l e R s m args below meth c Q G cI cZ cB cJ cE A M (w.length + 3) ad (cells + (w'.length - w.length)) (slots + (slW w' - slW w)) pc' lc' st' w') : W p l e R s m args below meth c H locs cells slots Q (F0 m pc ls (st.map (cvV ad))) := by
  have key : (sstep pp F xs L M.1 M.2.2.2.1 (isInit M.2.1) ins pc lc st w).map (fun c => (Sum.inr (Sum.inl c) : pA)) = some (.inr (.inl (pc', lc', st', w'))) → W p l e R s m args below meth c H locs cells slots Q (F0 m pc ls (st.map (cvV ad))) := by
    intro h
    cases hs1 : sstep pp F xs L M.1 M.2.2.2.1 (isInit M.2.1) ins pc lc st w with
    | none => rw [hs1] at h; cases h
    | some c1 =>
      rw [hs1] at h
      simp only [Option.map_some, Option.some.injEq, Sum.inr.injEq, Sum.inl.injEq] at h
      subst h
      exact sstep_ok hF hPo C hX hd hs1 hR hs hroom k
  have kr : ∀ x : Option (Option Value), x.map (fun v => (Sum.inl v : pA)) = some (.inr (.inl (pc', lc', st', w'))) → W p l e R s m args below meth c H locs cells slots Q (F0 m pc ls (st.map (cvV ad))) := by
    intro x h
    cases x <;> cases h
  unfold astep at h
  split at h
  · exact kr _ h
  · exact kr _ h
  · exact kr _ h
  · exact kr _ h
  · unfold acallV at h
    split at h
    · repeat' split at h
      all_goals (cases h; done)
    · next op j _ hp =>
      split at h
      · next st1 ht =>
        split at h
        · next hc =>
          simp only [Bool.and_eq_true, decide_eq_true_eq] at hc
          simp only [Option.some.injEq, Sum.inr.injEq, Sum.inl.injEq, Prod.mk.injEq] at h
          obtain ⟨rfl, rfl, rfl, rfl⟩ := h
          exact hT p e R s m args below meth c H locs cells slots Q A M pc d op j _ lc st st1 w ad ls C hX hSx hR hs hc.2 hrm hp ht hc.1 hd ⟨Nat.le_trans (Nat.le_add_right _ _) hroom.1, Nat.le_trans (Nat.le_add_right _ _) hroom.2⟩ k.z
        · cases h
      · cases h
    · cases h
  · unfold acallS at h
    split at h
    · repeat' split at h
      all_goals (cases h; done)
    · next j hp =>
      split at h
      · next kk dp a sp a0 r =>
        split at h
        · next hc =>
          simp only [Bool.and_eq_true, decide_eq_true_eq] at hc
          split at h
          · next w1 hw =>
            simp only [Option.some.injEq, Sum.inr.injEq, Sum.inl.injEq, Prod.mk.injEq] at h
            obtain ⟨rfl, rfl, rfl, rfl⟩ := h
            unfold acpy at hw
            split at hw
            · next n0 f n1 g h0 h1 =>
              split at hw
              · next hb2 =>
                simp only [Bool.and_eq_true, decide_eq_true_eq] at hb2
                obtain ⟨g1, g2, g3, g4, g5⟩ := hb2
                obtain ⟨j0, rfl, hj0⟩ := wAt_some h0
                obtain ⟨j1, rfl, hj1⟩ := wAt_some h1
                have hw := Option.some.inj hw
                have hw : w1 = w.set j1 (.inl (0, n1, .inl (va_cpy f g sp.toNatClampNeg dp.toNatClampNeg kk.toNatClampNeg))) := hw.symm
                subst hw
                obtain ⟨hx, hb, hml, htw, hown, hK, hA, hAZ, hin, hon, hZs⟩ := C
                obtain ⟨own, o1, o2, o3, o4, o5⟩ := hCa.2.2.2.2.2.1 _ _ _ hp
                have ho : own = M.2.1.cls := Option.some.inj (o1.symm.trans hon)
                subst ho
                refine va_copyi hx hb (hml.trans hR.2.2.2.1.1.symm) hown (htw _ o2) (htw _ o3) (htw _ o4) (htw _ o5) hK.1 hR.1 hR.2.1 hR.2.2.1 j0 j1 0 0 (cW_at hj0) (cW_at hj1) rfl rfl rfl g1 g2 g3 g4 g5 (fun _ _ => rfl) (by omega) ?_ (hd.d rfl) (fun H1 locs1 q1 q2 q3 => ?_)
                · rw [cats_cv]
                  have : nativeFrameWords "java/lang/System" "arraycopy" 5 + 11 ≤ 50 := by decide
                  omega
                · have kk2 := k.zs (w' := w.set j1 (.inl (0, n1, .inl (va_cpy f g sp.toNatClampNeg dp.toNatClampNeg kk.toNatClampNeg)))) (by rw [List.length_set]) (slW_set hj1 rfl)
                  refine kk2 ad H1 locs1 ls (adX_r _ _) (hR.set (x := .inl (0, n1, .inl (va_cpy f g sp.toNatClampNeg dp.toNatClampNeg kk.toNatClampNeg))) trivial q1 q2 q3) ?_
                  rw [List.length_set]
                  exact scS_t (scS_t (scS_t (scS_t (scS_t hs))))
              · cases hw
            · cases hw
          · cases h
        · cases h
      · cases h
    · next j hp =>
      split at h
      · next y x r =>
        split at h
        · next hc =>
          simp only [Bool.and_eq_true, decide_eq_true_eq] at hc
          simp only [Option.some.injEq, Sum.inr.injEq, Sum.inl.injEq, Prod.mk.injEq] at h
          obtain ⟨rfl, rfl, rfl, rfl⟩ := h
          obtain ⟨hx, hb, hml, htw, hown, hK, hA, hAZ, hin, hon, hZs⟩ := C
          obtain ⟨own, o1, o2, o3, o4, o5⟩ := hCa.2.2.2.2.2.2.1 _ _ _ hp
          have ho : own = M.2.1.cls := Option.some.inj (o1.symm.trans hon)
          subst ho
          refine va_mmax hx hb (hml.trans hR.2.2.2.1.1.symm) hown (htw _ o2) (htw _ o3) (htw _ o4) (htw _ o5) (by omega) ?_ (by omega) (by omega) (hd.d rfl) (k.z ad H locs ls (adX_r _ _) hR (scS_c (scV_int _ _) (scS_t (scS_t hs))))
          rw [cats_cv]
          omega
        · cases h
      · cases h
    · next j hp =>
      split at h
      · next y x r =>
        split at h
        · next hc =>
          simp only [Bool.and_eq_true, decide_eq_true_eq] at hc
          simp only [Option.some.injEq, Sum.inr.injEq, Sum.inl.injEq, Prod.mk.injEq] at h
          obtain ⟨rfl, rfl, rfl, rfl⟩ := h
          obtain ⟨hx, hb, hml, htw, hown, hK, hA, hAZ, hin, hon, hZs⟩ := C
          obtain ⟨own, o1, o2, o3, o4, o5⟩ := hCa.2.2.2.2.2.2.2 _ _ _ hp
          have ho : own = M.2.1.cls := Option.some.inj (o1.symm.trans hon)
          subst ho
          refine va_mmin hx hb (hml.trans hR.2.2.2.1.1.symm) hown (htw _ o2) (htw _ o3) (htw _ o4) (htw _ o5) (by omega) ?_ (by omega) (by omega) (hd.d rfl) (k.z ad H locs ls (adX_r _ _) hR (scS_c (scV_int _ _) (scS_t (scS_t hs))))
          rw [cats_cv]
          omega
        · cases h
      · cases h
    · cases h
  · unfold acallI at h
    split at h
    · repeat' split at h
      all_goals (cases h; done)
    · next j hp =>
      split at h
      · next a r =>
        split at h
        · next hc =>
          simp only [Bool.and_eq_true, decide_eq_true_eq] at hc
          simp only [Option.some.injEq, Sum.inr.injEq, Sum.inl.injEq, Prod.mk.injEq] at h
          obtain ⟨rfl, rfl, rfl, rfl⟩ := h
          obtain ⟨hx, hb, hml, htw, hown, hK, hA, hAZ, hin, hon, hZs⟩ := C
          obtain ⟨own, o1, o2, o3, o4⟩ := hCa.2.2.2.2.1 _ _ _ hp
          have ho : own = M.2.1.cls := Option.some.inj (o1.symm.trans hon)
          subst ho
          refine W.objInit hx hb hown (htw _ o2) (htw _ o3) (htw _ o4) (g := F0 m pc ls ((Value.ref a :: r).map (cvV ad))) rfl (hR.2.2.2.1.1.trans hml.symm) rfl (hd.d rfl) (by omega) ?_ (k.z ad H locs ls (adX_r _ _) hR (scS_t hs))
          rw [cats_cv]
          show 2 * 0 + _ + 12 ≤ _
          omega
        · cases h
      · cases h
    · cases h
  · exact key h
end CALL2
theorem sim_all2 {l : Launch} {pp : pP} {F : pF} {Gm : pG} {tx : pT} {xs : Nat → Int32} {L : Nat} {SX : pX} {tr : List (String × Nat × Nat)} {Z0 : Nat} {G : va_G} {cI cZ cB cJ cE : ClassId} (hSX : SXok Z0 SX) (hF : ClsOK F) (hPo : PoolOK pp tr) (hCa : CallsOK pp Gm) (hT : TopsOK2 l pp tx xs L SX tr Z0 G cI cZ cB cJ cE) : ∀ n, Sim l pp F Gm tx xs L SX tr Z0 G cI cZ cB cJ cE n := by
  intro n
  induction n with
  | zero => intro d M pc lc st w v w' hM h; cases h
  | succ n ih =>
    intro d M pc lc st w v w' hM h p e R s m args below meth c H locs cells slots Q A ls ad C hX hSx hrm hroom hR hs hret
    have h0 := h
    simp only [run] at h
    split at h
    · cases h
    · next ins hins =>
      have hd := hM pc ins hins
      split at h
      · next v1 hA =>
        simp only [Option.some.injEq, Prod.mk.injEq] at h
        obtain ⟨rfl, rfl⟩ := h
        have hr : aret M ins st = some v1 := by
          have kx1 : ∀ x : Option pC, x.map (fun c => (Sum.inr (Sum.inl c) : pA)) = some (.inl v1) → False := by
            intro x h
            cases x <;> cases h
          have kr : (aret M ins st).map (fun v => (Sum.inl v : pA)) = some (.inl v1) → aret M ins st = some v1 := by
            intro h
            cases hq : aret M ins st with
            | none => rw [hq] at h; cases h
            | some y =>
              rw [hq] at h
              simp only [Option.map_some, Option.some.injEq, Sum.inl.injEq] at h
              rw [h]
          unfold astep at hA
          split at hA
          · exact kr hA
          · exact kr hA
          · exact kr hA
          · exact kr hA
          · unfold acallV at hA
            repeat' split at hA
            all_goals (cases hA; done)
          · unfold acallS at hA
            repeat' split at hA
            all_goals (cases hA; done)
          · unfold acallI at hA
            repeat' split at hA
            all_goals (cases hA; done)
          · exact (kx1 _ hA).elim
        have := hret ad H locs pc ls ins st (adX_r _ _) hd hr hR.1 hR.2.1 hR.2.2.1 hR.2.2.2.2.1 hs
        rw [Nat.sub_self, Nat.sub_self, Nat.add_zero, Nat.add_zero] at this
        exact this
      · next pc1 lc1 st1 w1 hA =>
        have z1 := astep_sz hA
        have z2 := run_sz _ _ _ _ _ _ _ _ _ h
        have hr1 : cells + (w1.length - w.length) ≤ R.cells ∧ slots + (slW w1 - slW w) ≤ R.slots := ⟨Nat.le_trans (Nat.add_le_add_left (Nat.sub_le_sub_right z2.1 _) _) hroom.1, Nat.le_trans (Nat.add_le_add_left (Nat.sub_le_sub_right z2.2 _) _) hroom.2⟩
        refine next_ok2 hF hPo hCa hT C hX hSx hd hA hrm hR hs hr1 ?_
        intro ad1 H1 locs1 ls1 hadx hR1 hs1
        have h3 : adX 3 ad ad1 := fun i hi => hadx i (Nat.lt_of_lt_of_le hi (Nat.le_add_left 3 _))
        have e1 : cells + (w1.length - w.length) + (w'.length - w1.length) = cells + (w'.length - w.length) := by have := z1.1; have := z2.1; omega
        have e2 : slots + (slW w1 - slW w) + (slW w' - slW w1) = slots + (slW w' - slW w) := by have := z1.2; have := z2.2; omega
        refine ih d M pc1 lc1 st1 w1 v w' hM h p e R s m args below meth c H1 locs1 _ _ Q A ls1 ad1 C (hX.mv h3 (Or.inr rfl) (fun _ _ => rfl)) (hSX ad ad1 s s h3 (Or.inr rfl) (fun _ _ => rfl) hSx) hrm (by rw [e1, e2]; exact hroom) hR1 hs1 ?_
        intro ad2 H2 locs2 pc2 ls2 ins2 st2 hadx2 hd2 hr2 q1 q2 q3 q4 q5
        rw [e1, e2]
        exact hret ad2 H2 locs2 pc2 ls2 ins2 st2 (fun i hi => (hadx2 i (Nat.lt_of_lt_of_le hi (Nat.add_le_add_right z1.1 3))).trans (hadx i hi)) hd2 hr2 q1 q2 q3 q4 q5
      · next M1 as pc1 lc1 r hA =>
        split at h
        · cases h
        · next d1 =>
          split at h
          · next v1 w1 hcall =>
            have z1 := run_sz _ _ _ _ _ _ _ _ _ hcall
            have z2 := run_sz _ _ _ _ _ _ _ _ _ h
            have hr1 : cells + (w1.length - w.length) ≤ R.cells ∧ slots + (slW w1 - slW w) ≤ R.slots := ⟨Nat.le_trans (Nat.add_le_add_left (Nat.sub_le_sub_right z2.1 _) _) hroom.1, Nat.le_trans (Nat.add_le_add_left (Nat.sub_le_sub_right z2.2 _) _) hroom.2⟩
            refine callM_ok hSX hCa ih C hX hSx hd hA hrm hR hs hcall hr1 ?_
            intro ad1 H1 locs1 ls1 hadx hR1 hs1
            have h3 : adX 3 ad ad1 := fun i hi => hadx i (Nat.lt_of_lt_of_le hi (Nat.le_add_left 3 _))
            have e1 : cells + (w1.length - w.length) + (w'.length - w1.length) = cells + (w'.length - w.length) := by have := z1.1; have := z2.1; omega
            have e2 : slots + (slW w1 - slW w) + (slW w' - slW w1) = slots + (slW w' - slW w) := by have := z1.2; have := z2.2; omega
            refine ih (d1 + 1) M pc1 lc1 (v1.toList ++ r) w1 v w' hM h p e R s m args below meth c H1 locs1 _ _ Q A ls1 ad1 C (hX.mv h3 (Or.inr rfl) (fun _ _ => rfl)) (hSX ad ad1 s s h3 (Or.inr rfl) (fun _ _ => rfl) hSx) hrm (by rw [e1, e2]; exact hroom) hR1 hs1 ?_
            intro ad2 H2 locs2 pc2 ls2 ins2 st2 hadx2 hd2 hr2 q1 q2 q3 q4 q5
            rw [e1, e2]
            exact hret ad2 H2 locs2 pc2 ls2 ins2 st2 (fun i hi => (hadx2 i (Nat.lt_of_lt_of_le hi (Nat.add_le_add_right z1.1 3))).trans (hadx i hi)) hd2 hr2 q1 q2 q3 q4 q5
          · cases h
      · cases h

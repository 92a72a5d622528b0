section SIM2
variable {p : Program} {l : Launch} {e : Env} {R : Room} {s : State} {m : MethodId} {args : Array Value} {below : List Frame} {meth : Method} {c : Code} {H : Heap} {locs : List Loc} {cells slots : Nat} {Q : State → Prop}
variable {G : va_G} {cI cZ cB cJ cE : ClassId} {A : Nat → Prop} {Z0 : Nat}
set_option maxHeartbeats 4000000 in
/-- a call of a method of ours -/
theorem callM_ok {pp : pP} {F : pF} {Gm : pG} {tx : pT} {xs : Nat → Int32} {L : Nat} {SX : pX} {tr : List (String × Nat × Nat)} {n : Nat} (hSX : SXok Z0 SX) (hCa : CallsOK pp Gm) (hSim : Sim l pp F Gm tx xs L SX tr Z0 G cI cZ cB cJ cE n) {M : pM} (C : Cx p s m args meth c G cI cZ cB cJ cE A Z0 M) {ins : Instr} {d pc : Nat} {lc : pL} {st : List Value} {w : pW} {M' : pM} {as r : List Value} {pc' : Nat} {lc' : pL} {v : Option Value} {w' : pW} {ad : Nat → Nat} {ls : Array Slot} (hX : EXf xs L tr Z0 ad s) (hSx : SX ad s) (hd : DecAt M.2.2.1 pc ins) (h : astep pp F Gm tx xs L M (d + 1) ins pc lc st w = some (.inr (.inr (M', as, pc', lc', r)))) (hrm : d + 1 ≤ R.frames ∧ 60 * (d + 1) ≤ R.locals) (hR : Rn s G cI cZ cB cJ cE A M.2.2.2.1 ad H locs ls lc w) (hs : scS (w.length + 3) st) (hrun : run pp F Gm tx xs L n d M' 0 (lArgs 0 as) [] w = some (v, w')) (hroom : cells + (w'.length - w.length) ≤ R.cells ∧ slots + (slW w' - slW w) ≤ R.slots)
    (k : Go p l e R s m args below meth c Q G cI cZ cB cJ cE A M (w.length + 3) ad (cells + (w'.length - w.length)) (slots + (slW w' - slW w)) pc' lc' (v.toList ++ r) w') : W p l e R s m args below meth c H locs cells slots Q (F0 m pc ls (st.map (cvV ad))) := by
  have kr : ∀ x : Option (Option Value), x.map (fun v => (Sum.inl v : pA)) = some (.inr (.inr (M', as, pc', lc', r))) → False := by
    intro x h
    cases x <;> cases h
  have hz := run_sz _ _ _ _ _ _ _ _ _ hrun
  have C0 := C
  obtain ⟨hx, hb, hml, htw, hown, hK, hA, hAZ, hin, hon, hZs⟩ := C0
  unfold astep at h
  split at h
  · exact (kr _ h).elim
  · exact (kr _ h).elim
  · exact (kr _ h).elim
  · exact (kr _ h).elim
  · next i =>
    unfold acallV at h
    split at h
    · next j hp =>
      split at h
      · next M1 na hG =>
        split at h
        · next b r1 hdrop =>
          split at h
          · next ci fs hwb =>
            split at h
            · next hc =>
              simp only [Bool.and_eq_true, decide_eq_true_eq, beq_iff_eq] at hc
              obtain ⟨hci, hc8, hna, hcl⟩ := hc
              simp only [Option.some.injEq, Sum.inr.injEq, Prod.mk.injEq] at h
              obtain ⟨rfl, rfl, rfl, rfl, rfl⟩ := h
              have hMO := hCa.1 _ _ _ hG
              obtain ⟨own, o1, o2, o3, o4, o5⟩ := hCa.2.1 _ _ _ _ _ hp hG
              have ho : own = M.2.1.cls := Option.some.inj (o1.symm.trans hon)
              subst ho
              have hst := split_st hdrop
              have hsb : scV (w.length + 3) (.ref b) := hs _ (List.mem_of_mem_drop (by rw [hdrop]; exact List.mem_cons_self))
              have hsr : scS (w.length + 3) r1 := fun x hx => hs x (List.mem_of_mem_drop (by rw [hdrop]; exact List.mem_cons_of_mem _ hx))
              have hmet := met_of hSim hMO hrun hcl hR.2.2.2.2.1 (scS_c hsb (sc_take hs)) ad H.size
              obtain ⟨j0, rfl, hj0⟩ := wAt_some hwb
              have hstk : st.map (cvV ad) = ((st.take na).reverse.map (cvV ad)).reverse ++ .ref (ad (j0 + 3)) :: r1.map (cvV ad) := by
                conv => lhs; rw [hst]
                rw [List.map_append, List.map_reverse, List.map_cons]
                rfl
              have hlen : ((st.take na).reverse.map (cvV ad)).length = na := by simp [hna]
              have hdd := hMO.2.2.2.2.1
              obtain ⟨q, hq1, hq2⟩ := own12 hMO.2.2.2.1 o5
              have hrecv : ∃ cellB : Cell, H[ad (j0 + 3)]? = some cellB ∧ cellB.vm.isStatics = false ∧ s.vm.findClass M1.2.1.cls = some cellB.cls := by
                rw [← hq2]
                exact va_recv hK.1 hR.1 (by rw [← hq1, hci]) (cW_at hj0)
              have hpre := pre_of hSX C hX hSx hR (.ref (ad (j0 + 3)) :: (st.take na).reverse.map (cvV ad))
              refine call_go (a := (Value.ref (ad (j0 + 3)) :: (st.take na).reverse.map (cvV ad)).toArray) C hR hsr hz ?_ k
              rw [hstk]
              rcases o2 with o2 | ⟨host, o2⟩
              · exact va_runV (C := M1.2.1.cls) (As := (st.take na).reverse.map (cvV ad)) (rest := r1.map (cvV ad)) ⟨hx, hb, hml, hown, htw⟩ hmet (cwV na htw (wt_V hMO.2.1 o2 o3 o4 hMO.2.2.2.2.2.1) rfl rfl rfl ⟨rfl, hdd⟩ ⟨hrm.1, by have := hMO.2.2.2.2.2.2; show 8 + (M1.2.2.2.1 + 11) + 60 * d ≤ _; omega⟩) ⟨PreP.blind hSX, hrecv, hpre⟩ rfl hlen hR.2.2.2.1.1 rfl (lv_room (by rw [cats_cv]; exact hc8)) (hd.d rfl) hroom
              · exact va_runVN (C := M1.2.1.cls) (As := (st.take na).reverse.map (cvV ad)) (rest := r1.map (cvV ad)) ⟨hx, hb, hml, hown, htw⟩ hmet ⟨va_cnB na htw (wt_code hMO.2.1) rfl rfl rfl (hK.2.1 _ o2) (htw _ hMO.2.2.2.2.2.1) hdd ⟨hrm.1, by have := hMO.2.2.2.2.2.2; show 8 + (M1.2.2.2.1 + 11) + 60 * d ≤ _; omega⟩, htw _ o3, htw _ o4⟩ ⟨PreP.blind hSX, hrecv, hpre⟩ rfl hlen hR.2.2.2.1.1 rfl (lv_room (by rw [cats_cv]; exact hc8)) (hd.d rfl) hroom
            · cases h
          · cases h
        · cases h
      · cases h
    all_goals (repeat' split at h)
    all_goals (cases h; done)
  · next i =>
    unfold acallS at h
    split at h
    · next j hp =>
      split at h
      · next M1 na hG =>
        split at h
        · next hc =>
          simp only [Bool.and_eq_true, decide_eq_true_eq] at hc
          obtain ⟨hc8, hna, hcl⟩ := hc
          simp only [Option.some.injEq, Sum.inr.injEq, Prod.mk.injEq] at h
          obtain ⟨rfl, rfl, rfl, rfl, rfl⟩ := h
          have hMO := hCa.1 _ _ _ hG
          obtain ⟨own, o1, o2, o3⟩ := hCa.2.2.1 _ _ _ _ _ hp hG
          have ho : own = M.2.1.cls := Option.some.inj (o1.symm.trans hon)
          subst ho
          have hsr : scS (w.length + 3) (st.drop na) := sc_drop hs
          have hmet := met_of hSim hMO hrun hcl hR.2.2.2.2.1 (sc_take hs) ad H.size
          have hstk : st.map (cvV ad) = ((st.take na).reverse.map (cvV ad)).reverse ++ (st.drop na).map (cvV ad) := by
            rw [← List.map_reverse, List.reverse_reverse, ← List.map_append, List.take_append_drop]
          have hlen : ((st.take na).reverse.map (cvV ad)).length = na := by simp [hna]
          have hdd := hMO.2.2.2.2.1
          have hpre := pre_of hSX C hX hSx hR ((st.take na).reverse.map (cvV ad))
          refine call_go (a := ((st.take na).reverse.map (cvV ad)).toArray) C hR hsr hz ?_ k
          rw [hstk]
          rcases o2 with o2 | ⟨host, o2⟩
          · exact va_runS (As := (st.take na).reverse.map (cvV ad)) (rest := (st.drop na).map (cvV ad)) ⟨hx, hb, hml, hown, htw⟩ hmet (va_cwS na htw (wt_S hMO.2.1 o2 o3 hMO.2.2.2.2.2.1) rfl rfl rfl hdd ⟨hrm.1, by have := hMO.2.2.2.2.2.2; show 8 + (M1.2.2.2.1 + 11) + 60 * d ≤ _; omega⟩) ⟨PreP.blind hSX, hpre⟩ rfl hlen hR.2.2.2.1.1 rfl (lv_room (by rw [cats_cv]; exact hc8)) (hd.d rfl) hroom
          · exact va_runSN (As := (st.take na).reverse.map (cvV ad)) (rest := (st.drop na).map (cvV ad)) ⟨hx, hb, hml, hown, htw⟩ hmet ⟨va_cnB na htw (wt_code hMO.2.1) rfl rfl rfl (hK.2.1 _ o2) (htw _ hMO.2.2.2.2.2.1) hdd ⟨hrm.1, by have := hMO.2.2.2.2.2.2; show 8 + (M1.2.2.2.1 + 11) + 60 * d ≤ _; omega⟩, htw _ o3, trivial⟩ ⟨PreP.blind hSX, hpre⟩ rfl hlen hR.2.2.2.1.1 rfl (lv_room (by rw [cats_cv]; exact hc8)) (hd.d rfl) hroom
        · cases h
      · cases h
    all_goals (repeat' split at h)
    all_goals (cases h; done)
  · next i =>
    unfold acallI at h
    split at h
    · next j hp =>
      split at h
      · next M1 na hG =>
        split at h
        · next b r1 hdrop =>
          split at h
          · next hc =>
            simp only [Bool.and_eq_true, decide_eq_true_eq] at hc
            obtain ⟨hc8, hna, hini, hcl⟩ := hc
            simp only [Option.some.injEq, Sum.inr.injEq, Prod.mk.injEq] at h
            obtain ⟨rfl, rfl, rfl, rfl, rfl⟩ := h
            have hMO := hCa.1 _ _ _ hG
            obtain ⟨own, o1, o2, o3, o4⟩ := hCa.2.2.2.1 _ _ _ _ _ hp hG
            have ho : own = M.2.1.cls := Option.some.inj (o1.symm.trans hon)
            subst ho
            have hst := split_st hdrop
            have hsb : scV (w.length + 3) (.ref b) := hs _ (List.mem_of_mem_drop (by rw [hdrop]; exact List.mem_cons_self))
            have hsr : scS (w.length + 3) r1 := fun x hx => hs x (List.mem_of_mem_drop (by rw [hdrop]; exact List.mem_cons_of_mem _ hx))
            have hmet := met_of hSim hMO hrun hcl hR.2.2.2.2.1 (scS_c hsb (sc_take hs)) ad H.size
            have hstk : st.map (cvV ad) = ((st.take na).reverse.map (cvV ad)).reverse ++ .ref (ad b) :: r1.map (cvV ad) := by
              conv => lhs; rw [hst]
              rw [List.map_append, List.map_reverse, List.map_cons]
              rfl
            have hlen : ((st.take na).reverse.map (cvV ad)).length = na := by simp [hna]
            have hdd := hMO.2.2.2.2.1
            have hin2 : M1.2.1.name = "<init>" := by simpa [isInit] using hini
            have hpre := pre_of hSX C hX hSx hR (.ref (ad b) :: (st.take na).reverse.map (cvV ad))
            have hco := hMO.2.1
            refine call_go (a := (Value.ref (ad b) :: (st.take na).reverse.map (cvV ad)).toArray) C hR hsr hz ?_ k
            rw [hstk]
            rw [o4] at hmet hco
            rcases o2 with o2 | ⟨host, o2⟩
            · exact va_runI (As := (st.take na).reverse.map (cvV ad)) (rest := r1.map (cvV ad)) ⟨hx, hb, hml, hown, htw⟩ hmet (cwI na htw (wt_code hco) rfl rfl rfl (htw _ hMO.2.2.2.2.2.1) (htw _ o2) (htw _ o3) hin2 hdd ⟨hrm.1, by have := hMO.2.2.2.2.2.2; show 8 + (M1.2.2.2.1 + 11) + 60 * d ≤ _; omega⟩) ⟨PreP.blind hSX, hpre⟩ rfl hlen hR.2.2.2.1.1 rfl (lv_room (by rw [cats_cv]; exact hc8)) (hd.d rfl) hroom
            · exact va_runIN (As := (st.take na).reverse.map (cvV ad)) (rest := r1.map (cvV ad)) ⟨hx, hb, hml, hown, htw⟩ hmet ⟨va_cnB na htw (wt_code hco) rfl rfl rfl (hK.2.1 _ o2) (htw _ hMO.2.2.2.2.2.1) hdd ⟨hrm.1, by have := hMO.2.2.2.2.2.2; show 8 + (M1.2.2.2.1 + 11) + 60 * d ≤ _; omega⟩, hin2, htw _ o3⟩ ⟨PreP.blind hSX, hpre⟩ rfl hlen hR.2.2.2.1.1 rfl (lv_room (by rw [cats_cv]; exact hc8)) (hd.d rfl) hroom
          · cases h
        · cases h
      · cases h
    all_goals (repeat' split at h)
    all_goals (cases h; done)
  · cases hs1 : sstep pp F xs L M.1 M.2.2.2.1 (isInit M.2.1) ins pc lc st w with
    | none => rw [hs1] at h; cases h
    | some c1 => rw [hs1] at h; cases h
/-- THE MACHINE DOES WHAT THE PURE ONE DOES -/
theorem sim_all {l : Launch} {pp : pP} {F : pF} {Gm : pG} {tx : pT} {xs : Nat → Int32} {L : Nat} {SX : pX} {tr : List (String × Nat × Nat)} {Z0 : Nat} {G : va_G} {cI cZ cB cJ cE : ClassId} (hSX : SXok Z0 SX) (hF : ClsOK F) (hPo : PoolOK pp tr) (hCa : CallsOK pp Gm) (hT : TopsOK l pp tx xs L SX tr Z0 G cI cZ cB cJ cE) : ∀ n, Sim l pp F Gm tx xs L SX tr Z0 G cI cZ cB cJ cE n := by
  intro n
  induction n with
  | zero => intro d M pc lc st w v w' hM h; cases h
  | succ n ih =>
    intro d M pc lc st w v w' hM h p e R s m args below meth c H locs cells slots Q A ls ad C hX hSx hrm hroom hR hs hret
    have h0 := h
    simp only [run] at h
    split at h
    · cases h
    · next ins hins =>
      have hd := hM pc ins hins
      split at h
      · next v1 hA =>
        simp only [Option.some.injEq, Prod.mk.injEq] at h
        obtain ⟨rfl, rfl⟩ := h
        have hr : aret M ins st = some v1 := by
          have kx1 : ∀ x : Option pC, x.map (fun c => (Sum.inr (Sum.inl c) : pA)) = some (.inl v1) → False := by
            intro x h
            cases x <;> cases h
          have kr : (aret M ins st).map (fun v => (Sum.inl v : pA)) = some (.inl v1) → aret M ins st = some v1 := by
            intro h
            cases hq : aret M ins st with
            | none => rw [hq] at h; cases h
            | some y =>
              rw [hq] at h
              simp only [Option.map_some, Option.some.injEq, Sum.inl.injEq] at h
              rw [h]
          unfold astep at hA
          split at hA
          · exact kr hA
          · exact kr hA
          · exact kr hA
          · exact kr hA
          · unfold acallV at hA
            repeat' split at hA
            all_goals (cases hA; done)
          · unfold acallS at hA
            repeat' split at hA
            all_goals (cases hA; done)
          · unfold acallI at hA
            repeat' split at hA
            all_goals (cases hA; done)
          · exact (kx1 _ hA).elim
        have := hret ad H locs pc ls ins st (adX_r _ _) hd hr hR.1 hR.2.1 hR.2.2.1 hR.2.2.2.2.1 hs
        rw [Nat.sub_self, Nat.sub_self, Nat.add_zero, Nat.add_zero] at this
        exact this
      · next pc1 lc1 st1 w1 hA =>
        have z1 := astep_sz hA
        have z2 := run_sz _ _ _ _ _ _ _ _ _ h
        have hr1 : cells + (w1.length - w.length) ≤ R.cells ∧ slots + (slW w1 - slW w) ≤ R.slots := ⟨Nat.le_trans (Nat.add_le_add_left (Nat.sub_le_sub_right z2.1 _) _) hroom.1, Nat.le_trans (Nat.add_le_add_left (Nat.sub_le_sub_right z2.2 _) _) hroom.2⟩
        refine next_ok hF hPo hCa hT C hX hSx hd hA hrm hR hs hr1 ?_
        intro ad1 H1 locs1 ls1 hadx hR1 hs1
        have h3 : adX 3 ad ad1 := fun i hi => hadx i (Nat.lt_of_lt_of_le hi (Nat.le_add_left 3 _))
        have e1 : cells + (w1.length - w.length) + (w'.length - w1.length) = cells + (w'.length - w.length) := by have := z1.1; have := z2.1; omega
        have e2 : slots + (slW w1 - slW w) + (slW w' - slW w1) = slots + (slW w' - slW w) := by have := z1.2; have := z2.2; omega
        refine ih d M pc1 lc1 st1 w1 v w' hM h p e R s m args below meth c H1 locs1 _ _ Q A ls1 ad1 C (hX.mv h3 (Or.inr rfl) (fun _ _ => rfl)) (hSX ad ad1 s s h3 (Or.inr rfl) (fun _ _ => rfl) hSx) hrm (by rw [e1, e2]; exact hroom) hR1 hs1 ?_
        intro ad2 H2 locs2 pc2 ls2 ins2 st2 hadx2 hd2 hr2 q1 q2 q3 q4 q5
        rw [e1, e2]
        exact hret ad2 H2 locs2 pc2 ls2 ins2 st2 (fun i hi => (hadx2 i (Nat.lt_of_lt_of_le hi (Nat.add_le_add_right z1.1 3))).trans (hadx i hi)) hd2 hr2 q1 q2 q3 q4 q5
      · next M1 as pc1 lc1 r hA =>
        split at h
        · cases h
        · next d1 =>
          split at h
          · next v1 w1 hcall =>
            have z1 := run_sz _ _ _ _ _ _ _ _ _ hcall
            have z2 := run_sz _ _ _ _ _ _ _ _ _ h
            have hr1 : cells + (w1.length - w.length) ≤ R.cells ∧ slots + (slW w1 - slW w) ≤ R.slots := ⟨Nat.le_trans (Nat.add_le_add_left (Nat.sub_le_sub_right z2.1 _) _) hroom.1, Nat.le_trans (Nat.add_le_add_left (Nat.sub_le_sub_right z2.2 _) _) hroom.2⟩
            refine callM_ok hSX hCa ih C hX hSx hd hA hrm hR hs hcall hr1 ?_
            intro ad1 H1 locs1 ls1 hadx hR1 hs1
            have h3 : adX 3 ad ad1 := fun i hi => hadx i (Nat.lt_of_lt_of_le hi (Nat.le_add_left 3 _))
            have e1 : cells + (w1.length - w.length) + (w'.length - w1.length) = cells + (w'.length - w.length) := by have := z1.1; have := z2.1; omega
            have e2 : slots + (slW w1 - slW w) + (slW w' - slW w1) = slots + (slW w' - slW w) := by have := z1.2; have := z2.2; omega
            refine ih (d1 + 1) M pc1 lc1 (v1.toList ++ r) w1 v w' hM h p e R s m args below meth c H1 locs1 _ _ Q A ls1 ad1 C (hX.mv h3 (Or.inr rfl) (fun _ _ => rfl)) (hSX ad ad1 s s h3 (Or.inr rfl) (fun _ _ => rfl) hSx) hrm (by rw [e1, e2]; exact hroom) hR1 hs1 ?_
            intro ad2 H2 locs2 pc2 ls2 ins2 st2 hadx2 hd2 hr2 q1 q2 q3 q4 q5
            rw [e1, e2]
            exact hret ad2 H2 locs2 pc2 ls2 ins2 st2 (fun i hi => (hadx2 i (Nat.lt_of_lt_of_le hi (Nat.add_le_add_right z1.1 3))).trans (hadx i hi)) hd2 hr2 q1 q2 q3 q4 q5
          · cases h
      · cases h
end SIM2

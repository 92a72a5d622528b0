/-! calls, and the theorem -/
section CALL
variable {p : Program} {l : Launch} {e : Env} {R : Room} {s : State} {m : MethodId} {args : Array Value} {below : List Frame} {meth : Method} {c : Code} {H : Heap} {locs : List Loc} {cells slots : Nat} {Q : State → Prop}
variable {G : va_G} {cI cZ cB cJ cE : ClassId} {A : Nat → Prop} {Z0 : Nat}
theorem below_same {M : pM} {nL : Nat} {ad : Nat → Nat} {ls : Array Slot} {lc : pL} {w : pW} (C : Cx p s m args meth c G cI cZ cB cJ cE A Z0 M) (hR : Rn s G cI cZ cB cJ cE A nL ad H locs ls lc w) : ∀ q, q < Z0 → H[q]? = s.heap[q]? := by
  obtain ⟨hx, hb, hml, htw, hown, hK, hA, hAZ, hin, hon, hZs⟩ := C
  intro q hq
  exact hR.2.2.1.2.1 q (Nat.lt_of_lt_of_le hq hZs) (fun z => absurd (hAZ q z) (Nat.not_le.mpr hq))
theorem pre_of {SX : pX} {xs : Nat → Int32} {L : Nat} {tr : List (String × Nat × Nat)} (hSX : SXok Z0 SX) {M : pM} {nL : Nat} {ad : Nat → Nat} {ls : Array Slot} {lc : pL} {w : pW} (C : Cx p s m args meth c G cI cZ cB cJ cE A Z0 M) (hX : EXf xs L tr Z0 ad s) (hSx : SX ad s) (hR : Rn s G cI cZ cB cJ cE A nL ad H locs ls lc w) (av : List Value) : ∀ U : State, U.heap = H → s.WarmedH U.vm → va_Pc av (PreP SX xs L tr Z0 G cI cZ cB cJ cE ad w H.size) av.toArray U := by
  have hbel := below_same C hR
  obtain ⟨hx, hb, hml, htw, hown, hK, hA, hAZ, hin, hon, hZs⟩ := C
  intro U hU hW
  refine ⟨rfl, by rw [hU], by rw [hU]; exact hR.1, ⟨va_K.moved hW.alike hK.1, nx_warm hW hK.2.1, va_AO.moved hW.alike hK.2.2⟩, hR.2.1.weaken (fun _ q _ h => hAZ q.1 h), hX.mv (adX_r _ _) (Or.inl hW) (fun q hq => by rw [hU]; exact hbel q hq), hSX ad ad s U (adX_r _ _) (Or.inl hW) (fun q hq => by rw [hU]; exact hbel q hq) hSx, Nat.le_trans hZs hR.2.2.1.1⟩
/-- behind a call the frame goes on -/
theorem call_go {M : pM} {pc : Nat} {lc : pL} {w w' : pW} {r st0 : List Value} {v : Option Value} {ad : Nat → Nat} {ls : Array Slot} {a : Array Value} (C : Cx p s m args meth c G cI cZ cB cJ cE A Z0 M) (hR : Rn s G cI cZ cB cJ cE A M.2.2.2.1 ad H locs ls lc w) (hsr : scS (w.length + 3) r) (hz : szOK w w')
    (hr : va_Run p l e R s m args below meth c H locs cells slots (w'.length - w.length) (slW w' - slW w) (F0 m pc ls st0) (r.map (cvV ad)) (QP G cI cZ cB cJ cE ad w H.size v w' a) (va_A (cW ad (ctL cI cZ cB cJ cE) w) H.size))
    (k : Go p l e R s m args below meth c Q G cI cZ cB cJ cE A M (w.length + 3) ad (cells + (w'.length - w.length)) (slots + (slW w' - slW w)) (pc + 3) lc (v.toList ++ r) w') : W p l e R s m args below meth c H locs cells slots Q (F0 m pc ls st0) := by
  obtain ⟨hx, hb, hml, htw, hown, hK, hA, hAZ, hin, hon, hZs⟩ := C
  have hF : ∀ q, va_A (cW ad (ctL cI cZ cB cJ cE) w) H.size q → A q := by
    intro q h
    rcases h with ⟨k, e, h⟩ | h
    · exact hR.2.1.2 k (q, e) h
    · exact hA q (Nat.le_trans hR.2.2.1.1 h)
  refine va_callX hr hR.2.2.1 (fun q _ h => hF q h) hF (fun _ _ _ h => h.2) ?_
  intro v1 st t H1 locs1 ht hq hz1 hk1 hS1
  obtain ⟨⟨ad', hadx, hv, hP1, hD1, hsw, hsv⟩, -⟩ := hq
  have hv1 : v1 = v.map (cvV ad') := Outcome.returned.inj hv
  subst hv1
  rw [ht] at hP1
  have hn : w.length + 3 ≤ w'.length + 3 := Nat.add_le_add_right hz.1 3
  have e1 : (v.map (cvV ad')).toList ++ r.map (cvV ad) = (v.toList ++ r).map (cvV ad') := by
    rw [List.map_append, cS_x hadx hsr]
    cases v <;> rfl
  rw [e1]
  refine k ad' H1 locs1 ls hadx ⟨hP1, hD1.weaken (fun _ q _ h => hF q.1 h), hS1, ?_, hsw, scL_up hn hR.2.2.2.2.2⟩ ?_
  · rw [cL_x hadx hR.2.2.2.2.2]
    exact hR.2.2.2.1
  · intro x hx
    rcases List.mem_append.mp hx with h | h
    · cases v with
      | none => cases h
      | some y =>
        have : x = y := by simpa using h
        rw [this]
        exact hsv y rfl
    · exact scV_up hn (hsr x h)
theorem wt_I {y : MethodName} {b : ByteArray} {n : Nat} {r : Option FieldType} (h : Cond.code y b n r ∈ wt) : GoodIn wt (Cond.code y b n r :: wt) := wt_code h
theorem split_st {st : List Value} {na : Nat} {b : Value} {r : List Value} (h : st.drop na = b :: r) : st = ((st.take na).reverse).reverse ++ b :: r := by rw [List.reverse_reverse, ← h, List.take_append_drop]
theorem sc_take {n na : Nat} {st : List Value} (h : scS n st) : scS n (st.take na).reverse := fun x hx => h x (List.mem_of_mem_take (List.mem_reverse.mp hx))
theorem sc_drop {n na : Nat} {st : List Value} (h : scS n st) : scS n (st.drop na) := fun x hx => h x (List.mem_of_mem_drop hx)
theorem room_ok {d a b : Nat} {R : Room} (h : d + 1 ≤ R.frames ∧ 60 * (d + 1) ≤ R.locals) (ha : a ≤ 40) : ({ frames := d, cells := b, slots := 0, locals := 60 * d } : Room).frames + 1 ≤ R.frames ∧ 8 + (a + 11) + 60 * d ≤ R.locals := ⟨h.1, by omega⟩
/-- the texts' methods do what the pure ones do -/
def TopsOK (l : Launch) (pp : pP) (tx : pT) (xs : Nat → Int32) (L : Nat) (SX : pX) (tr : List (String × Nat × Nat)) (Z0 : Nat) (G : va_G) (cI cZ cB cJ cE : ClassId) : Prop :=
  ∀ (p : Program) (e : Env) (R : Room) (s : State) (m : MethodId) (args : Array Value) (below : List Frame) (meth : Method) (c : Code) (H : Heap) (locs : List Loc) (cells slots : Nat) (Q : State → Prop) (A : Nat → Prop) (M : pM) (pc d op j i : Nat) (lc : pL) (st st' : List Value) (w : pW) (ad : Nat → Nat) (ls : Array Slot),
    Cx p s m args meth c G cI cZ cB cJ cE A Z0 M → EXf xs L tr Z0 ad s → SX ad s → Rn s G cI cZ cB cJ cE A M.2.2.2.1 ad H locs ls lc w → scS (w.length + 3) st → 6 ≤ d → d ≤ R.frames ∧ 60 * d ≤ R.locals → pp.2.2.2 M.1 i = some (op, j) → tops tx op st = some st' → cats st' ≤ 8 → DecAt M.2.2.1 pc (.invokevirtual i) →
    Go p l e R s m args below meth c Q G cI cZ cB cJ cE A M (w.length + 3) ad cells slots (pc + 3) lc st' w → W p l e R s m args below meth c H locs cells slots Q (F0 m pc ls (st.map (cvV ad)))
theorem tops_sc {n : Nat} {tx : pT} {op : Nat} {st st' : List Value} (h : tops tx op st = some st') (hs : scS n st) : scS n st' := by
  unfold tops at h
  split at h
  · split at h
    · have := Option.some.inj h
      rw [← this]
      exact scS_c (scV_int _ _) (scS_t hs)
    · cases h
  · split at h
    · split at h
      · have := Option.some.inj h
        rw [← this]
        exact scS_c (scV_int _ _) (scS_t (scS_t hs))
      · cases h
    · cases h
  · split at h
    · have := Option.some.inj h
      rw [← this]
      exact scS_c (scV_int _ _) (scS_t (scS_t hs))
    · cases h
  · cases h
theorem own12 {i : Nat} {a : String} (h : owns[i]? = some a) (hi : i < 12) : ∃ q : vw_C, classes[i]? = some q ∧ q.1 = a := by
  match i, hi, h with
  | 0, _, h => cases h; exact ⟨_, rfl, rfl⟩
  | 1, _, h => cases h; exact ⟨_, rfl, rfl⟩
  | 2, _, h => cases h; exact ⟨_, rfl, rfl⟩
  | 3, _, h => cases h; exact ⟨_, rfl, rfl⟩
  | 4, _, h => cases h; exact ⟨_, rfl, rfl⟩
  | 5, _, h => cases h; exact ⟨_, rfl, rfl⟩
  | 6, _, h => cases h; exact ⟨_, rfl, rfl⟩
  | 7, _, h => cases h; exact ⟨_, rfl, rfl⟩
  | 8, _, h => cases h; exact ⟨_, rfl, rfl⟩
  | 9, _, h => cases h; exact ⟨_, rfl, rfl⟩
  | 10, _, h => cases h; exact ⟨_, rfl, rfl⟩
  | 11, _, h => cases h; exact ⟨_, rfl, rfl⟩
set_option maxHeartbeats 4000000 in
/-- instructions that are no call of a method of ours -/
theorem next_ok {pp : pP} {F : pF} {Gm : pG} {tx : pT} {xs : Nat → Int32} {L : Nat} {SX : pX} {tr : List (String × Nat × Nat)} (hF : ClsOK F) (hPo : PoolOK pp tr) (hCa : CallsOK pp Gm) (hT : TopsOK l pp tx xs L SX tr Z0 G cI cZ cB cJ cE) {M : pM} (C : Cx p s m args meth c G cI cZ cB cJ cE A Z0 M) {ins : Instr} {d pc : Nat} {lc : pL} {st : List Value} {w : pW} {pc' : Nat} {lc' : pL} {st' : List Value} {w' : pW} {ad : Nat → Nat} {ls : Array Slot} (hX : EXf xs L tr Z0 ad s) (hSx : SX ad s) (hd : DecAt M.2.2.1 pc ins) (h : astep pp F Gm tx xs L M d ins pc lc st w = some (.inr (.inl (pc', lc', st', w')))) (hrm : d ≤ R.frames ∧ 60 * d ≤ R.locals) (hR : Rn s G cI cZ cB cJ cE A M.2.2.2.1 ad H locs ls lc w) (hs : scS (w.length + 3) st) (hroom : cells + (w'.length - w.length) ≤ R.cells ∧ slots + (slW w' - slW w) ≤ R.slots)
    (k : Go p l e R s m args below meth c Q G cI cZ cB cJ cE A M (w.length + 3) ad (cells + (w'.length - w.length)) (slots + (slW w' - slW w)) pc' lc' st' w') : W p l e R s m args below meth c H locs cells slots Q (F0 m pc ls (st.map (cvV ad))) := by
  have key : (sstep pp F xs L M.1 M.2.2.2.1 (isInit M.2.1) ins pc lc st w).map (fun c => (Sum.inr (Sum.inl c) : pA)) = some (.inr (.inl (pc', lc', st', w'))) → W p l e R s m args below meth c H locs cells slots Q (F0 m pc ls (st.map (cvV ad))) := by
    intro h
    cases hs1 : sstep pp F xs L M.1 M.2.2.2.1 (isInit M.2.1) ins pc lc st w with
    | none => rw [hs1] at h; cases h
    | some c1 =>
      rw [hs1] at h
      simp only [Option.map_some, Option.some.injEq, Sum.inr.injEq, Sum.inl.injEq] at h
      subst h
      exact sstep_ok hF hPo C hX hd hs1 hR hs hroom k
  have kr : ∀ x : Option (Option Value), x.map (fun v => (Sum.inl v : pA)) = some (.inr (.inl (pc', lc', st', w'))) → W p l e R s m args below meth c H locs cells slots Q (F0 m pc ls (st.map (cvV ad))) := by
    intro x h
    cases x <;> cases h
  unfold astep at h
  split at h
  · exact kr _ h
  · exact kr _ h
  · exact kr _ h
  · exact kr _ h
  · unfold acallV at h
    split at h
    · repeat' split at h
      all_goals (cases h; done)
    · next op j _ hp =>
      split at h
      · next st1 ht =>
        split at h
        · next hc =>
          simp only [Bool.and_eq_true, decide_eq_true_eq] at hc
          simp only [Option.some.injEq, Sum.inr.injEq, Sum.inl.injEq, Prod.mk.injEq] at h
          obtain ⟨rfl, rfl, rfl, rfl⟩ := h
          exact hT p e R s m args below meth c H locs cells slots Q A M pc d op j _ lc st st1 w ad ls C hX hSx hR hs hc.2 hrm hp ht hc.1 hd k.z
        · cases h
      · cases h
    · cases h
  · unfold acallS at h
    split at h
    · repeat' split at h
      all_goals (cases h; done)
    · next j hp =>
      split at h
      · next kk dp a sp a0 r =>
        split at h
        · next hc =>
          simp only [Bool.and_eq_true, decide_eq_true_eq] at hc
          split at h
          · next w1 hw =>
            simp only [Option.some.injEq, Sum.inr.injEq, Sum.inl.injEq, Prod.mk.injEq] at h
            obtain ⟨rfl, rfl, rfl, rfl⟩ := h
            unfold acpy at hw
            split at hw
            · next n0 f n1 g h0 h1 =>
              split at hw
              · next hb2 =>
                simp only [Bool.and_eq_true, decide_eq_true_eq] at hb2
                obtain ⟨g1, g2, g3, g4, g5⟩ := hb2
                obtain ⟨j0, rfl, hj0⟩ := wAt_some h0
                obtain ⟨j1, rfl, hj1⟩ := wAt_some h1
                have hw := Option.some.inj hw
                have hw : w1 = w.set j1 (.inl (0, n1, .inl (va_cpy f g sp.toNatClampNeg dp.toNatClampNeg kk.toNatClampNeg))) := hw.symm
                subst hw
                obtain ⟨hx, hb, hml, htw, hown, hK, hA, hAZ, hin, hon, hZs⟩ := C
                obtain ⟨own, o1, o2, o3, o4, o5⟩ := hCa.2.2.2.2.2.1 _ _ _ hp
                have ho : own = M.2.1.cls := Option.some.inj (o1.symm.trans hon)
                subst ho
                refine va_copyi hx hb (hml.trans hR.2.2.2.1.1.symm) hown (htw _ o2) (htw _ o3) (htw _ o4) (htw _ o5) hK.1 hR.1 hR.2.1 hR.2.2.1 j0 j1 0 0 (cW_at hj0) (cW_at hj1) rfl rfl rfl g1 g2 g3 g4 g5 (fun _ _ => rfl) (by omega) ?_ (hd.d rfl) (fun H1 locs1 q1 q2 q3 => ?_)
                · rw [cats_cv]
                  have : nativeFrameWords "java/lang/System" "arraycopy" 5 + 11 ≤ 50 := by decide
                  omega
                · have kk2 := k.zs (w' := w.set j1 (.inl (0, n1, .inl (va_cpy f g sp.toNatClampNeg dp.toNatClampNeg kk.toNatClampNeg)))) (by rw [List.length_set]) (slW_set hj1 rfl)
                  refine kk2 ad H1 locs1 ls (adX_r _ _) (hR.set (x := .inl (0, n1, .inl (va_cpy f g sp.toNatClampNeg dp.toNatClampNeg kk.toNatClampNeg))) trivial q1 q2 q3) ?_
                  rw [List.length_set]
                  exact scS_t (scS_t (scS_t (scS_t (scS_t hs))))
              · cases hw
            · cases hw
          · cases h
        · cases h
      · cases h
    · next j hp =>
      split at h
      · next y x r =>
        split at h
        · next hc =>
          simp only [Bool.and_eq_true, decide_eq_true_eq] at hc
          simp only [Option.some.injEq, Sum.inr.injEq, Sum.inl.injEq, Prod.mk.injEq] at h
          obtain ⟨rfl, rfl, rfl, rfl⟩ := h
          obtain ⟨hx, hb, hml, htw, hown, hK, hA, hAZ, hin, hon, hZs⟩ := C
          obtain ⟨own, o1, o2, o3, o4, o5⟩ := hCa.2.2.2.2.2.2.1 _ _ _ hp
          have ho : own = M.2.1.cls := Option.some.inj (o1.symm.trans hon)
          subst ho
          refine va_mmax hx hb (hml.trans hR.2.2.2.1.1.symm) hown (htw _ o2) (htw _ o3) (htw _ o4) (htw _ o5) (by omega) ?_ (by omega) (by omega) (hd.d rfl) (k.z ad H locs ls (adX_r _ _) hR (scS_c (scV_int _ _) (scS_t (scS_t hs))))
          rw [cats_cv]
          omega
        · cases h
      · cases h
    · next j hp =>
      split at h
      · next y x r =>
        split at h
        · next hc =>
          simp only [Bool.and_eq_true, decide_eq_true_eq] at hc
          simp only [Option.some.injEq, Sum.inr.injEq, Sum.inl.injEq, Prod.mk.injEq] at h
          obtain ⟨rfl, rfl, rfl, rfl⟩ := h
          obtain ⟨hx, hb, hml, htw, hown, hK, hA, hAZ, hin, hon, hZs⟩ := C
          obtain ⟨own, o1, o2, o3, o4, o5⟩ := hCa.2.2.2.2.2.2.2 _ _ _ hp
          have ho : own = M.2.1.cls := Option.some.inj (o1.symm.trans hon)
          subst ho
          refine va_mmin hx hb (hml.trans hR.2.2.2.1.1.symm) hown (htw _ o2) (htw _ o3) (htw _ o4) (htw _ o5) (by omega) ?_ (by omega) (by omega) (hd.d rfl) (k.z ad H locs ls (adX_r _ _) hR (scS_c (scV_int _ _) (scS_t (scS_t hs))))
          rw [cats_cv]
          omega
        · cases h
      · cases h
    · cases h
  · unfold acallI at h
    split at h
    · repeat' split at h
      all_goals (cases h; done)
    · next j hp =>
      split at h
      · next a r =>
        split at h
        · next hc =>
          simp only [Bool.and_eq_true, decide_eq_true_eq] at hc
          simp only [Option.some.injEq, Sum.inr.injEq, Sum.inl.injEq, Prod.mk.injEq] at h
          obtain ⟨rfl, rfl, rfl, rfl⟩ := h
          obtain ⟨hx, hb, hml, htw, hown, hK, hA, hAZ, hin, hon, hZs⟩ := C
          obtain ⟨own, o1, o2, o3, o4⟩ := hCa.2.2.2.2.1 _ _ _ hp
          have ho : own = M.2.1.cls := Option.some.inj (o1.symm.trans hon)
          subst ho
          refine W.objInit hx hb hown (htw _ o2) (htw _ o3) (htw _ o4) (g := F0 m pc ls ((Value.ref a :: r).map (cvV ad))) rfl (hR.2.2.2.1.1.trans hml.symm) rfl (hd.d rfl) (by omega) ?_ (k.z ad H locs ls (adX_r _ _) hR (scS_t hs))
          rw [cats_cv]
          show 2 * 0 + _ + 12 ≤ _
          omega
        · cases h
      · cases h
    · cases h
  · exact key h
end CALL

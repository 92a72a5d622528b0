section SND3
variable {KT : List Kd} {X : pW → Prop} {ks : List Nat} {P n0 : Nat} {ρ0 : Nat → Value} {eff : List (Nat × Nat)} {w0 : pW} {σ : aS} {ρ : Nat → Value} {lc : pL} {st : List Value} {w : pW}
variable {pp : pP} {F : pF} {xs : Nat → Int32} {L own nL : Nat} {ini : Bool} {pc : Nat} {l : List (Nat × aS)}
/-- descriptions that are known to hold too -/
theorem Ga.re (h : Ga KT X ks P n0 ρ0 eff w0 σ ρ lc st w) {ds : List Ds} {me : List Fa} (hl : ds.length = σ.1.length) (hd : ∀ s d, ds[s]? = some d → okD ks P d (ρ s)) (hm : ∀ f ∈ me, okF P ρ w f ∧ fsc σ.1.length f) : Ga KT X ks P n0 ρ0 eff w0 (ds, σ.2.1, σ.2.2.1, me, σ.2.2.2.2) ρ lc st w := by
  obtain ⟨g1, g2, g3, g4, g5, g6, g7, g8, g9, g10⟩ := h
  refine ⟨hd, ?_, ⟨g3.1, ?_⟩, ?_, g5, g6, g7, g8, ?_, g10⟩
  · intro q hq
    show _ ∧ _ < ds.length
    rw [hl]
    exact g2 q hq
  · intro s hs
    show _ < ds.length
    rw [hl]
    exact g3.2 s hs
  · intro f hf
    show _ ∧ fsc ds.length f
    rw [hl]
    exact hm f hf
  · show _ ≤ ds.length
    rw [hl]
    exact g9
theorem okD0 {B a b : Nat} {v : Value} (h : okD ks B (0, a, b) v) : okI a b v := h
theorem meetS_ok {ds : List Ds} {s lo hi : Nat} (hd : ∀ s d, ds[s]? = some d → okD ks P d (ρ s)) {x : Int32} (hx : ρ s = .int x) (h1 : (lo : Int) ≤ x.toInt + 2147483648) (h2 : x.toInt + 2147483648 ≤ (hi : Int)) : ∃ ds', meetS ds s lo hi = some ds' ∧ ds'.length = ds.length ∧ ∀ s d, ds'[s]? = some d → okD ks P d (ρ s) := by
  unfold meetS
  split
  · next a b hs =>
    have k := hd s _ hs
    rw [hx] at k
    obtain ⟨x', e, k1, k2⟩ := k
    cases e
    simp only at k1 k2
    have m1 : ((max a lo : Nat) : Int) ≤ x.toInt + 2147483648 := by simp only [Nat.max_def]; split <;> omega
    have m2 : x.toInt + 2147483648 ≤ ((min b hi : Nat) : Int) := by simp only [Nat.min_def]; split <;> omega
    rw [if_pos (nbl.mpr (by omega))]
    refine ⟨_, rfl, List.length_set, fun t d ht => ?_⟩
    by_cases hts : t = s
    · subst hts
      rw [List.getElem?_set_self (lt_ds hs)] at ht
      cases ht
      rw [hx]
      exact ⟨x, rfl, m1, m2⟩
    · rw [List.getElem?_set_ne (Ne.symm hts)] at ht
      exact hd t d ht
  · exact ⟨ds, rfl, rfl, hd⟩
def cndP (c : Jvm.ClassFile.Cond) (x y : Int32) : Prop := match c with
  | .eq => x.toInt = y.toInt
  | .ne => x.toInt ≠ y.toInt
  | .lt => x.toInt < y.toInt
  | .ge => y.toInt ≤ x.toInt
  | .gt => y.toInt < x.toInt
  | .le => x.toInt ≤ y.toInt
theorem icmpB_P {c : Jvm.ClassFile.Cond} {x y : Int32} : icmpB c x y = true ↔ cndP c x y := by
  cases c <;> simp only [icmpB, cndP, decide_eq_true_eq, ne_eq]
  · exact Int32.toInt_inj.symm
  · exact not_congr Int32.toInt_inj.symm
  · exact Int32.lt_iff_toInt_lt
  · exact Int32.le_iff_toInt_le
  · exact Int32.lt_iff_toInt_lt
  · exact Int32.le_iff_toInt_le
theorem notC_P {c : Jvm.ClassFile.Cond} {x y : Int32} (h : ¬ cndP c x y) : cndP (notC c) x y := by
  cases c <;> simp only [cndP, notC] at h ⊢ <;> omega
/-- what asm gives -/
def AsmOK (ks : List Nat) (P : Nat) (ρ : Nat → Value) (w : pW) (n : Nat) (r : Option (List Ds × List Fa)) : Prop := ∃ ds me, r = some (ds, me) ∧ ds.length = n ∧ (∀ s d, ds[s]? = some d → okD ks P d (ρ s)) ∧ ∀ f ∈ me, okF P ρ w f ∧ fsc n f
theorem asmLt_ok {ds : List Ds} {me : List Fa} {a b : Nat} {x y : Int32} (hd : ∀ s d, ds[s]? = some d → okD ks P d (ρ s)) (hm : ∀ f ∈ me, okF P ρ w f ∧ fsc ds.length f) (hx : ρ a = .int x) (hy : ρ b = .int y) (h : x.toInt < y.toInt) : AsmOK ks P ρ w ds.length (asmLt ds me a b) := by
  unfold asmLt
  split
  · next p q u v ha hb =>
    obtain ⟨x', e, k1, k2⟩ := okD0 (hd a _ ha)
    rw [hx] at e
    cases e
    obtain ⟨y', e, j1, j2⟩ := okD0 (hd b _ hb)
    rw [hy] at e
    cases e
    have l1 := i32_lo x
    rw [if_neg (by rw [nbe]; omega)]
    obtain ⟨ds1, e1, n1, d1⟩ := meetS_ok (lo := 0) (hi := v - 1) hd hx (by omega) (by omega)
    rw [e1]
    simp only
    obtain ⟨ds2, e2, n2, d2⟩ := meetS_ok (lo := p + 1) (hi := Mx) d1 hy (by omega) (by have := i32_lo y; simp only [Mx]; omega)
    rw [e2]
    refine ⟨ds2, _, rfl, n2.trans n1, d2, fun f hf => ?_⟩
    rcases List.mem_cons.mp hf with rfl | hf
    · refine ⟨f10 ?_, lt_ds ha, lt_ds hb, Or.inl rfl⟩
      rw [hx, hy, iv_int, iv_int]
      have : ((Zb - 1 : Nat) : Int) = 2147483647 := rfl
      omega
    · exact hm f hf
  · exact ⟨ds, me, rfl, rfl, hd, hm⟩
theorem asmLe_ok {ds : List Ds} {me : List Fa} {a b : Nat} {x y : Int32} (hd : ∀ s d, ds[s]? = some d → okD ks P d (ρ s)) (hm : ∀ f ∈ me, okF P ρ w f ∧ fsc ds.length f) (hx : ρ a = .int x) (hy : ρ b = .int y) (h : x.toInt ≤ y.toInt) : AsmOK ks P ρ w ds.length (asmLe ds me a b) := by
  unfold asmLe
  split
  · next p q u v ha hb =>
    obtain ⟨x', e, k1, k2⟩ := okD0 (hd a _ ha)
    rw [hx] at e
    cases e
    obtain ⟨y', e, j1, j2⟩ := okD0 (hd b _ hb)
    rw [hy] at e
    cases e
    obtain ⟨ds1, e1, n1, d1⟩ := meetS_ok (lo := 0) (hi := v) hd hx (by have := i32_lo x; omega) (by omega)
    rw [e1]
    simp only
    obtain ⟨ds2, e2, n2, d2⟩ := meetS_ok (lo := p) (hi := Mx) d1 hy (by omega) (by have := i32_lo y; simp only [Mx]; omega)
    rw [e2]
    refine ⟨ds2, _, rfl, n2.trans n1, d2, fun f hf => ?_⟩
    rcases List.mem_cons.mp hf with rfl | hf
    · refine ⟨f10 ?_, lt_ds ha, lt_ds hb, Or.inl rfl⟩
      rw [hx, hy, iv_int, iv_int]
      have : ((Zb : Nat) : Int) = 2147483648 := rfl
      omega
    · exact hm f hf
  · exact ⟨ds, me, rfl, rfl, hd, hm⟩
theorem asmEq_ok {ds : List Ds} {me : List Fa} {a b : Nat} {x y : Int32} (hd : ∀ s d, ds[s]? = some d → okD ks P d (ρ s)) (hm : ∀ f ∈ me, okF P ρ w f ∧ fsc ds.length f) (hx : ρ a = .int x) (hy : ρ b = .int y) (h : x.toInt = y.toInt) : AsmOK ks P ρ w ds.length (asmEq ds me a b) := by
  unfold asmEq
  split
  · next p q u v ha hb =>
    obtain ⟨x', e, k1, k2⟩ := okD0 (hd a _ ha)
    rw [hx] at e
    cases e
    obtain ⟨y', e, j1, j2⟩ := okD0 (hd b _ hb)
    rw [hy] at e
    cases e
    obtain ⟨ds1, e1, n1, d1⟩ := meetS_ok (lo := u) (hi := v) hd hx (by omega) (by omega)
    rw [e1]
    simp only
    obtain ⟨ds2, e2, n2, d2⟩ := meetS_ok (lo := p) (hi := q) d1 hy (by omega) (by omega)
    rw [e2]
    have hz : ((Zb : Nat) : Int) = 2147483648 := rfl
    refine ⟨ds2, _, rfl, n2.trans n1, d2, fun f hf => ?_⟩
    rcases List.mem_cons.mp hf with rfl | hf
    · refine ⟨f10 ?_, lt_ds ha, lt_ds hb, Or.inl rfl⟩
      rw [hx, hy, iv_int, iv_int]
      omega
    · rcases List.mem_cons.mp hf with rfl | hf
      · refine ⟨f10 ?_, lt_ds hb, lt_ds ha, Or.inl rfl⟩
        rw [hx, hy, iv_int, iv_int]
        omega
      · exact hm f hf
  · exact ⟨ds, me, rfl, rfl, hd, hm⟩
theorem asmNe_ok {ds : List Ds} {me : List Fa} {a b : Nat} {x y : Int32} (hd : ∀ s d, ds[s]? = some d → okD ks P d (ρ s)) (hm : ∀ f ∈ me, okF P ρ w f ∧ fsc ds.length f) (hx : ρ a = .int x) (hy : ρ b = .int y) (h : x.toInt ≠ y.toInt) : AsmOK ks P ρ w ds.length (asmNe ds me a b) := by
  unfold asmNe
  split
  · next p q u v ha hb =>
    obtain ⟨x', e, k1, k2⟩ := okD0 (hd a _ ha)
    rw [hx] at e
    cases e
    obtain ⟨y', e, j1, j2⟩ := okD0 (hd b _ hb)
    rw [hy] at e
    cases e
    have hf11 : ∀ f ∈ (11, a, b, 0) :: me, okF P ρ w f ∧ fsc ds.length f := by
      intro f hf
      rcases List.mem_cons.mp hf with rfl | hf
      · refine ⟨f11 ?_, lt_ds ha, lt_ds hb, Or.inr (Or.inl rfl)⟩
        rw [hx, hy, iv_int, iv_int]
        exact h
      · exact hm f hf
    have l1 := i32_lo x
    split
    · next huv =>
      rw [nbe] at huv
      split
      · next hpu =>
        rw [nbe] at hpu
        obtain ⟨ds1, e1, n1, d1⟩ := meetS_ok (lo := u + 1) (hi := Mx) hd hx (by omega) (by simp only [Mx]; omega)
        rw [e1]
        exact ⟨ds1, me, rfl, n1, d1, hm⟩
      · split
        · next hqu =>
          rw [nbe] at hqu
          rw [if_neg (by rw [nbe]; omega)]
          obtain ⟨ds1, e1, n1, d1⟩ := meetS_ok (lo := 0) (hi := u - 1) hd hx (by omega) (by omega)
          rw [e1]
          exact ⟨ds1, me, rfl, n1, d1, hm⟩
        · exact ⟨ds, _, rfl, rfl, hd, hf11⟩
    · exact ⟨ds, _, rfl, rfl, hd, hf11⟩
  · exact ⟨ds, me, rfl, rfl, hd, hm⟩
theorem asm_ok {c : Jvm.ClassFile.Cond} {ds : List Ds} {me : List Fa} {a b : Nat} {x y : Int32} (hd : ∀ s d, ds[s]? = some d → okD ks P d (ρ s)) (hm : ∀ f ∈ me, okF P ρ w f ∧ fsc ds.length f) (hx : ρ a = .int x) (hy : ρ b = .int y) (h : cndP c x y) : AsmOK ks P ρ w ds.length (asm c ds me a b) := by
  cases c
  · exact asmEq_ok hd hm hx hy h
  · exact asmNe_ok hd hm hx hy h
  · exact asmLt_ok hd hm hx hy h
  · exact asmLe_ok hd hm hy hx h
  · exact asmLt_ok hd hm hy hx h
  · exact asmLe_ok hd hm hx hy h
/-- a branch is gone -/
theorem brA_ok {c : Jvm.ClassFile.Cond} {a b t f : Nat} {x y : Int32} (hG : Ga KT X ks P n0 ρ0 eff w0 σ ρ lc st w) (hx : ρ a = .int x) (hy : ρ b = .int y) : ∃ q ∈ brA c σ.1 σ.2.1 σ.2.2.1 σ.2.2.2.1 σ.2.2.2.2 a b t f, q.1 = (if icmpB c x y then t else f) ∧ Ga KT X ks P n0 ρ0 eff w0 q.2 ρ lc st w := by
  by_cases hc : icmpB c x y = true
  · obtain ⟨ds, me, e, n, d, m⟩ := asm_ok (c := c) hG.1 hG.2.2.2.1 hx hy (icmpB_P.mp hc)
    refine ⟨(t, (ds, σ.2.1, σ.2.2.1, me, σ.2.2.2.2)), ?_, by rw [if_pos hc], hG.re n d m⟩
    unfold brA
    rw [e]
    exact List.mem_append_left _ List.mem_cons_self
  · obtain ⟨ds, me, e, n, d, m⟩ := asm_ok (c := notC c) hG.1 hG.2.2.2.1 hx hy (notC_P (fun z => hc (icmpB_P.mpr z)))
    refine ⟨(f, (ds, σ.2.1, σ.2.2.1, me, σ.2.2.2.2)), ?_, by rw [if_neg hc], hG.re n d m⟩
    unfold brA
    rw [e]
    exact List.mem_append_right _ List.mem_cons_self
end SND3

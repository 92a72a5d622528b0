/-! annotations, branches that can't be, calls: sound -/
def PoOK (KT : List Kd) (X : pW → Prop) (ks : List Nat) (c : Ctr) (P : Nat) (ρ : Nat → Value) (w : pW) (v : Option Value) (w' : pW) : Prop := ∃ po ∈ c.2.2.2.2.2.2.2, ∃ ρ' : Nat → Value, (∀ s, s < c.2.2.1.length → ρ' s = ρ s) ∧ Sd ks (P + c.2.2.2.2.2.1) ρ' po.2.1 ∧ (∀ f ∈ po.2.2, okF (P + c.2.2.2.2.2.1) ρ' w' f ∧ fsc po.2.1.length f) ∧ c.2.2.1.length ≤ po.2.1.length ∧ Typed KT ks (P + c.2.2.2.2.2.1) w' ∧ X w' ∧ Ef ks c.2.2.2.2.1 w w' ∧ v = po.1.map ρ' ∧ ∀ s, po.1 = some s → s < po.2.1.length
/-- a contract holds -/
def CK (KT : List Kd) (X : pW → Prop) (ks : List Nat) (pp : pP) (F : pF) (Gm : pG) (xs : Nat → Int32) (L : Nat) (c : Ctr) : Prop := ∀ (P : Nat) (ρ : Nat → Value) (w : pW), Sd ks P ρ c.2.2.1 → Sm P ρ w c.2.2.2.1 → Typed KT ks P w → X w → P + (c.2.2.2.2.2.2.1 + 1) * 16777216 ≤ PMax → ∃ (M : pM) (na : Nat), Gm[c.1]? = some (M, na) ∧ Rs pp F Gm TX xs L c.2.2.2.2.2.2.1 M 0 (lArgs 0 ((List.range c.2.1).map ρ)) [] w (PoOK KT X ks c P ρ w)
section CLS
variable {KT : List Kd} {X : pW → Prop} {ks : List Nat} {P n0 : Nat} {ρ0 : Nat → Value} {eff : List (Nat × Nat)} {w0 : pW} {σ : aS} {ρ : Nat → Value} {lc : pL} {st : List Value} {w : pW}
variable {pp : pP} {F : pF} {Gm : pG} {xs : Nat → Int32} {L own nL : Nat} {ini : Bool} {pc : Nat}
theorem Ga.rb (h : Ga KT X ks P n0 ρ0 eff w0 σ ρ lc st w) : Ga KT X ks P σ.1.length ρ eff w0 σ ρ lc st w := by
  obtain ⟨g1, g2, g3, g4, g5, g6, g7, g8, g9, g10⟩ := h
  exact ⟨g1, g2, g3, g4, g5, g6, g7, fun s _ => rfl, Nat.le_refl _, g10⟩
theorem Ga.ub (h : Ga KT X ks P n0 ρ0 eff w0 σ ρ lc st w) {τ : aS} {ρ' : Nat → Value} {lc' : pL} {st' : List Value} {w' : pW} (k : Ga KT X ks P σ.1.length ρ eff w0 τ ρ' lc' st' w') : Ga KT X ks P n0 ρ0 eff w0 τ ρ' lc' st' w' := by
  obtain ⟨g1, g2, g3, g4, g5, g6, g7, g8, g9, g10⟩ := k
  have h8 := h.2.2.2.2.2.2.2.1
  have h9 := h.2.2.2.2.2.2.2.2.1
  exact ⟨g1, g2, g3, g4, g5, g6, g7, fun s hs => (g8 s (Nat.lt_of_lt_of_le hs h9)).trans (h8 s hs), Nat.le_trans h9 g9, g10⟩
theorem cat_mem {α β : Type} {f : α → Option (List β)} : ∀ {l : List α} {r : List β}, cat f l = some r → ∀ q ∈ l, ∃ a, f q = some a ∧ ∀ x ∈ a, x ∈ r
  | [], _, _, q, hq => by cases hq
  | p :: l, r, h, q, hq => by
    rw [cat] at h
    split at h
    · cases h
    · next a ha =>
      split at h
      · cases h
      · next b hb =>
        have := Option.some.inj h
        subst this
        rcases List.mem_cons.mp hq with rfl | hq
        · exact ⟨a, ha, fun x hx => List.mem_append_left _ hx⟩
        · obtain ⟨a', h1, h2⟩ := cat_mem hb q hq
          exact ⟨a', h1, fun x hx => List.mem_append_right _ (h2 x hx)⟩
theorem splt_ok {s : Nat} {l : List aS} (hG : Ga KT X ks P n0 ρ0 eff w0 σ ρ lc st w) (h : splt σ s = some l) : ∃ τ ∈ l, Ga KT X ks P n0 ρ0 eff w0 τ ρ lc st w := by
  unfold splt at h
  split at h
  · next a b hs =>
    split at h
    · have := Option.some.inj h
      subst this
      obtain ⟨x, ex, h1, h2⟩ := hG.1 s _ hs
      simp only at h1 h2
      refine ⟨(σ.1.set s (0, a + (bias x - a), a + (bias x - a)), σ.2), List.mem_map.mpr ⟨bias x - a, List.mem_range.mpr (by have := bias_cast x; omega), rfl⟩, ?_⟩
      refine hG.re (ds := σ.1.set s (0, a + (bias x - a), a + (bias x - a))) (me := σ.2.2.2.1) List.length_set (fun t d ht => ?_) hG.2.2.2.1
      by_cases hts : t = s
      · subst hts
        rw [List.getElem?_set_self (lt_ds hs)] at ht
        cases ht
        rw [ex]
        have := bias_cast x
        exact ⟨x, rfl, by simp only; omega, by simp only; omega⟩
      · rw [List.getElem?_set_ne (Ne.symm hts)] at ht
        exact hG.1 t d ht
    · cases h
  · cases h
theorem cutD_ok {s : Nat} {x : Int32} (hG : Ga KT X ks P n0 ρ0 eff w0 σ ρ lc st w) (hx : ρ s = .int x) : ∀ {l : List (Nat × Nat)}, (∃ q ∈ l, (q.1 : Int) ≤ x.toInt + 2147483648 ∧ x.toInt + 2147483648 ≤ (q.2 : Int)) → ∃ τ ∈ cutD σ s l, Ga KT X ks P n0 ρ0 eff w0 τ ρ lc st w
  | [], h => by
    obtain ⟨q, hq, -⟩ := h
    cases hq
  | p :: l, h => by
    obtain ⟨q, hq, h1, h2⟩ := h
    rw [cutD]
    rcases List.mem_cons.mp hq with rfl | hq
    · obtain ⟨ds, e, n, d⟩ := meetS_ok hG.1 hx h1 h2
      rw [e]
      exact ⟨(ds, σ.2), List.mem_append_left _ (List.mem_singleton_self _), hG.re n d hG.2.2.2.1⟩
    · obtain ⟨τ, h3, g⟩ := cutD_ok hG hx (l := l) ⟨q, hq, h1, h2⟩
      exact ⟨τ, List.mem_append_right _ h3, g⟩
theorem gh1_ok {q : Nat × Nat × Nat} {τ : aS} (hG : Ga KT X ks P n0 ρ0 eff w0 σ ρ lc st w) (h : gh1 KT σ q = some τ) : ∃ (ρ' : Nat → Value) (st' : List Value), Ga KT X ks P n0 ρ0 eff w0 τ ρ' lc st' w := by
  unfold gh1 at h
  split at h
  · split at h
    · next p τ' hg =>
      have := Option.some.inj h
      subst this
      have hk : getA KT (fun _ _ => some (q.2.1, q.2.2), fun _ _ => none, fun _ _ => none, fun _ _ => none) 0 σ 0 (0 + 3) = some [(0 + 3, τ')] := by
        unfold getA at hg ⊢
        repeat' split at hg
        all_goals first | cases hg | skip
        all_goals simp_all
      obtain ⟨q1, hq1, ρ', lc', st', w', hs, g⟩ := k_getfield (pp := (fun _ _ => some (q.2.1, q.2.2), fun _ _ => none, fun _ _ => none, fun _ _ => none)) (F := []) (xs := fun _ => 0) (L := 0) (own := 0) (nL := 0) (ini := false) (pc := 0) (i := 0) hG hk
      rw [List.mem_singleton.mp hq1] at g
      simp only [sstep] at hs
      split at hs
      · split at hs
        · simp only [Option.some.injEq, Prod.mk.injEq] at hs
          obtain ⟨-, rfl, -, rfl⟩ := hs
          exact ⟨ρ', st', g⟩
        · cases hs
      · cases hs
    · cases h
  · split at h
    · next s hs =>
      have := Option.some.inj h
      subst this
      refine ⟨ρ, _, hG.stk (fun x hx => ?_)⟩
      rcases List.mem_cons.mp hx with rfl | hx
      · exact (hG.lg hs).2
      · exact hG.sl hx
    · cases h
  · split at h
    · next p τ' hg =>
      have := Option.some.inj h
      subst this
      obtain ⟨a, x, v, r, ρ', -, -, τ2, e, g⟩ := aldA_ok (xs := fun _ => 0) (L := 0) (fun t ht => by simp at ht; omega) hG hg
      cases e
      exact ⟨ρ', _, g⟩
    · cases h
  · split at h
    · next hc =>
      rw [nbl] at hc
      have := Option.some.inj h
      subst this
      have e1 : (Int32.ofInt ((q.2.1 : Int) - 2147483648)).toInt = (q.2.1 : Int) - 2147483648 := by
        simp only [Mx] at hc
        exact Int32.toInt_ofInt_of_le (by omega) (by omega)
      refine ⟨_, _, hG.pu (d := (0, q.2.1, q.2.1)) (v := .int (Int32.ofInt ((q.2.1 : Int) - 2147483648))) ⟨_, rfl, ?_, ?_⟩ nof⟩
      · rw [e1]; simp only; omega
      · rw [e1]; simp only; omega
    · cases h
  · cases h
theorem ghL_ok : ∀ {l : List (Nat × Nat × Nat)} {σ τ : aS} {ρ : Nat → Value} {st : List Value}, Ga KT X ks P n0 ρ0 eff w0 σ ρ lc st w → ghL KT l σ = some τ → ∃ (ρ' : Nat → Value) (st' : List Value), Ga KT X ks P n0 ρ0 eff w0 τ ρ' lc st' w
  | [], σ, τ, ρ, st, hG, h => by
    have := Option.some.inj h
    subst this
    exact ⟨ρ, st, hG⟩
  | q :: l, σ, τ, ρ, st, hG, h => by
    rw [ghL] at h
    split at h
    · next τ1 h1 =>
      obtain ⟨ρ1, st1, g⟩ := gh1_ok hG h1
      exact ghL_ok g h
    · cases h
theorem an1_ok {a : An} {l : List aS} (hG : Ga KT X ks P n0 ρ0 eff w0 σ ρ lc st w) (h : an1 KT σ a = some l) : ∃ τ ∈ l, ∃ ρ', Ga KT X ks P n0 ρ0 eff w0 τ ρ' lc st w := by
  unfold an1 at h
  split at h
  · obtain ⟨τ, e, g⟩ := tight_ok hG
    rw [e] at h
    have := Option.some.inj h
    subst this
    exact ⟨τ, List.mem_singleton_self _, ρ, g⟩
  · split at h
    · obtain ⟨τ, h1, g⟩ := splt_ok hG h
      exact ⟨τ, h1, ρ, g⟩
    · cases h
  · split at h
    · obtain ⟨τ, h1, g⟩ := splt_ok hG h
      exact ⟨τ, h1, ρ, g⟩
    · cases h
  · split at h
    · next s hs =>
      split at h
      · next τ hτ =>
        have := Option.some.inj h
        subst this
        have g1 := (hG.rb).stk (r := [s]) (fun x hx => by rw [List.mem_singleton.mp hx]; exact (hG.lg hs).2)
        obtain ⟨ρ', st', g2⟩ := ghL_ok g1 hτ
        refine ⟨_, List.mem_singleton_self _, ρ', ?_⟩
        have g3 := hG.ub g2
        have e8 := g2.2.2.2.2.2.2.2.1
        have e9 := g2.2.2.2.2.2.2.2.2.1
        have g4 := g3.stk (r := σ.2.2.1) (fun x hx => Nat.lt_of_lt_of_le (hG.sl hx) e9)
        have e : σ.2.2.1.map ρ' = st := by
          rw [hG.stq]
          exact List.map_congr_left (fun s hs => e8 s (hG.sl hs))
        rw [e] at g4
        exact g4
      · cases h
    · cases h
  · have := Option.some.inj h
    subst this
    exact ⟨σ, List.mem_singleton_self _, ρ, hG⟩
  · split at h
    · next s r hst =>
      split at h
      · next hI =>
        have := Option.some.inj h
        subst this
        obtain ⟨x, ex⟩ := hG.tI hI
        have lx := i32_lo x
        have hz := zbi
        have hq : ∃ q ∈ byteR, (q.1 : Int) ≤ x.toInt + 2147483648 ∧ x.toInt + 2147483648 ≤ (q.2 : Int) := by
          by_cases h1 : x.toInt < 0
          · exact ⟨(0, Zb - 1), by simp [byteR], by simp only; omega, by simp only [Zb]; omega⟩
          · by_cases h2 : x.toInt ≤ 47
            · exact ⟨(Zb, Zb + 47), by simp [byteR], by simp only [Zb]; omega, by simp only [Zb]; omega⟩
            · by_cases h3 : x.toInt ≤ 57
              · exact ⟨(Zb + 48, Zb + 57), by simp [byteR], by simp only [Zb]; omega, by simp only [Zb]; omega⟩
              · by_cases h4 : x.toInt ≤ 96
                · exact ⟨(Zb + 58, Zb + 96), by simp [byteR], by simp only [Zb]; omega, by simp only [Zb]; omega⟩
                · by_cases h5 : x.toInt ≤ 122
                  · exact ⟨(Zb + 97, Zb + 122), by simp [byteR], by simp only [Zb]; omega, by simp only [Zb]; omega⟩
                  · exact ⟨(Zb + 123, Mx), by simp [byteR], by simp only [Zb]; omega, by simp only [Mx]; omega⟩
        obtain ⟨τ, h1, g⟩ := cutD_ok hG ex hq
        exact ⟨τ, h1, ρ, g⟩
      · cases h
    · cases h
  · split at h
    · next s hs =>
      split at h
      · next u v hu =>
        have := Option.some.inj h
        subst this
        obtain ⟨x, ex, h1, h2⟩ := hG.1 s _ hu
        simp only at h1 h2
        have lx := i32_lo x
        have hq : ∃ q ∈ [((0, u) : Nat × Nat), (u + 1, Mx)], (q.1 : Int) ≤ x.toInt + 2147483648 ∧ x.toInt + 2147483648 ≤ (q.2 : Int) := by
          by_cases h3 : x.toInt + 2147483648 ≤ (u : Int)
          · exact ⟨(0, u), by simp, by simp only; omega, by simp only; omega⟩
          · exact ⟨(u + 1, Mx), by simp, by simp only; omega, by simp only [Mx]; omega⟩
        obtain ⟨τ, h3, g⟩ := cutD_ok hG ex hq
        exact ⟨τ, h3, ρ, g⟩
      · cases h
    · cases h
  · cases h
theorem anL_ok : ∀ {l : List An} {σ : aS} {τs : List aS} {ρ : Nat → Value}, Ga KT X ks P n0 ρ0 eff w0 σ ρ lc st w → anL KT l σ = some τs → ∃ τ ∈ τs, ∃ ρ', Ga KT X ks P n0 ρ0 eff w0 τ ρ' lc st w
  | [], σ, τs, ρ, hG, h => by
    have := Option.some.inj h
    subst this
    exact ⟨σ, List.mem_singleton_self _, ρ, hG⟩
  | a :: l, σ, τs, ρ, hG, h => by
    rw [anL] at h
    split at h
    · next τ1 h1 =>
      obtain ⟨τ, hτ, ρ', g⟩ := an1_ok hG h1
      obtain ⟨b, hb, hb2⟩ := cat_mem h τ hτ
      obtain ⟨τ2, h2, ρ2, g2⟩ := anL_ok g hb
      exact ⟨τ2, hb2 τ2 h2, ρ2, g2⟩
    · cases h
theorem badB_ok {c : Jvm.ClassFile.Cond} {ds : List Ds} {me : List Fa} {a b : Nat} {x y : Int32} (hd : Sd ks P ρ ds) (hm : Sm P ρ w me) (hx : ρ a = .int x) (hy : ρ b = .int y) (h : badB c ds me a b = true) : ¬ cndP c x y := by
  intro hc
  cases c
  · have := neQ_ok hd hm h
    rw [hx, hy] at this
    exact this hc
  · unfold badB at h
    simp only [Bool.and_eq_true] at h
    have k1 := leT_ok hd hm h.1
    have k2 := leT_ok hd hm h.2
    rw [hx, hy, iv_int, iv_int] at k1
    rw [hx, hy, iv_int, iv_int] at k2
    simp only [cndP] at hc
    omega
  · have k1 := leT_ok hd hm h
    rw [hx, hy, iv_int, iv_int] at k1
    simp only [cndP] at hc
    omega
  · have k1 := leT_ok hd hm h
    rw [hx, hy, iv_int, iv_int] at k1
    simp only [cndP] at hc
    omega
  · have k1 := leT_ok hd hm h
    rw [hx, hy, iv_int, iv_int] at k1
    simp only [cndP] at hc
    omega
  · have k1 := leT_ok hd hm h
    rw [hx, hy, iv_int, iv_int] at k1
    simp only [cndP] at hc
    omega
theorem prn_ok {c : Jvm.ClassFile.Cond} {a b t f : Nat} {x y : Int32} (hG : Ga KT X ks P n0 ρ0 eff w0 σ ρ lc st w) (hx : ρ a = .int x) (hy : ρ b = .int y) : ∃ q ∈ prn c σ.1 σ.2.1 σ.2.2.1 σ.2.2.2.1 σ.2.2.2.2 a b t f, q.1 = (if icmpB c x y then t else f) ∧ Ga KT X ks P n0 ρ0 eff w0 q.2 ρ lc st w := by
  by_cases hc : icmpB c x y = true
  · obtain ⟨ds, me, e, n, d, m⟩ := asm_ok (c := c) hG.1 hG.2.2.2.1 hx hy (icmpB_P.mp hc)
    refine ⟨(t, (ds, σ.2.1, σ.2.2.1, me, σ.2.2.2.2)), ?_, by rw [if_pos hc], hG.re n d m⟩
    unfold prn
    rw [if_neg (fun hb => badB_ok hG.sd hG.sm hx hy hb (icmpB_P.mp hc)), e]
    exact List.mem_append_left _ List.mem_cons_self
  · have hn := notC_P (fun z => hc (icmpB_P.mpr z))
    obtain ⟨ds, me, e, n, d, m⟩ := asm_ok (c := notC c) hG.1 hG.2.2.2.1 hx hy hn
    refine ⟨(f, (ds, σ.2.1, σ.2.2.1, me, σ.2.2.2.2)), ?_, by rw [if_neg hc], hG.re n d m⟩
    unfold prn
    rw [if_neg (c := badB (notC c) σ.1 σ.2.2.2.1 a b = true) (fun hb => badB_ok hG.sd hG.sm hx hy hb hn), e]
    exact List.mem_append_right _ List.mem_cons_self
theorem prA_ok {ins : Instr} {l : List (Nat × aS)} (hG : Ga KT X ks P n0 ρ0 eff w0 σ ρ lc st w) (h : prA σ ins pc = some l) : Nx KT X ks P n0 ρ0 eff w0 pp F xs L own nL ini ins pc lc st w l := by
  unfold prA at h
  split at h
  · next c off =>
    split at h
    · next x r t hst ht =>
      split at h
      · next hc =>
        simp only [Option.some.injEq] at h
        subst h
        obtain ⟨xv, ex⟩ := hG.tI hc
        have hxl : x < σ.1.length := hG.sl (by rw [hst]; exact List.mem_cons_self)
        have hr : ∀ s ∈ r, s < σ.1.length := fun s hs => hG.sl (by rw [hst]; exact List.mem_cons_of_mem _ hs)
        have hG1 := (hG.stk hr).pu (d := (0, Zb, Zb)) (v := .int 0) (okI_cI 0) nof
        have hG2 := hG1.stk (r := r) (fun s hs => by
          have := hr s hs
          simp only [push, setSt, List.length_append, List.length_singleton]
          omega)
        have ex2 : upS ρ σ.1.length (.int 0) x = .int xv := by rw [upS_ne hxl]; exact ex
        obtain ⟨q, hq, e, g⟩ := prn_ok (c := c) (t := t) (f := pc + 3) hG2 ex2 (upS_eq ρ σ.1.length (.int 0))
        refine ⟨q, hq, _, lc, _, w, ?_, g⟩
        rw [hG.stq, hst, List.map_cons, ex]
        have e3 : r.map (upS ρ σ.1.length (.int 0)) = r.map ρ := List.map_congr_left (fun s hs => upS_ne (hr s hs))
        have e4 : r.map (upS ρ (setSt σ r).1.length (.int 0)) = r.map ρ := e3
        simp only [sstep, ht, e, e4]
      · cases h
    · cases h
  · next c off =>
    split at h
    · next y x r t hst ht =>
      split at h
      · next hc =>
        simp only [Bool.and_eq_true] at hc
        simp only [Option.some.injEq] at h
        subst h
        obtain ⟨xv, ex⟩ := hG.tI hc.1
        obtain ⟨yv, ey⟩ := hG.tI hc.2
        have hG1 := hG.st1 (r := r) (fun s hs => by rw [hst]; exact List.mem_cons_of_mem _ (List.mem_cons_of_mem _ hs))
        obtain ⟨q, hq, e, g⟩ := prn_ok (c := c) (t := t) (f := pc + 3) hG1 ex ey
        refine ⟨q, hq, ρ, lc, _, w, ?_, g⟩
        rw [hG.stq, hst, List.map_cons, List.map_cons, ex, ey]
        simp only [sstep, ht, e]
      · cases h
    · cases h
  · cases h
theorem cat_is {ds : List Ds} {s : Nat} (hd : Sd ks P ρ ds) (hs : s < ds.length) : (ρ s).category = if isLng ds s then 2 else 1 := by
  have hs2 : ds[s]? = some ds[s] := List.getElem?_eq_getElem hs
  have hk := hd s _ hs2
  generalize ds[s] = d at hs2 hk
  obtain ⟨t, a, b⟩ := d
  unfold isLng
  rw [hs2]
  unfold okD at hk
  split at hk
  · next ht => simp only at ht; subst ht; obtain ⟨x, e, -⟩ := hk; rw [e]; rfl
  · next ht => simp only at ht; subst ht; obtain ⟨x, e, -⟩ := hk; rw [e]; rfl
  · next ht => simp only at ht; subst ht; rcases hk with e | ⟨i, e, -⟩ <;> rw [e] <;> rfl
  · next ht => simp only at ht; subst ht; obtain ⟨x, e, -⟩ := hk; rw [e]; rfl
  · next ht => simp only at ht; subst ht; obtain ⟨x, e, -⟩ := hk; rw [e]; rfl
  · next ht => simp only at ht; subst ht; obtain ⟨x, e, -⟩ := hk; rw [e]; rfl
  · next ht => simp only at ht; subst ht; rw [hk]; rfl
  · next ht => simp only at ht; subst ht; rw [hk]; rfl
  · exact hk.elim
theorem catsA_ok {ds : List Ds} (hd : Sd ks P ρ ds) : ∀ {l : List Nat}, (∀ s ∈ l, s < ds.length) → cats (l.map ρ) = catsA ds l
  | [], _ => rfl
  | s :: l, h => by
    have ih := catsA_ok hd (l := l) (fun x hx => h x (List.mem_cons_of_mem _ hx))
    have e := cat_is hd (h s List.mem_cons_self)
    unfold cats at ih ⊢
    rw [catsA, List.map_cons, List.map_cons, List.sum_cons, ih, e]
theorem lArgsA_ge {ds : List Ds} : ∀ {l : List Nat} {i : Nat} {q : Nat × Nat}, q ∈ lArgsA ds i l → i ≤ q.1
  | [], _, _, h => by cases h
  | s :: l, i, q, h => by
    rw [lArgsA] at h
    rcases List.mem_cons.mp h with rfl | h
    · exact Nat.le_refl _
    · have := lArgsA_ge h
      split at this <;> omega
theorem lArgsA_ok {ds : List Ds} (hd : Sd ks P ρ ds) : ∀ {l : List Nat} {i : Nat}, (∀ s ∈ l, s < ds.length) → ∀ q ∈ lArgsA ds i l, lGet (lArgs i (l.map ρ)) q.1 = some (ρ q.2) ∧ q.2 < ds.length
  | [], _, _, q, h => by cases h
  | s :: l, i, hl, q, h => by
    rw [lArgsA] at h
    have e := cat_is hd (hl s List.mem_cons_self)
    rw [List.map_cons, lArgs]
    rcases List.mem_cons.mp h with rfl | h
    · refine ⟨?_, hl s List.mem_cons_self⟩
      unfold lGet
      simp
    · have hge := lArgsA_ge h
      have e2 : (if (ρ s).category = 2 then i + 2 else i + 1) = if isLng ds s then i + 2 else i + 1 := by
        rw [e]
        by_cases hh : isLng ds s = true
        · rw [if_pos hh, if_pos hh, if_pos rfl]
        · rw [if_neg hh, if_neg hh, if_neg (by decide)]
      rw [e2]
      obtain ⟨i1, i2⟩ := lArgsA_ok hd (fun x hx => hl x (List.mem_cons_of_mem _ hx)) q h
      refine ⟨?_, i2⟩
      have hne : (i == q.1) = false := by
        simp only [beq_eq_false_iff_ne]
        split at hge <;> omega
      unfold lGet at i1 ⊢
      rw [List.find?_cons, hne]
      exact i1
end CLS

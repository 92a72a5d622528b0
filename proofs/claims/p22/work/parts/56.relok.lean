/-! relations hold -/
section RLK
variable {ks : List Nat} {P : Nat} {ρ : Nat → Value} {w : pW} {ds : List Ds} {me : List Fa}
def Sd (ks : List Nat) (P : Nat) (ρ : Nat → Value) (ds : List Ds) : Prop := ∀ s d, ds[s]? = some d → okD ks P d (ρ s)
def Sm (P : Nat) (ρ : Nat → Value) (w : pW) (me : List Fa) : Prop := ∀ f ∈ me, okF P ρ w f
def bv (ρ : Nat → Value) : Option Nat → Int
  | some s => iv (ρ s)
  | none => 0
theorem cst_iv {s c : Nat} (hd : Sd ks P ρ ds) (h : cstS ds s = some c) : ∃ x : Int32, ρ s = .int x ∧ x.toInt = (c : Int) - 2147483648 := by
  unfold cstS at h
  split at h
  · next a b hs =>
    split at h
    · next hab =>
      rw [nbe] at hab
      have := Option.some.inj h
      obtain ⟨x, e, h1, h2⟩ := hd s _ hs
      simp only at h1 h2
      exact ⟨x, e, by omega⟩
    · cases h
  · cases h
theorem cst_iv2 {s c : Nat} (hd : Sd ks P ρ ds) (h : cstS ds s = some c) : iv (ρ s) = (c : Int) - 2147483648 := by
  obtain ⟨x, e, h⟩ := cst_iv hd h
  rw [e]
  exact h
theorem zbi : ((Zb : Nat) : Int) = 2147483648 := rfl
theorem nrmF_ok {x y q k : Nat} (hd : Sd ks P ρ ds) : ∀ {me : List Fa}, Sm P ρ w me → nrmF ds x me = some (y, q, k) → iv (ρ x) = iv (ρ y) + (q : Int) - (k : Int)
  | [], _, h => by cases h
  | f :: me, hm, h => by
    have hz := zbi
    have ih := nrmF_ok (x := x) (y := y) (q := q) (k := k) hd (me := me) (fun g hg => hm g (List.mem_cons_of_mem _ hg))
    have hf := hm f List.mem_cons_self
    rw [nrmF] at h
    split at h
    · next hx =>
      rw [nbe] at hx
      split at h
      · next h3 =>
        rw [nbe] at h3
        obtain ⟨-, e⟩ := hf.2.1 h3
        rw [hx] at e
        have cas : ∀ {c' : Nat}, cstS ds f.2.1 = some c' → (f.2.2.1, c', Zb) = (y, q, k) → iv (ρ x) = iv (ρ y) + (q : Int) - (k : Int) := by
          intro c' hc e2
          have e3 := cst_iv2 hd hc
          simp only [Prod.mk.injEq] at e2
          obtain ⟨rfl, rfl, rfl⟩ := e2
          omega
        split at h
        · next c hc =>
          split at h
          · have e2 := Option.some.inj h
            simp only [Prod.mk.injEq] at e2
            obtain ⟨rfl, rfl, rfl⟩ := e2
            have e3 := cst_iv2 hd hc
            omega
          · split at h
            · next c' hc' =>
              split at h
              · exact cas hc' (Option.some.inj h)
              · exact ih h
            · exact ih h
        · split at h
          · next c' hc' =>
            split at h
            · exact cas hc' (Option.some.inj h)
            · exact ih h
          · exact ih h
      · split at h
        · next h4 =>
          rw [nbe] at h4
          obtain ⟨-, e⟩ := hf.2.2.1 h4
          rw [hx] at e
          split at h
          · next c hc =>
            split at h
            · have e2 := Option.some.inj h
              simp only [Prod.mk.injEq] at e2
              obtain ⟨rfl, rfl, rfl⟩ := e2
              have e3 := cst_iv2 hd hc
              omega
            · exact ih h
          · exact ih h
        · exact ih h
    · exact ih h
theorem nrm_ok (hd : Sd ks P ρ ds) (hm : Sm P ρ w me) : ∀ (n x p m : Nat), iv (ρ x) + (p : Int) - (m : Int) = bv ρ (nrm ds me n x p m).1 + ((nrm ds me n x p m).2.1 : Int) - ((nrm ds me n x p m).2.2 : Int)
  | 0, x, p, m => rfl
  | n + 1, x, p, m => by
    have hz := zbi
    rw [nrm]
    split
    · next c hc =>
      have e3 := cst_iv2 hd hc
      simp only [bv]
      omega
    · split
      · next y q k hn =>
        have e := nrmF_ok hd hm hn
        have ih := nrm_ok hd hm n y (p + q) (m + k)
        omega
      · rfl
theorem nrm_ok4 (hd : Sd ks P ρ ds) (hm : Sm P ρ w me) {x p m : Nat} {b : Option Nat} (h : nrm ds me 4 x 0 0 = (b, p, m)) : iv (ρ x) = bv ρ b + (p : Int) - (m : Int) := by
  have := nrm_ok hd hm 4 x 0 0
  rw [h] at this
  simp only at this
  omega
theorem nrm_okP (hd : Sd ks P ρ ds) (hm : Sm P ρ w me) (x : Nat) : iv (ρ x) = bv ρ (nrm ds me 4 x 0 0).1 + ((nrm ds me 4 x 0 0).2.1 : Int) - ((nrm ds me 4 x 0 0).2.2 : Int) := by
  have := nrm_ok hd hm 4 x 0 0
  omega
theorem sameB_ok {a b : Option Nat} (h : sameB a b = true) : a = b := by
  unfold sameB at h
  split at h
  · rfl
  · rw [nbe] at h; rw [h]
  · cases h
theorem rngS_ok {s a b : Nat} (hd : Sd ks P ρ ds) (h : rngS ds s = some (a, b)) : okI a b (ρ s) := by
  unfold rngS at h
  split at h
  · next d hs => exact rng_ok (hd s d hs) h
  · cases h
theorem leQ_ok (hd : Sd ks P ρ ds) (hm : Sm P ρ w me) : ∀ (n x y pc mc : Nat), leQ ds me n x y pc mc = true → iv (ρ x) ≤ iv (ρ y) + (pc : Int) - (mc : Int) := by
  have hz := zbi
  intro n
  induction n with
  | zero =>
    intro x y pc mc h
    unfold leQ at h
    cases ex : nrm ds me 4 x 0 0 with
    | mk bx q =>
      obtain ⟨px, mx⟩ := q
      cases ey : nrm ds me 4 y 0 0 with
      | mk bY q =>
        obtain ⟨py, my⟩ := q
        have e1 := nrm_ok4 hd hm ex
        have e2 := nrm_ok4 hd hm ey
        rw [ex, ey] at h
        simp only [Bool.or_eq_true, Bool.and_eq_true, nbl] at h
        rcases h with ⟨h1, h2⟩ | h | h
        · rw [sameB_ok h1] at e1
          omega
        · split at h
          · next hx hy =>
            rw [nbl] at h
            obtain ⟨xv, e, -, k1⟩ := hd x _ hx
            obtain ⟨yv, e', k2, -⟩ := rngS_ok hd hy
            rw [e, e', iv_int, iv_int]
            simp only at k1
            omega
          · cases h
        · cases h
  | succ n ih =>
    intro x y pc mc h
    unfold leQ at h
    cases ex : nrm ds me 4 x 0 0 with
    | mk bx q =>
      obtain ⟨px, mx⟩ := q
      cases ey : nrm ds me 4 y 0 0 with
      | mk bY q =>
        obtain ⟨py, my⟩ := q
        have e1 := nrm_ok4 hd hm ex
        have e2 := nrm_ok4 hd hm ey
        rw [ex, ey] at h
        simp only [Bool.or_eq_true, Bool.and_eq_true, nbl] at h
        rcases h with ⟨h1, h2⟩ | h | h
        · rw [sameB_ok h1] at e1
          omega
        · split at h
          · next hx hy =>
            rw [nbl] at h
            obtain ⟨xv, e, -, k1⟩ := hd x _ hx
            obtain ⟨yv, e', k2, -⟩ := rngS_ok hd hy
            rw [e, e', iv_int, iv_int]
            simp only at k1
            omega
          · cases h
        · cases bx with
          | none => cases h
          | some b =>
            simp only at h
            obtain ⟨f, hf, hq⟩ := List.any_eq_true.mp h
            simp only [Bool.and_eq_true, nbe] at hq
            obtain ⟨q1, q2⟩ := hq
            have k := (hm f hf).2.2.2.2.1 q1
            split at q2
            · next b' p1 m1 hn =>
              simp only [Bool.and_eq_true, nbe] at q2
              have e3 := nrm_ok4 hd hm hn
              have k2 := ih _ _ _ _ q2.2
              rw [q2.1] at e3
              simp only [bv] at e1 e3
              omega
            · cases q2
theorem hasNe_ok (hm : Sm P ρ w me) {x y : Nat} (h : hasNe me x y = true) : iv (ρ x) ≠ iv (ρ y) := by
  obtain ⟨f, hf, hq⟩ := List.any_eq_true.mp h
  simp only [Bool.and_eq_true, Bool.or_eq_true, nbe] at hq
  obtain ⟨q1, q2⟩ := hq
  have k := (hm f hf).2.2.2.2.2.1 q1
  rcases q2 with ⟨e1, e2⟩ | ⟨e1, e2⟩
  · rw [e1, e2] at k; exact k
  · rw [e1, e2] at k; exact Ne.symm k
theorem hasLe_ok (hm : Sm P ρ w me) {x y pc mc : Nat} (h : hasLe me x y pc mc = true) : iv (ρ x) ≤ iv (ρ y) + (pc : Int) - (mc : Int) := by
  obtain ⟨f, hf, hq⟩ := List.any_eq_true.mp h
  simp only [Bool.and_eq_true, nbe, nbl] at hq
  obtain ⟨q1, q2, q3, q4⟩ := hq
  have k := (hm f hf).2.2.2.2.1 q1
  rw [q2, q3] at k
  have hz := zbi
  omega
theorem leT_ok (hd : Sd ks P ρ ds) (hm : Sm P ρ w me) {x y pc mc : Nat} (h : leT ds me x y pc mc = true) : iv (ρ x) ≤ iv (ρ y) + (pc : Int) - (mc : Int) := by
  unfold leT at h
  simp only [Bool.or_eq_true, Bool.and_eq_true, nbe] at h
  rcases h with h | h | ⟨h1, h2, h3⟩
  · obtain ⟨f, hf, hq⟩ := List.any_eq_true.mp h
    simp only [Bool.and_eq_true, nbe, nbl] at hq
    obtain ⟨q1, q2, q3, q4⟩ := hq
    have k := (hm f hf).2.2.2.2.1 q1
    rw [q2, q3] at k
    have hz := zbi
    omega
  · exact leQ_ok hd hm _ _ _ _ _ h
  · have k1 := hasNe_ok hm h2
    have k2 := leQ_ok hd hm _ _ _ _ _ h3
    omega
theorem neQ_ok (hd : Sd ks P ρ ds) (hm : Sm P ρ w me) {x y : Nat} (h : neQ ds me x y = true) : iv (ρ x) ≠ iv (ρ y) := by
  unfold neQ at h
  simp only [Bool.or_eq_true] at h
  rcases h with h | h | h | h | h
  · unfold apartS at h
    split at h
    · next a b c d hx hy =>
      obtain ⟨xv, e, k1, k2⟩ := rngS_ok hd hx
      obtain ⟨yv, e', k3, k4⟩ := rngS_ok hd hy
      rw [e, e', iv_int, iv_int]
      simp only [Bool.or_eq_true, nbl] at h
      omega
    · cases h
  · exact hasNe_ok hm h
  · have e1 := nrm_okP hd hm x
    have e2 := nrm_okP hd hm y
    simp only [Bool.and_eq_true] at h
    rw [sameB_ok h.1] at e1
    have h2 : ¬ ((nrm ds me 4 x 0 0).2.1 + (nrm ds me 4 y 0 0).2.2 = (nrm ds me 4 y 0 0).2.1 + (nrm ds me 4 x 0 0).2.2) := by
      intro e
      rw [nbe.mpr e] at h
      exact absurd h.2 (by decide)
    omega
  · have := leQ_ok hd hm _ _ _ _ _ h
    omega
  · have := leQ_ok hd hm _ _ _ _ _ h
    omega
theorem isI_ok (hd : Sd ks P ρ ds) {s : Nat} (h : isI ds s = true) : ∃ x : Int32, ρ s = .int x := by
  unfold isI tagS at h
  cases e : ds[s]? with
  | none => rw [e] at h; simp at h
  | some d =>
    rw [e] at h
    simp only [Bool.or_eq_true, nbe] at h
    exact okD_int (hd s d e) h
theorem smQ_ok (hd : Sd ks P ρ ds) (hm : Sm P ρ w me) {a b r : Nat} (h : smQ ds me a b r = true) : (∃ y : Int32, ρ r = .int y) ∧ iv (ρ r) = iv (ρ a) + iv (ρ b) := by
  have hz := zbi
  unfold smQ at h
  simp only [Bool.and_eq_true, Bool.or_eq_true] at h
  obtain ⟨h0, h⟩ := h
  refine ⟨isI_ok hd h0, ?_⟩
  rcases h with ⟨h1, h2⟩ | ⟨h1, h2⟩ | h
  · rw [nbe] at h1
    split at h2
    · next c hc =>
      rw [nbe] at h2
      have := cst_iv2 hd hc
      rw [h1]
      omega
    · cases h2
  · rw [nbe] at h1
    split at h2
    · next c hc =>
      rw [nbe] at h2
      have := cst_iv2 hd hc
      rw [h1]
      omega
    · cases h2
  · obtain ⟨f, hf, hq⟩ := List.any_eq_true.mp h
    simp only [Bool.and_eq_true, Bool.or_eq_true, nbe] at hq
    obtain ⟨q1, q2, q3, q4⟩ := hq
    have k := ((hm f hf).2.1 q1).2
    rw [q2] at k
    have e1 := nrm_okP hd hm a
    have e2 := nrm_okP hd hm b
    have e3 := nrm_okP hd hm f.2.1
    have e4 := nrm_okP hd hm f.2.2.1
    have q5 : (nrm ds me 4 f.2.1 0 0).2.1 + (nrm ds me 4 f.2.2.1 0 0).2.1 + (nrm ds me 4 a 0 0).2.2 + (nrm ds me 4 b 0 0).2.2 = (nrm ds me 4 a 0 0).2.1 + (nrm ds me 4 b 0 0).2.1 + (nrm ds me 4 f.2.1 0 0).2.2 + (nrm ds me 4 f.2.2.1 0 0).2.2 := q3
    rcases q4 with q4 | q4
    · rw [sameB_ok q4.1] at e3
      rw [sameB_ok q4.2] at e4
      omega
    · rw [sameB_ok q4.1] at e3
      rw [sameB_ok q4.2] at e4
      omega
theorem fndA_iv (hd : Sd ks P ρ ds) (hm : Sm P ρ w me) {a i s : Nat} (h : fndA ds me a i = some s) : ∃ (j : Nat) (x : Int32) (t n : Nat) (g : Nat → Int32), ρ a = .ref j ∧ ρ i = .int x ∧ wAt w j = some (.inl (t, n, .inl g)) ∧ ρ s = .int (g x.toNatClampNeg) ∧ 0 ≤ x.toInt := by
  unfold fndA at h
  split at h
  · next f hf =>
    have h1 := List.mem_of_find?_eq_some hf
    have h2 := List.find?_some hf
    have h3 := Option.some.inj h
    subst h3
    simp only [Bool.and_eq_true, Bool.or_eq_true, nbe] at h2
    obtain ⟨f1, f2, f3⟩ := h2
    obtain ⟨j, y, t, n, g, q1, q2, q3, q4, q5⟩ := (hm f h1).1 f1
    rw [f2] at q1
    rcases f3 with e | e
    · rw [e] at q2
      exact ⟨j, y, t, n, g, q1, q2, q3, q4, q5⟩
    · split at e
      · next c c' hc hc' =>
        obtain ⟨x, ex, e1⟩ := cst_iv hd hc
        have e2 := cst_iv2 hd hc'
        rw [q2, iv_int] at e2
        rw [nbe] at e
        have : y = x := Int32.toInt_inj.mp (by omega)
        subst this
        exact ⟨j, y, t, n, g, q1, ex, q3, q4, q5⟩
      · cases e
  · cases h
theorem okH_up {B B' : Nat} (hB : B ≤ B') {j v : Int} (h : okH B j v) : okH B' j v := by
  unfold okH at h ⊢
  obtain ⟨h1, h2⟩ := h
  refine ⟨h1, ?_⟩
  rcases hcls_c (j.toNat % 62) with e | e | e | e <;> rw [e] at h2 ⊢
  · exact ⟨h2.1, by have := h2.2; omega⟩
  · exact h2
  · exact h2
  · exact h2
theorem okF_up {B B' : Nat} (hB : B ≤ B') {f : Fa} (h : okF B ρ w f) : okF B' ρ w f := by
  obtain ⟨h2, h3, h4, h5, h10, h11, h12, hk⟩ := h
  exact ⟨h2, h3, h4, h5, h10, h11, fun e => okH_up (by omega) (h12 e), hk⟩
theorem ent_ok (hd : Sd ks P ρ ds) (hm : Sm P ρ w me) {cr : Nat} {f : Fa} (h : ent ds me cr f = true) : okF (P + cr) ρ w f := by
  obtain ⟨op, a, b, r⟩ := f
  unfold ent at h
  split at h
  · next hop =>
    simp only at hop h
    subst hop
    split at h
    · next s hs =>
      rw [nbe] at h
      subst h
      exact f2 (fndA_iv hd hm hs)
    · cases h
  · next hop =>
    simp only at hop h
    subst hop
    exact f3 (smQ_ok hd hm h)
  · next hop =>
    simp only at hop h
    subst hop
    exact f10 (leT_ok hd hm h)
  · next hop =>
    simp only at hop h
    subst hop
    exact f11 (neQ_ok hd hm h)
  · next hop =>
    simp only at hop h
    subst hop
    obtain ⟨g, hg, hq⟩ := List.any_eq_true.mp h
    simp only [Bool.and_eq_true, nbe, nbl] at hq
    obtain ⟨q1, q2, q3, q4⟩ := hq
    have k := (hm g hg).2.2.2.2.2.2.1 q1
    rw [q2, q3] at k
    exact f12 (okH_up (by omega) k)
  · split at h
    · next hk =>
      rw [nbl] at hk
      split at h
      · next g hg =>
        have h1 := List.mem_of_find?_eq_some hg
        have h2 := List.find?_some hg
        simp only [Bool.and_eq_true, nbe] at h2 h
        obtain ⟨i, ci, fs, q1, q2, q3⟩ := (hm g h1).2.2.2.2.2.2.2 (by rw [h2.1]; exact hk)
        rw [h2.2] at q1
        rw [h2.1, h] at q3
        refine ⟨fun e => ?_, fun e => ?_, fun e => ?_, fun e => ?_, fun e => ?_, fun e => ?_, fun e => ?_, fun _ => ⟨i, ci, fs, q1, q2, q3⟩⟩
        all_goals (simp only at e hk; omega)
      · cases h
    · obtain ⟨g, hg, hq⟩ := List.any_eq_true.mp h
      obtain ⟨o', a', b', r'⟩ := g
      simp only [Bool.and_eq_true, nbe] at hq
      obtain ⟨rfl, rfl, rfl, rfl⟩ := hq
      exact okF_up (by omega) (hm _ hg)
theorem mapF_ok {B : Nat} {τ : List Nat} {f : Fa} : okF B ρ w (mapF τ f) ↔ okF B (fun s => ρ (nth τ s)) w f := by
  obtain ⟨op, a, b, r⟩ := f
  unfold mapF
  by_cases hc : (Nat.beq op 10 || (Nat.beq op 11 || Nat.beq op 12)) = true
  · rw [if_pos hc]
    simp only [Bool.or_eq_true, nbe] at hc
    have k : ∀ {p : Prop} {c : Nat}, c ≠ 10 → c ≠ 11 → c ≠ 12 → op = c → p := fun c1 c2 c3 e => by omega
    have k2 : ∀ {p : Prop}, 1000 ≤ op → p := fun e => by omega
    constructor
    · intro h
      obtain ⟨h2, h3, h4, h5, h10, h11, h12, hk⟩ := h
      exact ⟨fun e => k (by decide) (by decide) (by decide) e, fun e => k (by decide) (by decide) (by decide) e, fun e => k (by decide) (by decide) (by decide) e, fun e => k (by decide) (by decide) (by decide) e, h10, h11, h12, fun e => k2 e⟩
    · intro h
      obtain ⟨h2, h3, h4, h5, h10, h11, h12, hk⟩ := h
      exact ⟨fun e => k (by decide) (by decide) (by decide) e, fun e => k (by decide) (by decide) (by decide) e, fun e => k (by decide) (by decide) (by decide) e, fun e => k (by decide) (by decide) (by decide) e, h10, h11, h12, fun e => k2 e⟩
  · rw [if_neg hc]
    simp only [Bool.or_eq_true, nbe] at hc
    by_cases hb : Nat.ble 1000 op = true
    · rw [if_pos hb]
      rw [nbl] at hb
      have k : ∀ {p : Prop} {c : Nat}, c < 1000 → op = c → p := fun c1 e => by omega
      constructor
      · intro h
        exact ⟨fun e => k (by decide) e, fun e => k (by decide) e, fun e => k (by decide) e, fun e => k (by decide) e, fun e => k (by decide) e, fun e => k (by decide) e, fun e => k (by decide) e, h.2.2.2.2.2.2.2⟩
      · intro h
        exact ⟨fun e => k (by decide) e, fun e => k (by decide) e, fun e => k (by decide) e, fun e => k (by decide) e, fun e => k (by decide) e, fun e => k (by decide) e, fun e => k (by decide) e, h.2.2.2.2.2.2.2⟩
    · rw [if_neg hb]
      constructor
      · intro h
        obtain ⟨h2, h3, h4, h5, h10, h11, h12, hk⟩ := h
        exact ⟨h2, h3, h4, h5, fun e => absurd (Or.inl e) hc, h11, fun e => absurd (Or.inr (Or.inr e)) hc, hk⟩
      · intro h
        obtain ⟨h2, h3, h4, h5, h10, h11, h12, hk⟩ := h
        exact ⟨h2, h3, h4, h5, fun e => absurd (Or.inl e) hc, h11, fun e => absurd (Or.inr (Or.inr e)) hc, hk⟩
theorem sub2_ok {cr : Nat} (hd : Sd ks P ρ ds) : ∀ {τ : List Nat} {pds : List Ds}, sub2 ds cr τ pds = true → τ.length = pds.length ∧ (∀ i d, pds[i]? = some d → okD ks (P + cr) d (ρ (nth τ i))) ∧ ∀ s ∈ τ, s < ds.length
  | [], [], _ => ⟨rfl, fun i d h => by simp at h, fun s h => by cases h⟩
  | [], _ :: _, h => by cases h
  | _ :: _, [], h => by cases h
  | s :: τ, d :: pds, h => by
    rw [sub2] at h
    simp only [Bool.and_eq_true] at h
    obtain ⟨h1, h2⟩ := h
    obtain ⟨i1, i2, i3⟩ := sub2_ok hd h2
    split at h1
    · next x hx =>
      refine ⟨by simp only [List.length_cons, i1], fun i e hi => ?_, fun t ht => ?_⟩
      · cases i with
        | zero =>
          simp only [List.getElem?_cons_zero, Option.some.injEq] at hi
          subst hi
          exact subD_ok (hd s x hx) h1
        | succ i =>
          simp only [List.getElem?_cons_succ] at hi
          exact i2 i e hi
      · rcases List.mem_cons.mp ht with rfl | ht
        · exact lt_ds hx
        · exact i3 t ht
    · cases h1
theorem chkP_ok {σ : aS} {τ : List Nat} {pds : List Ds} {pme : List Fa} (hd : Sd ks P ρ σ.1) (hm : Sm P ρ w σ.2.2.2.1) (h : chkP σ τ pds pme = true) : τ.length = pds.length ∧ (∀ s ∈ τ, s < σ.1.length) ∧ Sd ks (P + σ.2.2.2.2) (fun s => ρ (nth τ s)) pds ∧ Sm (P + σ.2.2.2.2) (fun s => ρ (nth τ s)) w pme := by
  unfold chkP at h
  simp only [Bool.and_eq_true] at h
  obtain ⟨h1, h2⟩ := h
  obtain ⟨i1, i2, i3⟩ := sub2_ok hd h1
  refine ⟨i1, i3, i2, fun f hf => ?_⟩
  exact mapF_ok.mp (ent_ok hd hm (List.all_eq_true.mp h2 f hf))
theorem mtch_ok {σ : aS} {τ0 : List (Nat × Nat)} {τ : List Nat} {pds : List Ds} {pme : List Fa} (h : mtch σ τ0 pds pme = some τ) : chkP σ τ pds pme = true := by
  unfold mtch at h
  split at h
  · split at h
    · split at h
      · next hc =>
        have := Option.some.inj h
        subst this
        exact hc
      · cases h
    · cases h
  · cases h
/-- what a fact narrows holds -/
theorem tgt1_ok (hd : Sd ks P ρ ds) {f : Fa} (hf : okF P ρ w f) : ∃ ds', tgt1 ds f = some ds' ∧ ds'.length = ds.length ∧ Sd ks P ρ ds' := by
  have hz := zbi
  obtain ⟨op, a, b, r⟩ := f
  unfold tgt1
  split
  · next hop =>
    simp only at hop
    subst hop
    have k := hf.2.2.2.2.1 rfl
    simp only at k ⊢
    split
    · next u u' v v' ha hb =>
      obtain ⟨x, ex, x1, x2⟩ := hd a _ ha
      obtain ⟨y, ey, y1, y2⟩ := hd b _ hb
      rw [ex, ey, iv_int, iv_int] at k
      simp only at x1 x2 y1 y2
      have lx := i32_lo x
      have ly := i32_lo y
      obtain ⟨ds1, e1, n1, d1⟩ := meetS_ok (lo := 0) (hi := v' + r - Zb) hd ex (by omega) (by simp only [Zb]; omega)
      rw [e1]
      simp only
      obtain ⟨ds2, e2, n2, d2⟩ := meetS_ok (lo := u + Zb - r) (hi := Mx) d1 ey (by simp only [Zb]; omega) (by simp only [Mx]; omega)
      exact ⟨ds2, e2, n2.trans n1, d2⟩
    · exact ⟨ds, rfl, rfl, hd⟩
  · next hop =>
    simp only at hop
    subst hop
    have k := (hf.2.1 rfl).2
    simp only at k ⊢
    split
    · next u u' v v' z z' ha hb hr =>
      obtain ⟨x, ex, x1, x2⟩ := hd a _ ha
      obtain ⟨y, ey, y1, y2⟩ := hd b _ hb
      obtain ⟨q, eq, q1, q2⟩ := hd r _ hr
      rw [ex, ey, eq, iv_int, iv_int, iv_int] at k
      simp only at x1 x2 y1 y2 q1 q2
      obtain ⟨ds1, e1, n1, d1⟩ := meetS_ok (lo := z + Zb - v') (hi := z' + Zb - v) hd ex (by simp only [Zb]; omega) (by simp only [Zb]; omega)
      rw [e1]
      simp only
      obtain ⟨ds2, e2, n2, d2⟩ := meetS_ok (lo := z + Zb - u') (hi := z' + Zb - u) d1 ey (by simp only [Zb]; omega) (by simp only [Zb]; omega)
      rw [e2]
      simp only
      obtain ⟨ds3, e3, n3, d3⟩ := meetS_ok (lo := u + v - Zb) (hi := u' + v' - Zb) d2 eq (by have := i32_lo q; simp only [Zb]; omega) (by simp only [Zb]; omega)
      exact ⟨ds3, e3, n3.trans (n2.trans n1), d3⟩
    · exact ⟨ds, rfl, rfl, hd⟩
  · next hop =>
    simp only at hop
    subst hop
    have k := (hf.2.2.2.1 rfl).2
    simp only at k ⊢
    split
    · next u u' v v' z z' ha hb hr =>
      have x0 := hd a _ ha
      have y0 := hd b _ hb
      obtain ⟨x, ex, x1, x2⟩ := id x0
      obtain ⟨y, ey, y1, y2⟩ := id y0
      obtain ⟨q, eq, q1, q2⟩ := hd r _ hr
      rw [ex, ey, eq, iv_int, iv_int, iv_int] at k
      split
      · next qq hq =>
        rw [ex] at x0
        rw [ey] at y0
        obtain ⟨q3, q4⟩ := mul_ok x0 y0 hq
        have e5 : q = x * y := Int32.toInt_inj.mp (by rw [q4]; exact k)
        obtain ⟨q', e6, q5, q6⟩ := q3
        cases e6
        rw [← e5] at q5 q6
        obtain ⟨ds1, e1, n1, d1⟩ := meetS_ok (lo := qq.1) (hi := qq.2) hd eq q5 q6
        exact ⟨ds1, e1, n1, d1⟩
      · exact ⟨ds, rfl, rfl, hd⟩
    · exact ⟨ds, rfl, rfl, hd⟩
  · exact ⟨ds, rfl, rfl, hd⟩
theorem tgtL_ok : ∀ {me : List Fa} {ds : List Ds}, Sd ks P ρ ds → Sm P ρ w me → ∃ ds', tgtL me ds = some ds' ∧ ds'.length = ds.length ∧ Sd ks P ρ ds'
  | [], ds, hd, _ => ⟨ds, rfl, rfl, hd⟩
  | f :: me, ds, hd, hm => by
    obtain ⟨ds1, e1, n1, d1⟩ := tgt1_ok hd (hm f List.mem_cons_self)
    obtain ⟨ds2, e2, n2, d2⟩ := tgtL_ok (me := me) d1 (fun g hg => hm g (List.mem_cons_of_mem _ hg))
    refine ⟨ds2, ?_, n2.trans n1, d2⟩
    rw [tgtL, e1]
    exact e2
end RLK
section RLG
variable {KT : List Kd} {X : pW → Prop} {ks : List Nat} {P n0 : Nat} {ρ0 : Nat → Value} {eff : List (Nat × Nat)} {w0 : pW} {σ : aS} {ρ : Nat → Value} {lc : pL} {st : List Value} {w : pW}
theorem Ga.sd (h : Ga KT X ks P n0 ρ0 eff w0 σ ρ lc st w) : Sd ks P ρ σ.1 := h.1
theorem Ga.sm (h : Ga KT X ks P n0 ρ0 eff w0 σ ρ lc st w) : Sm P ρ w σ.2.2.2.1 := fun f hf => (h.2.2.2.1 f hf).1
theorem tight_ok (h : Ga KT X ks P n0 ρ0 eff w0 σ ρ lc st w) : ∃ τ, tight σ = some τ ∧ Ga KT X ks P n0 ρ0 eff w0 τ ρ lc st w := by
  obtain ⟨ds1, e1, n1, d1⟩ := tgtL_ok h.sd h.sm
  obtain ⟨ds2, e2, n2, d2⟩ := tgtL_ok d1 h.sm
  refine ⟨_, ?_, h.re (n2.trans n1) d2 h.2.2.2.1⟩
  unfold tight
  rw [e1]
  simp only
  rw [e2]
end RLG

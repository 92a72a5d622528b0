/-! worlds whose cells are of their kinds, looked at by the kernel -/
def okRB (ks : List Nat) (k r : Nat) : Bool := Nat.ble 3 r && (match ks[r - 3]? with
  | some k' => Nat.beq k' k
  | none => false)
def okDB (ks : List Nat) (d : Ds) (v : Value) : Bool := match d.1, v with
  | 0, .int x => Nat.ble d.2.1 (bias x) && Nat.ble (bias x) d.2.2
  | 5, .int x => Nat.ble d.2.1 (bias x) && Nat.ble (bias x) d.2.2
  | 1, .ref r => okRB ks d.2.1 r
  | 2, .null => true
  | 2, .ref r => okRB ks d.2.1 r
  | 3, .int x => Nat.beq (bias x) Zb
  | 4, .long _ => Nat.beq d.2.1 0
  | _, _ => false
def okLB (ks : List Nat) : List Ds → List Value → Bool
  | [], [] => true
  | d :: ds, v :: vs => okDB ks d v && okLB ks ds vs
  | _, _ => false
def okEB (ks : List Nat) (kd : Kd) (e : pE) : Bool := match kd, e with
  | .inl o, .inr c => Nat.beq c.1 o.1 && okLB ks o.2 c.2
  | .inr r, .inl c => Nat.beq c.1 r.1 && (Nat.beq c.2.1 r.2.1 && (match c.2.2 with
    | .inl f => Nat.ble r.1 2 && (List.range r.2.1).all (fun j => okDB ks (elD r.2.2 j) (.int (f j)))
    | .inr (.inl _) => Nat.beq r.1 3
    | .inr (.inr (.inr (.inr f))) => Nat.beq r.1 4 && (List.range r.2.1).all (fun j => match f j with
      | some x => okRB ks r.2.2.2.1 x
      | none => false)
    | _ => false))
  | _, _ => false
def typL (KT : List Kd) (ks : List Nat) : List Nat → List pE → Bool
  | [], [] => true
  | k :: kl, e :: es => (match KT[k]? with
    | some kd => okEB ks kd e
    | none => false) && typL KT ks kl es
  | _, _ => false
section TYB
variable {ks : List Nat} {KT : List Kd} {B : Nat}
theorem okRB_ok {k r : Nat} (h : okRB ks k r = true) : ∃ i : Nat, r = i + 3 ∧ ks[i]? = some k := by
  unfold okRB at h
  simp only [Bool.and_eq_true, nbl] at h
  obtain ⟨h1, h2⟩ := h
  split at h2
  · next k' hk =>
    rw [nbe] at h2
    subst h2
    exact ⟨r - 3, by omega, hk⟩
  · cases h2
theorem okDB_ok {d : Ds} {v : Value} (h : okDB ks d v = true) : okD ks B d v := by
  obtain ⟨t, a, b⟩ := d
  unfold okDB at h
  split at h
  · next x ht =>
    simp only at ht h
    subst ht
    simp only [Bool.and_eq_true, nbl] at h
    have := bias_cast x
    exact ⟨x, rfl, by simp only; omega, by simp only; omega⟩
  · next x ht =>
    simp only at ht h
    subst ht
    simp only [Bool.and_eq_true, nbl] at h
    have := bias_cast x
    exact ⟨x, rfl, by simp only; omega, by simp only; omega⟩
  · next r ht =>
    simp only at ht h
    subst ht
    obtain ⟨i, rfl, hi⟩ := okRB_ok h
    exact ⟨i, rfl, hi⟩
  · next ht =>
    simp only at ht
    subst ht
    exact Or.inl rfl
  · next r ht =>
    simp only at ht h
    subst ht
    obtain ⟨i, rfl, hi⟩ := okRB_ok h
    exact Or.inr ⟨i, rfl, hi⟩
  · next x ht =>
    simp only at ht h
    subst ht
    rw [nbe] at h
    have := bias_cast x
    have hz := zbi
    exact ⟨x, rfl, by omega, by simp only; omega⟩
  · next x ht =>
    simp only at ht h
    subst ht
    rw [nbe] at h
    exact ⟨x, rfl, fun h1 => by simp only at h1; omega⟩
  · cases h
theorem okLB_ok : ∀ {ds : List Ds} {vs : List Value}, okLB ks ds vs = true → vs.length = ds.length ∧ ∀ (j : Nat) (d : Ds), ds[j]? = some d → ∃ v : Value, vs[j]? = some v ∧ okD ks B d v
  | [], [], _ => ⟨rfl, fun j d h => by simp at h⟩
  | [], _ :: _, h => by cases h
  | _ :: _, [], h => by cases h
  | d :: ds, v :: vs, h => by
    rw [okLB, Bool.and_eq_true] at h
    obtain ⟨i1, i2⟩ := okLB_ok (ds := ds) (vs := vs) h.2
    refine ⟨by simp only [List.length_cons, i1], fun j e hj => ?_⟩
    cases j with
    | zero =>
      simp only [List.getElem?_cons_zero, Option.some.injEq] at hj
      subst hj
      exact ⟨v, rfl, okDB_ok h.1⟩
    | succ j =>
      simp only [List.getElem?_cons_succ] at hj ⊢
      exact i2 j e hj
theorem okEB_ok {kd : Kd} {e : pE} (h : okEB ks kd e = true) : okE ks B kd e := by
  unfold okEB at h
  split at h
  · next o c =>
    simp only [Bool.and_eq_true, nbe] at h
    obtain ⟨i1, i2⟩ := okLB_ok (B := B) h.2
    exact ⟨h.1, i1, i2⟩
  · next r c =>
    simp only [Bool.and_eq_true, nbe] at h
    obtain ⟨h1, h2, h3⟩ := h
    refine ⟨h1, h2, ?_⟩
    obtain ⟨t, n, a⟩ := c
    simp only at h3 ⊢
    rcases a with f | f | f | f | f
    · simp only [Bool.and_eq_true, nbl] at h3
      refine ⟨by omega, fun j hj => okDB_ok (List.all_eq_true.mp h3.2 j (List.mem_range.mpr hj))⟩
    · simp only [nbe] at h3
      exact h3
    · cases h3
    · cases h3
    · simp only [Bool.and_eq_true, nbe] at h3
      refine ⟨h3.1, fun j hj => ?_⟩
      have := List.all_eq_true.mp h3.2 j (List.mem_range.mpr hj)
      split at this
      · next x hx =>
        obtain ⟨i, rfl, hi⟩ := okRB_ok this
        exact ⟨i, hx, hi⟩
      · cases this
  · cases h
theorem typL_ok : ∀ {kl : List Nat} {es : List pE}, typL KT ks kl es = true → es.length = kl.length ∧ ∀ (i k : Nat), kl[i]? = some k → ∃ (kd : Kd) (e : pE), KT[k]? = some kd ∧ es[i]? = some e ∧ okE ks B kd e
  | [], [], _ => ⟨rfl, fun i k h => by simp at h⟩
  | [], _ :: _, h => by cases h
  | _ :: _, [], h => by cases h
  | k :: kl, e :: es, h => by
    rw [typL, Bool.and_eq_true] at h
    obtain ⟨i1, i2⟩ := typL_ok (kl := kl) (es := es) h.2
    refine ⟨by simp only [List.length_cons, i1], fun i k' hi => ?_⟩
    cases i with
    | zero =>
      simp only [List.getElem?_cons_zero, Option.some.injEq] at hi
      subst hi
      have h1 := h.1
      split at h1
      · next kd hk => exact ⟨kd, e, hk, rfl, okEB_ok h1⟩
      · cases h1
    | succ i =>
      simp only [List.getElem?_cons_succ] at hi ⊢
      exact i2 i k' hi
theorem okD_app {ks' : List Nat} {d : Ds} {v : Value} (h : okD ks B d v) : okD (ks ++ ks') B d v := by
  have up : ∀ {i k : Nat}, ks[i]? = some k → (ks ++ ks')[i]? = some k := fun hi => by
    rw [List.getElem?_append_left (List.getElem?_eq_some_iff.mp hi).1]
    exact hi
  unfold okD at h ⊢
  split at h
  · exact h
  · obtain ⟨i, e, hi⟩ := h; exact ⟨i, e, up hi⟩
  · rcases h with e | ⟨i, e, hi⟩
    · exact Or.inl e
    · exact Or.inr ⟨i, e, up hi⟩
  · exact h
  · exact h
  · exact h
  · exact h
  · exact h
  · exact h
theorem okE_app {ks' : List Nat} {kd : Kd} {e : pE} (h : okE ks B kd e) : okE (ks ++ ks') B kd e := by
  have up : ∀ {i k : Nat}, ks[i]? = some k → (ks ++ ks')[i]? = some k := fun hi => by
    rw [List.getElem?_append_left (List.getElem?_eq_some_iff.mp hi).1]
    exact hi
  rcases kd with ⟨ci, fds⟩ | ⟨t, n, d⟩ <;> rcases e with ⟨t', n', a⟩ | ⟨c, fs⟩
  · exact h
  · refine ⟨h.1, h.2.1, fun j d hj => ?_⟩
    obtain ⟨v, h1, h2⟩ := h.2.2 j d hj
    exact ⟨v, h1, okD_app h2⟩
  · refine ⟨h.1, h.2.1, ?_⟩
    have h3 := h.2.2
    rcases a with f | f | f | f | f
    · exact ⟨h3.1, fun j hj => okD_app (h3.2 j hj)⟩
    · exact h3
    · exact h3
    · exact h3
    · refine ⟨h3.1, fun j hj => ?_⟩
      obtain ⟨i, e1, e2⟩ := h3.2 j hj
      exact ⟨i, e1, up e2⟩
  · exact h
theorem typ_app {kx km : List Nat} {wx u : pW} (hx : typL KT kx kx wx = true) (hm : typL KT (kx ++ km) km u = true) : Typed KT (kx ++ km) B (wx ++ u) := by
  obtain ⟨a1, a2⟩ := typL_ok (B := B) hx
  obtain ⟨b1, b2⟩ := typL_ok (B := B) hm
  refine ⟨by rw [List.length_append, List.length_append, a1, b1], fun i k hk => ?_⟩
  by_cases hl : i < kx.length
  · rw [List.getElem?_append_left hl] at hk
    obtain ⟨kd, e, h1, h2, h3⟩ := a2 i k hk
    exact ⟨kd, e, h1, by rw [List.getElem?_append_left (by rw [a1]; exact hl)]; exact h2, okE_app h3⟩
  · rw [List.getElem?_append_right (by omega)] at hk
    obtain ⟨kd, e, h1, h2, h3⟩ := b2 (i - kx.length) k hk
    refine ⟨kd, e, h1, ?_, h3⟩
    rw [List.getElem?_append_right (by rw [a1]; omega), a1]
    exact h2
end TYB
def KSX : List Nat := [0, 13, 1, 17, 18, 19, 20, 21, 22, 23, 24, 25, 26, 1, 17, 18, 19, 20, 21, 22, 23, 24, 25, 26, 2, 10, 27, 28, 3, 29, 30, 31, 4, 32, 5, 33, 34, 35, 36, 37, 5, 33, 34, 35, 36, 37, 5, 33, 34, 35, 36, 37, 5, 33, 34, 35, 36, 37, 5, 33, 34, 35, 36, 37, 5, 33, 34, 35, 36, 37, 5, 33, 34, 35, 36, 37, 5, 33, 34, 35, 36, 37, 5, 33, 34, 35, 36, 37, 5, 33, 34, 35, 36, 37, 5, 33, 34, 35, 36, 37, 5, 33, 34, 35, 36, 37, 5, 33, 34, 35, 36, 37, 5, 33, 34, 35, 36, 37, 5, 33, 34, 35, 36, 37, 5, 33, 34, 35, 36, 37, 5, 33, 34, 35, 36, 37, 5, 33, 34, 35, 36, 37, 5, 33, 34, 35, 36, 37, 5, 33, 34, 35, 36, 37, 5, 33, 34, 35, 36, 37, 5, 33, 34, 35, 36, 37, 5, 33, 34, 35, 36, 37, 5, 33, 34, 35, 36, 37, 5, 33, 34, 35, 36, 37, 5, 33, 34, 35, 36, 37, 5, 33, 34, 35, 36, 37, 5, 33, 34, 35, 36, 37, 5, 33, 34, 35, 36, 37, 5, 33, 34, 35, 36, 37, 5, 33, 34, 35, 36, 37, 5, 33, 34, 35, 36, 37, 5, 33, 34, 35, 36, 37, 5, 33, 34, 35, 36, 37, 5, 33, 34, 35, 36, 37, 5, 33, 34, 35, 36, 37, 5, 33, 34, 35, 36, 37, 5, 33, 34, 35, 36, 37, 5, 33, 34, 35, 36, 37, 5, 33, 34, 35, 36, 37, 5, 33, 34, 35, 36, 37, 14, 15, 6, 38, 39, 40, 41, 42, 43, 44, 16, 5, 33, 34, 35, 36, 37, 5, 33, 34, 35, 36, 37, 5, 33, 34, 35, 36, 37, 12, 5, 33, 34, 35, 36, 37, 5, 33, 34, 35, 36, 37, 5, 33, 34, 35, 36, 37, 5, 33, 34, 35, 36, 37, 5, 33, 34, 35, 36, 37, 5, 33, 34, 35, 36, 37, 5, 33, 34, 35, 36, 37, 7, 45, 46, 8, 9, 47, 48, 49]
def KSM : List Nat := [11, 50, 51, 52, 53, 54, 55, 56, 57, 58, 59, 60, 61, 62, 63, 64, 65, 66, 67, 68, 69, 70, 71, 72, 73, 74, 75, 76, 77, 78, 79, 80, 81, 82, 83, 84, 85, 86, 87, 88, 89, 90, 91, 92, 93, 94, 95, 96, 97, 98]

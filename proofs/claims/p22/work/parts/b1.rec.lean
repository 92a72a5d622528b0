/-! the pile and the codes -/
def pz_jn (e : Nat → Int32) : Nat → Nat
  | 0 => 0
  | n + 1 => pz_jn e n + (if (e n).toInt = 1 ∨ (e n).toInt = 2 ∨ (e n).toInt = 4 ∨ (e n).toInt = 5 ∨ (e n).toInt = 6 then 1 else 0)
def pz_nn (e : Nat → Int32) : Nat → Nat
  | 0 => 0
  | n + 1 => pz_nn e n + (if (e n).toInt = 3 then 1 else 0)
def pz_bn (e : Nat → Int32) : Nat → Nat
  | 0 => 0
  | n + 1 => pz_bn e n + (if (e n).toInt = 7 then 1 else 0)
theorem pz_jc {e e' : Nat → Int32} : ∀ {n : Nat}, (∀ i, i < n → e' i = e i) → pz_jn e' n = pz_jn e n ∧ pz_nn e' n = pz_nn e n ∧ pz_bn e' n = pz_bn e n
  | 0, _ => ⟨rfl, rfl, rfl⟩
  | n + 1, h => by
    obtain ⟨h1, h2, h3⟩ := pz_jc (n := n) (fun i hi => h i (by omega))
    have e0 := h n (by omega)
    refine ⟨?_, ?_, ?_⟩
    · rw [pz_jn, pz_jn, h1, e0]
    · rw [pz_nn, pz_nn, h2, e0]
    · rw [pz_bn, pz_bn, h3, e0]
/-- what may stand on the pile -/
def pz_PO (x y : Int) : Prop := (x = 3 ∧ y = 126) ∨ x = 7 ∨ ((x = 1 ∨ x = 2 ∨ x = 4 ∨ x = 5 ∨ x = 6) ∧ y ≠ 126 ∧ ¬ (97 ≤ y ∧ y ≤ 122))
theorem pz_cnt {e s : Nat → Int32} (h0 : (e 0).toInt = 8) : ∀ {n : Nat}, (∀ i, 1 ≤ i → i < n + 1 → pz_PO (e i).toInt (s i).toInt) → pz_jn e (n + 1) + pz_nn e (n + 1) + pz_bn e (n + 1) = n
  | 0, _ => by
    rw [pz_jn, pz_nn, pz_bn, pz_jn, pz_nn, pz_bn, h0]
    simp
  | n + 1, h => by
    have ih := pz_cnt h0 (n := n) (fun i a b => h i a (by omega))
    have hp := h (n + 1) (by omega) (by omega)
    rw [pz_jn, pz_nn, pz_bn]
    rcases hp with ⟨h1, -⟩ | h1 | ⟨h1, -⟩
    · rw [h1]
      simp
      omega
    · rw [h1]
      simp
      omega
    · rw [if_pos h1, if_neg (by omega), if_neg (by omega)]
      omega
theorem pz_push {e : Nat → Int32} {p : Nat} {x : Int32} : pz_jn (upd e p x) (p + 1) = pz_jn e p + (if x.toInt = 1 ∨ x.toInt = 2 ∨ x.toInt = 4 ∨ x.toInt = 5 ∨ x.toInt = 6 then 1 else 0) ∧ pz_nn (upd e p x) (p + 1) = pz_nn e p + (if x.toInt = 3 then 1 else 0) ∧ pz_bn (upd e p x) (p + 1) = pz_bn e p + (if x.toInt = 7 then 1 else 0) := by
  obtain ⟨h1, h2, h3⟩ := pz_jc (e := e) (e' := upd e p x) (n := p) (fun i hi => pk_un (by omega))
  refine ⟨?_, ?_, ?_⟩
  · rw [pz_jn, h1, pk_us]
  · rw [pz_nn, h2, pk_us]
  · rw [pz_bn, h3, pk_us]
theorem dpt_cg {c c' : Nat → Int32} : ∀ {m k n : Nat}, (∀ i, k ≤ i → i < k + m → c' i = c i) → dpt c' m k n = dpt c m k n
  | 0, _, _, _ => rfl
  | m + 1, k, n, h => by
    rw [dpt, dpt, h k (Nat.le_refl _) (by omega)]
    split
    · exact dpt_cg (fun i a b => h i (by omega) (by omega))
    · rfl
theorem dpt_app {c : Nat → Int32} : ∀ {m k n x y : Nat}, dpt c m k n = some x → stp (c (k + m)).toInt x = some y → dpt c (m + 1) k n = some y
  | 0, k, n, x, y, h, hs => by
    rw [dpt] at h
    cases h
    rw [dpt]
    rw [Nat.add_zero] at hs
    rw [hs]
    rfl
  | m + 1, k, n, x, y, h, hs => by
    rw [dpt] at h ⊢
    split at h
    · next n' hn =>
      rw [show (k + (m + 1)) = (k + 1) + m by omega] at hs
      exact dpt_app h hs
    · cases h
def pz_FR (R0 R : pR) (b fr : Nat) : Prop := R.2 38 = R0.2 38 ∧ R.2 39 = R0.2 39 ∧ R.1 39 = R0.1 39 ∧ R.1 40 = R0.1 40 ∧ R.1 56 = R0.1 56 ∧ R.1 61 = R0.1 61 ∧ R.1 62 = R0.1 62 ∧ ∀ i, i < fr ∨ 580 * b + 580 ≤ i → R.1 74 i = R0.1 74 i
def pz_Ph (w : pW) (mi : Nat) : Int := pz_fi w mi 6 + (if pz_fi w mi 8 = 3 then 0 else 1)
/-- within a rule: o is 0 where a unit is wanted, else 1; F: what the text and the slack give -/
def pz_I (R0 : pR) (b fr : Nat) (R : pR) (o : Nat) (F : Int) : Prop := pz_FR R0 R b fr ∧ (R.2 39).toInt = (b : Int) ∧ 580 * b ≤ fr ∧ (fr : Int) ≤ (R.2 40).toInt ∧ 1 ≤ (R.2 42).toInt ∧ (R.1 76 0).toInt = 8 ∧ (∀ i, 1 ≤ i → i < (R.2 42).toNatClampNeg → pz_PO (R.1 76 i).toInt (R.1 77 i).toInt) ∧ (R.2 41).toInt = (pz_nn (R.1 76) (R.2 42).toNatClampNeg : Int) + (pz_bn (R.1 76) (R.2 42).toNatClampNeg : Int) ∧ dpt (R.1 74) ((R.2 40).toNatClampNeg - fr) fr 0 = some (pz_jn (R.1 76) (R.2 42).toNatClampNeg + o) ∧ (pz_jn (R.1 76) (R.2 42).toNatClampNeg : Int) + (o : Int) ≤ (R.2 43).toInt ∧ 4 * ((R.2 40).toInt - 580 * (b : Int) + (pz_jn (R.1 76) (R.2 42).toNatClampNeg : Int) + (pz_nn (R.1 76) (R.2 42).toNatClampNeg : Int)) + 4 * (o : Int) ≤ 8 * (R.1 58 b).toInt + F
section PZR
variable {R0 R R' : pR} {b fr : Nat} {F F' : Int}
theorem pz_FR_t {R1 : pR} (h1 : pz_FR R0 R1 b fr) (h2 : pz_FR R1 R b fr) : pz_FR R0 R b fr := by
  obtain ⟨a1, a2, a3, a4, a5, a6, a7, a8⟩ := h1
  obtain ⟨b1, b2, b3, b4, b5, b6, b7, b8⟩ := h2
  exact ⟨b1.trans a1, b2.trans a2, b3.trans a3, b4.trans a4, b5.trans a5, b6.trans a6, b7.trans a7, fun i hi => (b8 i hi).trans (a8 i hi)⟩
/-- rows and fields that no step within a rule writes -/
def pz_S (R R' : pR) : Prop := R'.2 38 = R.2 38 ∧ R'.2 39 = R.2 39 ∧ R'.1 39 = R.1 39 ∧ R'.1 40 = R.1 40 ∧ R'.1 56 = R.1 56 ∧ R'.1 61 = R.1 61 ∧ R'.1 62 = R.1 62
theorem pz_piled (h : pz_I R0 b fr R 0 F ∨ pz_I R0 b fr R 1 F) (h43 : (R.2 43).toInt ≤ 30) (h41 : (R.2 41).toInt ≤ 7) : (R.2 42).toInt ≤ 38 := by
  have hh : ∃ o, pz_I R0 b fr R o F := h.elim (fun h => ⟨0, h⟩) (fun h => ⟨1, h⟩)
  obtain ⟨o, h⟩ := hh
  obtain ⟨-, -, -, -, i5, i6, i7, i8, -, i10, -⟩ := h
  have c := clamp_toInt (x := R.2 42) (by omega)
  obtain ⟨n, hn⟩ : ∃ n, (R.2 42).toNatClampNeg = n + 1 := ⟨(R.2 42).toNatClampNeg - 1, by omega⟩
  rw [hn] at i7 i8 i10
  have := pz_cnt i6 (n := n) i7
  omega
/-- a letter is emitted -/
theorem pz_u2 (h : pz_I R0 b fr R 0 F) (hs : pz_S R R') {x : Int32} (h74 : R'.1 74 = upd (R.1 74) (R.2 40).toNatClampNeg x) (hx : 97 ≤ x.toInt ∧ x.toInt ≤ 122) (h76 : R'.1 76 = R.1 76) (h77 : R'.1 77 = R.1 77) (h58 : (R'.1 58 b).toInt = (R.1 58 b).toInt + 1) (h40 : (R'.2 40).toInt = (R.2 40).toInt + 1) (h41 : R'.2 41 = R.2 41) (h42 : R'.2 42 = R.2 42) (h43 : (R'.2 43).toInt = (R.2 43).toInt + 1) (hc : (R.2 40).toInt < 580 * (b : Int) + 580) (hu : (R.2 43).toInt ≤ 29) (hF : F ≤ F') : pz_I R0 b fr R' 1 F' := by
  obtain ⟨i1, i2, i3, i4, i5, i6, i7, i8, i9, i10, i11⟩ := h
  obtain ⟨s1, s2, s3, s4, s5, s6, s7⟩ := hs
  have c0 := clamp_toInt (x := R.2 40) (by omega)
  have c1 := clamp_toInt (x := R'.2 40) (by omega)
  refine ⟨pz_FR_t i1 ⟨s1, s2, s3, s4, s5, s6, s7, fun i hi => ?_⟩, by rw [s2]; exact i2, i3, by omega, by rw [h42]; exact i5, by rw [h76]; exact i6, by rw [h42, h76, h77]; exact i7, by rw [h41, h42, h76]; exact i8, ?_, by rw [h42, h76]; omega, by rw [h42, h76]; omega⟩
  · rw [h74, pk_un (by omega)]
  · rw [h42, h76, h74]
    have e : (R'.2 40).toNatClampNeg - fr = ((R.2 40).toNatClampNeg - fr) + 1 := by omega
    rw [e]
    refine dpt_app (x := pz_jn (R.1 76) (R.2 42).toNatClampNeg + 0) ?_ ?_
    · rw [dpt_cg (c := R.1 74) (fun i a b => pk_un (by omega))]
      exact i9
    · rw [show fr + ((R.2 40).toNatClampNeg - fr) = (R.2 40).toNatClampNeg by omega, pk_us]
      unfold stp
      rw [if_neg (by omega), if_pos hx, if_pos (by omega)]
/-- something is put on the pile: a bracket, a not, a join -/
theorem pz_pu {o o' : Nat} (h : pz_I R0 b fr R o F) (hs : pz_S R R') {x y : Int32} (h74 : R'.1 74 = R.1 74) (h76 : R'.1 76 = upd (R.1 76) (R.2 42).toNatClampNeg x) (h77 : R'.1 77 = upd (R.1 77) (R.2 42).toNatClampNeg y) (hpo : pz_PO x.toInt y.toInt) (h40 : R'.2 40 = R.2 40) (h42 : (R'.2 42).toInt = (R.2 42).toInt + 1) (h41 : (R'.2 41).toInt = (R.2 41).toInt + (if x.toInt = 3 ∨ x.toInt = 7 then 1 else 0))
    (ho : (if x.toInt = 3 ∨ x.toInt = 7 then o = o' else o = o' + 1)) (h43 : (R.2 43).toInt ≤ (R'.2 43).toInt) (hF : 8 * (R.1 58 b).toInt + F + (if x.toInt = 3 then 4 else 0) ≤ 8 * (R'.1 58 b).toInt + F') : pz_I R0 b fr R' o' F' := by
  obtain ⟨i1, i2, i3, i4, i5, i6, i7, i8, i9, i10, i11⟩ := h
  obtain ⟨s1, s2, s3, s4, s5, s6, s7⟩ := hs
  have c0 := clamp_toInt (x := R.2 42) (by omega)
  have c1 := clamp_toInt (x := R'.2 42) (by omega)
  have e : (R'.2 42).toNatClampNeg = (R.2 42).toNatClampNeg + 1 := by omega
  obtain ⟨p1, p2, p3⟩ := pz_push (e := R.1 76) (p := (R.2 42).toNatClampNeg) (x := x)
  refine ⟨pz_FR_t i1 ⟨s1, s2, s3, s4, s5, s6, s7, fun i _ => by rw [h74]⟩, by rw [s2]; exact i2, i3, by rw [h40]; exact i4, by omega, ?_, ?_, ?_, ?_, ?_, ?_⟩
  · rw [h76, pk_un (by omega)]
    exact i6
  · intro i a1 a2
    rw [h76, h77]
    by_cases hi : i = (R.2 42).toNatClampNeg
    · subst hi
      rw [pk_us, pk_us]
      exact hpo
    · rw [pk_un hi, pk_un hi]
      exact i7 i a1 (by omega)
  · rw [e, h76, p2, p3, h41, i8]
    rcases hpo with ⟨hx, -⟩ | hx | ⟨hx, -⟩
    · rw [if_pos (Or.inl hx), if_pos hx, if_neg (by omega)]
      omega
    · rw [if_pos (Or.inr hx), if_neg (by omega), if_pos hx]
      omega
    · rw [if_neg (by omega), if_neg (by omega), if_neg (by omega)]
      omega
  · rw [e, h76, h74, h40, p1, i9]
    congr 1
    rcases hpo with ⟨hx, -⟩ | hx | ⟨hx, -⟩
    · rw [if_pos (Or.inl hx)] at ho
      rw [if_neg (by omega)]
      omega
    · rw [if_pos (Or.inr hx)] at ho
      rw [if_neg (by omega)]
      omega
    · rw [if_neg (by omega)] at ho
      rw [if_pos hx]
      omega
  · rw [e, h76, p1]
    rcases hpo with ⟨hx, -⟩ | hx | ⟨hx, -⟩
    · rw [if_pos (Or.inl hx)] at ho
      rw [if_neg (by omega)]
      omega
    · rw [if_pos (Or.inr hx)] at ho
      rw [if_neg (by omega)]
      omega
    · rw [if_neg (by omega)] at ho
      rw [if_pos hx]
      omega
  · rw [e, h76, p1, p2, h40]
    rcases hpo with ⟨hx, -⟩ | hx | ⟨hx, -⟩
    · rw [if_pos (Or.inl hx)] at ho
      rw [if_pos hx] at hF
      rw [if_neg (by omega), if_pos hx]
      omega
    · rw [if_pos (Or.inr hx)] at ho
      rw [if_neg (by omega)] at hF
      rw [if_neg (by omega), if_neg (by omega)]
      omega
    · rw [if_neg (by omega)] at ho
      rw [if_neg (by omega)] at hF
      rw [if_pos hx, if_neg (by omega)]
      omega
/-- what stands on top of the pile is emitted: a not, a join -/
theorem pz_po (h : pz_I R0 b fr R 1 F) (hs : pz_S R R') {p : Nat} (hp : (R.2 42).toNatClampNeg = p + 1) (hp1 : 1 ≤ p) (ht : (R.1 76 p).toInt ≠ 7) (h74 : R'.1 74 = upd (R.1 74) (R.2 40).toNatClampNeg (R.1 77 p)) (h76 : R'.1 76 = R.1 76) (h77 : R'.1 77 = R.1 77) (h58 : R'.1 58 = R.1 58) (h40 : (R'.2 40).toInt = (R.2 40).toInt + 1) (h42 : (R'.2 42).toInt = (p : Int)) (h41 : (R'.2 41).toInt = (R.2 41).toInt - (if (R.1 76 p).toInt = 3 then 1 else 0)) (h43 : R'.2 43 = R.2 43) (hc : (R.2 40).toInt < 580 * (b : Int) + 580) : pz_I R0 b fr R' 1 F := by
  obtain ⟨i1, i2, i3, i4, i5, i6, i7, i8, i9, i10, i11⟩ := h
  obtain ⟨s1, s2, s3, s4, s5, s6, s7⟩ := hs
  have c0 := clamp_toInt (x := R.2 40) (by omega)
  have c1 := clamp_toInt (x := R'.2 40) (by omega)
  have c2 := clamp_toInt (x := R'.2 42) (by omega)
  have e : (R'.2 42).toNatClampNeg = p := by omega
  have hpo := i7 p hp1 (by omega)
  rw [hp] at i8 i9 i10 i11
  rw [pz_nn, pz_bn] at i8
  rw [pz_jn] at i9 i10
  rw [pz_jn, pz_nn] at i11
  refine ⟨pz_FR_t i1 ⟨s1, s2, s3, s4, s5, s6, s7, fun i hi => ?_⟩, by rw [s2]; exact i2, i3, by omega, by omega, by rw [h76]; exact i6, ?_, ?_, ?_, ?_, ?_⟩
  · rw [h74, pk_un (by omega)]
  · intro i a1 a2
    rw [h76, h77]
    exact i7 i a1 (by omega)
  · rw [e, h76, h41, i8]
    rcases hpo with ⟨hx, -⟩ | hx | ⟨hx, -⟩
    · rw [if_pos hx, if_neg (by omega), if_pos hx]
      omega
    · exact absurd hx ht
    · rw [if_neg (by omega), if_neg (by omega), if_neg (by omega)]
      omega
  · rw [e, h76, h74]
    have e2 : (R'.2 40).toNatClampNeg - fr = ((R.2 40).toNatClampNeg - fr) + 1 := by omega
    rw [e2]
    refine dpt_app (by rw [dpt_cg (c := R.1 74) (fun i a b => pk_un (by omega))]; exact i9) ?_
    rw [show fr + ((R.2 40).toNatClampNeg - fr) = (R.2 40).toNatClampNeg by omega, pk_us]
    unfold stp
    rcases hpo with ⟨hx, hy⟩ | hx | ⟨hx, hy1, hy2⟩
    · rw [if_pos hy, if_pos (by omega), if_neg (by omega)]
    · exact absurd hx ht
    · rw [if_neg hy1, if_neg hy2, if_pos hx, if_pos (by omega)]
      rfl
  · rw [e, h76, h43]
    rcases hpo with ⟨hx, -⟩ | hx | ⟨hx, -⟩
    · rw [if_neg (by omega)] at i10
      omega
    · exact absurd hx ht
    · rw [if_pos hx] at i10
      omega
  · rw [e, h76, h58]
    rcases hpo with ⟨hx, -⟩ | hx | ⟨hx, -⟩
    · rw [if_neg (by omega), if_pos hx] at i11
      omega
    · exact absurd hx ht
    · rw [if_pos hx, if_neg (by omega)] at i11
      omega
/-- a bracket is taken from the pile -/
theorem pz_pb (h : pz_I R0 b fr R 1 F) (hs : pz_S R R') {p : Nat} (hp : (R.2 42).toNatClampNeg = p + 1) (hp1 : 1 ≤ p) (ht : (R.1 76 p).toInt = 7) (h74 : R'.1 74 = R.1 74) (h76 : R'.1 76 = R.1 76) (h77 : R'.1 77 = R.1 77) (h58 : R'.1 58 = R.1 58) (h40 : R'.2 40 = R.2 40) (h42 : (R'.2 42).toInt = (p : Int)) (h41 : (R'.2 41).toInt = (R.2 41).toInt - 1) (h43 : R'.2 43 = R.2 43) (hF : F ≤ F') : pz_I R0 b fr R' 1 F' := by
  obtain ⟨i1, i2, i3, i4, i5, i6, i7, i8, i9, i10, i11⟩ := h
  obtain ⟨s1, s2, s3, s4, s5, s6, s7⟩ := hs
  have c2 := clamp_toInt (x := R'.2 42) (by omega)
  have e : (R'.2 42).toNatClampNeg = p := by omega
  rw [hp] at i8 i9 i10 i11
  rw [pz_nn, pz_bn, if_neg (by omega), if_pos ht] at i8
  rw [pz_jn, if_neg (by omega)] at i9 i10
  rw [pz_jn, pz_nn, if_neg (by omega), if_neg (by omega)] at i11
  refine ⟨pz_FR_t i1 ⟨s1, s2, s3, s4, s5, s6, s7, fun i _ => by rw [h74]⟩, by rw [s2]; exact i2, i3, by rw [h40]; exact i4, by omega, by rw [h76]; exact i6, ?_, ?_, ?_, ?_, ?_⟩
  · intro i a1 a2
    rw [h76, h77]
    exact i7 i a1 (by omega)
  · rw [e, h76, h41]
    omega
  · rw [e, h76, h74, h40]
    exact i9
  · rw [e, h76, h43]
    omega
  · rw [e, h76, h58, h40]
    omega
end PZR

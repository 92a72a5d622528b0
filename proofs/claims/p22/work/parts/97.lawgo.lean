/-! law from its start -/
section LWG
variable {xs : Nat → Int32} {L : Nat}
def IX (w : pW) : Prop := typL KTab KSX KSX w = true ∧ (∃ (t m : Nat) (f : Nat → Int32), w[285]? = some (.inl (t, m, .inl f)) ∧ ∀ j, j < 30 → f j = 0) ∧ (∃ (ci : Nat) (fs : List Value), w[0]? = some (.inr (ci, fs)) ∧ fs[6]? = some (.ref 35)) ∧ (∃ (ci : Nat) (fs : List Value), w[0]? = some (.inr (ci, fs)) ∧ fs[15]? = some (.int 0)) ∧ (∃ (ci : Nat) (fs : List Value), w[32]? = some (.inr (ci, fs)) ∧ fs[2]? = some (.int 0)) ∧ ∃ (ci : Nat) (fs : List Value), w[32]? = some (.inr (ci, fs)) ∧ fs[3]? = some (.int 0)
def HF (w : pW) (o f : Nat) : Prop := ∃ (ci : Nat) (fs : List Value), w[o]? = some (.inr (ci, fs)) ∧ fs[f]? = some (.int 0)
def HR (w : pW) (o j0 : Nat) : Prop := ∃ (t m : Nat) (f : Nat → Int32), w[o]? = some (.inl (t, m, .inl f)) ∧ f j0 = 0
def IM (w : pW) : Prop := HF w 360 38 ∧ HF w 360 51 ∧ HF w 360 52 ∧ HF w 360 67 ∧ HR w 367 0 ∧ HR w 372 6 ∧ HR w 373 6
theorem hr_of {w : pW} {o j0 n : Nat} (h : rowI w[o]? (fun j x => !(Nat.beq j j0) || decide (x = 0)) n = true) (hn : j0 < n) : HR w o j0 := by
  obtain ⟨t, m, f, h1, h2⟩ := rowI_ok h
  refine ⟨t, m, f, h1, ?_⟩
  have := h2 j0 hn
  simp only [nbe.mpr rfl] at this
  simpa using this
theorem runX : ∃ w : pW, run PP FF GM TX xs L 20000 20 mX10_init 0 (lArgs 0 [.ref 3]) [] [objE 10] = some (none, w) ∧ IX w := by
  have h := ctX2
  split at h
  · next w hr =>
    simp only [Bool.and_eq_true] at h
    obtain ⟨a1, a2, a3, a4, a5, a6⟩ := h
    obtain ⟨t, m, f, b1, b2⟩ := rowI_ok a2
    exact ⟨w, run_L _ _ _ _ _ _ _ _ hr, a1, ⟨t, m, f, b1, fun j hj => of_decide_eq_true (b2 j hj)⟩, isVal_ok a3, isVal_ok a4, isVal_ok a5, isVal_ok a6⟩
  · cases h
theorem pre0_len : pre0.length = 360 := List.length_replicate
theorem runM {wx : pW} (hx : wx.length = 360) : ∃ u : pW, run PP FF GM TX xs L 20000 20 mX11_init 0 (lArgs 0 [.ref 363]) [] (wx ++ [objE 11]) = some (none, wx ++ u) ∧ typL KTab (KSX ++ KSM) KSM u = true ∧ IM (wx ++ u) := by
  have h := ctM2
  split at h
  · next w hr =>
    simp only [Bool.and_eq_true] at h
    obtain ⟨a1, a2, a3, a4, a5, a6, a7, a8⟩ := h
    have hR : PreR 360 (pre0 ++ [objE 11]) (wx ++ [objE 11]) := by
      refine ⟨by rw [List.length_append, List.length_append, pre0_len, hx], fun i hi => ?_, fun i hi => ?_⟩
      · rw [List.getElem?_append_left (by rw [pre0_len]; exact hi)]
        simp only [pre0, List.getElem?_replicate]
        rw [if_pos hi]
      · rw [List.getElem?_append_right (by rw [pre0_len]; exact hi), List.getElem?_append_right (by rw [hx]; exact hi), pre0_len, hx]
    obtain ⟨w1, r1, r2, r3, r4⟩ := run_pre (n := 360) gok _ _ _ _ _ _ _ _ _ _ hr hR (by rw [List.length_append, pre0_len]; exact Nat.le_add_right _ _)
    have e1 : w1 = wx ++ w.drop 360 := by
      apply List.ext_getElem?
      intro i
      by_cases hi : i < 360
      · rw [r4 i hi, List.getElem?_append_left (by rw [hx]; exact hi), List.getElem?_append_left (by rw [hx]; exact hi)]
      · rw [← r2.2.2 i (Nat.le_of_not_lt hi), List.getElem?_append_right (by rw [hx]; exact Nat.le_of_not_lt hi), hx, List.getElem?_drop]
        rw [Nat.add_sub_cancel' (Nat.le_of_not_lt hi)]
    have r2' : ∀ i, 360 ≤ i → w[i]? = (wx ++ w.drop 360)[i]? := by
      intro i hi
      rw [← e1]; exact r2.2.2 i hi
    subst e1
    refine ⟨w.drop 360, run_L _ _ _ _ _ _ _ _ r1, a1, ?_⟩
    rw [r2' 360 (by decide)] at a2 a3 a4 a5
    rw [r2' 367 (by decide)] at a6
    rw [r2' 372 (by decide)] at a7
    rw [r2' 373 (by decide)] at a8
    exact ⟨isVal_ok a2, isVal_ok a3, isVal_ok a4, isVal_ok a5, hr_of a6 (by decide), hr_of a7 (by decide), hr_of a8 (by decide)⟩
  · cases h
theorem ksl_i : KSL[285]? = some 40 ∧ KSL[360]? = some 11 ∧ KSL[0]? = some 0 ∧ KSL[32]? = some 4 ∧ idxK KSL 40 = 285 ∧ idxK KSL 56 = 367 ∧ idxK KSL 61 = 372 ∧ idxK KSL 62 = 373 := by decide +kernel
theorem good0 {w : pW} (h40 : ∃ (t m : Nat) (f : Nat → Int32), w[285]? = some (.inl (t, m, .inl f)) ∧ ∀ j, j < 30 → f j = 0) (hM : IM w) : Good (recW KSL 360 w) := by
  obtain ⟨-, -, -, -, i1, i2, i3, i4⟩ := ksl_i
  obtain ⟨t, m, f, h1, h2⟩ := h40
  obtain ⟨⟨c, fs, m1, m1'⟩, -, -, -, ⟨ta, ma, fa, m2, m2'⟩, ⟨tb, mb, fb, m3, m3'⟩, ⟨tc, mc, fc, m4, m4'⟩⟩ := hM
  have e38 : (recW KSL 360 w).2 38 = 0 := recW_fld m1 m1'
  have e40 := recW_row (o := 360) i1 h1
  have e56 := recW_row (o := 360) i2 m2
  have e61 := recW_row (o := 360) i3 m3
  have e62 := recW_row (o := 360) i4 m4
  have z : (0 : Int32).toNatClampNeg = 0 := rfl
  have q6 : ∀ a b : Nat, ((recW KSL 360 w).1 61 (7 * ((recW KSL 360 w).2 38).toNatClampNeg + 6)).toInt = (a : Int) → ((recW KSL 360 w).1 62 (7 * ((recW KSL 360 w).2 38).toNatClampNeg + 6)).toInt = (b : Int) → a = 0 ∧ b = 0 := by
    intro a b ha hb
    rw [e38, e61, z, show 7 * 0 + 6 = 6 from rfl, m3'] at ha
    rw [e38, e62, z, show 7 * 0 + 6 = 6 from rfl, m4'] at hb
    have a0 : a = 0 := by have : (0 : Int32).toInt = 0 := rfl; omega
    have b0 : b = 0 := by have : (0 : Int32).toInt = 0 := rfl; omega
    exact ⟨a0, b0⟩
  refine ⟨fun i hi h => ?_, ⟨fun a b ha hb => ?_, fun a b ha hb => Or.inl ?_⟩, fun r hr => ?_⟩
  · rw [e40, h2 i hi] at h
    exact absurd h (by decide)
  · obtain ⟨a0, b0⟩ := q6 a b ha hb
    subst a0 b0
    simp only [Nat.sub_self, dpt]
    exact fun q => by cases q
  · obtain ⟨a0, b0⟩ := q6 a b ha hb
    subst a0 b0
    exact Nat.le_refl _
  · exfalso
    rw [e38, e56, z, m2'] at hr
    have : (0 : Int32).toInt = 0 := rfl
    omega
end LWG

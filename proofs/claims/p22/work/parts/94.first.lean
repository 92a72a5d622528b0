/-! the first world -/
section FST
def isVal (e : Option pE) (f : Nat) (v : Value) : Bool := match e with
  | some (.inr (_, fs)) => (match fs[f]?, v with
    | some (.int x), .int y => decide (x = y)
    | some (.ref a), .ref b => Nat.beq a b
    | _, _ => false)
  | _ => false
theorem isVal_ok {e : Option pE} {f : Nat} {v : Value} (h : isVal e f v = true) : ∃ (ci : Nat) (fs : List Value), e = some (.inr (ci, fs)) ∧ fs[f]? = some v := by
  unfold isVal at h
  split at h
  · next ci fs =>
    refine ⟨ci, fs, rfl, ?_⟩
    split at h
    · next x y he => rw [he, of_decide_eq_true h]
    · next a b he => rw [he, nbe.mp h]
    · cases h
  · cases h
theorem rowI_ok {e : Option pE} {p : Nat → Int32 → Bool} {n : Nat} (h : rowI e p n = true) : ∃ (t m : Nat) (f : Nat → Int32), e = some (.inl (t, m, .inl f)) ∧ ∀ j, j < n → p j (f j) = true := by
  unfold rowI at h
  split at h
  · next t m f => exact ⟨t, m, f, rfl, fun j hj => List.all_eq_true.mp h j (List.mem_range.mpr hj)⟩
  · cases h
end FST

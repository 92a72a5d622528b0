theorem up_keep {f : Nat → Option Nat} {i j : Nat} {v w : Option Nat} (hij : j ≠ i) (hi : i < 2147483648) (_ : True) (h : f j = w) : va_up f (Int32.toNatClampNeg (nI i)) v j = w := by
  rw [nI_clamp hi]
  simp only [va_up, hij, if_false]
  exact h
theorem pk_keep {f : Nat → Int32} {i j : Nat} {x w : Int32} (hij : j ≠ i) (hi : i < 2147483648) (_ : True) (h : f j = w) : upd f (Int32.toNatClampNeg (nI i)) x j = w := by
  rw [nI_clamp hi, pk_un hij]
  exact h
theorem pk_keep0 {f : Nat → Int32} {k j : Nat} {w : Int32} (h : f j = w) : upd f k w j = w := by
  by_cases hk : j = k
  · subst hk
    exact pk_us
  · rw [pk_un hk]
    exact h

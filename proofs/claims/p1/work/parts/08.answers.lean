/-! what a call on a fresh object answers -/
def an_end (a : Int32) : Int32 := if a.toInt = 0 then a else (-1)
def an_fault (a : Int32) : Int32 := if a.toInt = 0 then 0 else (-1)
def an_hold (a : Int32) : Int32 := if 0 ≤ a.toInt ∧ a.toInt ≤ 20 then 0 else (-1)
def an_later (a : Int32) : Int32 := if 0 ≤ a.toInt ∧ a.toInt ≤ 1000 then a else (-1)
def an_asked (a : Int32) : Int32 := if 1 ≤ a.toInt ∧ a.toInt ≤ 3 then 0 else (-1)
def an_about (a : Int32) : Int32 := if 0 ≤ a.toInt ∧ a.toInt ≤ 13 then 0 else (-1)
theorem i0_of {a : Int32} (h : a.toInt = 0) : a = 0 := Int32.toInt_inj.mp (by rw [h]; decide)
theorem i_of {a : Int32} {k : Int32} {z : Int} (hk : k.toInt = z) (h : a.toInt = z) : a = k := Int32.toInt_inj.mp (by rw [h, hk])
theorem nat_of {a : Int32} {k : Nat} (h : 0 ≤ a.toInt ∧ a.toInt ≤ (k : Int)) (hk : k < 2147483648) : ∃ b : Nat, b ≤ k ∧ a = nI b := by
  refine ⟨a.toInt.toNat, by omega, Int32.toInt_inj.mp ?_⟩
  rw [nI_toInt (by omega)]
  omega

/-! ranges of what is reckoned hold -/
theorem bmod32 {z : Int} (h1 : -2147483648 ≤ z) (h2 : z ≤ 2147483647) : z.bmod (2 ^ 32) = z := by
  rw [Int.bmod_eq_of_le (by omega) (by omega)]
theorem bias_cast (x : Int32) : ((bias x : Nat) : Int) = x.toInt + 2147483648 := by
  have := i32_lo x
  unfold bias
  omega
theorem okI_cI (x : Int32) : okI (bias x) (bias x) (.int x) := ⟨x, rfl, by rw [bias_cast]; exact Int.le_refl _, by rw [bias_cast]; exact Int.le_refl _⟩
theorem okI_w {a b a' b' : Nat} {v : Value} (h : okI a b v) (h1 : a' ≤ a) (h2 : b ≤ b') : okI a' b' v := by
  obtain ⟨x, e, p, q⟩ := h
  exact ⟨x, e, by omega, by omega⟩
theorem okI_any {v : Value} (x : Int32) (h : v = .int x) : okI 0 Mx v := by rw [h]; exact okI_full x
theorem add_ok {x y : Int32} {a b c d e f : Nat} (hx : okI a b (.int x)) (hy : okI c d (.int y)) (h : rAdd (a, b) (c, d) = some (e, f)) : okI e f (.int (x + y)) ∧ (x + y).toInt = x.toInt + y.toInt := by
  obtain ⟨x', ex, p1, p2⟩ := hx
  obtain ⟨y', ey, q1, q2⟩ := hy
  cases ex; cases ey
  unfold rAdd at h
  split at h
  · next hc =>
    simp only [Bool.and_eq_true, nbl, Zb, Mx] at hc
    simp only [Option.some.injEq, Prod.mk.injEq, Zb] at h
    obtain ⟨h1, h2⟩ := h
    have e1 : (x + y).toInt = x.toInt + y.toInt := by
      rw [Int32.toInt_add, bmod32 (by omega) (by omega)]
    exact ⟨⟨_, rfl, by rw [e1]; omega, by rw [e1]; omega⟩, e1⟩
  · cases h
theorem sub_ok {x y : Int32} {a b c d e f : Nat} (hx : okI a b (.int x)) (hy : okI c d (.int y)) (h : rSub (a, b) (c, d) = some (e, f)) : okI e f (.int (x - y)) ∧ (x - y).toInt = x.toInt - y.toInt := by
  obtain ⟨x', ex, p1, p2⟩ := hx
  obtain ⟨y', ey, q1, q2⟩ := hy
  cases ex; cases ey
  unfold rSub at h
  split at h
  · next hc =>
    simp only [Bool.and_eq_true, nbl, Zb, Mx] at hc
    simp only [Option.some.injEq, Prod.mk.injEq, Zb] at h
    obtain ⟨h1, h2⟩ := h
    have e1 : (x - y).toInt = x.toInt - y.toInt := by
      rw [Int32.toInt_sub, bmod32 (by omega) (by omega)]
    exact ⟨⟨_, rfl, by rw [e1]; omega, by rw [e1]; omega⟩, e1⟩
  · cases h
set_option maxRecDepth 20000 in
theorem mul_ok {x y : Int32} {a b c d e f : Nat} (hx : okI a b (.int x)) (hy : okI c d (.int y)) (h : rMul (a, b) (c, d) = some (e, f)) : okI e f (.int (x * y)) ∧ (x * y).toInt = x.toInt * y.toInt := by
  obtain ⟨x', ex, p1, p2⟩ := hx
  obtain ⟨y', ey, q1, q2⟩ := hy
  cases ex; cases ey
  unfold rMul at h
  split at h
  · next hc =>
    simp only [Bool.and_eq_true, nbl, Zb, Mx] at hc
    simp only [Option.some.injEq, Prod.mk.injEq, Zb] at h
    obtain ⟨h1, h2⟩ := h
    obtain ⟨hc1, hc2, hc3⟩ := hc
    have nx : ∃ m : Nat, x.toInt = m := ⟨x.toInt.toNat, by clear h1 h2 hc3; omega⟩
    have ny : ∃ m : Nat, y.toInt = m := ⟨y.toInt.toNat, by clear h1 h2 hc3; omega⟩
    obtain ⟨m, hm⟩ := nx
    obtain ⟨n, hn⟩ := ny
    have l1 : a - 2147483648 ≤ m := by
      rw [hm] at p1
      exact Nat.sub_le_iff_le_add.mpr (by clear h1 h2 hc3; omega)
    have l2 : m ≤ b - 2147483648 := by clear h1 h2 hc3; omega
    have l3 : c - 2147483648 ≤ n := by
      rw [hn] at q1
      exact Nat.sub_le_iff_le_add.mpr (by clear h1 h2 hc3 l1 l2; omega)
    have l4 : n ≤ d - 2147483648 := by clear h1 h2 hc3; omega
    have u1 := Nat.mul_le_mul l1 l3
    have u2 := Nat.mul_le_mul l2 l4
    generalize (a - 2147483648) * (c - 2147483648) = pa at u1 h1
    generalize (b - 2147483648) * (d - 2147483648) = pb at u2 h2 hc3
    have e1 : (x * y).toInt = x.toInt * y.toInt := by
      rw [Int32.toInt_mul, hm, hn, ← Int.natCast_mul]
      generalize m * n = mn at u1 u2 ⊢
      rw [bmod32 (by omega) (by omega)]
    refine ⟨⟨_, rfl, ?_, ?_⟩, e1⟩
    · rw [e1, hm, hn, ← Int.natCast_mul]
      generalize m * n = mn at u1 u2 ⊢
      omega
    · rw [e1, hm, hn, ← Int.natCast_mul]
      generalize m * n = mn at u1 u2 ⊢
      omega
  · cases h
theorem nI_ofInt {x : Int32} (h : 0 ≤ x.toInt) : ∃ m : Nat, m < 2 ^ 31 ∧ x = nI m ∧ x.toInt = m := by
  have := i32_lo x
  refine ⟨x.toInt.toNat, by omega, Int32.toInt_inj.mp ?_, by omega⟩
  rw [nI_toInt (by omega)]
  omega
theorem div_ok {x y : Int32} {a b c d : Nat} (hx : okI a b (.int x)) (hy : okI c d (.int y)) : okI (rDiv (a, b) (c, d)).1 (rDiv (a, b) (c, d)).2 (.int (x / y)) := by
  obtain ⟨x', ex, p1, p2⟩ := hx
  obtain ⟨y', ey, q1, q2⟩ := hy
  cases ex; cases ey
  unfold rDiv
  split
  · next hc =>
    simp only [Bool.and_eq_true, nbl, Zb] at hc
    obtain ⟨m, hm, rfl, em⟩ := nI_ofInt (x := x) (by omega)
    obtain ⟨n, hn, rfl, en⟩ := nI_ofInt (x := y) (by omega)
    rw [pk_div hm (by omega) hn]
    have l1 : m / n ≤ (b - 2147483648) / (c - 2147483648) := by
      refine Nat.le_trans (Nat.div_le_div_right (by omega : m ≤ b - 2147483648)) (Nat.div_le_div_left (by omega) (by omega))
    have l2 : m / n < 2 ^ 31 := Nat.lt_of_le_of_lt (Nat.div_le_self m n) hm
    generalize m / n = q at l1 l2 ⊢
    refine ⟨_, rfl, ?_, ?_⟩
    · rw [nI_toInt l2]; simp only [Zb]; omega
    · rw [nI_toInt l2]
      show (q : Int) + 2147483648 ≤ (((b - 2147483648) / (c - 2147483648) + 2147483648 : Nat) : Int)
      omega
  · exact okI_full _
theorem rem_ok {x y : Int32} {a b c d : Nat} (hx : okI a b (.int x)) (hy : okI c d (.int y)) : okI (rRem (a, b) (c, d)).1 (rRem (a, b) (c, d)).2 (.int (x - x / y * y)) ∧ (2147483648 ≤ a → 2147483649 ≤ c → (x - x / y * y).toInt ≤ y.toInt - 1) := by
  obtain ⟨x', ex, p1, p2⟩ := hx
  obtain ⟨y', ey, q1, q2⟩ := hy
  cases ex; cases ey
  by_cases hc : 2147483648 ≤ a ∧ 2147483649 ≤ c
  · obtain ⟨m, hm, rfl, em⟩ := nI_ofInt (x := x) (by omega)
    obtain ⟨n, hn, rfl, en⟩ := nI_ofInt (x := y) (by omega)
    have n0 : 0 < n := by omega
    rw [pk_rem hm n0 hn]
    have l1 : m % n < n := Nat.mod_lt m n0
    have l2 : m % n ≤ m := Nat.mod_le m n
    have l3 : m % n < 2 ^ 31 := Nat.lt_of_le_of_lt l2 hm
    refine ⟨?_, fun _ _ => by rw [nI_toInt l3, nI_toInt hn]; omega⟩
    unfold rRem
    rw [if_pos (by simp only [Bool.and_eq_true, nbl, Zb]; omega)]
    refine ⟨_, rfl, ?_, ?_⟩
    · rw [nI_toInt l3]; simp only [Zb]; omega
    · rw [nI_toInt l3]; simp only [Nat.min_def]; split <;> omega
  · refine ⟨?_, fun h1 h2 => absurd ⟨h1, h2⟩ hc⟩
    unfold rRem
    rw [if_neg (by simp only [Bool.and_eq_true, nbl, Zb]; omega)]
    exact okI_full _
theorem and_nn {x y : Int32} (h : 0 ≤ y.toInt) : 0 ≤ (x &&& y).toInt ∧ (x &&& y).toInt ≤ y.toInt := by
  obtain ⟨n, hn, rfl, en⟩ := nI_ofInt h
  have e1 : x &&& nI n = nI (x.toBitVec.toNat &&& n) := by
    apply Int32.toBitVec_inj.mp
    apply BitVec.eq_of_toNat_eq
    rw [pk_tn (Nat.lt_of_le_of_lt Nat.and_le_right (by omega))]
    show (x.toBitVec &&& (nI n).toBitVec).toNat = _
    rw [BitVec.toNat_and, pk_tn (by omega)]
  have l1 : x.toBitVec.toNat &&& n ≤ n := Nat.and_le_right
  rw [e1, nI_toInt (by omega), nI_toInt hn]
  omega
theorem and_ok {x y : Int32} {a b c d : Nat} (hx : okI a b (.int x)) (hy : okI c d (.int y)) : okI (rAnd (a, b) (c, d)).1 (rAnd (a, b) (c, d)).2 (.int (x &&& y)) := by
  obtain ⟨x', ex, p1, p2⟩ := hx
  obtain ⟨y', ey, q1, q2⟩ := hy
  cases ex; cases ey
  unfold rAnd
  split
  · next hm =>
    simp only [Bool.and_eq_true, nbe, Zb] at hm
    have ey : y = 255 := Int32.toInt_inj.mp (by rw [show (255 : Int32).toInt = 255 from rfl]; omega)
    subst ey
    have tb : x.toInt = x.toBitVec.toInt := rfl
    have tc := BitVec.toInt_eq_toNat_cond x.toBitVec
    have tl := x.toBitVec.isLt
    have e1 : x &&& (255 : Int32) = nI (x.toBitVec.toNat % 256) := by
      apply Int32.toBitVec_inj.mp
      apply BitVec.eq_of_toNat_eq
      rw [pk_tn (Nat.lt_of_lt_of_le (Nat.mod_lt _ (by decide)) (by decide))]
      show (x.toBitVec &&& (255 : Int32).toBitVec).toNat = _
      rw [BitVec.toNat_and, show (255 : Int32).toBitVec.toNat = 255 from rfl]
      exact Nat.and_two_pow_sub_one_eq_mod x.toBitVec.toNat 8
    have e2 : (x &&& (255 : Int32)).toInt = ((x.toBitVec.toNat % 256 : Nat) : Int) := by
      rw [e1, nI_toInt (Nat.lt_of_lt_of_le (Nat.mod_lt _ (by decide)) (by decide))]
    split
    · next hc =>
      simp only [Bool.and_eq_true, nbl, Zb] at hc
      refine ⟨_, rfl, ?_, ?_⟩ <;> rw [e2] <;> (split at tc) <;> simp only <;> omega
    · split
      · next hc =>
        simp only [Bool.and_eq_true, nbl, Zb] at hc
        refine ⟨_, rfl, ?_, ?_⟩ <;> rw [e2] <;> (split at tc) <;> simp only <;> omega
      · refine ⟨_, rfl, ?_, ?_⟩ <;> rw [e2] <;> simp only [Zb] <;> omega
  · split
    · next hc =>
      simp only [nbl, Zb] at hc
      obtain ⟨l1, l2⟩ := and_nn (x := x) (y := y) (by omega)
      exact ⟨_, rfl, by simp only [Zb]; omega, by simp only; omega⟩
    · split
      · next hc =>
        simp only [nbl, Zb] at hc
        obtain ⟨l1, l2⟩ := and_nn (x := y) (y := x) (by omega)
        rw [Int32.and_comm] at l1 l2
        exact ⟨_, rfl, by simp only [Zb]; omega, by simp only; omega⟩
      · exact okI_full _
theorem i2b_ok (x : Int32) : okI (Zb - 128) (Zb + 127) (.int x.toInt8.toInt32) := by
  have e := Int8.toInt_toInt32 x.toInt8
  have h1 := Int8.le_toInt x.toInt8
  have h2 := Int8.toInt_lt x.toInt8
  exact ⟨_, rfl, by rw [e]; simp only [Zb]; omega, by rw [e]; simp only [Zb]; omega⟩
theorem i2c_ok (x : Int32) : okI Zb (Zb + 65535) (.int (x.toUInt32 % 65536).toInt32) := by
  rw [pk_char]
  have l1 : x.toBitVec.toNat % 65536 < 65536 := Nat.mod_lt _ (by decide)
  exact ⟨_, rfl, by rw [nI_toInt (by omega)]; simp only [Zb]; omega, by rw [nI_toInt (by omega)]; simp only [Zb]; omega⟩
theorem lcmp_ok (x y : Int64) : okI (Zb - 1) (Zb + 1) (.int (lg_cmp x y)) := by
  unfold lg_cmp
  split
  · exact ⟨_, rfl, by decide, by decide⟩
  · split
    · exact ⟨_, rfl, by decide, by decide⟩
    · exact ⟨_, rfl, by decide, by decide⟩

/-! law goes through, given the parser's contract -/
section LWT
variable {xs : Nat → Int32} {L : Nat}
theorem ksx_len : KSX.length = 360 := by decide +kernel
theorem lz_all (hp : CK KTab (XL KSL) KSL PP FF GM xs L c_pond) (hL : L ≤ 3073) (hL1 : 1 ≤ L) : Rs PP FF GM TX xs L 60 mL_law 0 (lArgs 0 [.ref 0]) [] [] (LwQ KSL) := by
  obtain ⟨wx, rx, x1, x2, x3, x4, x5, x6⟩ := runX (xs := xs) (L := L)
  have hx : wx.length = 360 := (typL_ok (B := 0) x1).1.trans ksx_len
  obtain ⟨u, ru, u1, u2⟩ := runM (xs := xs) (L := L) hx
  have lt : ∀ i, i < 360 → (wx ++ u)[i]? = wx[i]? := fun i hi => List.getElem?_append_left (by rw [hx]; exact hi)
  have hT : Typed KTab KSL 0 (wx ++ u) := typ_app x1 u1
  rw [← lt 285 (by decide)] at x2
  rw [← lt 0 (by decide)] at x3 x4
  rw [← lt 32 (by decide)] at x5 x6
  have hX : XL KSL (wx ++ u) := ⟨recW KSL 360 (wx ++ u), good0 x2 u2, fz_rec hT uqL ksl_i.2.1 (show KTab[11]? = some _ from rfl) (show _ = some (5, 2147483648, 2147483649) from (rfl : (KTab[11]?.elim [] (fun q => match q with | .inl o => o.2 | _ => []))[38]? = _)) rfl⟩
  refine Rs.step (pc' := 3) (lc' := lArgs 0 [.ref 0]) (st' := [.ref 3]) (w1 := [objE 10]) (ins := .new 7) (by decide +kernel) rfl ?_
  refine Rs.step (pc' := 4) (lc' := lArgs 0 [.ref 0]) (st' := [.ref 3, .ref 3]) (w1 := [objE 10]) (ins := .dup) (by decide +kernel) rfl ?_
  refine Rs.call (d := 59) (ins := .invokespecial 9) (M' := mX10_init) (as := [.ref 3]) (r := [.ref 3]) (pc' := 7) (lc' := lArgs 0 [.ref 0]) (P1 := fun v w => v = none ∧ w = wx) (by decide +kernel) rfl (Rs.deep (d := 20) (by decide) ⟨20000, none, wx, rx, rfl, rfl⟩) ?_
  intro v1 w1 hv1
  rw [hv1.1, hv1.2]
  clear hv1
  refine Rs.step (pc' := 8) (lc' := lSet1 (lArgs 0 [.ref 0]) 1 (.ref 3)) (st' := []) (w1 := wx) (ins := .astore_n 1) (by decide +kernel) rfl ?_
  refine Rs.step (pc' := 11) (lc' := lSet1 (lArgs 0 [.ref 0]) 1 (.ref 3)) (st' := [.ref (wx.length + 3)]) (w1 := wx ++ [objE 11]) (ins := .new 10) (by decide +kernel) rfl ?_
  rw [hx]
  refine Rs.step (pc' := 12) (lc' := lSet1 (lArgs 0 [.ref 0]) 1 (.ref 3)) (st' := [.ref 363, .ref 363]) (w1 := wx ++ [objE 11]) (ins := .dup) (by decide +kernel) rfl ?_
  refine Rs.call (d := 59) (ins := .invokespecial 12) (M' := mX11_init) (as := [.ref 363]) (r := [.ref 363]) (pc' := 15) (lc' := lSet1 (lArgs 0 [.ref 0]) 1 (.ref 3)) (P1 := fun v w => v = none ∧ w = wx ++ u) (by decide +kernel) rfl (Rs.deep (d := 20) (by decide) ⟨20000, none, wx ++ u, ru, rfl, rfl⟩) ?_
  intro v1 w1 hv1
  rw [hv1.1, hv1.2]
  clear hv1
  refine Rs.step (pc' := 16) (lc' := lSet1 (lSet1 (lArgs 0 [.ref 0]) 1 (.ref 3)) 2 (.ref 363)) (st' := []) (w1 := wx ++ u) (ins := .astore_n 2) (by decide +kernel) rfl ?_
  refine Rs.step (pc' := 17) (lc' := lSet1 (lSet1 (lArgs 0 [.ref 0]) 1 (.ref 3)) 2 (.ref 363)) (st' := [.int 0]) (w1 := wx ++ u) (ins := .iconst 0) (by decide +kernel) rfl ?_
  refine Rs.step (pc' := 18) (lc' := lSet1 (lSet1 (lSet1 (lArgs 0 [.ref 0]) 1 (.ref 3)) 2 (.ref 363)) 3 (.int 0)) (st' := []) (w1 := wx ++ u) (ins := .istore_n 3) (by decide +kernel) rfl ?_
  refine lz_loop uqL hp hL hL1 512 0 r0 _ [] (wx ++ u) 0 (ga0 hT hX u2 x3 x4 x5 x6 (by decide +kernel) (by decide +kernel) (by decide +kernel) (by decide +kernel)) rfl (by decide) ?_ (by decide)
  have : (0 : Int32).toInt = 0 := rfl
  rw [this]
  omega
end LWT

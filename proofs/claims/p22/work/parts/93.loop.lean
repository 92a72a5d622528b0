/-! law's loop -/
section LWL
variable {ks : List Nat} {w0 : pW} {xs : Nat → Int32} {L : Nat}
theorem pp1 {P A B C D K : Nat} (h : P + (A + B) + C + D ≤ K) : P + B + C + D ≤ K := by omega
theorem pp2 {P P' A B C D K : Nat} (hp : P' ≤ P + B) (h : P + (A + B) + C + D ≤ K) : P' + A + C + D ≤ K := by omega
theorem pp3 {l x y : Int} {m : Nat} (h : l - x < 6 * ((m + 1 : Nat) : Int) + 6) (hy : y = x + 6) : l - y < 6 * (m : Int) + 6 := by omega
theorem lz_loop (hU : Uq KTab ks) (hp : CK KTab (XL ks) ks PP FF GM xs L c_pond) (hL : L ≤ 3073) (hL1 : 1 ≤ L) : ∀ (m P : Nat) (ρ : Nat → Value) (lc : pL) (st : List Value) (w : pW) (x : Int32), Ga KTab (XL ks) ks P 0 ρ lz_e.2.2.2.2.1 w0 (stC lz_h) ρ lc st w → ρ 2 = .int x → 0 ≤ x.toInt → (L : Int) - 1 - x.toInt < 6 * (m : Int) + 6 → P + m * 1082808 + CrMax + 60 * 16777216 ≤ PMax → Rs PP FF GM TX xs L 60 mL_law 18 lc st w (LwQ ks) := by
  intro m
  induction m with
  | zero =>
    intro P ρ lc st w x hG hx h0 hm hP
    have l0 := (hG.2.1 (0, 3) (by decide)).1
    have l3 := (hG.2.1 (3, 2) (by decide)).1
    have e3 : ρ 3 = .ref 0 := hG.1 3 (8, 0, 0) rfl
    simp only [e3] at l0
    simp only [hx] at l3
    have hst0 : st = [] := hG.stq
    subst hst0
    have en : (Int32.ofNat (L - 1)).toInt = ((L - 1 : Nat) : Int) := nI_toInt (by omega)
    have es : (Int32.ofNat (L - 1) - 6).toInt = ((L - 1 : Nat) : Int) - 6 := by
      rw [Int32.toInt_sub, en, show (6 : Int32).toInt = 6 from rfl, bmod32 (by omega) (by omega)]
    refine Rs.step (pc' := 19) (lc' := lc) (st' := [.int x]) (w1 := w) (ins := .iload_n 3) (by decide +kernel) (by simp only [sstep]; rw [show ((3 : Fin 4) : Nat) = 3 from rfl, l3]) ?_
    refine Rs.step (pc' := 20) (lc' := lc) (st' := [.ref 0, .int x]) (w1 := w) (ins := .aload_n 0) (by decide +kernel) (by simp only [sstep]; rw [show ((0 : Fin 4) : Nat) = 0 from rfl, l0]) ?_
    refine Rs.step (pc' := 21) (lc' := lc) (st' := [.int (Int32.ofNat (L - 1)), .int x]) (w1 := w) (ins := .arraylength) (by decide +kernel) (by simp only [sstep]; rw [show alen L w 0 = some (L - 1) from by unfold alen; rw [show wAt w 0 = none from rfl]; simp only; rw [if_pos (by simp; omega)]]) ?_
    refine Rs.step (pc' := 23) (lc' := lc) (st' := [.int 6, .int (Int32.ofNat (L - 1)), .int x]) (w1 := w) (ins := .bipush 6) (by decide +kernel) (by simp only [sstep]; rfl) ?_
    refine Rs.step (pc' := 24) (lc' := lc) (st' := [.int (Int32.ofNat (L - 1) - 6), .int x]) (w1 := w) (ins := .isub) (by decide +kernel) (by simp only [sstep]) ?_
    refine Rs.step (pc' := 942) (lc' := lc) (st' := []) (w1 := w) (ins := .if_icmp .gt 918) (by decide +kernel) (by
      simp only [sstep, show jmp 24 918 = some 942 from rfl]
      rw [if_pos (icmpB_P.mpr (by simp only [cndP]; omega))]) ?_
    refine Rs.step (pc' := 943) (lc' := lc) (st' := [.int 1]) (w1 := w) (ins := .iconst 1) (by decide +kernel) (by simp only [sstep]; rfl) ?_
    exact Rs.ret (ins := .ireturn) (v := some (.int 1)) (by decide +kernel) rfl ⟨rfl, _, hG.2.2.2.2.1⟩
  | succ m ih =>
    intro P ρ lc st w x hG hx h0 hm hP
    have l0 := (hG.2.1 (0, 3) (by decide)).1
    have l3 := (hG.2.1 (3, 2) (by decide)).1
    have e3 : ρ 3 = .ref 0 := hG.1 3 (8, 0, 0) rfl
    simp only [e3] at l0
    simp only [hx] at l3
    have hst0 : st = [] := hG.stq
    have en : (Int32.ofNat (L - 1)).toInt = ((L - 1 : Nat) : Int) := nI_toInt (by omega)
    have es : (Int32.ofNat (L - 1) - 6).toInt = ((L - 1 : Nat) : Int) - 6 := by
      rw [Int32.toInt_sub, en, show (6 : Int32).toInt = 6 from rfl, bmod32 (by omega) (by omega)]
    have pre : ∀ {pc' : Nat}, (if icmpB .gt x (Int32.ofNat (L - 1) - 6) then 942 else 24 + 3) = pc' → Rs PP FF GM TX xs L 60 mL_law pc' lc st w (LwQ ks) → Rs PP FF GM TX xs L 60 mL_law 18 lc st w (LwQ ks) := by
      intro pc' he k
      subst hst0
      refine Rs.step (pc' := 19) (lc' := lc) (st' := [.int x]) (w1 := w) (ins := .iload_n 3) (by decide +kernel) (by simp only [sstep]; rw [show ((3 : Fin 4) : Nat) = 3 from rfl, l3]) ?_
      refine Rs.step (pc' := 20) (lc' := lc) (st' := [.ref 0, .int x]) (w1 := w) (ins := .aload_n 0) (by decide +kernel) (by simp only [sstep]; rw [show ((0 : Fin 4) : Nat) = 0 from rfl, l0]) ?_
      refine Rs.step (pc' := 21) (lc' := lc) (st' := [.int (Int32.ofNat (L - 1)), .int x]) (w1 := w) (ins := .arraylength) (by decide +kernel) (by simp only [sstep]; rw [show alen L w 0 = some (L - 1) from by unfold alen; rw [show wAt w 0 = none from rfl]; simp only; rw [if_pos (by simp; omega)]]) ?_
      refine Rs.step (pc' := 23) (lc' := lc) (st' := [.int 6, .int (Int32.ofNat (L - 1)), .int x]) (w1 := w) (ins := .bipush 6) (by decide +kernel) (by simp only [sstep]; rfl) ?_
      refine Rs.step (pc' := 24) (lc' := lc) (st' := [.int (Int32.ofNat (L - 1) - 6), .int x]) (w1 := w) (ins := .isub) (by decide +kernel) (by simp only [sstep]) ?_
      refine Rs.step (pc' := pc') (lc' := lc) (st' := []) (w1 := w) (ins := .if_icmp .gt 918) (by decide +kernel) (by
        simp only [sstep, show jmp 24 918 = some 942 from rfl]
        rw [he]) ?_
      exact k
    by_cases hc : icmpB .gt x (Int32.ofNat (L - 1) - 6) = true
    · refine pre (pc' := 942) (by rw [if_pos hc]) ?_
      subst hst0
      refine Rs.step (pc' := 943) (lc' := lc) (st' := [.int 1]) (w1 := w) (ins := .iconst 1) (by decide +kernel) (by simp only [sstep]; rfl) ?_
      exact Rs.ret (ins := .ireturn) (v := some (.int 1)) (by decide +kernel) rfl ⟨rfl, _, hG.2.2.2.2.1⟩
    · refine pre (pc' := 27) (by rw [if_neg hc]) ?_
      have hc2 := notC_P (fun z => hc (icmpB_P.mpr z))
      simp only [notC, cndP] at hc2
      have hmm : (m + 1) * 1082808 = m * 1082808 + 1082808 := Nat.succ_mul m 1082808
      rw [hmm] at hP
      have q6 : x.toInt + 6 ≤ (L : Int) - 1 := by clear hP hmm hm; omega
      refine lz_pass hU hp hL (pp1 hP) hG hx h0 q6 (fun P' ρ' lc' st' w' y hPP hG' hy hyx => ?_)
      exact ih P' ρ' lc' st' w' y hG' hy (by clear hP hmm hm hPP; omega) (pp3 hm hyx) (pp2 hPP hP)
end LWL

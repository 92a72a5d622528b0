/-! readLine, by hand: its tests, its blocks -/
section PZN
variable {ks : List Nat} {P : Nat} {w w0 w1 w2 w' : pW} {mi : Nat} {R R1 R2 R' R0 : pR} {xs : Nat → Int32} {L : Nat} {eff : List (Nat × Nat)} {b fr N : Nat} {F : Int} {ρ : Nat → Value} {ds : List Ds} {me : List Fa}
theorem pz_tst {p nx i : Nat} {off : Int} {c x : Int64} {lc : pL} {Q : Option Value → pW → Prop} (h0 : instrAt mX11_readLine p = some (.lload_n 1)) (h1 : instrAt mX11_readLine (p + 1) = some (.ldc2_w i)) (hv : PP.2.2.1 11 i = some (.long c)) (h2 : instrAt mX11_readLine (p + 4) = some .lcmp) (h3 : instrAt mX11_readLine (p + 5) = some (.ifCond .ne off)) (hj : jmp (p + 5) off = some nx) (l1 : lGet lc 1 = some (.long x)) (hy : x = c → Rs PP FF GM TX xs L 10 mX11_readLine (p + 8) lc [] w Q) (hn : x ≠ c → Rs PP FF GM TX xs L 10 mX11_readLine nx lc [] w Q) : Rs PP FF GM TX xs L 10 mX11_readLine p lc [] w Q := by
  refine Rs.step (pc' := p + 1) (lc' := lc) (st' := [.long x]) (w1 := w) h0 (by simp only [sstep]; rw [show ((1 : Fin 4) : Nat) = 1 from rfl, l1]) ?_
  refine Rs.step (pc' := p + 4) (lc' := lc) (st' := [.long c, .long x]) (w1 := w) h1 (by simp only [sstep]; rw [show mX11_readLine.1 = 11 from rfl, hv]) ?_
  refine Rs.step (pc' := p + 5) (lc' := lc) (st' := [.int (lg_cmp x c)]) (w1 := w) h2 (by simp only [sstep]) ?_
  by_cases hx : x = c
  · have e : lg_cmp x c = 0 := by
      subst hx
      unfold lg_cmp
      rw [if_neg Int64.lt_irrefl, if_pos rfl]
    have hb : ¬ icmpB .ne (lg_cmp x c) 0 = true := by
      rw [e]
      decide
    refine Rs.step (pc' := p + 8) (lc' := lc) (st' := []) (w1 := w) h3 (by simp only [sstep]; rw [hj]; simp only; rw [if_neg hb]) (hy hx)
  · have e : ¬ lg_cmp x c = 0 := by
      unfold lg_cmp
      split <;> first | decide | (rw [if_neg hx]; decide)
    have hb : icmpB .ne (lg_cmp x c) 0 = true := decide_eq_true e
    refine Rs.step (pc' := nx) (lc' := lc) (st' := []) (w1 := w) h3 (by simp only [sstep]; rw [hj]; simp only; rw [if_pos hb]) (hn hx)
theorem pz_t36 {x : Int64} {lc : pL} {Q : Option Value → pW → Prop} (l1 : lGet lc 1 = some (.long x)) (hy : x = 1886350948 → Rs PP FF GM TX xs L 10 mX11_readLine 44 lc [] w Q) (hn : x ≠ 1886350948 → Rs PP FF GM TX xs L 10 mX11_readLine 87 lc [] w Q) : Rs PP FF GM TX xs L 10 mX11_readLine 36 lc [] w Q := pz_tst (p := 36) (nx := 87) (i := 176) (off := 46) (c := 1886350948) (by decide +kernel) (by decide +kernel) rfl (by decide +kernel) (by decide +kernel) (by decide) l1 hy hn
theorem pz_t87 {x : Int64} {lc : pL} {Q : Option Value → pW → Prop} (l1 : lGet lc 1 = some (.long x)) (hy : x = 6906725 → Rs PP FF GM TX xs L 10 mX11_readLine 95 lc [] w Q) (hn : x ≠ 6906725 → Rs PP FF GM TX xs L 10 mX11_readLine 121 lc [] w Q) : Rs PP FF GM TX xs L 10 mX11_readLine 87 lc [] w Q := pz_tst (p := 87) (nx := 121) (i := 180) (off := 29) (c := 6906725) (by decide +kernel) (by decide +kernel) rfl (by decide +kernel) (by decide +kernel) (by decide) l1 hy hn
theorem pz_t121 {x : Int64} {lc : pL} {Q : Option Value → pW → Prop} (l1 : lGet lc 1 = some (.long x)) (hy : x = 1667591276 → Rs PP FF GM TX xs L 10 mX11_readLine 129 lc [] w Q) (hn : x ≠ 1667591276 → Rs PP FF GM TX xs L 10 mX11_readLine 133 lc [] w Q) : Rs PP FF GM TX xs L 10 mX11_readLine 121 lc [] w Q := pz_tst (p := 121) (nx := 133) (i := 182) (off := 7) (c := 1667591276) (by decide +kernel) (by decide +kernel) rfl (by decide +kernel) (by decide +kernel) (by decide) l1 hy hn
theorem pz_t133 {x : Int64} {lc : pL} {Q : Option Value → pW → Prop} (l1 : lGet lc 1 = some (.long x)) (hy : x = 482854661739 → Rs PP FF GM TX xs L 10 mX11_readLine 141 lc [] w Q) (hn : x ≠ 482854661739 → Rs PP FF GM TX xs L 10 mX11_readLine 145 lc [] w Q) : Rs PP FF GM TX xs L 10 mX11_readLine 133 lc [] w Q := pz_tst (p := 133) (nx := 145) (i := 184) (off := 7) (c := 482854661739) (by decide +kernel) (by decide +kernel) rfl (by decide +kernel) (by decide +kernel) (by decide) l1 hy hn
theorem pz_t145 {x : Int64} {lc : pL} {Q : Option Value → pW → Prop} (l1 : lGet lc 1 = some (.long x)) (hy : x = 1953853029 → Rs PP FF GM TX xs L 10 mX11_readLine 153 lc [] w Q) (hn : x ≠ 1953853029 → Rs PP FF GM TX xs L 10 mX11_readLine 157 lc [] w Q) : Rs PP FF GM TX xs L 10 mX11_readLine 145 lc [] w Q := pz_tst (p := 145) (nx := 157) (i := 188) (off := 7) (c := 1953853029) (by decide +kernel) (by decide +kernel) rfl (by decide +kernel) (by decide +kernel) (by decide) l1 hy hn
theorem pz_t157 {x : Int64} {lc : pL} {Q : Option Value → pW → Prop} (l1 : lGet lc 1 = some (.long x)) (hy : x = 32485536600843109 → Rs PP FF GM TX xs L 10 mX11_readLine 165 lc [] w Q) (hn : x ≠ 32485536600843109 → Rs PP FF GM TX xs L 10 mX11_readLine 181 lc [] w Q) : Rs PP FF GM TX xs L 10 mX11_readLine 157 lc [] w Q := pz_tst (p := 157) (nx := 181) (i := 192) (off := 19) (c := 32485536600843109) (by decide +kernel) (by decide +kernel) rfl (by decide +kernel) (by decide +kernel) (by decide) l1 hy hn
theorem pz_t181 {x : Int64} {lc : pL} {Q : Option Value → pW → Prop} (l1 : lGet lc 1 = some (.long x)) (hy : x = 126905033713010 → Rs PP FF GM TX xs L 10 mX11_readLine 189 lc [] w Q) (hn : x ≠ 126905033713010 → Rs PP FF GM TX xs L 10 mX11_readLine 193 lc [] w Q) : Rs PP FF GM TX xs L 10 mX11_readLine 181 lc [] w Q := pz_tst (p := 181) (nx := 193) (i := 194) (off := 7) (c := 126905033713010) (by decide +kernel) (by decide +kernel) rfl (by decide +kernel) (by decide +kernel) (by decide) l1 hy hn
theorem pz_k87 {x : Int64} {lc : pL} {Q : Option Value → pW → Prop} (hx : x = 1886350948) (l1 : lGet lc 1 = some (.long x)) (h : Rs PP FF GM TX xs L 10 mX11_readLine 193 lc [] w Q) : Rs PP FF GM TX xs L 10 mX11_readLine 87 lc [] w Q := pz_t87 l1 (fun e => absurd (hx.symm.trans e) (by decide)) (fun _ => pz_t121 l1 (fun e => absurd (hx.symm.trans e) (by decide)) (fun _ => pz_t133 l1 (fun e => absurd (hx.symm.trans e) (by decide)) (fun _ => pz_t145 l1 (fun e => absurd (hx.symm.trans e) (by decide)) (fun _ => pz_t157 l1 (fun e => absurd (hx.symm.trans e) (by decide)) (fun _ => pz_t181 l1 (fun e => absurd (hx.symm.trans e) (by decide)) (fun _ => h))))))
theorem pz_k121 {x : Int64} {lc : pL} {Q : Option Value → pW → Prop} (hx : x = 6906725) (l1 : lGet lc 1 = some (.long x)) (h : Rs PP FF GM TX xs L 10 mX11_readLine 193 lc [] w Q) : Rs PP FF GM TX xs L 10 mX11_readLine 121 lc [] w Q := pz_t121 l1 (fun e => absurd (hx.symm.trans e) (by decide)) (fun _ => pz_t133 l1 (fun e => absurd (hx.symm.trans e) (by decide)) (fun _ => pz_t145 l1 (fun e => absurd (hx.symm.trans e) (by decide)) (fun _ => pz_t157 l1 (fun e => absurd (hx.symm.trans e) (by decide)) (fun _ => pz_t181 l1 (fun e => absurd (hx.symm.trans e) (by decide)) (fun _ => h)))))
theorem pz_k133 {x : Int64} {lc : pL} {Q : Option Value → pW → Prop} (hx : x = 1667591276) (l1 : lGet lc 1 = some (.long x)) (h : Rs PP FF GM TX xs L 10 mX11_readLine 193 lc [] w Q) : Rs PP FF GM TX xs L 10 mX11_readLine 133 lc [] w Q := pz_t133 l1 (fun e => absurd (hx.symm.trans e) (by decide)) (fun _ => pz_t145 l1 (fun e => absurd (hx.symm.trans e) (by decide)) (fun _ => pz_t157 l1 (fun e => absurd (hx.symm.trans e) (by decide)) (fun _ => pz_t181 l1 (fun e => absurd (hx.symm.trans e) (by decide)) (fun _ => h))))
theorem pz_k145 {x : Int64} {lc : pL} {Q : Option Value → pW → Prop} (hx : x = 482854661739) (l1 : lGet lc 1 = some (.long x)) (h : Rs PP FF GM TX xs L 10 mX11_readLine 193 lc [] w Q) : Rs PP FF GM TX xs L 10 mX11_readLine 145 lc [] w Q := pz_t145 l1 (fun e => absurd (hx.symm.trans e) (by decide)) (fun _ => pz_t157 l1 (fun e => absurd (hx.symm.trans e) (by decide)) (fun _ => pz_t181 l1 (fun e => absurd (hx.symm.trans e) (by decide)) (fun _ => h)))
theorem pz_k157 {x : Int64} {lc : pL} {Q : Option Value → pW → Prop} (hx : x = 1953853029) (l1 : lGet lc 1 = some (.long x)) (h : Rs PP FF GM TX xs L 10 mX11_readLine 193 lc [] w Q) : Rs PP FF GM TX xs L 10 mX11_readLine 157 lc [] w Q := pz_t157 l1 (fun e => absurd (hx.symm.trans e) (by decide)) (fun _ => pz_t181 l1 (fun e => absurd (hx.symm.trans e) (by decide)) (fun _ => h))
theorem pz_k181 {x : Int64} {lc : pL} {Q : Option Value → pW → Prop} (hx : x = 32485536600843109) (l1 : lGet lc 1 = some (.long x)) (h : Rs PP FF GM TX xs L 10 mX11_readLine 193 lc [] w Q) : Rs PP FF GM TX xs L 10 mX11_readLine 181 lc [] w Q := pz_t181 l1 (fun e => absurd (hx.symm.trans e) (by decide)) (fun _ => h)
/-- what readLine leaves -/
def pz_QN (ks : List Nat) (P mi : Nat) (R0 : pR) (b : Nat) (w w' : pW) : Prop := ∃ R', pz_St ks P mi R' w' ∧ Ef ks pz_EP w w' ∧ pz_PF R0 R' b ∧ (pz_fi w' mi 4 = 0 → pz_fi w mi 6 + 1 ≤ pz_fi w' mi 6 ∧ pz_TK w' mi ∧ pz_PL R' b (pz_fi w' mi 6))
/-- before the sign at a line's end -/
def pz_LB (ks : List Nat) (P mi : Nat) (R0 : pR) (b : Nat) (w w' : pW) : Prop := ∃ R', pz_St ks P mi R' w' ∧ Ef ks pz_EP w w' ∧ pz_PF R0 R' b ∧ (pz_fi w' mi 4 = 0 → pz_fi w mi 6 + 1 ≤ pz_fi w' mi 6 ∧ (pz_PL R' b (pz_fi w' mi 6) ∨ (pz_TK w' mi ∧ pz_PL R' b (pz_Ph w' mi))))
def pz_rfB (p : Po) : Bool := decide (p.1 = none) && (decide (lgF p.2.2 = []) && (pz_afB p.2.1 p.2.2 2 && (pz_rgB p.2.1 4 (Zb + 5) (Zb + 5) && decide (fnd p.2.2 (1000 + 4) 0 0 = some 5))))
theorem pz_krf : [rn_q1, rn_q2, rn_q3, rn_q4, rn_q5, rn_q6, rn_q7, rn_q8, rn_q9, rn_q10, rn_q11].all pz_rfB = true := by decide +kernel
theorem pz_193 {lc : pL} (hU : Uq KTab ks) (hk : ks[mi]? = some 11) (hP : P + CrMax + 12 * 16777216 ≤ PMax) (h : pz_LB ks P mi R0 b w w1) (l0 : lGet lc 0 = some (.ref (mi + 3))) : Rs PP FF GM TX xs L 10 mX11_readLine 193 lc [] w1 (fun v w' => v = none ∧ pz_QN ks P mi R0 b w w') := by
  obtain ⟨R, hS, hE, hF, h⟩ := h
  have b4 := pz_bd (pz_fd (f := 4) hS.1 hk rfl rfl).1
  have e4 : iv (pz_fv w1 mi 4) = pz_fi w1 mi 4 := rfl
  by_cases c1 : 0 < pz_fi w1 mi 4
  · refine pz_run (ex := []) (mex := []) hU hk (by omega) hS (fun _ => pz_a0) rfb_k (by decide +kernel) (by decide +kernel) (by decide +kernel) (by decide +kernel) (by decide +kernel) (by decide +kernel) (pz_sa hS hk (pz_fvi hS.1 hk ⟨_, _, rfl, rfl⟩ (by omega) (by omega)) (pz_o42 hS hk) trivial) pz_a0 (pz_ac l0 pz_a0) pz_a0 (pz_ac ?_ pz_a0)
    intro ρ' w' V
    obtain ⟨v1, v2, v3, v4⟩ := pz_v0 V hk hS (by decide +kernel)
    exact ⟨rfl, R, v1, pz_et hE (pz_em v2 (by decide +kernel)), hF, fun q => by omega⟩
  by_cases c2 : pz_fi w1 mi 4 < 0
  · refine pz_run (ex := []) (mex := []) hU hk (by omega) hS (fun _ => pz_a0) rfc_k (by decide +kernel) (by decide +kernel) (by decide +kernel) (by decide +kernel) (by decide +kernel) (by decide +kernel) (pz_sa hS hk (pz_fvi hS.1 hk ⟨_, _, rfl, rfl⟩ (by omega) (by omega)) (pz_o42 hS hk) trivial) pz_a0 (pz_ac l0 pz_a0) pz_a0 (pz_ac ?_ pz_a0)
    intro ρ' w' V
    obtain ⟨v1, v2, v3, v4⟩ := pz_v0 V hk hS (by decide +kernel)
    exact ⟨rfl, R, v1, pz_et hE (pz_em v2 (by decide +kernel)), hF, fun q => by omega⟩
  have hf : pz_fi w1 mi 4 = 0 := by omega
  obtain ⟨hat, hL⟩ := h hf
  refine pz_run (ex := []) (mex := []) hU hk (by omega) hS pz_hg rn_k (by decide +kernel) (by decide +kernel) (by decide +kernel) (by decide +kernel) (by decide +kernel) (by decide +kernel) (pz_sa hS hk (pz_fvi hS.1 hk ⟨_, _, rfl, rfl⟩ (by omega) (by omega)) (pz_o42 hS hk) trivial) pz_a0 (pz_ac l0 pz_a0) pz_a0 (pz_ac ?_ ?_)
  · intro ρ' w' V
    obtain ⟨hO, -⟩ := pz_mv V (by decide) (by decide +kernel)
    have hs := pzv_S V hO
    rw [show lgF rn_q0.2.2 = [] by decide +kernel] at hs
    have e15 := pzv_b V (s := 15) (a := 2147483649) (b := 2147483650) rfl
    have f4 := pzv_f (f := 4) (mi := mi) (s := 15) V (by decide) rfl (by decide +kernel)
    refine ⟨rfl, R, hs, pz_et hE (pz_em V.2.2.2.2.2 (by decide +kernel)), hF, fun q => ?_⟩
    unfold pz_fi at q
    rw [f4] at q
    omega
  · intro p hp ρ' w' V
    have hB := List.all_eq_true.mp pz_krf p hp
    simp only [pz_rfB, Bool.and_eq_true, decide_eq_true_eq] at hB
    obtain ⟨h1, h2, h3, h4, h5⟩ := hB
    have g0 : ρ' 0 = .ref (mi + 3) := V.1 0 (by decide)
    have g2 : ρ' 2 = pz_fv w1 mi 7 := V.1 2 (by decide)
    have g4 : ρ' 4 = pz_fv w1 mi 8 := V.1 4 (by decide)
    have hA := pz_af V.2.1 V.2.2.1 g0 h3
    rw [g2] at hA
    have hA : pz_AF w' mi (pz_fi w1 mi 7) := hA
    obtain ⟨vt, et1, t5, t6⟩ := pz_rgB_ok V.2.1 h4
    simp only [Zb] at t5 t6
    have h8 : pz_fi w1 mi 8 = 5 := by
      unfold pz_fi
      rw [← g4, et1, iv_int]
      omega
    have hs := pzv_S V hA.2.1
    rw [h2] at hs
    have hO1 := hS.2.2.1
    have q1 := hA.2.2.1
    refine ⟨by rw [h1]; rfl, R, hs, pz_et hE (pz_em V.2.2.2.2.2 (by decide +kernel)), hF, fun _ => ⟨by omega, hA.1, ?_⟩⟩
    rcases hL with hL | ⟨hT, hL⟩
    · exact pz_PLm hL (by omega)
    · refine pz_PLm hL ?_
      have q2 : pz_fi w1 mi 6 + 1 ≤ pz_fi w1 mi 7 := hT.1.elim (fun q => by omega) id
      unfold pz_Ph
      rw [h8]
      rw [if_neg (by decide)]
      omega
end PZN

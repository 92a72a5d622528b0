/-! the room that a typed world takes; the law from its entry -/
def szK (k : Nat) : Nat := match KTab[k]? with
  | some (.inl o) => o.2.length
  | some (.inr r) => r.2.1
  | none => 0
theorem sz_e {ks : List Nat} {P : Nat} {kd : Kd} {e : pE} (h : okE ks P kd e) : slE e = (match kd with | .inl o => o.2.length | .inr r => r.2.1) := by
  rcases kd with o | r
  · rcases e with a | c
    · exact h.elim
    · exact h.2.1
  · rcases e with a | c
    · exact h.2.1
    · exact h.elim
theorem sz_w {ks : List Nat} {P : Nat} {w : pW} (h : Typed KTab ks P w) : slW w = (ks.map szK).sum := by
  have e1 : w.map slE = ks.map szK := by
    apply List.ext_getElem?
    intro i
    rw [List.getElem?_map, List.getElem?_map]
    cases hk : ks[i]? with
    | none =>
      have h1 : ks.length ≤ i := List.getElem?_eq_none_iff.mp hk
      rw [List.getElem?_eq_none (by rw [h.1]; exact h1)]
      rfl
    | some k =>
      obtain ⟨kd, e, h1, h2, h3⟩ := h.2 i k hk
      rw [h2]
      show some (slE e) = some (szK k)
      rw [sz_e h3]
      unfold szK
      rw [h1]
      rcases kd with o | r <;> rfl
  unfold slW
  rw [e1]
theorem sz_ksl : (KSL.map szK).sum ≤ 100000 ∧ KSL.length ≤ 1000 := by decide +kernel
theorem cW_nil {ad : Nat → Nat} {ct : Nat → ClassId} : cW ad ct [] = [] := rfl
theorem whole_start {p : Program} {e : Jvm.Env} {s : State} {m : MethodId} {below : List Frame} {meth : Method} {c : Code} (l : Launch) {b L : Nat} {xs : Nat → Int32} (hL : L ≤ 3072) (C0 : lw_At p s m meth c b L xs) (hname : meth.name = "law") : W p l e room_1 s m #[Value.ref b] below meth c s.heap [] 0 0 (lw_Z below #[Value.ref b] s) (entryFrame m ([Value.ref b] : List Value).toArray 4) := by
  obtain ⟨hx, hb, hr, hml, hown, hts, hX, hbl, hlocks, hgv⟩ := id C0
  have htw : ∀ w ∈ wt, w.before #[Value.ref b] s = true := fun w h => hts w (wt_tbl h)
  obtain ⟨G, cI, cZ, cB, cJ, cE, hK⟩ := kx_start hts
  obtain ⟨adK, adV, fm, hfm, hST, ⟨t0, k0⟩, ⟨t1, k1⟩⟩ := tx_start hts hgv
  obtain ⟨ad, a0, a1, a2⟩ : ∃ ad : Nat → Nat, ad 0 = b ∧ ad 1 = adK 0 ∧ ad 2 = adK 1 := ⟨fun i => if i = 0 then b else adK (i - 1), rfl, rfl, rfl⟩
  obtain ⟨n, v, w', hrun, hv, P', hTy⟩ := lz_all (xs := xs) (L := L + 1) (ck_pond uqL) (by omega) (by omega)
  have hsz := sz_w hTy
  have hln := hTy.1
  have hks := sz_ksl
  have hl := lv_entry ([.ref b]) (n := 4) (Nat.le_of_ble_eq_true rfl)
  rw [lg_entry_eq]
  generalize (lg_sl ([.ref b]) ++ List.replicate (4 - (lg_sl ([.ref b])).length) Slot.unset).toArray = ls at hl ⊢
  have hl : lv_has ls 4 [(0, .ref b)] := hl
  have hEX : EXf xs (L + 1) TR s.heap.size ad s := by
    refine ⟨by rw [a0]; exact hbl, fun _ => by rw [a0]; exact hX, ?_⟩
    intro own i a h
    have h : (own, i, a) ∈ [("IceTunes$Tokens", 60, 1), ("IceTunes$Tokens", 48, 2)] := h
    simp only [List.mem_cons, List.not_mem_nil, or_false, Prod.mk.injEq] at h
    rcases h with ⟨rfl, rfl, rfl⟩ | ⟨rfl, rfl, rfl⟩
    · exact ⟨by decide, t0, by rw [a1]; exact k0⟩
    · exact ⟨by decide, t1, by rw [a2]; exact k1⟩
  have hSX : tx_SX s.heap.size ad s := ⟨adV, fm, hfm, tx_cg (adK := adK) (fun i hi => by
    match i, hi with
    | 0, _ => exact a1
    | 1, _ => exact a2
    | i + 2, hi => omega) hST⟩
  have hC : Cx p s m #[Value.ref b] meth c G cI cZ cB cJ cE (fun q => s.heap.size ≤ q) s.heap.size mL_law := ⟨hx, hb, hml, htw, hown, hK, fun _ h => h, fun _ h => h, hname, rfl, Nat.le_refl _⟩
  have hRn : Rn s G cI cZ cB cJ cE (fun q => s.heap.size ≤ q) mL_law.2.2.2.1 ad s.heap [] ls (lArgs 0 [.ref 0]) [] := by
    refine ⟨fun k q h => ?_, ⟨fun i j q r h => ?_, fun k q h => ?_⟩, va_S.rf, ?_, (fun _ h => (by cases h)), ?_⟩
    · rw [cW_nil] at h
      cases h
    · rw [cW_nil] at h
      cases h
    · rw [cW_nil] at h
      cases h
    · show lv_has ls 4 [(0, .ref (ad 0))]
      rw [a0]
      exact hl
    · intro q hq
      have hq : q ∈ [((0 : Nat), Value.ref 0)] := hq
      rw [List.mem_singleton.mp hq]
      intro i hi
      cases hi
      show 0 < 0 + 3
      decide
  refine sim_all2 (l := l) (xs := xs) (L := L + 1) (Z0 := s.heap.size) (G := G) (cI := cI) (cZ := cZ) (cB := cB) (cJ := cJ) (cE := cE) tx_SXok clsOK poolOK callsOK tx_tops n 60 mL_law 0 (lArgs 0 [.ref 0]) [] [] v w' dec_L_law hrun p e room_1 s m #[Value.ref b] below meth c s.heap [] 0 0 (lw_Z below #[Value.ref b] s) (fun q => s.heap.size ≤ q) ls ad hC hEX hSX ⟨by decide, by decide⟩ ⟨?_, ?_⟩ hRn (fun _ h => by cases h) ?_
  · show 0 + (w'.length - 0) ≤ 600000
    omega
  · show 0 + (slW w' - slW []) ≤ 7302250
    have : slW ([] : pW) = 0 := rfl
    omega
  · intro ad' H1 locs1 pc1 ls1 ins st1 hax hdec hret hP1 hD1 hS1 hsw hss
    rw [hv] at hret
    rcases aret_ins hret with ⟨rfl, x, ty, rfl, hx1, -, -⟩ | ⟨-, x, -, hx1, -⟩ | ⟨-, x, C, -, hx1, -⟩ | ⟨-, -, hx1, -⟩
    · have hx2 : (1 : Int32) = x := by
        have := Option.some.inj hx1
        cases this
        rfl
      subst hx2
      refine va_forget (fun q hq => hS1.2.2 q hq) ?_
      refine W.widen (k := 600000) (n := 7302250) ?_ ?_ ?_
      · show 0 + (w'.length - 0) ≤ 600000
        omega
      · show 0 + (slW w' - slW []) ≤ 7302250
        have : slW ([] : pW) = 0 := rfl
        omega
      · exact lw_ret hx hb hr hlocks (hdec.d rfl)
    · have := Option.some.inj hx1
      cases this
    · have := Option.some.inj hx1
      cases this
    · cases hx1

/-! the start: tables, texts -/
/-- what the tables say of the start: classes, array classes, links -/
theorem kx_start {args : Array Value} {s : State} (hts : ∀ w ∈ lw_tbl, w.before args s = true) : ∃ (G : va_G) (cI cZ cB cJ cE : ClassId), kx G cI cZ cB cJ cE s := by
  have htw : ∀ w ∈ wt, w.before args s = true := fun w h => hts w (wt_tbl h)
  obtain ⟨c0, i0, k0⟩ := u_known (C := RX0) (T := TX0) (N := 8) (n := 8) htw in_X0 (htw _ wm_356)
  obtain ⟨c1, i1, k1⟩ := u_known (C := RX1) (T := TX1) (N := 5) (n := 5) htw in_X1 (htw _ wm_517)
  obtain ⟨c2, i2, k2⟩ := u_known (C := RX2) (T := TX2) (N := 7) (n := 7) htw in_X2 (htw _ wm_398)
  obtain ⟨c3, i3, k3⟩ := u_known (C := RX3) (T := TX3) (N := 5) (n := 5) htw in_X3 (htw _ wm_493)
  obtain ⟨c4, i4, k4⟩ := u_known (C := RX4) (T := TX4) (N := 4) (n := 4) htw in_X4 (htw _ wm_391)
  obtain ⟨c5, i5, k5⟩ := u_known (C := RX5) (T := TX5) (N := 19) (n := 19) htw in_X5 (htw _ wm_179)
  obtain ⟨c6, i6, k6⟩ := u_known (C := RX6) (T := TX6) (N := 9) (n := 9) htw in_X6 (htw _ wm_291)
  obtain ⟨c7, i7, k7⟩ := u_known (C := RX7) (T := TX7) (N := 10) (n := 10) htw in_X7 (htw _ wm_540)
  obtain ⟨c8, i8, k8⟩ := u_known (C := RX8) (T := TX8) (N := 8) (n := 8) htw in_X8 (htw _ wm_460)
  obtain ⟨c9, i9, k9⟩ := u_known (C := RX9) (T := TX9) (N := 6) (n := 6) htw in_X9 (htw _ wm_297)
  obtain ⟨c10, i10, k10⟩ := u_known (C := RX10) (T := TX10) (N := 16) (n := 16) htw in_X10 (htw _ wm_171)
  obtain ⟨c11, i11, k11⟩ := u_known (C := RX11) (T := TX11) (N := 71) (n := 71) htw in_X11 (htw _ wm_1228)
  obtain ⟨G, hG⟩ : ∃ G : va_G, ∀ (k : Nat) (q : vw_C), classes[k]? = some q → u_Kn s q.1 q.2.1 q.2.2 (G.1 k) (G.2 k) := by
    refine ⟨(fun k => if k = 0 then c0 else if k = 1 then c1 else if k = 2 then c2 else if k = 3 then c3 else if k = 4 then c4 else if k = 5 then c5 else if k = 6 then c6 else if k = 7 then c7 else if k = 8 then c8 else if k = 9 then c9 else if k = 10 then c10 else c11, fun k => if k = 0 then i0 else if k = 1 then i1 else if k = 2 then i2 else if k = 3 then i3 else if k = 4 then i4 else if k = 5 then i5 else if k = 6 then i6 else if k = 7 then i7 else if k = 8 then i8 else if k = 9 then i9 else if k = 10 then i10 else i11), ?_⟩
    intro k q hq
    match k, hq with
      | 0, hq => cases hq; exact k0
      | 1, hq => cases hq; exact k1
      | 2, hq => cases hq; exact k2
      | 3, hq => cases hq; exact k3
      | 4, hq => cases hq; exact k4
      | 5, hq => cases hq; exact k5
      | 6, hq => cases hq; exact k6
      | 7, hq => cases hq; exact k7
      | 8, hq => cases hq; exact k8
      | 9, hq => cases hq; exact k9
      | 10, hq => cases hq; exact k10
      | 11, hq => cases hq; exact k11
      | k + 12, hq => simp [classes] at hq
  have prim : ∀ ty : FieldType, (Cond.arrayClass ty).before args s = true → ∃ c : ClassId, ArrOfT s c ty ∧ s.vm.findClass ("[" ++ ty.toString) = some c := by
    intro ty h
    obtain ⟨c, kA, comp, f1, f2, f3⟩ := Cond.arrayClass_spec h
    exact ⟨c, fun n z => ⟨fun k h => (by cases h), kA, f2, comp, f3⟩, f1⟩
  obtain ⟨cI, aI, rI⟩ := prim .int (htw _ wm_288)
  obtain ⟨cZ, aZ, rZ⟩ := prim .boolean (htw _ wm_289)
  obtain ⟨cB, aB, rB⟩ := prim .byte (htw _ wm_287)
  obtain ⟨cJ, aJ, rJ⟩ := prim .long (htw _ wm_1463)
  have ho : va_AO "IceTunes$Evening" s := va_AO.of (hts _ (List.mem_of_getElem? (i := 397) (by decide +kernel)))
  obtain ⟨comp, cE, kE, g1, g2, g3, g4, g5⟩ := Cond.arrayOver_spec (va_AO.use (A := args) ho)
  refine ⟨G, cI, cZ, cB, cJ, cE, ⟨hG, ?_⟩, ?_, ho⟩
  · intro k q hq
    match k, hq with
      | 0, hq => cases hq; exact ⟨aI, rI⟩
      | 1, hq => cases hq; exact ⟨aZ, rZ⟩
      | 2, hq => cases hq; exact ⟨aB, rB⟩
      | 3, hq => cases hq; exact ⟨aJ, rJ⟩
      | 4, hq => cases hq; exact ⟨fun n z => ⟨fun k h => (by cases h), kE, g3, comp, g4⟩, kE, comp, g3, g4, g1, g5⟩
      | k + 5, hq => simp [tyL] at hq
  · intro w hw
    have h1 := hts w ((nw_iff w).mp hw).1
    have h2 := ((nw_iff w).mp hw).2
    cases w <;> first | exact va_Nw.of rfl h1 | cases h2

def tx_tm (i : Nat) : Term := if i = 0 then .string "IceTunes$Tokens" 60 else .string "IceTunes$Tokens" 48
abbrev tx_C : Jvm.Cond := Jvm.Cond.and given_1 narrow_1
theorem tx_f1 : ∀ i, i < 2 → (flatC tx_C)[9 + 180 * i]? = some (Cond.exactly (tx_tm i) "java/lang/String") := by decide +kernel
theorem tx_f2 : ∀ i, i < 2 → (flatC tx_C)[10 + 180 * i]? = some (Cond.eq (.field (tx_tm i) "java/lang/String" "coder" "B") (.int 0)) := by decide +kernel
theorem tx_f3 : ∀ i, i < 2 → (flatC tx_C)[11 + 180 * i]? = some (Cond.arrayOf (.field (tx_tm i) "java/lang/String" "value" "[B") .byte) := by decide +kernel
theorem tx_f4 : ∀ i, i < 2 → (flatC tx_C)[12 + 180 * i]? = some (Cond.eq (.length (.field (tx_tm i) "java/lang/String" "value" "[B")) (.int (Int32.ofNat (TL.getD i 0)))) := by decide +kernel
theorem tx_f5 : ∀ i, i < 2 → ∀ j, j < TL.getD i 0 → (flatC tx_C)[13 + 180 * i + j]? = some (Cond.eq (.elem (.field (tx_tm i) "java/lang/String" "value" "[B") (.int (Int32.ofNat j))) (.int ((TX.getD i []).getD j 0))) := by decide +kernel
theorem tx_f6 : (flatC tx_C)[204]? = some (Cond.not (Cond.eq (tx_tm 0) (tx_tm 1))) := by decide +kernel
theorem tx_f7 : (flatC tx_C)[4]? = some (Cond.eq (.static "java/lang/String" "COMPACT_STRINGS" "Z") (.int 1)) := by decide +kernel
theorem tx_f8 : (flatC tx_C)[5]? = some (Cond.isRef (.static "jdk/internal/util/Preconditions" "SIOOBE_FORMATTER" "Ljava/util/function/BiFunction;")) := by decide +kernel
theorem tx_start {args : Array Value} {s : State} (hts : ∀ w ∈ lw_tbl, w.before args s = true) (hgv : tx_C.before args s = true) : ∃ (adK adV : Nat → Nat) (fm : Value), (fm = .null ∨ ∃ t, fm = .ref t) ∧ tx_ST s.heap.size adK adV fm s ∧ (∃ txt, vk_R "IceTunes$Tokens" 60 txt (adK 0) s) ∧ ∃ txt, vk_R "IceTunes$Tokens" 48 txt (adK 1) s := by
  have htw : ∀ w ∈ wt, w.before args s = true := fun w h => hts w (wt_tbl h)
  have hs := flat_of_before _ hgv
  have hm : ∀ {k : Nat} {c : Jvm.Cond}, (flatC tx_C)[k]? = some c → c.before args s = true := fun h => hs _ (List.mem_of_getElem? h)
  have hA : ∀ a : Nat, a < s.heap.size → ¬ s.heap.size ≤ a := fun a h => Nat.not_le.mpr h
  obtain ⟨adK, adV, hv, he⟩ := vk_Sof (args := args) (s := s) (N := 2) (tm := tx_tm) (len := TL) (byt := TX) (A := fun q => s.heap.size ≤ q) (by decide +kernel) (fun i hi => hm (tx_f1 i hi)) (fun i hi => hm (tx_f2 i hi)) (fun i hi => hm (tx_f3 i hi)) (fun i hi => hm (tx_f4 i hi)) (fun i hi j hj => hm (tx_f5 i hi j hj)) (fun i j hi hj hne => by
    match i, j, hi, hj, hne with
    | 0, 0, _, _, h => exact absurd rfl h
    | 1, 1, _, _, h => exact absurd rfl h
    | 0, 1, _, _, _ => exact Or.inl (hm tx_f6)
    | 1, 0, _, _, _ => exact Or.inr (hm tx_f6)
    | 0, j + 2, _, hj, _ => omega
    | 1, j + 2, _, hj, _ => omega
    | i + 2, _, hi, _, _ => omega) hA
  have hc := va_Zof (A := fun q => s.heap.size ≤ q) (hts _ (List.mem_of_getElem? (i := 693) (show lw_tbl[693]? = some (Cond.laysStatic "java/lang/String" "COMPACT_STRINGS" "Z") by decide +kernel))) (htw _ wm_163) (va_eqt (hm tx_f7)) hA
  have hq := va_Zqof (A := fun q => s.heap.size ≤ q) (hts _ (List.mem_of_getElem? (i := 709) (show lw_tbl[709]? = some (Cond.laysStatic "jdk/internal/util/Preconditions" "SIOOBE_FORMATTER" "Ljava/util/function/BiFunction;") by decide +kernel))) (htw _ wm_165) (hm tx_f8) hA
  have k0 : ∃ txt, vk_R "IceTunes$Tokens" 60 txt (adK 0) s := ⟨_, vk_R.of (hts _ (List.mem_of_getElem? (i := 683) (show lw_tbl[683]? = some (Cond.stringRef "IceTunes$Tokens" 60 "pond    by      cell    plank   at      tune    bars    silence skater  weight  stay    north   east    south   west    or      and     not     ice     beat    load    around  ") by decide +kernel))) (he 0 (by decide))⟩
  have k1 : ∃ txt, vk_R "IceTunes$Tokens" 48 txt (adK 1) s := ⟨_, vk_R.of (hts _ (List.mem_of_getElem? (i := 740) (show lw_tbl[740]? = some (Cond.stringRef "IceTunes$Tokens" 48 ";()<>=+-*/%") by decide +kernel))) (he 1 (by decide))⟩
  rcases hq with hq | ⟨t, hq⟩
  · exact ⟨adK, adV, .null, Or.inl rfl, ⟨Nat.le_refl _, hv, hc, hq⟩, k0, k1⟩
  · exact ⟨adK, adV, .ref t, Or.inr ⟨t, rfl⟩, ⟨Nat.le_refl _, hv, hc, hq⟩, k0, k1⟩

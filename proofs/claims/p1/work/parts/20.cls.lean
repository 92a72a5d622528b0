abbrev P_X5_hasCell (G : va_G) (cI cZ cB cJ cE : ClassId) (po : Nat) (pc : Nat) (pp : Nat) (pb : Nat) (pw : Nat) (ph : Nat) (ps : Nat) (pn : Nat) (pk : Nat) (pf : Nat) (pt : Nat) (a : Int32) (b : Int32) : (Nat → Prop) → Int32 → Heap → Prop := fun (A1 : Nat → Prop) (v : Int32) (H1 : Heap) => v = 0 ∧ va_P G classes [(po, .inr (5, [.int 0, .int 0, .int (-1), .ref pc, .ref pp, .int 0, .int 0, .ref pb, .int 0, .int 0, .ref pw, .ref ph, .ref ps, .ref pn, .int 0, .ref pk, .int 0, .ref pf, .ref pt]))] H1 ∧ va_D A1 [(po, .inr (5, [.int 0, .int 0, .int (-1), .ref pc, .ref pp, .int 0, .int 0, .ref pb, .int 0, .int 0, .ref pw, .ref ph, .ref ps, .ref pn, .int 0, .ref pk, .int 0, .ref pf, .ref pt]))]
set_option maxHeartbeats 4000000 in
set_option maxRecDepth 100000 in
/-- IceTunes$Pond.hasCell -/
theorem c_X5_hasCell (l : Launch) (G : va_G) (cI cZ cB cJ cE : ClassId) (po : Nat) (pc : Nat) (pp : Nat) (pb : Nat) (pw : Nat) (ph : Nat) (ps : Nat) (pn : Nat) (pk : Nat) (pf : Nat) (pt : Nat) (a : Int32) (b : Int32) (sz : Nat)  : Met l yX5_hasCell (.code yX5_hasCell cX5_hasCell 3 (some .boolean) :: wt) ({ frames := 0, cells := 0, slots := 0, locals := 0 }) (va_Pc [.ref po, .int a, .int b] (PreW G cI cZ cB cJ cE [(po, .inr (5, [.int 0, .int 0, .int (-1), .ref pc, .ref pp, .int 0, .int 0, .ref pb, .int 0, .int 0, .ref pw, .ref ph, .ref ps, .ref pn, .int 0, .ref pk, .int 0, .ref pf, .ref pt]))] sz)) (QI ((P_X5_hasCell G cI cZ cB cJ cE po pc pp pb pw ph ps pn pk pf pt a b) (va_A [(po, .inr (5, [.int 0, .int 0, .int (-1), .ref pc, .ref pp, .int 0, .int 0, .ref pb, .int 0, .int 0, .ref pw, .ref ph, .ref ps, .ref pn, .int 0, .ref pk, .int 0, .ref pf, .ref pt]))] sz)) (va_A [(po, .inr (5, [.int 0, .int 0, .int (-1), .ref pc, .ref pp, .int 0, .int 0, .ref pb, .int 0, .int 0, .ref pw, .ref ph, .ref ps, .ref pn, .int 0, .ref pk, .int 0, .ref pf, .ref pt]))] sz)) 0 0 (va_A [(po, .inr (5, [.int 0, .int 0, .int (-1), .ref pc, .ref pp, .int 0, .int 0, .ref pb, .int 0, .int 0, .ref pw, .ref ph, .ref ps, .ref pn, .int 0, .ref pk, .int 0, .ref pf, .ref pt]))] sz) := by
  refine mk_i (P := P_X5_hasCell G cI cZ cB cJ cE po pc pp pb pw ph ps pn pk pf pt a b) (rm := { frames := 0, cells := 0, slots := 0, locals := 0 }) (by decide) (Nat.le_of_ble_eq_true rfl) ?_
  intro p e s m args below meth c R Q A H locs ls hx hb hml htw hown hK hR hA hret hP hD hS hl
  have hRf : 0 ≤ R.frames := hR.1
  have hRl : 0 ≤ R.locals := hR.2.1
  have hRc : R.cells = 0 := hR.2.2.1
  have hRs : R.slots = 0 := hR.2.2.2
  have hl : lv_has ls 3 [(0, .ref po), (1, .int a), (2, .int b)] := hl
  refine lv_iload_n hx hb dX5_hasCell_0 rfl (lv_at hl 1 rfl) ?_
  refine lv_if_lt (tgt := 28) hx hb dX5_hasCell_1 (by decide) (fun c_1 => ?_) (fun c_1 => ?_)
  · refine lv_iconst (v := 0) hx hb dX5_hasCell_28 (by decide) ?_
    exact hret 0 _ _ _ _ _ _ dX5_hasCell_29 rfl (show 0 ≤ 0 by omega) (show 0 ≤ 0 by omega) ⟨rfl, hP.sub [0] rfl, hD.sub [0] (by decide) rfl⟩ hS
  · refine lv_iload_n hx hb dX5_hasCell_4 rfl (lv_at hl 1 rfl) ?_
    refine W.eq (g2 := F0 m 5 ls [.int a]) rfl ?_
    refine lv_aload_n hx hb dX5_hasCell_5 rfl (lv_at hl 0 rfl) ?_
    refine va_get (D := G) (ci := 5) (v := .int 0) (C := RX5) (T := TX5) (N := 19) hx hb htw in_X5 hown hK.1 hP 0 rfl rfl 0 (by decide) (htw _ wm_188) (fun _ h9 => h9) rfl dX5_hasCell_6 ?_
    refine lv_icmp_ge (tgt := 28) hx hb dX5_hasCell_9 (by decide) (fun _ => ?_) (fun c_2 => absurd (by have e0 : (0 : Int32).toInt = 0 := (by decide); have t1 := mt Int32.lt_iff_toInt_lt.mpr c_1; rw [Int32.le_iff_toInt_le]; omega) c_2)
    refine lv_iconst (v := 0) hx hb dX5_hasCell_28 (by decide) ?_
    exact hret 0 _ _ _ _ _ _ dX5_hasCell_29 rfl (show 0 ≤ 0 by omega) (show 0 ≤ 0 by omega) ⟨rfl, hP.sub [0] rfl, hD.sub [0] (by decide) rfl⟩ hS

abbrev P_X5_hasTune (G : va_G) (cI cZ cB cJ cE : ClassId) (po : Nat) (pc : Nat) (pp : Nat) (pb : Nat) (pw : Nat) (ph : Nat) (ps : Nat) (pn : Nat) (pk : Nat) (pf : Nat) (pt : Nat) (a : Int32) : (Nat → Prop) → Int32 → Heap → Prop := fun (A1 : Nat → Prop) (v : Int32) (H1 : Heap) => v = 0 ∧ va_P G classes [(po, .inr (5, [.int 0, .int 0, .int (-1), .ref pc, .ref pp, .int 0, .int 0, .ref pb, .int 0, .int 0, .ref pw, .ref ph, .ref ps, .ref pn, .int 0, .ref pk, .int 0, .ref pf, .ref pt]))] H1 ∧ va_D A1 [(po, .inr (5, [.int 0, .int 0, .int (-1), .ref pc, .ref pp, .int 0, .int 0, .ref pb, .int 0, .int 0, .ref pw, .ref ph, .ref ps, .ref pn, .int 0, .ref pk, .int 0, .ref pf, .ref pt]))]
set_option maxHeartbeats 4000000 in
set_option maxRecDepth 100000 in
/-- IceTunes$Pond.hasTune -/
theorem c_X5_hasTune (l : Launch) (G : va_G) (cI cZ cB cJ cE : ClassId) (po : Nat) (pc : Nat) (pp : Nat) (pb : Nat) (pw : Nat) (ph : Nat) (ps : Nat) (pn : Nat) (pk : Nat) (pf : Nat) (pt : Nat) (a : Int32) (sz : Nat)  : Met l yX5_hasTune (.code yX5_hasTune cX5_hasTune 2 (some .boolean) :: wt) ({ frames := 0, cells := 0, slots := 0, locals := 0 }) (va_Pc [.ref po, .int a] (PreW G cI cZ cB cJ cE [(po, .inr (5, [.int 0, .int 0, .int (-1), .ref pc, .ref pp, .int 0, .int 0, .ref pb, .int 0, .int 0, .ref pw, .ref ph, .ref ps, .ref pn, .int 0, .ref pk, .int 0, .ref pf, .ref pt]))] sz)) (QI ((P_X5_hasTune G cI cZ cB cJ cE po pc pp pb pw ph ps pn pk pf pt a) (va_A [(po, .inr (5, [.int 0, .int 0, .int (-1), .ref pc, .ref pp, .int 0, .int 0, .ref pb, .int 0, .int 0, .ref pw, .ref ph, .ref ps, .ref pn, .int 0, .ref pk, .int 0, .ref pf, .ref pt]))] sz)) (va_A [(po, .inr (5, [.int 0, .int 0, .int (-1), .ref pc, .ref pp, .int 0, .int 0, .ref pb, .int 0, .int 0, .ref pw, .ref ph, .ref ps, .ref pn, .int 0, .ref pk, .int 0, .ref pf, .ref pt]))] sz)) 0 0 (va_A [(po, .inr (5, [.int 0, .int 0, .int (-1), .ref pc, .ref pp, .int 0, .int 0, .ref pb, .int 0, .int 0, .ref pw, .ref ph, .ref ps, .ref pn, .int 0, .ref pk, .int 0, .ref pf, .ref pt]))] sz) := by
  refine mk_i (P := P_X5_hasTune G cI cZ cB cJ cE po pc pp pb pw ph ps pn pk pf pt a) (rm := { frames := 0, cells := 0, slots := 0, locals := 0 }) (by decide) (Nat.le_of_ble_eq_true rfl) ?_
  intro p e s m args below meth c R Q A H locs ls hx hb hml htw hown hK hR hA hret hP hD hS hl
  have hRf : 0 ≤ R.frames := hR.1
  have hRl : 0 ≤ R.locals := hR.2.1
  have hRc : R.cells = 0 := hR.2.2.1
  have hRs : R.slots = 0 := hR.2.2.2
  have hl : lv_has ls 2 [(0, .ref po), (1, .int a)] := hl
  refine lv_iload_n hx hb dX5_hasTune_0 rfl (lv_at hl 1 rfl) ?_
  refine lv_if_lt (tgt := 16) hx hb dX5_hasTune_1 (by decide) (fun c_1 => ?_) (fun c_1 => ?_)
  · refine lv_iconst (v := 0) hx hb dX5_hasTune_16 (by decide) ?_
    exact hret 0 _ _ _ _ _ _ dX5_hasTune_17 rfl (show 0 ≤ 0 by omega) (show 0 ≤ 0 by omega) ⟨rfl, hP.sub [0] rfl, hD.sub [0] (by decide) rfl⟩ hS
  · refine lv_iload_n hx hb dX5_hasTune_4 rfl (lv_at hl 1 rfl) ?_
    refine W.eq (g2 := F0 m 5 ls [.int a]) rfl ?_
    refine lv_aload_n hx hb dX5_hasTune_5 rfl (lv_at hl 0 rfl) ?_
    refine va_get (D := G) (ci := 5) (v := .int 0) (C := RX5) (T := TX5) (N := 19) hx hb htw in_X5 hown hK.1 hP 0 rfl rfl 6 (by decide) (htw _ wm_206) (fun _ h9 => h9) rfl dX5_hasTune_6 ?_
    refine lv_icmp_ge (tgt := 16) hx hb dX5_hasTune_9 (by decide) (fun _ => ?_) (fun c_2 => absurd (by have e0 : (0 : Int32).toInt = 0 := (by decide); have t1 := mt Int32.lt_iff_toInt_lt.mpr c_1; rw [Int32.le_iff_toInt_le]; omega) c_2)
    refine lv_iconst (v := 0) hx hb dX5_hasTune_16 (by decide) ?_
    exact hret 0 _ _ _ _ _ _ dX5_hasTune_17 rfl (show 0 ≤ 0 by omega) (show 0 ≤ 0 by omega) ⟨rfl, hP.sub [0] rfl, hD.sub [0] (by decide) rfl⟩ hS

abbrev P_X5_hasSkater (G : va_G) (cI cZ cB cJ cE : ClassId) (po : Nat) (pc : Nat) (pp : Nat) (pb : Nat) (pw : Nat) (ph : Nat) (ps : Nat) (pn : Nat) (pk : Nat) (pf : Nat) (pt : Nat) (a : Int32) : (Nat → Prop) → Int32 → Heap → Prop := fun (A1 : Nat → Prop) (v : Int32) (H1 : Heap) => v = 0 ∧ va_P G classes [(po, .inr (5, [.int 0, .int 0, .int (-1), .ref pc, .ref pp, .int 0, .int 0, .ref pb, .int 0, .int 0, .ref pw, .ref ph, .ref ps, .ref pn, .int 0, .ref pk, .int 0, .ref pf, .ref pt]))] H1 ∧ va_D A1 [(po, .inr (5, [.int 0, .int 0, .int (-1), .ref pc, .ref pp, .int 0, .int 0, .ref pb, .int 0, .int 0, .ref pw, .ref ph, .ref ps, .ref pn, .int 0, .ref pk, .int 0, .ref pf, .ref pt]))]
set_option maxHeartbeats 4000000 in
set_option maxRecDepth 100000 in
/-- IceTunes$Pond.hasSkater -/
theorem c_X5_hasSkater (l : Launch) (G : va_G) (cI cZ cB cJ cE : ClassId) (po : Nat) (pc : Nat) (pp : Nat) (pb : Nat) (pw : Nat) (ph : Nat) (ps : Nat) (pn : Nat) (pk : Nat) (pf : Nat) (pt : Nat) (a : Int32) (sz : Nat)  : Met l yX5_hasSkater (.code yX5_hasSkater cX5_hasSkater 2 (some .boolean) :: wt) ({ frames := 0, cells := 0, slots := 0, locals := 0 }) (va_Pc [.ref po, .int a] (PreW G cI cZ cB cJ cE [(po, .inr (5, [.int 0, .int 0, .int (-1), .ref pc, .ref pp, .int 0, .int 0, .ref pb, .int 0, .int 0, .ref pw, .ref ph, .ref ps, .ref pn, .int 0, .ref pk, .int 0, .ref pf, .ref pt]))] sz)) (QI ((P_X5_hasSkater G cI cZ cB cJ cE po pc pp pb pw ph ps pn pk pf pt a) (va_A [(po, .inr (5, [.int 0, .int 0, .int (-1), .ref pc, .ref pp, .int 0, .int 0, .ref pb, .int 0, .int 0, .ref pw, .ref ph, .ref ps, .ref pn, .int 0, .ref pk, .int 0, .ref pf, .ref pt]))] sz)) (va_A [(po, .inr (5, [.int 0, .int 0, .int (-1), .ref pc, .ref pp, .int 0, .int 0, .ref pb, .int 0, .int 0, .ref pw, .ref ph, .ref ps, .ref pn, .int 0, .ref pk, .int 0, .ref pf, .ref pt]))] sz)) 0 0 (va_A [(po, .inr (5, [.int 0, .int 0, .int (-1), .ref pc, .ref pp, .int 0, .int 0, .ref pb, .int 0, .int 0, .ref pw, .ref ph, .ref ps, .ref pn, .int 0, .ref pk, .int 0, .ref pf, .ref pt]))] sz) := by
  refine mk_i (P := P_X5_hasSkater G cI cZ cB cJ cE po pc pp pb pw ph ps pn pk pf pt a) (rm := { frames := 0, cells := 0, slots := 0, locals := 0 }) (by decide) (Nat.le_of_ble_eq_true rfl) ?_
  intro p e s m args below meth c R Q A H locs ls hx hb hml htw hown hK hR hA hret hP hD hS hl
  have hRf : 0 ≤ R.frames := hR.1
  have hRl : 0 ≤ R.locals := hR.2.1
  have hRc : R.cells = 0 := hR.2.2.1
  have hRs : R.slots = 0 := hR.2.2.2
  have hl : lv_has ls 2 [(0, .ref po), (1, .int a)] := hl
  refine lv_iload_n hx hb dX5_hasSkater_0 rfl (lv_at hl 1 rfl) ?_
  refine lv_if_lt (tgt := 16) hx hb dX5_hasSkater_1 (by decide) (fun c_1 => ?_) (fun c_1 => ?_)
  · refine lv_iconst (v := 0) hx hb dX5_hasSkater_16 (by decide) ?_
    exact hret 0 _ _ _ _ _ _ dX5_hasSkater_17 rfl (show 0 ≤ 0 by omega) (show 0 ≤ 0 by omega) ⟨rfl, hP.sub [0] rfl, hD.sub [0] (by decide) rfl⟩ hS
  · refine lv_iload_n hx hb dX5_hasSkater_4 rfl (lv_at hl 1 rfl) ?_
    refine W.eq (g2 := F0 m 5 ls [.int a]) rfl ?_
    refine lv_aload_n hx hb dX5_hasSkater_5 rfl (lv_at hl 0 rfl) ?_
    refine va_get (D := G) (ci := 5) (v := .int 0) (C := RX5) (T := TX5) (N := 19) hx hb htw in_X5 hown hK.1 hP 0 rfl rfl 9 (by decide) (htw _ wm_219) (fun _ h9 => h9) rfl dX5_hasSkater_6 ?_
    refine lv_icmp_ge (tgt := 16) hx hb dX5_hasSkater_9 (by decide) (fun _ => ?_) (fun c_2 => absurd (by have e0 : (0 : Int32).toInt = 0 := (by decide); have t1 := mt Int32.lt_iff_toInt_lt.mpr c_1; rw [Int32.le_iff_toInt_le]; omega) c_2)
    refine lv_iconst (v := 0) hx hb dX5_hasSkater_16 (by decide) ?_
    exact hret 0 _ _ _ _ _ _ dX5_hasSkater_17 rfl (show 0 ≤ 0 by omega) (show 0 ≤ 0 by omega) ⟨rfl, hP.sub [0] rfl, hD.sub [0] (by decide) rfl⟩ hS

abbrev P_X5_hasTunes1 (G : va_G) (cI cZ cB cJ cE : ClassId) (po : Nat) (pc : Nat) (pp : Nat) (pb : Nat) (pw : Nat) (ph : Nat) (ps : Nat) (pn : Nat) (pk : Nat) (pf : Nat) (pt : Nat) : (Nat → Prop) → Int32 → Heap → Prop := fun (A1 : Nat → Prop) (v : Int32) (H1 : Heap) => v = 1 ∧ va_P G classes [(po, .inr (5, [.int 0, .int 0, .int (-1), .ref pc, .ref pp, .int 0, .int 0, .ref pb, .int 0, .int 0, .ref pw, .ref ph, .ref ps, .ref pn, .int 0, .ref pk, .int 0, .ref pf, .ref pt]))] H1 ∧ va_D A1 [(po, .inr (5, [.int 0, .int 0, .int (-1), .ref pc, .ref pp, .int 0, .int 0, .ref pb, .int 0, .int 0, .ref pw, .ref ph, .ref ps, .ref pn, .int 0, .ref pk, .int 0, .ref pf, .ref pt]))]
set_option maxHeartbeats 4000000 in
set_option maxRecDepth 100000 in
/-- IceTunes$Pond.hasTunes -/
theorem c_X5_hasTunes1 (l : Launch) (G : va_G) (cI cZ cB cJ cE : ClassId) (po : Nat) (pc : Nat) (pp : Nat) (pb : Nat) (pw : Nat) (ph : Nat) (ps : Nat) (pn : Nat) (pk : Nat) (pf : Nat) (pt : Nat) (sz : Nat)  : Met l yX5_hasTunes (.code yX5_hasTunes cX5_hasTunes 2 (some .boolean) :: wt) ({ frames := 0, cells := 0, slots := 0, locals := 0 }) (va_Pc [.ref po, .int 0] (PreW G cI cZ cB cJ cE [(po, .inr (5, [.int 0, .int 0, .int (-1), .ref pc, .ref pp, .int 0, .int 0, .ref pb, .int 0, .int 0, .ref pw, .ref ph, .ref ps, .ref pn, .int 0, .ref pk, .int 0, .ref pf, .ref pt]))] sz)) (QI ((P_X5_hasTunes1 G cI cZ cB cJ cE po pc pp pb pw ph ps pn pk pf pt) (va_A [(po, .inr (5, [.int 0, .int 0, .int (-1), .ref pc, .ref pp, .int 0, .int 0, .ref pb, .int 0, .int 0, .ref pw, .ref ph, .ref ps, .ref pn, .int 0, .ref pk, .int 0, .ref pf, .ref pt]))] sz)) (va_A [(po, .inr (5, [.int 0, .int 0, .int (-1), .ref pc, .ref pp, .int 0, .int 0, .ref pb, .int 0, .int 0, .ref pw, .ref ph, .ref ps, .ref pn, .int 0, .ref pk, .int 0, .ref pf, .ref pt]))] sz)) 0 0 (va_A [(po, .inr (5, [.int 0, .int 0, .int (-1), .ref pc, .ref pp, .int 0, .int 0, .ref pb, .int 0, .int 0, .ref pw, .ref ph, .ref ps, .ref pn, .int 0, .ref pk, .int 0, .ref pf, .ref pt]))] sz) := by
  refine mk_i (P := P_X5_hasTunes1 G cI cZ cB cJ cE po pc pp pb pw ph ps pn pk pf pt) (rm := { frames := 0, cells := 0, slots := 0, locals := 0 }) (by decide) (Nat.le_of_ble_eq_true rfl) ?_
  intro p e s m args below meth c R Q A H locs ls hx hb hml htw hown hK hR hA hret hP hD hS hl
  have hRf : 0 ≤ R.frames := hR.1
  have hRl : 0 ≤ R.locals := hR.2.1
  have hRc : R.cells = 0 := hR.2.2.1
  have hRs : R.slots = 0 := hR.2.2.2
  have hl : lv_has ls 2 [(0, .ref po), (1, .int 0)] := hl
  refine lv_iload_n hx hb dX5_hasTunes_0 rfl (lv_at hl 1 rfl) ?_
  refine lv_if_lt (tgt := 18) hx hb dX5_hasTunes_1 (by decide) (fun c_1 => absurd c_1 (by decide)) (fun _ => ?_)
  refine lv_iload_n hx hb dX5_hasTunes_4 rfl (lv_at hl 1 rfl) ?_
  refine lv_iconst (v := 1) hx hb dX5_hasTunes_5 (by decide) ?_
  refine lv_aload_n hx hb dX5_hasTunes_6 rfl (lv_at hl 0 rfl) ?_
  refine W.eq (g2 := F0 m 7 ls [.ref po, .int 1, .int 0]) rfl ?_
  refine va_get (D := G) (ci := 5) (v := .int 0) (C := RX5) (T := TX5) (N := 19) hx hb htw in_X5 hown hK.1 hP 0 rfl rfl 6 (by decide) (htw _ wm_206) (fun _ h9 => h9) rfl dX5_hasTunes_7 ?_
  refine lv_ishl hx hb dX5_hasTunes_10 ?_
  refine lv_topi (fun z_2 hz_2 => ?_)
  obtain rfl : z_2 = 1 := hz_2.trans (by decide)
  refine lv_icmp_ge (tgt := 18) hx hb dX5_hasTunes_11 (by decide) (fun c_3 => absurd c_3 (by decide)) (fun _ => ?_)
  refine lv_iconst (v := 1) hx hb dX5_hasTunes_14 (by decide) ?_
  refine lv_goto (tgt := 19) hx hb dX5_hasTunes_15 (by decide) ?_
  exact hret 1 _ _ _ _ _ _ dX5_hasTunes_19 rfl (show 0 ≤ 0 by omega) (show 0 ≤ 0 by omega) ⟨rfl, hP.sub [0] rfl, hD.sub [0] (by decide) rfl⟩ hS

abbrev P_X5_hasTunes0 (G : va_G) (cI cZ cB cJ cE : ClassId) (po : Nat) (pc : Nat) (pp : Nat) (pb : Nat) (pw : Nat) (ph : Nat) (ps : Nat) (pn : Nat) (pk : Nat) (pf : Nat) (pt : Nat) (a : Int32) : (Nat → Prop) → Int32 → Heap → Prop := fun (A1 : Nat → Prop) (v : Int32) (H1 : Heap) => v = 0 ∧ va_P G classes [(po, .inr (5, [.int 0, .int 0, .int (-1), .ref pc, .ref pp, .int 0, .int 0, .ref pb, .int 0, .int 0, .ref pw, .ref ph, .ref ps, .ref pn, .int 0, .ref pk, .int 0, .ref pf, .ref pt]))] H1 ∧ va_D A1 [(po, .inr (5, [.int 0, .int 0, .int (-1), .ref pc, .ref pp, .int 0, .int 0, .ref pb, .int 0, .int 0, .ref pw, .ref ph, .ref ps, .ref pn, .int 0, .ref pk, .int 0, .ref pf, .ref pt]))]
set_option maxHeartbeats 4000000 in
set_option maxRecDepth 100000 in
/-- IceTunes$Pond.hasTunes -/
theorem c_X5_hasTunes0 (l : Launch) (G : va_G) (cI cZ cB cJ cE : ClassId) (po : Nat) (pc : Nat) (pp : Nat) (pb : Nat) (pw : Nat) (ph : Nat) (ps : Nat) (pn : Nat) (pk : Nat) (pf : Nat) (pt : Nat) (a : Int32) (sz : Nat) (ha : a.toInt ≠ 0) : Met l yX5_hasTunes (.code yX5_hasTunes cX5_hasTunes 2 (some .boolean) :: wt) ({ frames := 0, cells := 0, slots := 0, locals := 0 }) (va_Pc [.ref po, .int a] (PreW G cI cZ cB cJ cE [(po, .inr (5, [.int 0, .int 0, .int (-1), .ref pc, .ref pp, .int 0, .int 0, .ref pb, .int 0, .int 0, .ref pw, .ref ph, .ref ps, .ref pn, .int 0, .ref pk, .int 0, .ref pf, .ref pt]))] sz)) (QI ((P_X5_hasTunes0 G cI cZ cB cJ cE po pc pp pb pw ph ps pn pk pf pt a) (va_A [(po, .inr (5, [.int 0, .int 0, .int (-1), .ref pc, .ref pp, .int 0, .int 0, .ref pb, .int 0, .int 0, .ref pw, .ref ph, .ref ps, .ref pn, .int 0, .ref pk, .int 0, .ref pf, .ref pt]))] sz)) (va_A [(po, .inr (5, [.int 0, .int 0, .int (-1), .ref pc, .ref pp, .int 0, .int 0, .ref pb, .int 0, .int 0, .ref pw, .ref ph, .ref ps, .ref pn, .int 0, .ref pk, .int 0, .ref pf, .ref pt]))] sz)) 0 0 (va_A [(po, .inr (5, [.int 0, .int 0, .int (-1), .ref pc, .ref pp, .int 0, .int 0, .ref pb, .int 0, .int 0, .ref pw, .ref ph, .ref ps, .ref pn, .int 0, .ref pk, .int 0, .ref pf, .ref pt]))] sz) := by
  refine mk_i (P := P_X5_hasTunes0 G cI cZ cB cJ cE po pc pp pb pw ph ps pn pk pf pt a) (rm := { frames := 0, cells := 0, slots := 0, locals := 0 }) (by decide) (Nat.le_of_ble_eq_true rfl) ?_
  intro p e s m args below meth c R Q A H locs ls hx hb hml htw hown hK hR hA hret hP hD hS hl
  have hRf : 0 ≤ R.frames := hR.1
  have hRl : 0 ≤ R.locals := hR.2.1
  have hRc : R.cells = 0 := hR.2.2.1
  have hRs : R.slots = 0 := hR.2.2.2
  have hl : lv_has ls 2 [(0, .ref po), (1, .int a)] := hl
  refine lv_iload_n hx hb dX5_hasTunes_0 rfl (lv_at hl 1 rfl) ?_
  refine lv_if_lt (tgt := 18) hx hb dX5_hasTunes_1 (by decide) (fun c_1 => ?_) (fun c_1 => ?_)
  · refine lv_iconst (v := 0) hx hb dX5_hasTunes_18 (by decide) ?_
    exact hret 0 _ _ _ _ _ _ dX5_hasTunes_19 rfl (show 0 ≤ 0 by omega) (show 0 ≤ 0 by omega) ⟨rfl, hP.sub [0] rfl, hD.sub [0] (by decide) rfl⟩ hS
  · refine lv_iload_n hx hb dX5_hasTunes_4 rfl (lv_at hl 1 rfl) ?_
    refine W.eq (g2 := F0 m 5 ls [.int a]) rfl ?_
    refine lv_iconst (v := 1) hx hb dX5_hasTunes_5 (by decide) ?_
    refine lv_aload_n hx hb dX5_hasTunes_6 rfl (lv_at hl 0 rfl) ?_
    refine va_get (D := G) (ci := 5) (v := .int 0) (C := RX5) (T := TX5) (N := 19) hx hb htw in_X5 hown hK.1 hP 0 rfl rfl 6 (by decide) (htw _ wm_206) (fun _ h9 => h9) rfl dX5_hasTunes_7 ?_
    refine lv_ishl hx hb dX5_hasTunes_10 ?_
    refine lv_topi (fun z_2 hz_2 => ?_)
    obtain rfl : z_2 = 1 := hz_2.trans (by decide)
    refine lv_icmp_ge (tgt := 18) hx hb dX5_hasTunes_11 (by decide) (fun c_3 => ?_) (fun c_3 => ?_)
    · refine lv_iconst (v := 0) hx hb dX5_hasTunes_18 (by decide) ?_
      refine W.eq (g2 := F0 m 19 ls [.int 0]) rfl ?_
      exact hret 0 _ _ _ _ _ _ dX5_hasTunes_19 rfl (show 0 ≤ 0 by omega) (show 0 ≤ 0 by omega) ⟨rfl, hP.sub [0] rfl, hD.sub [0] (by decide) rfl⟩ hS
    · refine lv_iconst (v := 1) hx hb dX5_hasTunes_14 (by decide) ?_
      refine lv_goto (tgt := 19) hx hb dX5_hasTunes_15 (by decide) ?_
      exact hret 1 _ _ _ _ _ _ dX5_hasTunes_19 rfl (show 0 ≤ 0 by omega) (show 0 ≤ 0 by omega) ⟨(by exfalso; have e0 : (0 : Int32).toInt = 0 := (by decide); have t1 := mt Int32.lt_iff_toInt_lt.mpr c_1; have e2 : (1 : Int32).toInt = 1 := (by decide); have t3 := mt Int32.le_iff_toInt_le.mpr c_3; omega), hP.sub [0] rfl, hD.sub [0] (by decide) rfl⟩ hS

abbrev P_X2_countUp (G : va_G) (cI cZ cB cJ cE : ClassId) (h : Nat) (po : Nat) (ui : Nat) (us : Nat) (ub : Nat) (ut : Nat) (ue : Nat) (pc : Nat) (pp : Nat) (pb : Nat) (pw : Nat) (ph : Nat) (ps : Nat) (pn : Nat) (pk : Nat) (pf : Nat) (pt : Nat) (b0 : Int32) : (Nat → Prop) → Int32 → Heap → Prop := fun (A1 : Nat → Prop) (v : Int32) (H1 : Heap) => v = 0 ∧ va_P G classes [(h, .inr (2, [.int b0, .int 0, .ref ui, .ref us, .ref ub, .ref ut, .ref ue])), (po, .inr (5, [.int 0, .int 0, .int (-1), .ref pc, .ref pp, .int 0, .int 0, .ref pb, .int 0, .int 0, .ref pw, .ref ph, .ref ps, .ref pn, .int 0, .ref pk, .int 0, .ref pf, .ref pt]))] H1 ∧ va_D A1 [(h, .inr (2, [.int b0, .int 0, .ref ui, .ref us, .ref ub, .ref ut, .ref ue])), (po, .inr (5, [.int 0, .int 0, .int (-1), .ref pc, .ref pp, .int 0, .int 0, .ref pb, .int 0, .int 0, .ref pw, .ref ph, .ref ps, .ref pn, .int 0, .ref pk, .int 0, .ref pf, .ref pt]))]
set_option maxHeartbeats 4000000 in
set_option maxRecDepth 100000 in
/-- IceTunes$Evening.countUp -/
theorem c_X2_countUp (l : Launch) (G : va_G) (cI cZ cB cJ cE : ClassId) (h : Nat) (po : Nat) (ui : Nat) (us : Nat) (ub : Nat) (ut : Nat) (ue : Nat) (pc : Nat) (pp : Nat) (pb : Nat) (pw : Nat) (ph : Nat) (ps : Nat) (pn : Nat) (pk : Nat) (pf : Nat) (pt : Nat) (b0 : Int32) (sz : Nat)  : Met l yX2_countUp (.code yX2_countUp cX2_countUp 2 (some .int) :: wt) ({ frames := 0, cells := 0, slots := 0, locals := 0 }) (va_Pc [.ref h, .ref po] (PreW G cI cZ cB cJ cE [(h, .inr (2, [.int b0, .int 0, .ref ui, .ref us, .ref ub, .ref ut, .ref ue])), (po, .inr (5, [.int 0, .int 0, .int (-1), .ref pc, .ref pp, .int 0, .int 0, .ref pb, .int 0, .int 0, .ref pw, .ref ph, .ref ps, .ref pn, .int 0, .ref pk, .int 0, .ref pf, .ref pt]))] sz)) (QI ((P_X2_countUp G cI cZ cB cJ cE h po ui us ub ut ue pc pp pb pw ph ps pn pk pf pt b0) (va_A [(h, .inr (2, [.int b0, .int 0, .ref ui, .ref us, .ref ub, .ref ut, .ref ue])), (po, .inr (5, [.int 0, .int 0, .int (-1), .ref pc, .ref pp, .int 0, .int 0, .ref pb, .int 0, .int 0, .ref pw, .ref ph, .ref ps, .ref pn, .int 0, .ref pk, .int 0, .ref pf, .ref pt]))] sz)) (va_A [(h, .inr (2, [.int b0, .int 0, .ref ui, .ref us, .ref ub, .ref ut, .ref ue])), (po, .inr (5, [.int 0, .int 0, .int (-1), .ref pc, .ref pp, .int 0, .int 0, .ref pb, .int 0, .int 0, .ref pw, .ref ph, .ref ps, .ref pn, .int 0, .ref pk, .int 0, .ref pf, .ref pt]))] sz)) 0 0 (va_A [(h, .inr (2, [.int b0, .int 0, .ref ui, .ref us, .ref ub, .ref ut, .ref ue])), (po, .inr (5, [.int 0, .int 0, .int (-1), .ref pc, .ref pp, .int 0, .int 0, .ref pb, .int 0, .int 0, .ref pw, .ref ph, .ref ps, .ref pn, .int 0, .ref pk, .int 0, .ref pf, .ref pt]))] sz) := by
  refine mk_i (P := P_X2_countUp G cI cZ cB cJ cE h po ui us ub ut ue pc pp pb pw ph ps pn pk pf pt b0) (rm := { frames := 0, cells := 0, slots := 0, locals := 0 }) (by decide) (Nat.le_of_ble_eq_true rfl) ?_
  intro p e s m args below meth c R Q A H locs ls hx hb hml htw hown hK hR hA hret hP hD hS hl
  have hRf : 0 ≤ R.frames := hR.1
  have hRl : 0 ≤ R.locals := hR.2.1
  have hRc : R.cells = 0 := hR.2.2.1
  have hRs : R.slots = 0 := hR.2.2.2
  have hl : lv_has ls 2 [(0, .ref h), (1, .ref po)] := hl
  refine lv_aload_n hx hb dX2_countUp_0 rfl (lv_at hl 1 rfl) ?_
  refine va_getN (D := G) (ci := 5) (v := .int 0) (C := RX5) (T := TX5) (N := 19) hx hb htw in_X5 hown hK.1 hP 1 rfl rfl 9 (by decide) (va_Nw.use rfl (hK.2.1 _ nm_218)) (fun _ h9 => h9) rfl dX2_countUp_1 ?_
  refine lv_aload_n hx hb dX2_countUp_4 rfl (lv_at hl 0 rfl) ?_
  refine va_get (D := G) (ci := 2) (v := .int 0) (C := RX2) (T := TX2) (N := 7) hx hb htw in_X2 hown hK.1 hP 0 rfl rfl 1 (by decide) (htw _ wm_409) (fun _ h9 => h9) rfl dX2_countUp_5 ?_
  refine lv_isub hx hb dX2_countUp_8 ?_
  refine lv_topi (fun z_1 hz_1 => ?_)
  obtain rfl : z_1 = 0 := hz_1.trans (by decide)
  refine W.eq (g2 := F0 m 9 ls [.int 0]) rfl ?_
  exact hret 0 _ _ _ _ _ _ dX2_countUp_9 rfl (show 0 ≤ 0 by omega) (show 0 ≤ 0 by omega) ⟨rfl, hP.sub [0, 1] rfl, hD.sub [0, 1] (by decide) rfl⟩ hS

abbrev P_X2_copy (G : va_G) (cI cZ cB cJ cE : ClassId) (h : Nat) (o : Nat) (ui : Nat) (us : Nat) (ub : Nat) (ut : Nat) (ue : Nat) (vi : Nat) (vs : Nat) (vb : Nat) (vt : Nat) (ve : Nat) (b0 : Int32) (n0 : Int32) (b1 : Int32) (n1 : Int32) (fi : Nat → Int32) (fs : Nat → Int32) (fb : Nat → Int32) (ft : Nat → Int32) (fe : Nat → Int32) (gi : Nat → Int32) (gs : Nat → Int32) (gb : Nat → Int32) (gt : Nat → Int32) (ge : Nat → Int32) : (Nat → Prop) → Heap → Prop := fun (A1 : Nat → Prop) (H1 : Heap) => ∃ (ki : Nat → Int32) (ks : Nat → Int32) (kb : Nat → Int32) (kt : Nat → Int32) (ke : Nat → Int32), va_P G classes [(h, .inr (2, [.int b1, .int n1, .ref ui, .ref us, .ref ub, .ref ut, .ref ue])), (ui, .inl (cI, 25, .inl ki)), (us, .inl (cI, 6, .inl ks)), (ub, .inl (cI, 6, .inl kb)), (ut, .inl (cI, 6, .inl kt)), (ue, .inl (cI, 6, .inl ke)), (o, .inr (2, [.int b1, .int n1, .ref vi, .ref vs, .ref vb, .ref vt, .ref ve])), (vi, .inl (cI, 25, .inl gi)), (vs, .inl (cI, 6, .inl gs)), (vb, .inl (cI, 6, .inl gb)), (vt, .inl (cI, 6, .inl gt)), (ve, .inl (cI, 6, .inl ge))] H1 ∧ va_D A1 [(h, .inr (2, [.int b1, .int n1, .ref ui, .ref us, .ref ub, .ref ut, .ref ue])), (ui, .inl (cI, 25, .inl ki)), (us, .inl (cI, 6, .inl ks)), (ub, .inl (cI, 6, .inl kb)), (ut, .inl (cI, 6, .inl kt)), (ue, .inl (cI, 6, .inl ke)), (o, .inr (2, [.int b1, .int n1, .ref vi, .ref vs, .ref vb, .ref vt, .ref ve])), (vi, .inl (cI, 25, .inl gi)), (vs, .inl (cI, 6, .inl gs)), (vb, .inl (cI, 6, .inl gb)), (vt, .inl (cI, 6, .inl gt)), (ve, .inl (cI, 6, .inl ge))]
set_option maxHeartbeats 4000000 in
set_option maxRecDepth 100000 in
/-- IceTunes$Evening.copy -/
theorem c_X2_copy (l : Launch) (G : va_G) (cI cZ cB cJ cE : ClassId) (h : Nat) (o : Nat) (ui : Nat) (us : Nat) (ub : Nat) (ut : Nat) (ue : Nat) (vi : Nat) (vs : Nat) (vb : Nat) (vt : Nat) (ve : Nat) (b0 : Int32) (n0 : Int32) (b1 : Int32) (n1 : Int32) (fi : Nat → Int32) (fs : Nat → Int32) (fb : Nat → Int32) (ft : Nat → Int32) (fe : Nat → Int32) (gi : Nat → Int32) (gs : Nat → Int32) (gb : Nat → Int32) (gt : Nat → Int32) (ge : Nat → Int32) (sz : Nat)  : Met l yX2_copy (.code yX2_copy cX2_copy 2 none :: wt) ({ frames := 1, cells := 0, slots := 0, locals := 40 }) (va_Pc [.ref h, .ref o] (PreW G cI cZ cB cJ cE [(h, .inr (2, [.int b0, .int n0, .ref ui, .ref us, .ref ub, .ref ut, .ref ue])), (ui, .inl (cI, 25, .inl fi)), (us, .inl (cI, 6, .inl fs)), (ub, .inl (cI, 6, .inl fb)), (ut, .inl (cI, 6, .inl ft)), (ue, .inl (cI, 6, .inl fe)), (o, .inr (2, [.int b1, .int n1, .ref vi, .ref vs, .ref vb, .ref vt, .ref ve])), (vi, .inl (cI, 25, .inl gi)), (vs, .inl (cI, 6, .inl gs)), (vb, .inl (cI, 6, .inl gb)), (vt, .inl (cI, 6, .inl gt)), (ve, .inl (cI, 6, .inl ge))] sz)) (QV ((P_X2_copy G cI cZ cB cJ cE h o ui us ub ut ue vi vs vb vt ve b0 n0 b1 n1 fi fs fb ft fe gi gs gb gt ge) (va_A [(h, .inr (2, [.int b0, .int n0, .ref ui, .ref us, .ref ub, .ref ut, .ref ue])), (ui, .inl (cI, 25, .inl fi)), (us, .inl (cI, 6, .inl fs)), (ub, .inl (cI, 6, .inl fb)), (ut, .inl (cI, 6, .inl ft)), (ue, .inl (cI, 6, .inl fe)), (o, .inr (2, [.int b1, .int n1, .ref vi, .ref vs, .ref vb, .ref vt, .ref ve])), (vi, .inl (cI, 25, .inl gi)), (vs, .inl (cI, 6, .inl gs)), (vb, .inl (cI, 6, .inl gb)), (vt, .inl (cI, 6, .inl gt)), (ve, .inl (cI, 6, .inl ge))] sz)) (va_A [(h, .inr (2, [.int b0, .int n0, .ref ui, .ref us, .ref ub, .ref ut, .ref ue])), (ui, .inl (cI, 25, .inl fi)), (us, .inl (cI, 6, .inl fs)), (ub, .inl (cI, 6, .inl fb)), (ut, .inl (cI, 6, .inl ft)), (ue, .inl (cI, 6, .inl fe)), (o, .inr (2, [.int b1, .int n1, .ref vi, .ref vs, .ref vb, .ref vt, .ref ve])), (vi, .inl (cI, 25, .inl gi)), (vs, .inl (cI, 6, .inl gs)), (vb, .inl (cI, 6, .inl gb)), (vt, .inl (cI, 6, .inl gt)), (ve, .inl (cI, 6, .inl ge))] sz)) 0 0 (va_A [(h, .inr (2, [.int b0, .int n0, .ref ui, .ref us, .ref ub, .ref ut, .ref ue])), (ui, .inl (cI, 25, .inl fi)), (us, .inl (cI, 6, .inl fs)), (ub, .inl (cI, 6, .inl fb)), (ut, .inl (cI, 6, .inl ft)), (ue, .inl (cI, 6, .inl fe)), (o, .inr (2, [.int b1, .int n1, .ref vi, .ref vs, .ref vb, .ref vt, .ref ve])), (vi, .inl (cI, 25, .inl gi)), (vs, .inl (cI, 6, .inl gs)), (vb, .inl (cI, 6, .inl gb)), (vt, .inl (cI, 6, .inl gt)), (ve, .inl (cI, 6, .inl ge))] sz) := by
  refine mk_v (P := P_X2_copy G cI cZ cB cJ cE h o ui us ub ut ue vi vs vb vt ve b0 n0 b1 n1 fi fs fb ft fe gi gs gb gt ge) (rm := { frames := 1, cells := 0, slots := 0, locals := 40 }) (by decide) (Nat.le_of_ble_eq_true rfl) ?_
  intro p e s m args below meth c R Q A H locs ls hx hb hml htw hown hK hR hA hin hret hP hD hS hl
  have hRf : 1 ≤ R.frames := hR.1
  have hRl : 40 ≤ R.locals := hR.2.1
  have hRc : R.cells = 0 := hR.2.2.1
  have hRs : R.slots = 0 := hR.2.2.2
  have hl : lv_has ls 2 [(0, .ref h), (1, .ref o)] := hl
  refine lv_aload_n hx hb dX2_copy_0 rfl (lv_at hl 0 rfl) ?_
  refine lv_aload_n hx hb dX2_copy_1 rfl (lv_at hl 1 rfl) ?_
  refine va_get (D := G) (ci := 2) (v := .int b1) (C := RX2) (T := TX2) (N := 7) hx hb htw in_X2 hown hK.1 hP 6 rfl rfl 0 (by decide) (htw _ wm_403) (fun _ h9 => h9) rfl dX2_copy_2 ?_
  refine va_put (D := G) (ci := 2) (v := .int b1) (ty := .int) (C := RX2) (T := TX2) (N := 7) hx hb htw in_X2 tyX2 tyX2_ok nmX2 hown hK.1 hP hD hS 0 rfl rfl 0 (by decide) (htw _ wm_403) (fun _ h9 => h9) rfl (by decide +kernel) rfl rfl (Nat.le_of_ble_eq_true rfl) dX2_copy_5 (fun H locs hP hD hS => ?_)
  have hP : va_P G classes [(h, .inr (2, [.int b1, .int n0, .ref ui, .ref us, .ref ub, .ref ut, .ref ue])), (ui, .inl (cI, 25, .inl fi)), (us, .inl (cI, 6, .inl fs)), (ub, .inl (cI, 6, .inl fb)), (ut, .inl (cI, 6, .inl ft)), (ue, .inl (cI, 6, .inl fe)), (o, .inr (2, [.int b1, .int n1, .ref vi, .ref vs, .ref vb, .ref vt, .ref ve])), (vi, .inl (cI, 25, .inl gi)), (vs, .inl (cI, 6, .inl gs)), (vb, .inl (cI, 6, .inl gb)), (vt, .inl (cI, 6, .inl gt)), (ve, .inl (cI, 6, .inl ge))] H := hP
  have hD : va_D A [(h, .inr (2, [.int b1, .int n0, .ref ui, .ref us, .ref ub, .ref ut, .ref ue])), (ui, .inl (cI, 25, .inl fi)), (us, .inl (cI, 6, .inl fs)), (ub, .inl (cI, 6, .inl fb)), (ut, .inl (cI, 6, .inl ft)), (ue, .inl (cI, 6, .inl fe)), (o, .inr (2, [.int b1, .int n1, .ref vi, .ref vs, .ref vb, .ref vt, .ref ve])), (vi, .inl (cI, 25, .inl gi)), (vs, .inl (cI, 6, .inl gs)), (vb, .inl (cI, 6, .inl gb)), (vt, .inl (cI, 6, .inl gt)), (ve, .inl (cI, 6, .inl ge))] := hD
  refine lv_aload_n hx hb dX2_copy_8 rfl (lv_at hl 0 rfl) ?_
  refine W.eq (g2 := F0 m 9 ls [.ref h]) rfl ?_
  refine lv_aload_n hx hb dX2_copy_9 rfl (lv_at hl 1 rfl) ?_
  refine va_get (D := G) (ci := 2) (v := .int n1) (C := RX2) (T := TX2) (N := 7) hx hb htw in_X2 hown hK.1 hP 6 rfl rfl 1 (by decide) (htw _ wm_409) (fun _ h9 => h9) rfl dX2_copy_10 ?_
  refine va_put (D := G) (ci := 2) (v := .int n1) (ty := .int) (C := RX2) (T := TX2) (N := 7) hx hb htw in_X2 tyX2 tyX2_ok nmX2 hown hK.1 hP hD hS 0 rfl rfl 1 (by decide) (htw _ wm_409) (fun _ h9 => h9) rfl (by decide +kernel) rfl rfl (Nat.le_of_ble_eq_true rfl) dX2_copy_13 (fun H locs hP hD hS => ?_)
  have hP : va_P G classes [(h, .inr (2, [.int b1, .int n1, .ref ui, .ref us, .ref ub, .ref ut, .ref ue])), (ui, .inl (cI, 25, .inl fi)), (us, .inl (cI, 6, .inl fs)), (ub, .inl (cI, 6, .inl fb)), (ut, .inl (cI, 6, .inl ft)), (ue, .inl (cI, 6, .inl fe)), (o, .inr (2, [.int b1, .int n1, .ref vi, .ref vs, .ref vb, .ref vt, .ref ve])), (vi, .inl (cI, 25, .inl gi)), (vs, .inl (cI, 6, .inl gs)), (vb, .inl (cI, 6, .inl gb)), (vt, .inl (cI, 6, .inl gt)), (ve, .inl (cI, 6, .inl ge))] H := hP
  have hD : va_D A [(h, .inr (2, [.int b1, .int n1, .ref ui, .ref us, .ref ub, .ref ut, .ref ue])), (ui, .inl (cI, 25, .inl fi)), (us, .inl (cI, 6, .inl fs)), (ub, .inl (cI, 6, .inl fb)), (ut, .inl (cI, 6, .inl ft)), (ue, .inl (cI, 6, .inl fe)), (o, .inr (2, [.int b1, .int n1, .ref vi, .ref vs, .ref vb, .ref vt, .ref ve])), (vi, .inl (cI, 25, .inl gi)), (vs, .inl (cI, 6, .inl gs)), (vb, .inl (cI, 6, .inl gb)), (vt, .inl (cI, 6, .inl gt)), (ve, .inl (cI, 6, .inl ge))] := hD
  refine lv_aload_n hx hb dX2_copy_16 rfl (lv_at hl 1 rfl) ?_
  refine va_get (D := G) (ci := 2) (v := .ref vi) (C := RX2) (T := TX2) (N := 7) hx hb htw in_X2 hown hK.1 hP 6 rfl rfl 2 (by decide) (htw _ wm_412) (fun _ h9 => h9) rfl dX2_copy_17 ?_
  refine lv_iconst (v := 0) hx hb dX2_copy_20 (by decide) ?_
  refine W.eq (g2 := F0 m 21 ls [.int 0, .ref vi]) rfl ?_
  refine lv_aload_n hx hb dX2_copy_21 rfl (lv_at hl 0 rfl) ?_
  refine va_get (D := G) (ci := 2) (v := .ref ui) (C := RX2) (T := TX2) (N := 7) hx hb htw in_X2 hown hK.1 hP 0 rfl rfl 2 (by decide) (htw _ wm_412) (fun _ h9 => h9) rfl dX2_copy_22 ?_
  refine lv_iconst (v := 0) hx hb dX2_copy_25 (by decide) ?_
  refine lv_bipush (v := 25) hx hb dX2_copy_26 (by decide) ?_
  refine va_copyi hx hb (hml.trans hl.1.symm) hown (htw _ wm_949) (htw _ wm_951) (htw _ wm_950) (htw _ wm_168) hK.1 hP hD hS 7 1 0 0 rfl rfl rfl rfl rfl (by decide) (by decide) (by decide) (by decide) (by decide) (fun _ _ => rfl) (Nat.le_trans (by decide) hRf) (Nat.le_trans (Nat.le_of_ble_eq_true rfl : _ ≤ 40) hRl) dX2_copy_28 (fun H locs hP hD hS => ?_)
  have hP : va_P G classes [(h, .inr (2, [.int b1, .int n1, .ref ui, .ref us, .ref ub, .ref ut, .ref ue])), (ui, .inl (cI, 25, .inl (va_cpy gi fi (Int32.toNatClampNeg 0) (Int32.toNatClampNeg 0) (Int32.toNatClampNeg 25)))), (us, .inl (cI, 6, .inl fs)), (ub, .inl (cI, 6, .inl fb)), (ut, .inl (cI, 6, .inl ft)), (ue, .inl (cI, 6, .inl fe)), (o, .inr (2, [.int b1, .int n1, .ref vi, .ref vs, .ref vb, .ref vt, .ref ve])), (vi, .inl (cI, 25, .inl gi)), (vs, .inl (cI, 6, .inl gs)), (vb, .inl (cI, 6, .inl gb)), (vt, .inl (cI, 6, .inl gt)), (ve, .inl (cI, 6, .inl ge))] H := hP
  have hD : va_D A [(h, .inr (2, [.int b1, .int n1, .ref ui, .ref us, .ref ub, .ref ut, .ref ue])), (ui, .inl (cI, 25, .inl (va_cpy gi fi (Int32.toNatClampNeg 0) (Int32.toNatClampNeg 0) (Int32.toNatClampNeg 25)))), (us, .inl (cI, 6, .inl fs)), (ub, .inl (cI, 6, .inl fb)), (ut, .inl (cI, 6, .inl ft)), (ue, .inl (cI, 6, .inl fe)), (o, .inr (2, [.int b1, .int n1, .ref vi, .ref vs, .ref vb, .ref vt, .ref ve])), (vi, .inl (cI, 25, .inl gi)), (vs, .inl (cI, 6, .inl gs)), (vb, .inl (cI, 6, .inl gb)), (vt, .inl (cI, 6, .inl gt)), (ve, .inl (cI, 6, .inl ge))] := hD
  refine lv_aload_n hx hb dX2_copy_31 rfl (lv_at hl 1 rfl) ?_
  refine W.eq (g2 := F0 m 32 ls [.ref o]) rfl ?_
  refine va_get (D := G) (ci := 2) (v := .ref vs) (C := RX2) (T := TX2) (N := 7) hx hb htw in_X2 hown hK.1 hP 6 rfl rfl 3 (by decide) (htw _ wm_416) (fun _ h9 => h9) rfl dX2_copy_32 ?_
  refine lv_iconst (v := 0) hx hb dX2_copy_35 (by decide) ?_
  refine lv_aload_n hx hb dX2_copy_36 rfl (lv_at hl 0 rfl) ?_
  refine va_get (D := G) (ci := 2) (v := .ref us) (C := RX2) (T := TX2) (N := 7) hx hb htw in_X2 hown hK.1 hP 0 rfl rfl 3 (by decide) (htw _ wm_416) (fun _ h9 => h9) rfl dX2_copy_37 ?_
  refine lv_iconst (v := 0) hx hb dX2_copy_40 (by decide) ?_
  refine lv_bipush (v := 6) hx hb dX2_copy_41 (by decide) ?_
  refine W.eq (g2 := F0 m 43 ls [.int 6, .int 0, .ref us, .int 0, .ref vs]) rfl ?_
  refine va_copyi hx hb (hml.trans hl.1.symm) hown (htw _ wm_949) (htw _ wm_951) (htw _ wm_950) (htw _ wm_168) hK.1 hP hD hS 8 2 0 0 rfl rfl rfl rfl rfl (by decide) (by decide) (by decide) (by decide) (by decide) (fun _ _ => rfl) (Nat.le_trans (by decide) hRf) (Nat.le_trans (Nat.le_of_ble_eq_true rfl : _ ≤ 40) hRl) dX2_copy_43 (fun H locs hP hD hS => ?_)
  have hP : va_P G classes [(h, .inr (2, [.int b1, .int n1, .ref ui, .ref us, .ref ub, .ref ut, .ref ue])), (ui, .inl (cI, 25, .inl (va_cpy gi fi (Int32.toNatClampNeg 0) (Int32.toNatClampNeg 0) (Int32.toNatClampNeg 25)))), (us, .inl (cI, 6, .inl (va_cpy gs fs (Int32.toNatClampNeg 0) (Int32.toNatClampNeg 0) (Int32.toNatClampNeg 6)))), (ub, .inl (cI, 6, .inl fb)), (ut, .inl (cI, 6, .inl ft)), (ue, .inl (cI, 6, .inl fe)), (o, .inr (2, [.int b1, .int n1, .ref vi, .ref vs, .ref vb, .ref vt, .ref ve])), (vi, .inl (cI, 25, .inl gi)), (vs, .inl (cI, 6, .inl gs)), (vb, .inl (cI, 6, .inl gb)), (vt, .inl (cI, 6, .inl gt)), (ve, .inl (cI, 6, .inl ge))] H := hP
  have hD : va_D A [(h, .inr (2, [.int b1, .int n1, .ref ui, .ref us, .ref ub, .ref ut, .ref ue])), (ui, .inl (cI, 25, .inl (va_cpy gi fi (Int32.toNatClampNeg 0) (Int32.toNatClampNeg 0) (Int32.toNatClampNeg 25)))), (us, .inl (cI, 6, .inl (va_cpy gs fs (Int32.toNatClampNeg 0) (Int32.toNatClampNeg 0) (Int32.toNatClampNeg 6)))), (ub, .inl (cI, 6, .inl fb)), (ut, .inl (cI, 6, .inl ft)), (ue, .inl (cI, 6, .inl fe)), (o, .inr (2, [.int b1, .int n1, .ref vi, .ref vs, .ref vb, .ref vt, .ref ve])), (vi, .inl (cI, 25, .inl gi)), (vs, .inl (cI, 6, .inl gs)), (vb, .inl (cI, 6, .inl gb)), (vt, .inl (cI, 6, .inl gt)), (ve, .inl (cI, 6, .inl ge))] := hD
  refine lv_aload_n hx hb dX2_copy_46 rfl (lv_at hl 1 rfl) ?_
  refine va_get (D := G) (ci := 2) (v := .ref vb) (C := RX2) (T := TX2) (N := 7) hx hb htw in_X2 hown hK.1 hP 6 rfl rfl 4 (by decide) (htw _ wm_419) (fun _ h9 => h9) rfl dX2_copy_47 ?_
  refine lv_iconst (v := 0) hx hb dX2_copy_50 (by decide) ?_
  refine lv_aload_n hx hb dX2_copy_51 rfl (lv_at hl 0 rfl) ?_
  refine va_get (D := G) (ci := 2) (v := .ref ub) (C := RX2) (T := TX2) (N := 7) hx hb htw in_X2 hown hK.1 hP 0 rfl rfl 4 (by decide) (htw _ wm_419) (fun _ h9 => h9) rfl dX2_copy_52 ?_
  refine W.eq (g2 := F0 m 55 ls [.ref ub, .int 0, .ref vb]) rfl ?_
  refine lv_iconst (v := 0) hx hb dX2_copy_55 (by decide) ?_
  refine lv_bipush (v := 6) hx hb dX2_copy_56 (by decide) ?_
  refine va_copyi hx hb (hml.trans hl.1.symm) hown (htw _ wm_949) (htw _ wm_951) (htw _ wm_950) (htw _ wm_168) hK.1 hP hD hS 9 3 0 0 rfl rfl rfl rfl rfl (by decide) (by decide) (by decide) (by decide) (by decide) (fun _ _ => rfl) (Nat.le_trans (by decide) hRf) (Nat.le_trans (Nat.le_of_ble_eq_true rfl : _ ≤ 40) hRl) dX2_copy_58 (fun H locs hP hD hS => ?_)
  have hP : va_P G classes [(h, .inr (2, [.int b1, .int n1, .ref ui, .ref us, .ref ub, .ref ut, .ref ue])), (ui, .inl (cI, 25, .inl (va_cpy gi fi (Int32.toNatClampNeg 0) (Int32.toNatClampNeg 0) (Int32.toNatClampNeg 25)))), (us, .inl (cI, 6, .inl (va_cpy gs fs (Int32.toNatClampNeg 0) (Int32.toNatClampNeg 0) (Int32.toNatClampNeg 6)))), (ub, .inl (cI, 6, .inl (va_cpy gb fb (Int32.toNatClampNeg 0) (Int32.toNatClampNeg 0) (Int32.toNatClampNeg 6)))), (ut, .inl (cI, 6, .inl ft)), (ue, .inl (cI, 6, .inl fe)), (o, .inr (2, [.int b1, .int n1, .ref vi, .ref vs, .ref vb, .ref vt, .ref ve])), (vi, .inl (cI, 25, .inl gi)), (vs, .inl (cI, 6, .inl gs)), (vb, .inl (cI, 6, .inl gb)), (vt, .inl (cI, 6, .inl gt)), (ve, .inl (cI, 6, .inl ge))] H := hP
  have hD : va_D A [(h, .inr (2, [.int b1, .int n1, .ref ui, .ref us, .ref ub, .ref ut, .ref ue])), (ui, .inl (cI, 25, .inl (va_cpy gi fi (Int32.toNatClampNeg 0) (Int32.toNatClampNeg 0) (Int32.toNatClampNeg 25)))), (us, .inl (cI, 6, .inl (va_cpy gs fs (Int32.toNatClampNeg 0) (Int32.toNatClampNeg 0) (Int32.toNatClampNeg 6)))), (ub, .inl (cI, 6, .inl (va_cpy gb fb (Int32.toNatClampNeg 0) (Int32.toNatClampNeg 0) (Int32.toNatClampNeg 6)))), (ut, .inl (cI, 6, .inl ft)), (ue, .inl (cI, 6, .inl fe)), (o, .inr (2, [.int b1, .int n1, .ref vi, .ref vs, .ref vb, .ref vt, .ref ve])), (vi, .inl (cI, 25, .inl gi)), (vs, .inl (cI, 6, .inl gs)), (vb, .inl (cI, 6, .inl gb)), (vt, .inl (cI, 6, .inl gt)), (ve, .inl (cI, 6, .inl ge))] := hD
  refine lv_aload_n hx hb dX2_copy_61 rfl (lv_at hl 1 rfl) ?_
  refine va_get (D := G) (ci := 2) (v := .ref vt) (C := RX2) (T := TX2) (N := 7) hx hb htw in_X2 hown hK.1 hP 6 rfl rfl 5 (by decide) (htw _ wm_422) (fun _ h9 => h9) rfl dX2_copy_62 ?_
  refine lv_iconst (v := 0) hx hb dX2_copy_65 (by decide) ?_
  refine W.eq (g2 := F0 m 66 ls [.int 0, .ref vt]) rfl ?_
  refine lv_aload_n hx hb dX2_copy_66 rfl (lv_at hl 0 rfl) ?_
  refine va_get (D := G) (ci := 2) (v := .ref ut) (C := RX2) (T := TX2) (N := 7) hx hb htw in_X2 hown hK.1 hP 0 rfl rfl 5 (by decide) (htw _ wm_422) (fun _ h9 => h9) rfl dX2_copy_67 ?_
  refine lv_iconst (v := 0) hx hb dX2_copy_70 (by decide) ?_
  refine lv_bipush (v := 6) hx hb dX2_copy_71 (by decide) ?_
  refine va_copyi hx hb (hml.trans hl.1.symm) hown (htw _ wm_949) (htw _ wm_951) (htw _ wm_950) (htw _ wm_168) hK.1 hP hD hS 10 4 0 0 rfl rfl rfl rfl rfl (by decide) (by decide) (by decide) (by decide) (by decide) (fun _ _ => rfl) (Nat.le_trans (by decide) hRf) (Nat.le_trans (Nat.le_of_ble_eq_true rfl : _ ≤ 40) hRl) dX2_copy_73 (fun H locs hP hD hS => ?_)
  have hP : va_P G classes [(h, .inr (2, [.int b1, .int n1, .ref ui, .ref us, .ref ub, .ref ut, .ref ue])), (ui, .inl (cI, 25, .inl (va_cpy gi fi (Int32.toNatClampNeg 0) (Int32.toNatClampNeg 0) (Int32.toNatClampNeg 25)))), (us, .inl (cI, 6, .inl (va_cpy gs fs (Int32.toNatClampNeg 0) (Int32.toNatClampNeg 0) (Int32.toNatClampNeg 6)))), (ub, .inl (cI, 6, .inl (va_cpy gb fb (Int32.toNatClampNeg 0) (Int32.toNatClampNeg 0) (Int32.toNatClampNeg 6)))), (ut, .inl (cI, 6, .inl (va_cpy gt ft (Int32.toNatClampNeg 0) (Int32.toNatClampNeg 0) (Int32.toNatClampNeg 6)))), (ue, .inl (cI, 6, .inl fe)), (o, .inr (2, [.int b1, .int n1, .ref vi, .ref vs, .ref vb, .ref vt, .ref ve])), (vi, .inl (cI, 25, .inl gi)), (vs, .inl (cI, 6, .inl gs)), (vb, .inl (cI, 6, .inl gb)), (vt, .inl (cI, 6, .inl gt)), (ve, .inl (cI, 6, .inl ge))] H := hP
  have hD : va_D A [(h, .inr (2, [.int b1, .int n1, .ref ui, .ref us, .ref ub, .ref ut, .ref ue])), (ui, .inl (cI, 25, .inl (va_cpy gi fi (Int32.toNatClampNeg 0) (Int32.toNatClampNeg 0) (Int32.toNatClampNeg 25)))), (us, .inl (cI, 6, .inl (va_cpy gs fs (Int32.toNatClampNeg 0) (Int32.toNatClampNeg 0) (Int32.toNatClampNeg 6)))), (ub, .inl (cI, 6, .inl (va_cpy gb fb (Int32.toNatClampNeg 0) (Int32.toNatClampNeg 0) (Int32.toNatClampNeg 6)))), (ut, .inl (cI, 6, .inl (va_cpy gt ft (Int32.toNatClampNeg 0) (Int32.toNatClampNeg 0) (Int32.toNatClampNeg 6)))), (ue, .inl (cI, 6, .inl fe)), (o, .inr (2, [.int b1, .int n1, .ref vi, .ref vs, .ref vb, .ref vt, .ref ve])), (vi, .inl (cI, 25, .inl gi)), (vs, .inl (cI, 6, .inl gs)), (vb, .inl (cI, 6, .inl gb)), (vt, .inl (cI, 6, .inl gt)), (ve, .inl (cI, 6, .inl ge))] := hD
  refine lv_aload_n hx hb dX2_copy_76 rfl (lv_at hl 1 rfl) ?_
  refine W.eq (g2 := F0 m 77 ls [.ref o]) rfl ?_
  refine va_get (D := G) (ci := 2) (v := .ref ve) (C := RX2) (T := TX2) (N := 7) hx hb htw in_X2 hown hK.1 hP 6 rfl rfl 6 (by decide) (htw _ wm_425) (fun _ h9 => h9) rfl dX2_copy_77 ?_
  refine lv_iconst (v := 0) hx hb dX2_copy_80 (by decide) ?_
  refine lv_aload_n hx hb dX2_copy_81 rfl (lv_at hl 0 rfl) ?_
  refine va_get (D := G) (ci := 2) (v := .ref ue) (C := RX2) (T := TX2) (N := 7) hx hb htw in_X2 hown hK.1 hP 0 rfl rfl 6 (by decide) (htw _ wm_425) (fun _ h9 => h9) rfl dX2_copy_82 ?_
  refine lv_iconst (v := 0) hx hb dX2_copy_85 (by decide) ?_
  refine lv_bipush (v := 6) hx hb dX2_copy_86 (by decide) ?_
  refine W.eq (g2 := F0 m 88 ls [.int 6, .int 0, .ref ue, .int 0, .ref ve]) rfl ?_
  refine va_copyi hx hb (hml.trans hl.1.symm) hown (htw _ wm_949) (htw _ wm_951) (htw _ wm_950) (htw _ wm_168) hK.1 hP hD hS 11 5 0 0 rfl rfl rfl rfl rfl (by decide) (by decide) (by decide) (by decide) (by decide) (fun _ _ => rfl) (Nat.le_trans (by decide) hRf) (Nat.le_trans (Nat.le_of_ble_eq_true rfl : _ ≤ 40) hRl) dX2_copy_88 (fun H locs hP hD hS => ?_)
  have hP : va_P G classes [(h, .inr (2, [.int b1, .int n1, .ref ui, .ref us, .ref ub, .ref ut, .ref ue])), (ui, .inl (cI, 25, .inl (va_cpy gi fi (Int32.toNatClampNeg 0) (Int32.toNatClampNeg 0) (Int32.toNatClampNeg 25)))), (us, .inl (cI, 6, .inl (va_cpy gs fs (Int32.toNatClampNeg 0) (Int32.toNatClampNeg 0) (Int32.toNatClampNeg 6)))), (ub, .inl (cI, 6, .inl (va_cpy gb fb (Int32.toNatClampNeg 0) (Int32.toNatClampNeg 0) (Int32.toNatClampNeg 6)))), (ut, .inl (cI, 6, .inl (va_cpy gt ft (Int32.toNatClampNeg 0) (Int32.toNatClampNeg 0) (Int32.toNatClampNeg 6)))), (ue, .inl (cI, 6, .inl (va_cpy ge fe (Int32.toNatClampNeg 0) (Int32.toNatClampNeg 0) (Int32.toNatClampNeg 6)))), (o, .inr (2, [.int b1, .int n1, .ref vi, .ref vs, .ref vb, .ref vt, .ref ve])), (vi, .inl (cI, 25, .inl gi)), (vs, .inl (cI, 6, .inl gs)), (vb, .inl (cI, 6, .inl gb)), (vt, .inl (cI, 6, .inl gt)), (ve, .inl (cI, 6, .inl ge))] H := hP
  have hD : va_D A [(h, .inr (2, [.int b1, .int n1, .ref ui, .ref us, .ref ub, .ref ut, .ref ue])), (ui, .inl (cI, 25, .inl (va_cpy gi fi (Int32.toNatClampNeg 0) (Int32.toNatClampNeg 0) (Int32.toNatClampNeg 25)))), (us, .inl (cI, 6, .inl (va_cpy gs fs (Int32.toNatClampNeg 0) (Int32.toNatClampNeg 0) (Int32.toNatClampNeg 6)))), (ub, .inl (cI, 6, .inl (va_cpy gb fb (Int32.toNatClampNeg 0) (Int32.toNatClampNeg 0) (Int32.toNatClampNeg 6)))), (ut, .inl (cI, 6, .inl (va_cpy gt ft (Int32.toNatClampNeg 0) (Int32.toNatClampNeg 0) (Int32.toNatClampNeg 6)))), (ue, .inl (cI, 6, .inl (va_cpy ge fe (Int32.toNatClampNeg 0) (Int32.toNatClampNeg 0) (Int32.toNatClampNeg 6)))), (o, .inr (2, [.int b1, .int n1, .ref vi, .ref vs, .ref vb, .ref vt, .ref ve])), (vi, .inl (cI, 25, .inl gi)), (vs, .inl (cI, 6, .inl gs)), (vb, .inl (cI, 6, .inl gb)), (vt, .inl (cI, 6, .inl gt)), (ve, .inl (cI, 6, .inl ge))] := hD
  exact hret _ _ _ _ _ _ dX2_copy_91 (show 0 ≤ 0 by omega) (show 0 ≤ 0 by omega) ⟨(va_cpy gi fi (Int32.toNatClampNeg 0) (Int32.toNatClampNeg 0) (Int32.toNatClampNeg 25)), (va_cpy gs fs (Int32.toNatClampNeg 0) (Int32.toNatClampNeg 0) (Int32.toNatClampNeg 6)), (va_cpy gb fb (Int32.toNatClampNeg 0) (Int32.toNatClampNeg 0) (Int32.toNatClampNeg 6)), (va_cpy gt ft (Int32.toNatClampNeg 0) (Int32.toNatClampNeg 0) (Int32.toNatClampNeg 6)), (va_cpy ge fe (Int32.toNatClampNeg 0) (Int32.toNatClampNeg 0) (Int32.toNatClampNeg 6)), hP.sub [0, 1, 2, 3, 4, 5, 6, 7, 8, 9, 10, 11] rfl, hD.sub [0, 1, 2, 3, 4, 5, 6, 7, 8, 9, 10, 11] (by decide) rfl⟩ hS

abbrev P_X4_goOn (G : va_G) (cI cZ cB cJ cE : ClassId) (hi : Nat) (hs : Nat) (e0 : Nat) (e1 : Nat) (fh : Nat → Option Nat) (ui : Nat) (us : Nat) (ub : Nat) (ut : Nat) (ue : Nat) (vi : Nat) (vs : Nat) (vb : Nat) (vt : Nat) (ve : Nat) (b0 : Int32) (n0 : Int32) (b1 : Int32) (n1 : Int32) (un : Int32) (fi : Nat → Int32) (fs : Nat → Int32) (fb : Nat → Int32) (ft : Nat → Int32) (fe : Nat → Int32) (gi : Nat → Int32) (gs : Nat → Int32) (gb : Nat → Int32) (gt : Nat → Int32) (ge : Nat → Int32) : (Nat → Prop) → Nat → Heap → Prop := fun (A1 : Nat → Prop) (v : Nat) (H1 : Heap) => ∃ (ki : Nat → Int32) (ks : Nat → Int32) (kb : Nat → Int32) (kt : Nat → Int32) (ke : Nat → Int32), v = e1 ∧ va_P G classes [(hi, .inr (4, [.ref hs, .int 0, .int 1, .int 0])), (hs, .inl (cE, 41, .inr (.inr (.inr (.inr fh))))), (e1, .inr (2, [.int b0, .int n0, .ref vi, .ref vs, .ref vb, .ref vt, .ref ve])), (vi, .inl (cI, 25, .inl ki)), (vs, .inl (cI, 6, .inl ks)), (vb, .inl (cI, 6, .inl kb)), (vt, .inl (cI, 6, .inl kt)), (ve, .inl (cI, 6, .inl ke)), (e0, .inr (2, [.int b0, .int n0, .ref ui, .ref us, .ref ub, .ref ut, .ref ue])), (ui, .inl (cI, 25, .inl fi)), (us, .inl (cI, 6, .inl fs)), (ub, .inl (cI, 6, .inl fb)), (ut, .inl (cI, 6, .inl ft)), (ue, .inl (cI, 6, .inl fe))] H1 ∧ va_D A1 [(hi, .inr (4, [.ref hs, .int 0, .int 1, .int 0])), (hs, .inl (cE, 41, .inr (.inr (.inr (.inr fh))))), (e1, .inr (2, [.int b0, .int n0, .ref vi, .ref vs, .ref vb, .ref vt, .ref ve])), (vi, .inl (cI, 25, .inl ki)), (vs, .inl (cI, 6, .inl ks)), (vb, .inl (cI, 6, .inl kb)), (vt, .inl (cI, 6, .inl kt)), (ve, .inl (cI, 6, .inl ke)), (e0, .inr (2, [.int b0, .int n0, .ref ui, .ref us, .ref ub, .ref ut, .ref ue])), (ui, .inl (cI, 25, .inl fi)), (us, .inl (cI, 6, .inl fs)), (ub, .inl (cI, 6, .inl fb)), (ut, .inl (cI, 6, .inl ft)), (ue, .inl (cI, 6, .inl fe))]
set_option maxHeartbeats 4000000 in
set_option maxRecDepth 100000 in
/-- IceTunes$History.goOn -/
theorem c_X4_goOn (l : Launch) (G : va_G) (cI cZ cB cJ cE : ClassId) (hi : Nat) (hs : Nat) (e0 : Nat) (e1 : Nat) (fh : Nat → Option Nat) (ui : Nat) (us : Nat) (ub : Nat) (ut : Nat) (ue : Nat) (vi : Nat) (vs : Nat) (vb : Nat) (vt : Nat) (ve : Nat) (b0 : Int32) (n0 : Int32) (b1 : Int32) (n1 : Int32) (un : Int32) (fi : Nat → Int32) (fs : Nat → Int32) (fb : Nat → Int32) (ft : Nat → Int32) (fe : Nat → Int32) (gi : Nat → Int32) (gs : Nat → Int32) (gb : Nat → Int32) (gt : Nat → Int32) (ge : Nat → Int32) (sz : Nat) (hf0 : fh 0 = some e0) (hf1 : fh 1 = some e1) : Met l yX4_goOn (.code yX4_goOn cX4_goOn 2 (some (.object "IceTunes$Evening")) :: wt) ({ frames := 2, cells := 0, slots := 0, locals := 61 }) (va_Pc [.ref hi] (PreW G cI cZ cB cJ cE [(hi, .inr (4, [.ref hs, .int 0, .int 0, .int un])), (hs, .inl (cE, 41, .inr (.inr (.inr (.inr fh))))), (e0, .inr (2, [.int b0, .int n0, .ref ui, .ref us, .ref ub, .ref ut, .ref ue])), (ui, .inl (cI, 25, .inl fi)), (us, .inl (cI, 6, .inl fs)), (ub, .inl (cI, 6, .inl fb)), (ut, .inl (cI, 6, .inl ft)), (ue, .inl (cI, 6, .inl fe)), (e1, .inr (2, [.int b1, .int n1, .ref vi, .ref vs, .ref vb, .ref vt, .ref ve])), (vi, .inl (cI, 25, .inl gi)), (vs, .inl (cI, 6, .inl gs)), (vb, .inl (cI, 6, .inl gb)), (vt, .inl (cI, 6, .inl gt)), (ve, .inl (cI, 6, .inl ge))] sz)) (QR ((P_X4_goOn G cI cZ cB cJ cE hi hs e0 e1 fh ui us ub ut ue vi vs vb vt ve b0 n0 b1 n1 un fi fs fb ft fe gi gs gb gt ge) (va_A [(hi, .inr (4, [.ref hs, .int 0, .int 0, .int un])), (hs, .inl (cE, 41, .inr (.inr (.inr (.inr fh))))), (e0, .inr (2, [.int b0, .int n0, .ref ui, .ref us, .ref ub, .ref ut, .ref ue])), (ui, .inl (cI, 25, .inl fi)), (us, .inl (cI, 6, .inl fs)), (ub, .inl (cI, 6, .inl fb)), (ut, .inl (cI, 6, .inl ft)), (ue, .inl (cI, 6, .inl fe)), (e1, .inr (2, [.int b1, .int n1, .ref vi, .ref vs, .ref vb, .ref vt, .ref ve])), (vi, .inl (cI, 25, .inl gi)), (vs, .inl (cI, 6, .inl gs)), (vb, .inl (cI, 6, .inl gb)), (vt, .inl (cI, 6, .inl gt)), (ve, .inl (cI, 6, .inl ge))] sz)) (va_A [(hi, .inr (4, [.ref hs, .int 0, .int 0, .int un])), (hs, .inl (cE, 41, .inr (.inr (.inr (.inr fh))))), (e0, .inr (2, [.int b0, .int n0, .ref ui, .ref us, .ref ub, .ref ut, .ref ue])), (ui, .inl (cI, 25, .inl fi)), (us, .inl (cI, 6, .inl fs)), (ub, .inl (cI, 6, .inl fb)), (ut, .inl (cI, 6, .inl ft)), (ue, .inl (cI, 6, .inl fe)), (e1, .inr (2, [.int b1, .int n1, .ref vi, .ref vs, .ref vb, .ref vt, .ref ve])), (vi, .inl (cI, 25, .inl gi)), (vs, .inl (cI, 6, .inl gs)), (vb, .inl (cI, 6, .inl gb)), (vt, .inl (cI, 6, .inl gt)), (ve, .inl (cI, 6, .inl ge))] sz)) 0 0 (va_A [(hi, .inr (4, [.ref hs, .int 0, .int 0, .int un])), (hs, .inl (cE, 41, .inr (.inr (.inr (.inr fh))))), (e0, .inr (2, [.int b0, .int n0, .ref ui, .ref us, .ref ub, .ref ut, .ref ue])), (ui, .inl (cI, 25, .inl fi)), (us, .inl (cI, 6, .inl fs)), (ub, .inl (cI, 6, .inl fb)), (ut, .inl (cI, 6, .inl ft)), (ue, .inl (cI, 6, .inl fe)), (e1, .inr (2, [.int b1, .int n1, .ref vi, .ref vs, .ref vb, .ref vt, .ref ve])), (vi, .inl (cI, 25, .inl gi)), (vs, .inl (cI, 6, .inl gs)), (vb, .inl (cI, 6, .inl gb)), (vt, .inl (cI, 6, .inl gt)), (ve, .inl (cI, 6, .inl ge))] sz) := by
  refine mk_r (P := P_X4_goOn G cI cZ cB cJ cE hi hs e0 e1 fh ui us ub ut ue vi vs vb vt ve b0 n0 b1 n1 un fi fs fb ft fe gi gs gb gt ge) (rm := { frames := 2, cells := 0, slots := 0, locals := 61 }) (by decide) (Nat.le_of_ble_eq_true rfl) ?_
  intro p e s m args below meth c R Q A H locs ls hx hb hml htw hown hK hR hA hret hP hD hS hl
  have hRf : 2 ≤ R.frames := hR.1
  have hRl : 61 ≤ R.locals := hR.2.1
  have hRc : R.cells = 0 := hR.2.2.1
  have hRs : R.slots = 0 := hR.2.2.2
  have hl : lv_has ls 2 [(0, .ref hi)] := hl
  refine lv_aload_n hx hb dX4_goOn_0 rfl (lv_at hl 0 rfl) ?_
  refine go_r (wr := [(e0, .inr (2, [.int b0, .int n0, .ref ui, .ref us, .ref ub, .ref ut, .ref ue])), (ui, .inl (cI, 25, .inl fi)), (us, .inl (cI, 6, .inl fs)), (ub, .inl (cI, 6, .inl fb)), (ut, .inl (cI, 6, .inl ft)), (ue, .inl (cI, 6, .inl fe)), (e1, .inr (2, [.int b1, .int n1, .ref vi, .ref vs, .ref vb, .ref vt, .ref ve])), (vi, .inl (cI, 25, .inl gi)), (vs, .inl (cI, 6, .inl gs)), (vb, .inl (cI, 6, .inl gb)), (vt, .inl (cI, 6, .inl gt)), (ve, .inl (cI, 6, .inl ge))]) (run_V [(hi, .inr (4, [.ref hs, .int 0, .int 0, .int un])), (hs, .inl (cE, 41, .inr (.inr (.inr (.inr fh))))), (e0, .inr (2, [.int b0, .int n0, .ref ui, .ref us, .ref ub, .ref ut, .ref ue])), (ui, .inl (cI, 25, .inl fi)), (us, .inl (cI, 6, .inl fs)), (ub, .inl (cI, 6, .inl fb)), (ut, .inl (cI, 6, .inl ft)), (ue, .inl (cI, 6, .inl fe)), (e1, .inr (2, [.int b1, .int n1, .ref vi, .ref vs, .ref vb, .ref vt, .ref ve])), (vi, .inl (cI, 25, .inl gi)), (vs, .inl (cI, 6, .inl gs)), (vb, .inl (cI, 6, .inl gb)), (vt, .inl (cI, 6, .inl gt)), (ve, .inl (cI, 6, .inl ge))] [(hi, .inr (4, [.ref hs, .int 0, .int 0, .int un])), (hs, .inl (cE, 41, .inr (.inr (.inr (.inr fh)))))] [(e0, .inr (2, [.int b0, .int n0, .ref ui, .ref us, .ref ub, .ref ut, .ref ue])), (ui, .inl (cI, 25, .inl fi)), (us, .inl (cI, 6, .inl fs)), (ub, .inl (cI, 6, .inl fb)), (ut, .inl (cI, 6, .inl ft)), (ue, .inl (cI, 6, .inl fe)), (e1, .inr (2, [.int b1, .int n1, .ref vi, .ref vs, .ref vb, .ref vt, .ref ve])), (vi, .inl (cI, 25, .inl gi)), (vs, .inl (cI, 6, .inl gs)), (vb, .inl (cI, 6, .inl gb)), (vt, .inl (cI, 6, .inl gt)), (ve, .inl (cI, 6, .inl ge))] [] [] (c_X4_now0 l G cI cZ cB cJ cE hi hs e0 fh un H.size (hf0)) hx hb hml htw hown hK hl.1 hP hD [0, 1] rfl rfl (by decide) 0 4 rfl rfl rfl wm_581 wm_580 wm_1 wm_155 wm_944 ⟨by decide +kernel, by decide +kernel, (show _ = some 0 from by decide +kernel)⟩ ⟨Nat.le_trans (by decide : 0 + 1 ≤ 2) hRf, Nat.le_trans (by decide : 8 + (1 + 11) + 0 ≤ 61) hRl⟩ ⟨show 0 + 0 ≤ R.cells by omega, show 0 + 0 ≤ R.slots by omega⟩ (Nat.le_of_ble_eq_true rfl) dX4_goOn_1) hP hD hS hA [0, 1] [2, 3, 4, 5, 6, 7, 8, 9, 10, 11, 12, 13] rfl rfl (by decide) (by decide) (fun r_1 H locs hB J hS => ?_)
  obtain ⟨hr_r_1, hP1, hD1⟩ := hB
  obtain ⟨hP, hD⟩ := J _ hP1 hD1
  have hP : va_P G classes [(e0, .inr (2, [.int b0, .int n0, .ref ui, .ref us, .ref ub, .ref ut, .ref ue])), (ui, .inl (cI, 25, .inl fi)), (us, .inl (cI, 6, .inl fs)), (ub, .inl (cI, 6, .inl fb)), (ut, .inl (cI, 6, .inl ft)), (ue, .inl (cI, 6, .inl fe)), (e1, .inr (2, [.int b1, .int n1, .ref vi, .ref vs, .ref vb, .ref vt, .ref ve])), (vi, .inl (cI, 25, .inl gi)), (vs, .inl (cI, 6, .inl gs)), (vb, .inl (cI, 6, .inl gb)), (vt, .inl (cI, 6, .inl gt)), (ve, .inl (cI, 6, .inl ge)), (hi, .inr (4, [.ref hs, .int 0, .int 0, .int un])), (hs, .inl (cE, 41, .inr (.inr (.inr (.inr fh)))))] H := hP
  have hD : va_D A [(e0, .inr (2, [.int b0, .int n0, .ref ui, .ref us, .ref ub, .ref ut, .ref ue])), (ui, .inl (cI, 25, .inl fi)), (us, .inl (cI, 6, .inl fs)), (ub, .inl (cI, 6, .inl fb)), (ut, .inl (cI, 6, .inl ft)), (ue, .inl (cI, 6, .inl fe)), (e1, .inr (2, [.int b1, .int n1, .ref vi, .ref vs, .ref vb, .ref vt, .ref ve])), (vi, .inl (cI, 25, .inl gi)), (vs, .inl (cI, 6, .inl gs)), (vb, .inl (cI, 6, .inl gb)), (vt, .inl (cI, 6, .inl gt)), (ve, .inl (cI, 6, .inl ge)), (hi, .inr (4, [.ref hs, .int 0, .int 0, .int un])), (hs, .inl (cE, 41, .inr (.inr (.inr (.inr fh)))))] := hD
  refine W.widen (k := 0) (n := 0) (show 0 + 0 ≤ 0 by omega) (show 0 + 0 ≤ 0 by omega) ?_
  refine W.eq (g2 := F0 m 4 ls [.ref e0]) (by rw [hr_r_1]) ?_
  refine lv_astore_n (lv' := [(1, .ref e0), (0, .ref hi)]) hx hb dX4_goOn_4 rfl hl (by decide) rfl (fun ls hl => ?_)
  refine lv_aload_n hx hb dX4_goOn_5 rfl (lv_at hl 1 rfl) ?_
  refine lv_iconst (v := 0) hx hb dX4_goOn_6 (by decide) ?_
  refine W.eq (g2 := F0 m 7 ls [.int 0, .ref hi]) rfl ?_
  refine va_put (D := G) (ci := 4) (v := .int 0) (ty := .int) (C := RX4) (T := TX4) (N := 4) hx hb htw in_X4 tyX4 tyX4_ok nmX4 hown hK.1 hP hD hS 12 rfl rfl 3 (by decide) (htw _ wm_447) (fun _ h9 => h9) rfl (by decide +kernel) rfl rfl (Nat.le_of_ble_eq_true rfl) dX4_goOn_7 (fun H locs hP hD hS => ?_)
  have hP : va_P G classes [(e0, .inr (2, [.int b0, .int n0, .ref ui, .ref us, .ref ub, .ref ut, .ref ue])), (ui, .inl (cI, 25, .inl fi)), (us, .inl (cI, 6, .inl fs)), (ub, .inl (cI, 6, .inl fb)), (ut, .inl (cI, 6, .inl ft)), (ue, .inl (cI, 6, .inl fe)), (e1, .inr (2, [.int b1, .int n1, .ref vi, .ref vs, .ref vb, .ref vt, .ref ve])), (vi, .inl (cI, 25, .inl gi)), (vs, .inl (cI, 6, .inl gs)), (vb, .inl (cI, 6, .inl gb)), (vt, .inl (cI, 6, .inl gt)), (ve, .inl (cI, 6, .inl ge)), (hi, .inr (4, [.ref hs, .int 0, .int 0, .int 0])), (hs, .inl (cE, 41, .inr (.inr (.inr (.inr fh)))))] H := hP
  have hD : va_D A [(e0, .inr (2, [.int b0, .int n0, .ref ui, .ref us, .ref ub, .ref ut, .ref ue])), (ui, .inl (cI, 25, .inl fi)), (us, .inl (cI, 6, .inl fs)), (ub, .inl (cI, 6, .inl fb)), (ut, .inl (cI, 6, .inl ft)), (ue, .inl (cI, 6, .inl fe)), (e1, .inr (2, [.int b1, .int n1, .ref vi, .ref vs, .ref vb, .ref vt, .ref ve])), (vi, .inl (cI, 25, .inl gi)), (vs, .inl (cI, 6, .inl gs)), (vb, .inl (cI, 6, .inl gb)), (vt, .inl (cI, 6, .inl gt)), (ve, .inl (cI, 6, .inl ge)), (hi, .inr (4, [.ref hs, .int 0, .int 0, .int 0])), (hs, .inl (cE, 41, .inr (.inr (.inr (.inr fh)))))] := hD
  refine lv_aload_n hx hb dX4_goOn_10 rfl (lv_at hl 1 rfl) ?_
  refine va_get (D := G) (ci := 4) (v := .int 0) (C := RX4) (T := TX4) (N := 4) hx hb htw in_X4 hown hK.1 hP 12 rfl rfl 2 (by decide) (htw _ wm_445) (fun _ h9 => h9) rfl dX4_goOn_11 ?_
  refine lv_bipush (v := 40) hx hb dX4_goOn_14 (by decide) ?_
  refine lv_icmp_ge (tgt := 32) hx hb dX4_goOn_16 (by decide) (fun c_2 => absurd c_2 (by decide)) (fun _ => ?_)
  refine lv_aload_n hx hb dX4_goOn_19 rfl (lv_at hl 1 rfl) ?_
  refine W.eq (g2 := F0 m 20 ls [.ref hi]) rfl ?_
  refine lv_dup hx hb dX4_goOn_20 rfl ?_
  refine va_get (D := G) (ci := 4) (v := .int 0) (C := RX4) (T := TX4) (N := 4) hx hb htw in_X4 hown hK.1 hP 12 rfl rfl 2 (by decide) (htw _ wm_445) (fun _ h9 => h9) rfl dX4_goOn_21 ?_
  refine lv_iconst (v := 1) hx hb dX4_goOn_24 (by decide) ?_
  refine lv_iadd hx hb dX4_goOn_25 ?_
  refine lv_topi (fun z_3 hz_3 => ?_)
  obtain rfl : z_3 = 1 := hz_3.trans (by decide)
  refine va_put (D := G) (ci := 4) (v := .int 1) (ty := .int) (C := RX4) (T := TX4) (N := 4) hx hb htw in_X4 tyX4 tyX4_ok nmX4 hown hK.1 hP hD hS 12 rfl rfl 2 (by decide) (htw _ wm_445) (fun _ h9 => h9) rfl (by decide +kernel) rfl rfl (Nat.le_of_ble_eq_true rfl) dX4_goOn_26 (fun H locs hP hD hS => ?_)
  have hP : va_P G classes [(e0, .inr (2, [.int b0, .int n0, .ref ui, .ref us, .ref ub, .ref ut, .ref ue])), (ui, .inl (cI, 25, .inl fi)), (us, .inl (cI, 6, .inl fs)), (ub, .inl (cI, 6, .inl fb)), (ut, .inl (cI, 6, .inl ft)), (ue, .inl (cI, 6, .inl fe)), (e1, .inr (2, [.int b1, .int n1, .ref vi, .ref vs, .ref vb, .ref vt, .ref ve])), (vi, .inl (cI, 25, .inl gi)), (vs, .inl (cI, 6, .inl gs)), (vb, .inl (cI, 6, .inl gb)), (vt, .inl (cI, 6, .inl gt)), (ve, .inl (cI, 6, .inl ge)), (hi, .inr (4, [.ref hs, .int 0, .int 1, .int 0])), (hs, .inl (cE, 41, .inr (.inr (.inr (.inr fh)))))] H := hP
  have hD : va_D A [(e0, .inr (2, [.int b0, .int n0, .ref ui, .ref us, .ref ub, .ref ut, .ref ue])), (ui, .inl (cI, 25, .inl fi)), (us, .inl (cI, 6, .inl fs)), (ub, .inl (cI, 6, .inl fb)), (ut, .inl (cI, 6, .inl ft)), (ue, .inl (cI, 6, .inl fe)), (e1, .inr (2, [.int b1, .int n1, .ref vi, .ref vs, .ref vb, .ref vt, .ref ve])), (vi, .inl (cI, 25, .inl gi)), (vs, .inl (cI, 6, .inl gs)), (vb, .inl (cI, 6, .inl gb)), (vt, .inl (cI, 6, .inl gt)), (ve, .inl (cI, 6, .inl ge)), (hi, .inr (4, [.ref hs, .int 0, .int 1, .int 0])), (hs, .inl (cE, 41, .inr (.inr (.inr (.inr fh)))))] := hD
  refine lv_goto (tgt := 45) hx hb dX4_goOn_29 (by decide) ?_
  refine W.eq (g2 := F0 m 45 ls []) rfl ?_
  refine lv_aload_n hx hb dX4_goOn_45 rfl (lv_at hl 1 rfl) ?_
  refine go_r (wr := [(e0, .inr (2, [.int b0, .int n0, .ref ui, .ref us, .ref ub, .ref ut, .ref ue])), (ui, .inl (cI, 25, .inl fi)), (us, .inl (cI, 6, .inl fs)), (ub, .inl (cI, 6, .inl fb)), (ut, .inl (cI, 6, .inl ft)), (ue, .inl (cI, 6, .inl fe)), (e1, .inr (2, [.int b1, .int n1, .ref vi, .ref vs, .ref vb, .ref vt, .ref ve])), (vi, .inl (cI, 25, .inl gi)), (vs, .inl (cI, 6, .inl gs)), (vb, .inl (cI, 6, .inl gb)), (vt, .inl (cI, 6, .inl gt)), (ve, .inl (cI, 6, .inl ge))]) (run_V [(e0, .inr (2, [.int b0, .int n0, .ref ui, .ref us, .ref ub, .ref ut, .ref ue])), (ui, .inl (cI, 25, .inl fi)), (us, .inl (cI, 6, .inl fs)), (ub, .inl (cI, 6, .inl fb)), (ut, .inl (cI, 6, .inl ft)), (ue, .inl (cI, 6, .inl fe)), (e1, .inr (2, [.int b1, .int n1, .ref vi, .ref vs, .ref vb, .ref vt, .ref ve])), (vi, .inl (cI, 25, .inl gi)), (vs, .inl (cI, 6, .inl gs)), (vb, .inl (cI, 6, .inl gb)), (vt, .inl (cI, 6, .inl gt)), (ve, .inl (cI, 6, .inl ge)), (hi, .inr (4, [.ref hs, .int 0, .int 1, .int 0])), (hs, .inl (cE, 41, .inr (.inr (.inr (.inr fh)))))] [(hi, .inr (4, [.ref hs, .int 0, .int 1, .int 0])), (hs, .inl (cE, 41, .inr (.inr (.inr (.inr fh)))))] [(e0, .inr (2, [.int b0, .int n0, .ref ui, .ref us, .ref ub, .ref ut, .ref ue])), (ui, .inl (cI, 25, .inl fi)), (us, .inl (cI, 6, .inl fs)), (ub, .inl (cI, 6, .inl fb)), (ut, .inl (cI, 6, .inl ft)), (ue, .inl (cI, 6, .inl fe)), (e1, .inr (2, [.int b1, .int n1, .ref vi, .ref vs, .ref vb, .ref vt, .ref ve])), (vi, .inl (cI, 25, .inl gi)), (vs, .inl (cI, 6, .inl gs)), (vb, .inl (cI, 6, .inl gb)), (vt, .inl (cI, 6, .inl gt)), (ve, .inl (cI, 6, .inl ge))] [] [] (c_X4_now1 l G cI cZ cB cJ cE hi hs e1 fh 0 H.size (hf1)) hx hb hml htw hown hK hl.1 hP hD [12, 13] rfl rfl (by decide) 0 4 rfl rfl rfl wm_581 wm_580 wm_1 wm_155 wm_944 ⟨by decide +kernel, by decide +kernel, (show _ = some 0 from by decide +kernel)⟩ ⟨Nat.le_trans (by decide : 0 + 1 ≤ 2) hRf, Nat.le_trans (by decide : 8 + (1 + 11) + 0 ≤ 61) hRl⟩ ⟨show 0 + 0 ≤ R.cells by omega, show 0 + 0 ≤ R.slots by omega⟩ (Nat.le_of_ble_eq_true rfl) dX4_goOn_46) hP hD hS hA [12, 13] [0, 1, 2, 3, 4, 5, 6, 7, 8, 9, 10, 11] rfl rfl (by decide) (by decide) (fun r_4 H locs hB J hS => ?_)
  obtain ⟨hr_r_4, hP1, hD1⟩ := hB
  obtain ⟨hP, hD⟩ := J _ hP1 hD1
  have hP : va_P G classes [(e0, .inr (2, [.int b0, .int n0, .ref ui, .ref us, .ref ub, .ref ut, .ref ue])), (ui, .inl (cI, 25, .inl fi)), (us, .inl (cI, 6, .inl fs)), (ub, .inl (cI, 6, .inl fb)), (ut, .inl (cI, 6, .inl ft)), (ue, .inl (cI, 6, .inl fe)), (e1, .inr (2, [.int b1, .int n1, .ref vi, .ref vs, .ref vb, .ref vt, .ref ve])), (vi, .inl (cI, 25, .inl gi)), (vs, .inl (cI, 6, .inl gs)), (vb, .inl (cI, 6, .inl gb)), (vt, .inl (cI, 6, .inl gt)), (ve, .inl (cI, 6, .inl ge)), (hi, .inr (4, [.ref hs, .int 0, .int 1, .int 0])), (hs, .inl (cE, 41, .inr (.inr (.inr (.inr fh)))))] H := hP
  have hD : va_D A [(e0, .inr (2, [.int b0, .int n0, .ref ui, .ref us, .ref ub, .ref ut, .ref ue])), (ui, .inl (cI, 25, .inl fi)), (us, .inl (cI, 6, .inl fs)), (ub, .inl (cI, 6, .inl fb)), (ut, .inl (cI, 6, .inl ft)), (ue, .inl (cI, 6, .inl fe)), (e1, .inr (2, [.int b1, .int n1, .ref vi, .ref vs, .ref vb, .ref vt, .ref ve])), (vi, .inl (cI, 25, .inl gi)), (vs, .inl (cI, 6, .inl gs)), (vb, .inl (cI, 6, .inl gb)), (vt, .inl (cI, 6, .inl gt)), (ve, .inl (cI, 6, .inl ge)), (hi, .inr (4, [.ref hs, .int 0, .int 1, .int 0])), (hs, .inl (cE, 41, .inr (.inr (.inr (.inr fh)))))] := hD
  refine W.widen (k := 0) (n := 0) (show 0 + 0 ≤ 0 by omega) (show 0 + 0 ≤ 0 by omega) ?_
  refine W.eq (g2 := F0 m 49 ls [.ref e1]) (by rw [hr_r_4]) ?_
  refine lv_aload_n hx hb dX4_goOn_49 rfl (lv_at hl 0 rfl) ?_
  refine go_v (wr := [(hi, .inr (4, [.ref hs, .int 0, .int 1, .int 0])), (hs, .inl (cE, 41, .inr (.inr (.inr (.inr fh)))))]) (run_VN [(e0, .inr (2, [.int b0, .int n0, .ref ui, .ref us, .ref ub, .ref ut, .ref ue])), (ui, .inl (cI, 25, .inl fi)), (us, .inl (cI, 6, .inl fs)), (ub, .inl (cI, 6, .inl fb)), (ut, .inl (cI, 6, .inl ft)), (ue, .inl (cI, 6, .inl fe)), (e1, .inr (2, [.int b1, .int n1, .ref vi, .ref vs, .ref vb, .ref vt, .ref ve])), (vi, .inl (cI, 25, .inl gi)), (vs, .inl (cI, 6, .inl gs)), (vb, .inl (cI, 6, .inl gb)), (vt, .inl (cI, 6, .inl gt)), (ve, .inl (cI, 6, .inl ge)), (hi, .inr (4, [.ref hs, .int 0, .int 1, .int 0])), (hs, .inl (cE, 41, .inr (.inr (.inr (.inr fh)))))] [(e1, .inr (2, [.int b1, .int n1, .ref vi, .ref vs, .ref vb, .ref vt, .ref ve])), (vi, .inl (cI, 25, .inl gi)), (vs, .inl (cI, 6, .inl gs)), (vb, .inl (cI, 6, .inl gb)), (vt, .inl (cI, 6, .inl gt)), (ve, .inl (cI, 6, .inl ge)), (e0, .inr (2, [.int b0, .int n0, .ref ui, .ref us, .ref ub, .ref ut, .ref ue])), (ui, .inl (cI, 25, .inl fi)), (us, .inl (cI, 6, .inl fs)), (ub, .inl (cI, 6, .inl fb)), (ut, .inl (cI, 6, .inl ft)), (ue, .inl (cI, 6, .inl fe))] [(hi, .inr (4, [.ref hs, .int 0, .int 1, .int 0])), (hs, .inl (cE, 41, .inr (.inr (.inr (.inr fh)))))] [.ref e0] [] (c_X2_copy l G cI cZ cB cJ cE e1 e0 vi vs vb vt ve ui us ub ut ue b1 n1 b0 n0 gi gs gb gt ge fi fs fb ft fe H.size ) hx hb hml htw hown hK hl.1 hP hD [6, 7, 8, 9, 10, 11, 0, 1, 2, 3, 4, 5] rfl rfl (by decide) 0 2 rfl rfl rfl wm_948 wm_947 wm_43 wm_156 nm_945 ⟨by decide +kernel, by decide +kernel, (show _ = some 1 from by decide +kernel)⟩ ⟨Nat.le_trans (by decide : 1 + 1 ≤ 2) hRf, Nat.le_trans (by decide : 8 + (2 + 11) + 40 ≤ 61) hRl⟩ ⟨show 0 + 0 ≤ R.cells by omega, show 0 + 0 ≤ R.slots by omega⟩ (Nat.le_of_ble_eq_true rfl) dX4_goOn_50) hP hD hS hA [6, 7, 8, 9, 10, 11, 0, 1, 2, 3, 4, 5] [12, 13] rfl rfl (by decide) (by decide) (fun  H locs hB J hS => ?_)
  obtain ⟨ki_5, ks_6, kb_7, kt_8, ke_9, hP1, hD1⟩ := hB
  obtain ⟨hP, hD⟩ := J _ hP1 hD1
  have hP : va_P G classes [(hi, .inr (4, [.ref hs, .int 0, .int 1, .int 0])), (hs, .inl (cE, 41, .inr (.inr (.inr (.inr fh))))), (e1, .inr (2, [.int b0, .int n0, .ref vi, .ref vs, .ref vb, .ref vt, .ref ve])), (vi, .inl (cI, 25, .inl ki_5)), (vs, .inl (cI, 6, .inl ks_6)), (vb, .inl (cI, 6, .inl kb_7)), (vt, .inl (cI, 6, .inl kt_8)), (ve, .inl (cI, 6, .inl ke_9)), (e0, .inr (2, [.int b0, .int n0, .ref ui, .ref us, .ref ub, .ref ut, .ref ue])), (ui, .inl (cI, 25, .inl fi)), (us, .inl (cI, 6, .inl fs)), (ub, .inl (cI, 6, .inl fb)), (ut, .inl (cI, 6, .inl ft)), (ue, .inl (cI, 6, .inl fe))] H := hP
  have hD : va_D A [(hi, .inr (4, [.ref hs, .int 0, .int 1, .int 0])), (hs, .inl (cE, 41, .inr (.inr (.inr (.inr fh))))), (e1, .inr (2, [.int b0, .int n0, .ref vi, .ref vs, .ref vb, .ref vt, .ref ve])), (vi, .inl (cI, 25, .inl ki_5)), (vs, .inl (cI, 6, .inl ks_6)), (vb, .inl (cI, 6, .inl kb_7)), (vt, .inl (cI, 6, .inl kt_8)), (ve, .inl (cI, 6, .inl ke_9)), (e0, .inr (2, [.int b0, .int n0, .ref ui, .ref us, .ref ub, .ref ut, .ref ue])), (ui, .inl (cI, 25, .inl fi)), (us, .inl (cI, 6, .inl fs)), (ub, .inl (cI, 6, .inl fb)), (ut, .inl (cI, 6, .inl ft)), (ue, .inl (cI, 6, .inl fe))] := hD
  refine W.widen (k := 0) (n := 0) (show 0 + 0 ≤ 0 by omega) (show 0 + 0 ≤ 0 by omega) ?_
  refine lv_aload_n hx hb dX4_goOn_53 rfl (lv_at hl 1 rfl) ?_
  refine go_r (wr := [(e1, .inr (2, [.int b0, .int n0, .ref vi, .ref vs, .ref vb, .ref vt, .ref ve])), (vi, .inl (cI, 25, .inl ki_5)), (vs, .inl (cI, 6, .inl ks_6)), (vb, .inl (cI, 6, .inl kb_7)), (vt, .inl (cI, 6, .inl kt_8)), (ve, .inl (cI, 6, .inl ke_9)), (e0, .inr (2, [.int b0, .int n0, .ref ui, .ref us, .ref ub, .ref ut, .ref ue])), (ui, .inl (cI, 25, .inl fi)), (us, .inl (cI, 6, .inl fs)), (ub, .inl (cI, 6, .inl fb)), (ut, .inl (cI, 6, .inl ft)), (ue, .inl (cI, 6, .inl fe))]) (run_V [(hi, .inr (4, [.ref hs, .int 0, .int 1, .int 0])), (hs, .inl (cE, 41, .inr (.inr (.inr (.inr fh))))), (e1, .inr (2, [.int b0, .int n0, .ref vi, .ref vs, .ref vb, .ref vt, .ref ve])), (vi, .inl (cI, 25, .inl ki_5)), (vs, .inl (cI, 6, .inl ks_6)), (vb, .inl (cI, 6, .inl kb_7)), (vt, .inl (cI, 6, .inl kt_8)), (ve, .inl (cI, 6, .inl ke_9)), (e0, .inr (2, [.int b0, .int n0, .ref ui, .ref us, .ref ub, .ref ut, .ref ue])), (ui, .inl (cI, 25, .inl fi)), (us, .inl (cI, 6, .inl fs)), (ub, .inl (cI, 6, .inl fb)), (ut, .inl (cI, 6, .inl ft)), (ue, .inl (cI, 6, .inl fe))] [(hi, .inr (4, [.ref hs, .int 0, .int 1, .int 0])), (hs, .inl (cE, 41, .inr (.inr (.inr (.inr fh)))))] [(e1, .inr (2, [.int b0, .int n0, .ref vi, .ref vs, .ref vb, .ref vt, .ref ve])), (vi, .inl (cI, 25, .inl ki_5)), (vs, .inl (cI, 6, .inl ks_6)), (vb, .inl (cI, 6, .inl kb_7)), (vt, .inl (cI, 6, .inl kt_8)), (ve, .inl (cI, 6, .inl ke_9)), (e0, .inr (2, [.int b0, .int n0, .ref ui, .ref us, .ref ub, .ref ut, .ref ue])), (ui, .inl (cI, 25, .inl fi)), (us, .inl (cI, 6, .inl fs)), (ub, .inl (cI, 6, .inl fb)), (ut, .inl (cI, 6, .inl ft)), (ue, .inl (cI, 6, .inl fe))] [] [] (c_X4_now1 l G cI cZ cB cJ cE hi hs e1 fh 0 H.size (hf1)) hx hb hml htw hown hK hl.1 hP hD [0, 1] rfl rfl (by decide) 0 4 rfl rfl rfl wm_581 wm_580 wm_1 wm_155 wm_944 ⟨by decide +kernel, by decide +kernel, (show _ = some 0 from by decide +kernel)⟩ ⟨Nat.le_trans (by decide : 0 + 1 ≤ 2) hRf, Nat.le_trans (by decide : 8 + (1 + 11) + 0 ≤ 61) hRl⟩ ⟨show 0 + 0 ≤ R.cells by omega, show 0 + 0 ≤ R.slots by omega⟩ (Nat.le_of_ble_eq_true rfl) dX4_goOn_54) hP hD hS hA [0, 1] [2, 3, 4, 5, 6, 7, 8, 9, 10, 11, 12, 13] rfl rfl (by decide) (by decide) (fun r_10 H locs hB J hS => ?_)
  obtain ⟨hr_r_10, hP1, hD1⟩ := hB
  obtain ⟨hP, hD⟩ := J _ hP1 hD1
  have hP : va_P G classes [(e1, .inr (2, [.int b0, .int n0, .ref vi, .ref vs, .ref vb, .ref vt, .ref ve])), (vi, .inl (cI, 25, .inl ki_5)), (vs, .inl (cI, 6, .inl ks_6)), (vb, .inl (cI, 6, .inl kb_7)), (vt, .inl (cI, 6, .inl kt_8)), (ve, .inl (cI, 6, .inl ke_9)), (e0, .inr (2, [.int b0, .int n0, .ref ui, .ref us, .ref ub, .ref ut, .ref ue])), (ui, .inl (cI, 25, .inl fi)), (us, .inl (cI, 6, .inl fs)), (ub, .inl (cI, 6, .inl fb)), (ut, .inl (cI, 6, .inl ft)), (ue, .inl (cI, 6, .inl fe)), (hi, .inr (4, [.ref hs, .int 0, .int 1, .int 0])), (hs, .inl (cE, 41, .inr (.inr (.inr (.inr fh)))))] H := hP
  have hD : va_D A [(e1, .inr (2, [.int b0, .int n0, .ref vi, .ref vs, .ref vb, .ref vt, .ref ve])), (vi, .inl (cI, 25, .inl ki_5)), (vs, .inl (cI, 6, .inl ks_6)), (vb, .inl (cI, 6, .inl kb_7)), (vt, .inl (cI, 6, .inl kt_8)), (ve, .inl (cI, 6, .inl ke_9)), (e0, .inr (2, [.int b0, .int n0, .ref ui, .ref us, .ref ub, .ref ut, .ref ue])), (ui, .inl (cI, 25, .inl fi)), (us, .inl (cI, 6, .inl fs)), (ub, .inl (cI, 6, .inl fb)), (ut, .inl (cI, 6, .inl ft)), (ue, .inl (cI, 6, .inl fe)), (hi, .inr (4, [.ref hs, .int 0, .int 1, .int 0])), (hs, .inl (cE, 41, .inr (.inr (.inr (.inr fh)))))] := hD
  refine W.widen (k := 0) (n := 0) (show 0 + 0 ≤ 0 by omega) (show 0 + 0 ≤ 0 by omega) ?_
  refine W.eq (g2 := F0 m 57 ls [.ref e1]) (by rw [hr_r_10]) ?_
  refine W.eq (g2 := F0 m 57 ls [.ref e1]) rfl ?_
  exact hret e1 _ _ _ _ _ _ dX4_goOn_57 (show 0 ≤ 0 by omega) (show 0 ≤ 0 by omega) ⟨ki_5, ks_6, kb_7, kt_8, ke_9, rfl, hP.sub [12, 13, 0, 1, 2, 3, 4, 5, 6, 7, 8, 9, 10, 11] rfl, hD.sub [12, 13, 0, 1, 2, 3, 4, 5, 6, 7, 8, 9, 10, 11] (by decide) rfl⟩ hS

abbrev P_X4_takeBack (G : va_G) (cI cZ cB cJ cE : ClassId) (hi : Nat) (hs : Nat) : (Nat → Prop) → Int32 → Heap → Prop := fun (A1 : Nat → Prop) (v : Int32) (H1 : Heap) => v = 0 ∧ va_P G classes [(hi, .inr (4, [.ref hs, .int 0, .int 0, .int 0]))] H1 ∧ va_D A1 [(hi, .inr (4, [.ref hs, .int 0, .int 0, .int 0]))]
set_option maxHeartbeats 4000000 in
set_option maxRecDepth 100000 in
/-- IceTunes$History.takeBack -/
theorem c_X4_takeBack (l : Launch) (G : va_G) (cI cZ cB cJ cE : ClassId) (hi : Nat) (hs : Nat) (sz : Nat)  : Met l yX4_takeBack (.code yX4_takeBack cX4_takeBack 1 (some .boolean) :: wt) ({ frames := 0, cells := 0, slots := 0, locals := 0 }) (va_Pc [.ref hi] (PreW G cI cZ cB cJ cE [(hi, .inr (4, [.ref hs, .int 0, .int 0, .int 0]))] sz)) (QI ((P_X4_takeBack G cI cZ cB cJ cE hi hs) (va_A [(hi, .inr (4, [.ref hs, .int 0, .int 0, .int 0]))] sz)) (va_A [(hi, .inr (4, [.ref hs, .int 0, .int 0, .int 0]))] sz)) 0 0 (va_A [(hi, .inr (4, [.ref hs, .int 0, .int 0, .int 0]))] sz) := by
  refine mk_i (P := P_X4_takeBack G cI cZ cB cJ cE hi hs) (rm := { frames := 0, cells := 0, slots := 0, locals := 0 }) (by decide) (Nat.le_of_ble_eq_true rfl) ?_
  intro p e s m args below meth c R Q A H locs ls hx hb hml htw hown hK hR hA hret hP hD hS hl
  have hRf : 0 ≤ R.frames := hR.1
  have hRl : 0 ≤ R.locals := hR.2.1
  have hRc : R.cells = 0 := hR.2.2.1
  have hRs : R.slots = 0 := hR.2.2.2
  have hl : lv_has ls 1 [(0, .ref hi)] := hl
  refine lv_aload_n hx hb dX4_takeBack_0 rfl (lv_at hl 0 rfl) ?_
  refine va_get (D := G) (ci := 4) (v := .int 0) (C := RX4) (T := TX4) (N := 4) hx hb htw in_X4 hown hK.1 hP 0 rfl rfl 2 (by decide) (htw _ wm_445) (fun _ h9 => h9) rfl dX4_takeBack_1 ?_
  refine lv_if_ne (tgt := 9) hx hb dX4_takeBack_4 (by decide) (fun c_1 => absurd (by decide) c_1) (fun _ => ?_)
  refine lv_iconst (v := 0) hx hb dX4_takeBack_7 (by decide) ?_
  exact hret 0 _ _ _ _ _ _ dX4_takeBack_8 rfl (show 0 ≤ 0 by omega) (show 0 ≤ 0 by omega) ⟨rfl, hP.sub [0] rfl, hD.sub [0] (by decide) rfl⟩ hS

abbrev P_X4_doAgain (G : va_G) (cI cZ cB cJ cE : ClassId) (hi : Nat) (hs : Nat) : (Nat → Prop) → Int32 → Heap → Prop := fun (A1 : Nat → Prop) (v : Int32) (H1 : Heap) => v = 0 ∧ va_P G classes [(hi, .inr (4, [.ref hs, .int 0, .int 0, .int 0]))] H1 ∧ va_D A1 [(hi, .inr (4, [.ref hs, .int 0, .int 0, .int 0]))]
set_option maxHeartbeats 4000000 in
set_option maxRecDepth 100000 in
/-- IceTunes$History.doAgain -/
theorem c_X4_doAgain (l : Launch) (G : va_G) (cI cZ cB cJ cE : ClassId) (hi : Nat) (hs : Nat) (sz : Nat)  : Met l yX4_doAgain (.code yX4_doAgain cX4_doAgain 1 (some .boolean) :: wt) ({ frames := 0, cells := 0, slots := 0, locals := 0 }) (va_Pc [.ref hi] (PreW G cI cZ cB cJ cE [(hi, .inr (4, [.ref hs, .int 0, .int 0, .int 0]))] sz)) (QI ((P_X4_doAgain G cI cZ cB cJ cE hi hs) (va_A [(hi, .inr (4, [.ref hs, .int 0, .int 0, .int 0]))] sz)) (va_A [(hi, .inr (4, [.ref hs, .int 0, .int 0, .int 0]))] sz)) 0 0 (va_A [(hi, .inr (4, [.ref hs, .int 0, .int 0, .int 0]))] sz) := by
  refine mk_i (P := P_X4_doAgain G cI cZ cB cJ cE hi hs) (rm := { frames := 0, cells := 0, slots := 0, locals := 0 }) (by decide) (Nat.le_of_ble_eq_true rfl) ?_
  intro p e s m args below meth c R Q A H locs ls hx hb hml htw hown hK hR hA hret hP hD hS hl
  have hRf : 0 ≤ R.frames := hR.1
  have hRl : 0 ≤ R.locals := hR.2.1
  have hRc : R.cells = 0 := hR.2.2.1
  have hRs : R.slots = 0 := hR.2.2.2
  have hl : lv_has ls 1 [(0, .ref hi)] := hl
  refine lv_aload_n hx hb dX4_doAgain_0 rfl (lv_at hl 0 rfl) ?_
  refine va_get (D := G) (ci := 4) (v := .int 0) (C := RX4) (T := TX4) (N := 4) hx hb htw in_X4 hown hK.1 hP 0 rfl rfl 3 (by decide) (htw _ wm_447) (fun _ h9 => h9) rfl dX4_doAgain_1 ?_
  refine lv_if_ne (tgt := 9) hx hb dX4_doAgain_4 (by decide) (fun c_1 => absurd (by decide) c_1) (fun _ => ?_)
  refine lv_iconst (v := 0) hx hb dX4_doAgain_7 (by decide) ?_
  exact hret 0 _ _ _ _ _ _ dX4_doAgain_8 rfl (show 0 ≤ 0 by omega) (show 0 ≤ 0 by omega) ⟨rfl, hP.sub [0] rfl, hD.sub [0] (by decide) rfl⟩ hS

abbrev P_X4_forget (G : va_G) (cI cZ cB cJ cE : ClassId) (hi : Nat) (hs : Nat) (a : Int32) (b : Int32) (d : Int32) : (Nat → Prop) → Heap → Prop := fun (A1 : Nat → Prop) (H1 : Heap) => va_P G classes [(hi, .inr (4, [.ref hs, .int 0, .int 0, .int 0]))] H1 ∧ va_D A1 [(hi, .inr (4, [.ref hs, .int 0, .int 0, .int 0]))]
set_option maxHeartbeats 4000000 in
set_option maxRecDepth 100000 in
/-- IceTunes$History.forget -/
theorem c_X4_forget (l : Launch) (G : va_G) (cI cZ cB cJ cE : ClassId) (hi : Nat) (hs : Nat) (a : Int32) (b : Int32) (d : Int32) (sz : Nat)  : Met l yX4_forget (.code yX4_forget cX4_forget 1 none :: wt) ({ frames := 0, cells := 0, slots := 0, locals := 0 }) (va_Pc [.ref hi] (PreW G cI cZ cB cJ cE [(hi, .inr (4, [.ref hs, .int a, .int b, .int d]))] sz)) (QV ((P_X4_forget G cI cZ cB cJ cE hi hs a b d) (va_A [(hi, .inr (4, [.ref hs, .int a, .int b, .int d]))] sz)) (va_A [(hi, .inr (4, [.ref hs, .int a, .int b, .int d]))] sz)) 0 0 (va_A [(hi, .inr (4, [.ref hs, .int a, .int b, .int d]))] sz) := by
  refine mk_v (P := P_X4_forget G cI cZ cB cJ cE hi hs a b d) (rm := { frames := 0, cells := 0, slots := 0, locals := 0 }) (by decide) (Nat.le_of_ble_eq_true rfl) ?_
  intro p e s m args below meth c R Q A H locs ls hx hb hml htw hown hK hR hA hin hret hP hD hS hl
  have hRf : 0 ≤ R.frames := hR.1
  have hRl : 0 ≤ R.locals := hR.2.1
  have hRc : R.cells = 0 := hR.2.2.1
  have hRs : R.slots = 0 := hR.2.2.2
  have hl : lv_has ls 1 [(0, .ref hi)] := hl
  refine lv_aload_n hx hb dX4_forget_0 rfl (lv_at hl 0 rfl) ?_
  refine lv_iconst (v := 0) hx hb dX4_forget_1 (by decide) ?_
  refine va_put (D := G) (ci := 4) (v := .int 0) (ty := .int) (C := RX4) (T := TX4) (N := 4) hx hb htw in_X4 tyX4 tyX4_ok nmX4 hown hK.1 hP hD hS 0 rfl rfl 1 (by decide) (htw _ wm_444) (fun _ h9 => h9) rfl (by decide +kernel) rfl rfl (Nat.le_of_ble_eq_true rfl) dX4_forget_2 (fun H locs hP hD hS => ?_)
  have hP : va_P G classes [(hi, .inr (4, [.ref hs, .int 0, .int b, .int d]))] H := hP
  have hD : va_D A [(hi, .inr (4, [.ref hs, .int 0, .int b, .int d]))] := hD
  refine lv_aload_n hx hb dX4_forget_5 rfl (lv_at hl 0 rfl) ?_
  refine lv_iconst (v := 0) hx hb dX4_forget_6 (by decide) ?_
  refine W.eq (g2 := F0 m 7 ls [.int 0, .ref hi]) rfl ?_
  refine va_put (D := G) (ci := 4) (v := .int 0) (ty := .int) (C := RX4) (T := TX4) (N := 4) hx hb htw in_X4 tyX4 tyX4_ok nmX4 hown hK.1 hP hD hS 0 rfl rfl 2 (by decide) (htw _ wm_445) (fun _ h9 => h9) rfl (by decide +kernel) rfl rfl (Nat.le_of_ble_eq_true rfl) dX4_forget_7 (fun H locs hP hD hS => ?_)
  have hP : va_P G classes [(hi, .inr (4, [.ref hs, .int 0, .int 0, .int d]))] H := hP
  have hD : va_D A [(hi, .inr (4, [.ref hs, .int 0, .int 0, .int d]))] := hD
  refine lv_aload_n hx hb dX4_forget_10 rfl (lv_at hl 0 rfl) ?_
  refine lv_iconst (v := 0) hx hb dX4_forget_11 (by decide) ?_
  refine va_put (D := G) (ci := 4) (v := .int 0) (ty := .int) (C := RX4) (T := TX4) (N := 4) hx hb htw in_X4 tyX4 tyX4_ok nmX4 hown hK.1 hP hD hS 0 rfl rfl 3 (by decide) (htw _ wm_447) (fun _ h9 => h9) rfl (by decide +kernel) rfl rfl (Nat.le_of_ble_eq_true rfl) dX4_forget_12 (fun H locs hP hD hS => ?_)
  have hP : va_P G classes [(hi, .inr (4, [.ref hs, .int 0, .int 0, .int 0]))] H := hP
  have hD : va_D A [(hi, .inr (4, [.ref hs, .int 0, .int 0, .int 0]))] := hD
  exact hret _ _ _ _ _ _ dX4_forget_15 (show 0 ≤ 0 by omega) (show 0 ≤ 0 by omega) ⟨hP.sub [0] rfl, hD.sub [0] (by decide) rfl⟩ hS

abbrev P_X8_clear (G : va_G) (cI cZ cB cJ cE : ClassId) (sg : Nat) (s0 : Nat) (s1 : Nat) (s2 : Nat) (s3 : Nat) (s4 : Nat) (s5 : Nat) (s6 : Nat) (a : Int32) : (Nat → Prop) → Heap → Prop := fun (A1 : Nat → Prop) (H1 : Heap) => va_P G classes [(sg, .inr (8, [.int 0, .ref s0, .ref s1, .ref s2, .ref s3, .ref s4, .ref s5, .ref s6]))] H1 ∧ va_D A1 [(sg, .inr (8, [.int 0, .ref s0, .ref s1, .ref s2, .ref s3, .ref s4, .ref s5, .ref s6]))]
set_option maxHeartbeats 4000000 in
set_option maxRecDepth 100000 in
/-- IceTunes$Sights.clear -/
theorem c_X8_clear (l : Launch) (G : va_G) (cI cZ cB cJ cE : ClassId) (sg : Nat) (s0 : Nat) (s1 : Nat) (s2 : Nat) (s3 : Nat) (s4 : Nat) (s5 : Nat) (s6 : Nat) (a : Int32) (sz : Nat)  : Met l yX8_clear (.code yX8_clear cX8_clear 1 none :: wt) ({ frames := 0, cells := 0, slots := 0, locals := 0 }) (va_Pc [.ref sg] (PreW G cI cZ cB cJ cE [(sg, .inr (8, [.int a, .ref s0, .ref s1, .ref s2, .ref s3, .ref s4, .ref s5, .ref s6]))] sz)) (QV ((P_X8_clear G cI cZ cB cJ cE sg s0 s1 s2 s3 s4 s5 s6 a) (va_A [(sg, .inr (8, [.int a, .ref s0, .ref s1, .ref s2, .ref s3, .ref s4, .ref s5, .ref s6]))] sz)) (va_A [(sg, .inr (8, [.int a, .ref s0, .ref s1, .ref s2, .ref s3, .ref s4, .ref s5, .ref s6]))] sz)) 0 0 (va_A [(sg, .inr (8, [.int a, .ref s0, .ref s1, .ref s2, .ref s3, .ref s4, .ref s5, .ref s6]))] sz) := by
  refine mk_v (P := P_X8_clear G cI cZ cB cJ cE sg s0 s1 s2 s3 s4 s5 s6 a) (rm := { frames := 0, cells := 0, slots := 0, locals := 0 }) (by decide) (Nat.le_of_ble_eq_true rfl) ?_
  intro p e s m args below meth c R Q A H locs ls hx hb hml htw hown hK hR hA hin hret hP hD hS hl
  have hRf : 0 ≤ R.frames := hR.1
  have hRl : 0 ≤ R.locals := hR.2.1
  have hRc : R.cells = 0 := hR.2.2.1
  have hRs : R.slots = 0 := hR.2.2.2
  have hl : lv_has ls 1 [(0, .ref sg)] := hl
  refine lv_aload_n hx hb dX8_clear_0 rfl (lv_at hl 0 rfl) ?_
  refine lv_iconst (v := 0) hx hb dX8_clear_1 (by decide) ?_
  refine va_put (D := G) (ci := 8) (v := .int 0) (ty := .int) (C := RX8) (T := TX8) (N := 8) hx hb htw in_X8 tyX8 tyX8_ok nmX8 hown hK.1 hP hD hS 0 rfl rfl 0 (by decide) (htw _ wm_465) (fun _ h9 => h9) rfl (by decide +kernel) rfl rfl (Nat.le_of_ble_eq_true rfl) dX8_clear_2 (fun H locs hP hD hS => ?_)
  have hP : va_P G classes [(sg, .inr (8, [.int 0, .ref s0, .ref s1, .ref s2, .ref s3, .ref s4, .ref s5, .ref s6]))] H := hP
  have hD : va_D A [(sg, .inr (8, [.int 0, .ref s0, .ref s1, .ref s2, .ref s3, .ref s4, .ref s5, .ref s6]))] := hD
  exact hret _ _ _ _ _ _ dX8_clear_5 (show 0 ≤ 0 by omega) (show 0 ≤ 0 by omega) ⟨hP.sub [0] rfl, hD.sub [0] (by decide) rfl⟩ hS

abbrev P_X8_takeAway (G : va_G) (cI cZ cB cJ cE : ClassId) (sg : Nat) (s0 : Nat) (s1 : Nat) (s2 : Nat) (s3 : Nat) (s4 : Nat) (s5 : Nat) (s6 : Nat) (a : Int32) (b : Int32) : (Nat → Prop) → Int32 → Heap → Prop := fun (A1 : Nat → Prop) (v : Int32) (H1 : Heap) => v = 0 ∧ va_P G classes [(sg, .inr (8, [.int 0, .ref s0, .ref s1, .ref s2, .ref s3, .ref s4, .ref s5, .ref s6]))] H1 ∧ va_D A1 [(sg, .inr (8, [.int 0, .ref s0, .ref s1, .ref s2, .ref s3, .ref s4, .ref s5, .ref s6]))]
set_option maxHeartbeats 4000000 in
set_option maxRecDepth 100000 in
/-- IceTunes$Sights.takeAway -/
theorem c_X8_takeAway (l : Launch) (G : va_G) (cI cZ cB cJ cE : ClassId) (sg : Nat) (s0 : Nat) (s1 : Nat) (s2 : Nat) (s3 : Nat) (s4 : Nat) (s5 : Nat) (s6 : Nat) (a : Int32) (b : Int32) (sz : Nat)  : Met l yX8_takeAway (.code yX8_takeAway cX8_takeAway 3 (some .boolean) :: wt) ({ frames := 0, cells := 0, slots := 0, locals := 0 }) (va_Pc [.ref sg, .int a, .int b] (PreW G cI cZ cB cJ cE [(sg, .inr (8, [.int 0, .ref s0, .ref s1, .ref s2, .ref s3, .ref s4, .ref s5, .ref s6]))] sz)) (QI ((P_X8_takeAway G cI cZ cB cJ cE sg s0 s1 s2 s3 s4 s5 s6 a b) (va_A [(sg, .inr (8, [.int 0, .ref s0, .ref s1, .ref s2, .ref s3, .ref s4, .ref s5, .ref s6]))] sz)) (va_A [(sg, .inr (8, [.int 0, .ref s0, .ref s1, .ref s2, .ref s3, .ref s4, .ref s5, .ref s6]))] sz)) 0 0 (va_A [(sg, .inr (8, [.int 0, .ref s0, .ref s1, .ref s2, .ref s3, .ref s4, .ref s5, .ref s6]))] sz) := by
  refine mk_i (P := P_X8_takeAway G cI cZ cB cJ cE sg s0 s1 s2 s3 s4 s5 s6 a b) (rm := { frames := 0, cells := 0, slots := 0, locals := 0 }) (by decide) (Nat.le_of_ble_eq_true rfl) ?_
  intro p e s m args below meth c R Q A H locs ls hx hb hml htw hown hK hR hA hret hP hD hS hl
  have hRf : 0 ≤ R.frames := hR.1
  have hRl : 0 ≤ R.locals := hR.2.1
  have hRc : R.cells = 0 := hR.2.2.1
  have hRs : R.slots = 0 := hR.2.2.2
  have hl : lv_has ls 3 [(0, .ref sg), (1, .int a), (2, .int b)] := hl
  refine lv_iload_n hx hb dX8_takeAway_0 rfl (lv_at hl 1 rfl) ?_
  refine lv_if_lt (tgt := 22) hx hb dX8_takeAway_1 (by decide) (fun c_1 => ?_) (fun c_1 => ?_)
  · refine lv_iconst (v := 0) hx hb dX8_takeAway_22 (by decide) ?_
    exact hret 0 _ _ _ _ _ _ dX8_takeAway_23 rfl (show 0 ≤ 0 by omega) (show 0 ≤ 0 by omega) ⟨rfl, hP.sub [0] rfl, hD.sub [0] (by decide) rfl⟩ hS
  · refine lv_iload_n hx hb dX8_takeAway_4 rfl (lv_at hl 1 rfl) ?_
    refine W.eq (g2 := F0 m 5 ls [.int a]) rfl ?_
    refine lv_aload_n hx hb dX8_takeAway_5 rfl (lv_at hl 0 rfl) ?_
    refine va_get (D := G) (ci := 8) (v := .int 0) (C := RX8) (T := TX8) (N := 8) hx hb htw in_X8 hown hK.1 hP 0 rfl rfl 0 (by decide) (htw _ wm_465) (fun _ h9 => h9) rfl dX8_takeAway_6 ?_
    refine lv_icmp_ge (tgt := 22) hx hb dX8_takeAway_9 (by decide) (fun _ => ?_) (fun c_2 => absurd (by have e0 : (0 : Int32).toInt = 0 := (by decide); have t1 := mt Int32.lt_iff_toInt_lt.mpr c_1; rw [Int32.le_iff_toInt_le]; omega) c_2)
    refine lv_iconst (v := 0) hx hb dX8_takeAway_22 (by decide) ?_
    exact hret 0 _ _ _ _ _ _ dX8_takeAway_23 rfl (show 0 ≤ 0 by omega) (show 0 ≤ 0 by omega) ⟨rfl, hP.sub [0] rfl, hD.sub [0] (by decide) rfl⟩ hS

abbrev P_X8_lastBar (G : va_G) (cI cZ cB cJ cE : ClassId) (sg : Nat) (s0 : Nat) (s1 : Nat) (s2 : Nat) (s3 : Nat) (s4 : Nat) (s5 : Nat) (s6 : Nat) (a : Int32) : (Nat → Prop) → Int32 → Heap → Prop := fun (A1 : Nat → Prop) (v : Int32) (H1 : Heap) => v = 0 ∧ va_P G classes [(sg, .inr (8, [.int 0, .ref s0, .ref s1, .ref s2, .ref s3, .ref s4, .ref s5, .ref s6]))] H1 ∧ va_D A1 [(sg, .inr (8, [.int 0, .ref s0, .ref s1, .ref s2, .ref s3, .ref s4, .ref s5, .ref s6]))]
set_option maxHeartbeats 4000000 in
set_option maxRecDepth 100000 in
/-- IceTunes$Sights.lastBar -/
theorem c_X8_lastBar (l : Launch) (G : va_G) (cI cZ cB cJ cE : ClassId) (sg : Nat) (s0 : Nat) (s1 : Nat) (s2 : Nat) (s3 : Nat) (s4 : Nat) (s5 : Nat) (s6 : Nat) (a : Int32) (sz : Nat)  : Met l yX8_lastBar (.code yX8_lastBar cX8_lastBar 4 (some .int) :: wt) ({ frames := 0, cells := 0, slots := 0, locals := 0 }) (va_Pc [.ref sg, .int a] (PreW G cI cZ cB cJ cE [(sg, .inr (8, [.int 0, .ref s0, .ref s1, .ref s2, .ref s3, .ref s4, .ref s5, .ref s6]))] sz)) (QI ((P_X8_lastBar G cI cZ cB cJ cE sg s0 s1 s2 s3 s4 s5 s6 a) (va_A [(sg, .inr (8, [.int 0, .ref s0, .ref s1, .ref s2, .ref s3, .ref s4, .ref s5, .ref s6]))] sz)) (va_A [(sg, .inr (8, [.int 0, .ref s0, .ref s1, .ref s2, .ref s3, .ref s4, .ref s5, .ref s6]))] sz)) 0 0 (va_A [(sg, .inr (8, [.int 0, .ref s0, .ref s1, .ref s2, .ref s3, .ref s4, .ref s5, .ref s6]))] sz) := by
  refine mk_i (P := P_X8_lastBar G cI cZ cB cJ cE sg s0 s1 s2 s3 s4 s5 s6 a) (rm := { frames := 0, cells := 0, slots := 0, locals := 0 }) (by decide) (Nat.le_of_ble_eq_true rfl) ?_
  intro p e s m args below meth c R Q A H locs ls hx hb hml htw hown hK hR hA hret hP hD hS hl
  have hRf : 0 ≤ R.frames := hR.1
  have hRl : 0 ≤ R.locals := hR.2.1
  have hRc : R.cells = 0 := hR.2.2.1
  have hRs : R.slots = 0 := hR.2.2.2
  have hl : lv_has ls 4 [(0, .ref sg), (1, .int a)] := hl
  refine lv_iconst (v := 0) hx hb dX8_lastBar_0 (by decide) ?_
  refine lv_istore_n (lv' := [(2, .int 0), (0, .ref sg), (1, .int a)]) hx hb dX8_lastBar_1 rfl hl (by decide) rfl (fun ls hl => ?_)
  refine lv_iconst (v := 0) hx hb dX8_lastBar_2 (by decide) ?_
  refine lv_istore_n (lv' := [(3, .int 0), (2, .int 0), (0, .ref sg), (1, .int a)]) hx hb dX8_lastBar_3 rfl hl (by decide) rfl (fun ls hl => ?_)
  refine lv_iload_n hx hb dX8_lastBar_4 rfl (lv_at hl 0 rfl) ?_
  refine W.eq (g2 := F0 m 5 ls [.int 0]) rfl ?_
  refine lv_aload_n hx hb dX8_lastBar_5 rfl (lv_at hl 2 rfl) ?_
  refine va_get (D := G) (ci := 8) (v := .int 0) (C := RX8) (T := TX8) (N := 8) hx hb htw in_X8 hown hK.1 hP 0 rfl rfl 0 (by decide) (htw _ wm_465) (fun _ h9 => h9) rfl dX8_lastBar_6 ?_
  refine lv_icmp_ge (tgt := 38) hx hb dX8_lastBar_9 (by decide) (fun _ => ?_) (fun c_1 => absurd (by decide) c_1)
  refine lv_iload_n hx hb dX8_lastBar_38 rfl (lv_at hl 1 rfl) ?_
  exact hret 0 _ _ _ _ _ _ dX8_lastBar_39 rfl (show 0 ≤ 0 by omega) (show 0 ≤ 0 by omega) ⟨rfl, hP.sub [0] rfl, hD.sub [0] (by decide) rfl⟩ hS

set_option maxHeartbeats 4000000 in
set_option maxRecDepth 100000 in
/-- IceTunes$Evening.<init> -/
theorem c_X2_init (l : Launch) (G : va_G) (cI cZ cB cJ cE : ClassId) (h : Nat) (sz : Nat)  : Met l yX2_init (.code yX2_init cX2_init 1 none :: wt) ({ frames := 1, cells := 5, slots := 49, locals := 12 }) (va_Pc [.ref h] (PreW G cI cZ cB cJ cE [(h, .inr (2, [.int 0, .int 0, .null, .null, .null, .null, .null]))] sz)) (QV ((fun (A1 : Nat → Prop) (H1 : Heap) => ∃ (qi : Nat) (qs : Nat) (qb : Nat) (qt : Nat) (qe : Nat), va_P G classes [(h, .inr (2, [.int 0, .int 0, .ref qi, .ref qs, .ref qb, .ref qt, .ref qe])), (qi, .inl (cI, 25, .inl (fun _ => 0))), (qs, .inl (cI, 6, .inl (fun _ => 0))), (qb, .inl (cI, 6, .inl (fun _ => 0))), (qt, .inl (cI, 6, .inl (fun _ => 0))), (qe, .inl (cI, 6, .inl (fun _ => 0)))] H1 ∧ va_D A1 [(h, .inr (2, [.int 0, .int 0, .ref qi, .ref qs, .ref qb, .ref qt, .ref qe])), (qi, .inl (cI, 25, .inl (fun _ => 0))), (qs, .inl (cI, 6, .inl (fun _ => 0))), (qb, .inl (cI, 6, .inl (fun _ => 0))), (qt, .inl (cI, 6, .inl (fun _ => 0))), (qe, .inl (cI, 6, .inl (fun _ => 0)))]) (va_A [(h, .inr (2, [.int 0, .int 0, .null, .null, .null, .null, .null]))] sz)) (va_A [(h, .inr (2, [.int 0, .int 0, .null, .null, .null, .null, .null]))] sz)) 5 49 (va_A [(h, .inr (2, [.int 0, .int 0, .null, .null, .null, .null, .null]))] sz) := by
  refine mk_v (P := fun (A1 : Nat → Prop) (H1 : Heap) => ∃ (qi : Nat) (qs : Nat) (qb : Nat) (qt : Nat) (qe : Nat), va_P G classes [(h, .inr (2, [.int 0, .int 0, .ref qi, .ref qs, .ref qb, .ref qt, .ref qe])), (qi, .inl (cI, 25, .inl (fun _ => 0))), (qs, .inl (cI, 6, .inl (fun _ => 0))), (qb, .inl (cI, 6, .inl (fun _ => 0))), (qt, .inl (cI, 6, .inl (fun _ => 0))), (qe, .inl (cI, 6, .inl (fun _ => 0)))] H1 ∧ va_D A1 [(h, .inr (2, [.int 0, .int 0, .ref qi, .ref qs, .ref qb, .ref qt, .ref qe])), (qi, .inl (cI, 25, .inl (fun _ => 0))), (qs, .inl (cI, 6, .inl (fun _ => 0))), (qb, .inl (cI, 6, .inl (fun _ => 0))), (qt, .inl (cI, 6, .inl (fun _ => 0))), (qe, .inl (cI, 6, .inl (fun _ => 0)))]) (rm := { frames := 1, cells := 5, slots := 49, locals := 12 }) (by decide) (Nat.le_of_ble_eq_true rfl) ?_
  intro p e s m args below meth c R Q A H locs ls hx hb hml htw hown hK hR hA hin hret hP hD hS hl
  have hRf : 1 ≤ R.frames := hR.1
  have hRl : 12 ≤ R.locals := hR.2.1
  have hRc : R.cells = 5 := hR.2.2.1
  have hRs : R.slots = 49 := hR.2.2.2
  have hl : lv_has ls 1 [(0, .ref h)] := hl
  refine lv_aload_n hx hb dX2_init_0 rfl (lv_at hl 0 rfl) ?_
  refine W.objInit hx hb hown (htw _ wm_402) (htw _ wm_176) (htw _ wm_177) rfl (by rw [hml]; exact hl.1) rfl dX2_init_1 (Nat.le_trans (by decide) hRf) (Nat.le_trans (Nat.le_of_ble_eq_true rfl : _ ≤ 12) hRl) ?_
  refine W.eq (g2 := F0 m 4 ls []) rfl ?_
  refine lv_aload_n hx hb dX2_init_4 rfl (lv_at hl 0 rfl) ?_
  refine lv_bipush (v := 25) hx hb dX2_init_5 (by decide) ?_
  refine new_a (atype := .int) (a0 := (25, .inl (fun _ => 0))) (cA := cI) (N' := 25) hx hb (htw _ wm_288) rfl hK 0 rfl hP hD hS hA (fun _ => rfl) (by decide) (by decide) (by decide) (show 0 + 1 ≤ R.cells by omega) (show 0 + 25 ≤ R.slots by omega) dX2_init_7 (fun q_1 H hP hD hS => ?_)
  have hP : va_P G classes [(h, .inr (2, [.int 0, .int 0, .null, .null, .null, .null, .null])), (q_1, .inl (cI, 25, .inl (fun _ => 0)))] H := hP
  have hD : va_D A [(h, .inr (2, [.int 0, .int 0, .null, .null, .null, .null, .null])), (q_1, .inl (cI, 25, .inl (fun _ => 0)))] := hD
  refine W.widen (k := 1) (n := 25) (show 0 + 1 ≤ 1 by omega) (show 0 + 25 ≤ 25 by omega) ?_
  refine va_putF (D := G) (ci := 2) (v := .ref q_1) (ty := .array .int) (C := RX2) (T := TX2) (N := 7) hx hb htw in_X2 tyX2 tyX2_ok nmX2 hown hK.1 hP hD hS 0 rfl rfl 2 (by decide) (htw _ wm_412) (fun _ h9 => h9) rfl hin rfl (by decide +kernel) rfl rfl (Nat.le_of_ble_eq_true rfl) dX2_init_9 (fun H locs hP hD hS => ?_)
  have hP : va_P G classes [(h, .inr (2, [.int 0, .int 0, .ref q_1, .null, .null, .null, .null])), (q_1, .inl (cI, 25, .inl (fun _ => 0)))] H := hP
  have hD : va_D A [(h, .inr (2, [.int 0, .int 0, .ref q_1, .null, .null, .null, .null])), (q_1, .inl (cI, 25, .inl (fun _ => 0)))] := hD
  refine lv_aload_n hx hb dX2_init_12 rfl (lv_at hl 0 rfl) ?_
  refine lv_bipush (v := 6) hx hb dX2_init_13 (by decide) ?_
  refine new_a (atype := .int) (a0 := (6, .inl (fun _ => 0))) (cA := cI) (N' := 6) hx hb (htw _ wm_288) rfl hK 0 rfl hP hD hS hA (fun _ => rfl) (by decide) (by decide) (by decide) (show 1 + 1 ≤ R.cells by omega) (show 25 + 6 ≤ R.slots by omega) dX2_init_15 (fun q_2 H hP hD hS => ?_)
  have hP : va_P G classes [(h, .inr (2, [.int 0, .int 0, .ref q_1, .null, .null, .null, .null])), (q_1, .inl (cI, 25, .inl (fun _ => 0))), (q_2, .inl (cI, 6, .inl (fun _ => 0)))] H := hP
  have hD : va_D A [(h, .inr (2, [.int 0, .int 0, .ref q_1, .null, .null, .null, .null])), (q_1, .inl (cI, 25, .inl (fun _ => 0))), (q_2, .inl (cI, 6, .inl (fun _ => 0)))] := hD
  refine W.widen (k := 2) (n := 31) (show 1 + 1 ≤ 2 by omega) (show 25 + 6 ≤ 31 by omega) ?_
  refine va_putF (D := G) (ci := 2) (v := .ref q_2) (ty := .array .int) (C := RX2) (T := TX2) (N := 7) hx hb htw in_X2 tyX2 tyX2_ok nmX2 hown hK.1 hP hD hS 0 rfl rfl 3 (by decide) (htw _ wm_416) (fun _ h9 => h9) rfl hin rfl (by decide +kernel) rfl rfl (Nat.le_of_ble_eq_true rfl) dX2_init_17 (fun H locs hP hD hS => ?_)
  have hP : va_P G classes [(h, .inr (2, [.int 0, .int 0, .ref q_1, .ref q_2, .null, .null, .null])), (q_1, .inl (cI, 25, .inl (fun _ => 0))), (q_2, .inl (cI, 6, .inl (fun _ => 0)))] H := hP
  have hD : va_D A [(h, .inr (2, [.int 0, .int 0, .ref q_1, .ref q_2, .null, .null, .null])), (q_1, .inl (cI, 25, .inl (fun _ => 0))), (q_2, .inl (cI, 6, .inl (fun _ => 0)))] := hD
  refine lv_aload_n hx hb dX2_init_20 rfl (lv_at hl 0 rfl) ?_
  refine lv_bipush (v := 6) hx hb dX2_init_21 (by decide) ?_
  refine new_a (atype := .int) (a0 := (6, .inl (fun _ => 0))) (cA := cI) (N' := 6) hx hb (htw _ wm_288) rfl hK 0 rfl hP hD hS hA (fun _ => rfl) (by decide) (by decide) (by decide) (show 2 + 1 ≤ R.cells by omega) (show 31 + 6 ≤ R.slots by omega) dX2_init_23 (fun q_3 H hP hD hS => ?_)
  have hP : va_P G classes [(h, .inr (2, [.int 0, .int 0, .ref q_1, .ref q_2, .null, .null, .null])), (q_1, .inl (cI, 25, .inl (fun _ => 0))), (q_2, .inl (cI, 6, .inl (fun _ => 0))), (q_3, .inl (cI, 6, .inl (fun _ => 0)))] H := hP
  have hD : va_D A [(h, .inr (2, [.int 0, .int 0, .ref q_1, .ref q_2, .null, .null, .null])), (q_1, .inl (cI, 25, .inl (fun _ => 0))), (q_2, .inl (cI, 6, .inl (fun _ => 0))), (q_3, .inl (cI, 6, .inl (fun _ => 0)))] := hD
  refine W.widen (k := 3) (n := 37) (show 2 + 1 ≤ 3 by omega) (show 31 + 6 ≤ 37 by omega) ?_
  refine va_putF (D := G) (ci := 2) (v := .ref q_3) (ty := .array .int) (C := RX2) (T := TX2) (N := 7) hx hb htw in_X2 tyX2 tyX2_ok nmX2 hown hK.1 hP hD hS 0 rfl rfl 4 (by decide) (htw _ wm_419) (fun _ h9 => h9) rfl hin rfl (by decide +kernel) rfl rfl (Nat.le_of_ble_eq_true rfl) dX2_init_25 (fun H locs hP hD hS => ?_)
  have hP : va_P G classes [(h, .inr (2, [.int 0, .int 0, .ref q_1, .ref q_2, .ref q_3, .null, .null])), (q_1, .inl (cI, 25, .inl (fun _ => 0))), (q_2, .inl (cI, 6, .inl (fun _ => 0))), (q_3, .inl (cI, 6, .inl (fun _ => 0)))] H := hP
  have hD : va_D A [(h, .inr (2, [.int 0, .int 0, .ref q_1, .ref q_2, .ref q_3, .null, .null])), (q_1, .inl (cI, 25, .inl (fun _ => 0))), (q_2, .inl (cI, 6, .inl (fun _ => 0))), (q_3, .inl (cI, 6, .inl (fun _ => 0)))] := hD
  refine lv_aload_n hx hb dX2_init_28 rfl (lv_at hl 0 rfl) ?_
  refine lv_bipush (v := 6) hx hb dX2_init_29 (by decide) ?_
  refine new_a (atype := .int) (a0 := (6, .inl (fun _ => 0))) (cA := cI) (N' := 6) hx hb (htw _ wm_288) rfl hK 0 rfl hP hD hS hA (fun _ => rfl) (by decide) (by decide) (by decide) (show 3 + 1 ≤ R.cells by omega) (show 37 + 6 ≤ R.slots by omega) dX2_init_31 (fun q_4 H hP hD hS => ?_)
  have hP : va_P G classes [(h, .inr (2, [.int 0, .int 0, .ref q_1, .ref q_2, .ref q_3, .null, .null])), (q_1, .inl (cI, 25, .inl (fun _ => 0))), (q_2, .inl (cI, 6, .inl (fun _ => 0))), (q_3, .inl (cI, 6, .inl (fun _ => 0))), (q_4, .inl (cI, 6, .inl (fun _ => 0)))] H := hP
  have hD : va_D A [(h, .inr (2, [.int 0, .int 0, .ref q_1, .ref q_2, .ref q_3, .null, .null])), (q_1, .inl (cI, 25, .inl (fun _ => 0))), (q_2, .inl (cI, 6, .inl (fun _ => 0))), (q_3, .inl (cI, 6, .inl (fun _ => 0))), (q_4, .inl (cI, 6, .inl (fun _ => 0)))] := hD
  refine W.widen (k := 4) (n := 43) (show 3 + 1 ≤ 4 by omega) (show 37 + 6 ≤ 43 by omega) ?_
  refine va_putF (D := G) (ci := 2) (v := .ref q_4) (ty := .array .int) (C := RX2) (T := TX2) (N := 7) hx hb htw in_X2 tyX2 tyX2_ok nmX2 hown hK.1 hP hD hS 0 rfl rfl 5 (by decide) (htw _ wm_422) (fun _ h9 => h9) rfl hin rfl (by decide +kernel) rfl rfl (Nat.le_of_ble_eq_true rfl) dX2_init_33 (fun H locs hP hD hS => ?_)
  have hP : va_P G classes [(h, .inr (2, [.int 0, .int 0, .ref q_1, .ref q_2, .ref q_3, .ref q_4, .null])), (q_1, .inl (cI, 25, .inl (fun _ => 0))), (q_2, .inl (cI, 6, .inl (fun _ => 0))), (q_3, .inl (cI, 6, .inl (fun _ => 0))), (q_4, .inl (cI, 6, .inl (fun _ => 0)))] H := hP
  have hD : va_D A [(h, .inr (2, [.int 0, .int 0, .ref q_1, .ref q_2, .ref q_3, .ref q_4, .null])), (q_1, .inl (cI, 25, .inl (fun _ => 0))), (q_2, .inl (cI, 6, .inl (fun _ => 0))), (q_3, .inl (cI, 6, .inl (fun _ => 0))), (q_4, .inl (cI, 6, .inl (fun _ => 0)))] := hD
  refine lv_aload_n hx hb dX2_init_36 rfl (lv_at hl 0 rfl) ?_
  refine lv_bipush (v := 6) hx hb dX2_init_37 (by decide) ?_
  refine new_a (atype := .int) (a0 := (6, .inl (fun _ => 0))) (cA := cI) (N' := 6) hx hb (htw _ wm_288) rfl hK 0 rfl hP hD hS hA (fun _ => rfl) (by decide) (by decide) (by decide) (show 4 + 1 ≤ R.cells by omega) (show 43 + 6 ≤ R.slots by omega) dX2_init_39 (fun q_5 H hP hD hS => ?_)
  have hP : va_P G classes [(h, .inr (2, [.int 0, .int 0, .ref q_1, .ref q_2, .ref q_3, .ref q_4, .null])), (q_1, .inl (cI, 25, .inl (fun _ => 0))), (q_2, .inl (cI, 6, .inl (fun _ => 0))), (q_3, .inl (cI, 6, .inl (fun _ => 0))), (q_4, .inl (cI, 6, .inl (fun _ => 0))), (q_5, .inl (cI, 6, .inl (fun _ => 0)))] H := hP
  have hD : va_D A [(h, .inr (2, [.int 0, .int 0, .ref q_1, .ref q_2, .ref q_3, .ref q_4, .null])), (q_1, .inl (cI, 25, .inl (fun _ => 0))), (q_2, .inl (cI, 6, .inl (fun _ => 0))), (q_3, .inl (cI, 6, .inl (fun _ => 0))), (q_4, .inl (cI, 6, .inl (fun _ => 0))), (q_5, .inl (cI, 6, .inl (fun _ => 0)))] := hD
  refine W.widen (k := 5) (n := 49) (show 4 + 1 ≤ 5 by omega) (show 43 + 6 ≤ 49 by omega) ?_
  refine va_putF (D := G) (ci := 2) (v := .ref q_5) (ty := .array .int) (C := RX2) (T := TX2) (N := 7) hx hb htw in_X2 tyX2 tyX2_ok nmX2 hown hK.1 hP hD hS 0 rfl rfl 6 (by decide) (htw _ wm_425) (fun _ h9 => h9) rfl hin rfl (by decide +kernel) rfl rfl (Nat.le_of_ble_eq_true rfl) dX2_init_41 (fun H locs hP hD hS => ?_)
  have hP : va_P G classes [(h, .inr (2, [.int 0, .int 0, .ref q_1, .ref q_2, .ref q_3, .ref q_4, .ref q_5])), (q_1, .inl (cI, 25, .inl (fun _ => 0))), (q_2, .inl (cI, 6, .inl (fun _ => 0))), (q_3, .inl (cI, 6, .inl (fun _ => 0))), (q_4, .inl (cI, 6, .inl (fun _ => 0))), (q_5, .inl (cI, 6, .inl (fun _ => 0)))] H := hP
  have hD : va_D A [(h, .inr (2, [.int 0, .int 0, .ref q_1, .ref q_2, .ref q_3, .ref q_4, .ref q_5])), (q_1, .inl (cI, 25, .inl (fun _ => 0))), (q_2, .inl (cI, 6, .inl (fun _ => 0))), (q_3, .inl (cI, 6, .inl (fun _ => 0))), (q_4, .inl (cI, 6, .inl (fun _ => 0))), (q_5, .inl (cI, 6, .inl (fun _ => 0)))] := hD
  exact hret _ _ _ _ _ _ dX2_init_44 (show 5 ≤ 5 by omega) (show 49 ≤ 49 by omega) ⟨q_1, q_2, q_3, q_4, q_5, hP.sub [0, 1, 2, 3, 4, 5] rfl, hD.sub [0, 1, 2, 3, 4, 5] (by decide) rfl⟩ hS

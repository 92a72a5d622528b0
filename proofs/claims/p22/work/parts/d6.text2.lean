/-! the texts: methods -/
theorem tx_sh : ∀ i, i < 2 → nI (TL.getD i 0) >>> ((0 : Int32) &&& 31) = nI (TL.getD i 0) := by decide +kernel
theorem txt_len : ∀ i, i < 2 → TL.getD i 0 = (TX.getD i []).length ∧ 0 < TL.getD i 0 ∧ TL.getD i 0 < 1000 := by decide +kernel
theorem tx_by : ∀ i, i < 2 → ∀ j, j < TL.getD i 0 → (((TX.getD i []).getD j 0 &&& 255).toUInt32 % 65536).toInt32 = (TX.getD i []).getD j 0 &&& 255 := by decide +kernel
theorem tx_nr : ∀ i, i < 2 → ∀ j, j < TL.getD i 0 → narrow .char (.int ((TX.getD i []).getD j 0 &&& 255)) = .int ((TX.getD i []).getD j 0 &&& 255) := by
  intro i hi j hj
  have h := tx_by i hi j hj
  show Value.int _ = _
  exact congrArg Value.int h
theorem tx_lt {k : Int32} {i : Nat} (hi : i < 2) (h : vp_in k (TL.getD i 0)) : ¬ k < 0 ∧ k < nI (TL.getD i 0) ∧ k.toNatClampNeg < TL.getD i 0 := by
  obtain ⟨-, -, hn⟩ := txt_len i hi
  have h0 : ¬ k < 0 := fun q => h (Or.inl q)
  have h1 : k.toNatClampNeg < TL.getD i 0 := Nat.lt_of_not_le (fun q => h (Or.inr q))
  refine ⟨h0, ?_, h1⟩
  have h2 : 0 ≤ k.toInt := by
    have := Int32.le_iff_toInt_le.mp (Int32.not_lt.mp h0)
    exact this
  have h3 := clamp_toInt h2
  have h4 : (nI (TL.getD i 0)).toInt = (TL.getD i 0 : Int) := nI_toInt (by omega)
  exact Int32.lt_iff_toInt_lt.mpr (by omega)
section TXC
variable {l : Launch} {Z0 : Nat} {adK adV : Nat → Nat} {fm : Value}
theorem tx_coder (i : Nat) (hi : i < 2) : Met l yJ0_coder_7d493 (.code yJ0_coder_7d493 cJ0_coder_7d493 1 (some .byte) :: wt) (tx_rm 0) (va_Pc [.ref (adK i)] (tx_ST Z0 adK adV fm)) (tx_Q 0) 0 0 (fun _ => False) := by
  refine mk_s (by decide +kernel) (Nat.le_of_ble_eq_true rfl) (by decide) ?_
  intro p e s m args below meth c R Q ls hx hb hml htw hown hR hST tail hl
  have hl : lv_has ls 1 [(0, .ref (adK i))] := hl
  have hown : s.vm.findClass "java/lang/String" = some m.cls := hown
  have hS : va_S (fun _ => False) s.heap s.heap [] := va_S.rf
  have hZ := hST.2.2.1.narrow (B := fun _ => False) (fun q h => h.elim)
  have hK := hST.2.1.narrow (B := fun _ => False) (fun q h => h.elim)
  refine va_gets hx hb hZ hS hown (htw _ wm_692) (fun _ h => h) dJ0_coder_7d493_0 ?_
  refine lv_if_eq (tgt := 13) hx hb dJ0_coder_7d493_3 (by decide) (fun h => absurd h (by decide)) (fun _ => ?_)
  refine lv_aload_n hx hb dJ0_coder_7d493_6 rfl (lv_at hl 0 rfl) ?_
  refine vk_getf hx hb (hK.1 i hi).2.1 hS hown (htw _ wm_1850) (fun _ h => h) dJ0_coder_7d493_7 ?_
  refine lv_goto (tgt := 14) hx hb dJ0_coder_7d493_10 (by decide) ?_
  exact tail _ _ _ _ dJ0_coder_7d493_14 hS
theorem tx_latin (i : Nat) (hi : i < 2) : Met l yJ0_isLatin1_aae02 (.code yJ0_isLatin1_aae02 cJ0_isLatin1_aae02 1 (some .boolean) :: wt) (tx_rm 0) (va_Pc [.ref (adK i)] (tx_ST Z0 adK adV fm)) (tx_Q 1) 0 0 (fun _ => False) := by
  refine mk_s (by decide +kernel) (Nat.le_of_ble_eq_true rfl) (by decide) ?_
  intro p e s m args below meth c R Q ls hx hb hml htw hown hR hST tail hl
  have hl : lv_has ls 1 [(0, .ref (adK i))] := hl
  have hown : s.vm.findClass "java/lang/String" = some m.cls := hown
  have hS : va_S (fun _ => False) s.heap s.heap [] := va_S.rf
  have hZ := hST.2.2.1.narrow (B := fun _ => False) (fun q h => h.elim)
  have hK := hST.2.1.narrow (B := fun _ => False) (fun q h => h.elim)
  refine va_gets hx hb hZ hS hown (htw _ wm_692) (fun _ h => h) dJ0_isLatin1_aae02_0 ?_
  refine lv_if_eq (tgt := 17) hx hb dJ0_isLatin1_aae02_3 (by decide) (fun h => absurd h (by decide)) (fun _ => ?_)
  refine lv_aload_n hx hb dJ0_isLatin1_aae02_6 rfl (lv_at hl 0 rfl) ?_
  refine vk_getf hx hb (hK.1 i hi).2.1 hS hown (htw _ wm_1850) (fun _ h => h) dJ0_isLatin1_aae02_7 ?_
  refine lv_if_ne (tgt := 17) hx hb dJ0_isLatin1_aae02_10 (by decide) (fun h => absurd rfl h) (fun _ => ?_)
  refine lv_iconst (v := 1) hx hb dJ0_isLatin1_aae02_13 (by decide) ?_
  refine lv_goto (tgt := 18) hx hb dJ0_isLatin1_aae02_14 (by decide) ?_
  exact tail _ _ _ _ dJ0_isLatin1_aae02_18 hS
theorem tx_length (i : Nat) (hi : i < 2) : Met l yJ0_length_8abf5 (.code yJ0_length_8abf5 cJ0_length_8abf5 1 (some .int) :: wt) (tx_rm 1) (va_Pc [.ref (adK i)] (tx_ST Z0 adK adV fm)) (tx_Q (nI (TL.getD i 0))) 0 0 (fun _ => False) := by
  refine mk_s (by decide +kernel) (Nat.le_of_ble_eq_true rfl) rfl ?_
  intro p e s m args below meth c R Q ls hx hb hml htw hown hR hST tail hl
  have hl : lv_has ls 1 [(0, .ref (adK i))] := hl
  have hown : s.vm.findClass "java/lang/String" = some m.cls := hown
  have hS : va_S (fun _ => False) s.heap s.heap [] := va_S.rf
  have hK := hST.2.1.narrow (B := fun _ => False) (fun q h => h.elim)
  refine lv_aload_n hx hb dJ0_length_8abf5_0 rfl (lv_at hl 0 rfl) ?_
  refine vk_getf hx hb (hK.1 i hi).2.2.1 hS hown (htw _ wm_1849) (fun _ h => h) dJ0_length_8abf5_1 ?_
  refine va_tlen hx hb (hK.1 i hi).2.2.2 hS (v := nI (TL.getD i 0)) rfl dJ0_length_8abf5_4 ?_
  refine lv_aload_n hx hb dJ0_length_8abf5_5 rfl (lv_at hl 0 rfl) ?_
  refine tx_V (A := fun _ => False) i hi [] [.int (nI (TL.getD i 0))] (tx_coder i hi) rfl hx hb hml htw hown hl.1 hST (fun _ h => h.elim) hS wm_691 wm_689 wm_690 wm_163 wm_688 ⟨by decide, by decide, by show _ = some 0; decide +kernel⟩ ⟨by omega, by omega⟩ ⟨Nat.zero_le _, Nat.zero_le _⟩ (Nat.le_of_ble_eq_true rfl) dJ0_length_8abf5_6 (fun H1 locs1 hS _ _ => ?_)
  refine lv_ishr hx hb dJ0_length_8abf5_9 ?_
  rw [tx_sh i hi]
  exact tail _ _ _ _ dJ0_length_8abf5_10 hS
theorem tx_chk3 {k n : Int32} (h0 : ¬ k < 0) (h1 : k < n) (hfm : fm = .null ∨ ∃ t, fm = .ref t) : Met l yJ3_checkIndex_8e157 (.code yJ3_checkIndex_8e157 cJ3_checkIndex_8e157 3 (some .int) :: wt) (tx_rm 0) (va_Pc [.int k, .int n, fm] (tx_ST Z0 adK adV fm)) (tx_Q k) 0 0 (fun _ => False) := by
  refine mk_s (by decide +kernel) (by rcases hfm with rfl | ⟨t, rfl⟩ <;> exact Nat.le_of_ble_eq_true rfl) rfl ?_
  intro p e s m args below meth c R Q ls hx hb hml htw hown hR hST tail hl
  have hl : lv_has ls 3 [(0, .int k), (1, .int n), (2, fm)] := hl
  have hS : va_S (fun _ => False) s.heap s.heap [] := va_S.rf
  refine lv_iload_n hx hb dJ3_checkIndex_8e157_0 rfl (lv_at hl 0 rfl) ?_
  refine lv_if_lt (tgt := 9) hx hb dJ3_checkIndex_8e157_1 (by decide) (fun h => absurd h h0) (fun _ => ?_)
  refine lv_iload_n hx hb dJ3_checkIndex_8e157_4 rfl (lv_at hl 0 rfl) ?_
  refine lv_iload_n hx hb dJ3_checkIndex_8e157_5 rfl (lv_at hl 1 rfl) ?_
  refine lv_icmp_lt (tgt := 16) hx hb dJ3_checkIndex_8e157_6 (by decide) (fun _ => ?_) (fun h => absurd h1 h)
  refine lv_iload_n hx hb dJ3_checkIndex_8e157_16 rfl (lv_at hl 0 rfl) ?_
  exact tail _ _ _ _ dJ3_checkIndex_8e157_17 hS
theorem tx_chk {k n : Int32} (h0 : ¬ k < 0) (h1 : k < n) (hfm : fm = .null ∨ ∃ t, fm = .ref t) : Met l yJ0_checkIndex_df160 (.code yJ0_checkIndex_df160 cJ0_checkIndex_df160 2 none :: wt) (tx_rm 1) (va_Pc [.int k, .int n] (tx_ST Z0 adK adV fm)) tx_Qv 0 0 (fun _ => False) := by
  refine mk_sv (by decide +kernel) (Nat.le_of_ble_eq_true rfl) ?_
  intro p e s m args below meth c R Q ls hx hb hml htw hown hR hST tail hl
  have hl : lv_has ls 2 [(0, .int k), (1, .int n)] := hl
  have hown : s.vm.findClass "java/lang/String" = some m.cls := hown
  have hS : va_S (fun _ => False) s.heap s.heap [] := va_S.rf
  have hZ := hST.2.2.2.narrow (B := fun _ => False) (fun q h => h.elim)
  refine lv_iload_n hx hb dJ0_checkIndex_df160_0 rfl (lv_at hl 0 rfl) ?_
  refine lv_iload_n hx hb dJ0_checkIndex_df160_1 rfl (lv_at hl 1 rfl) ?_
  refine va_gets hx hb hZ hS hown (htw _ wm_708) (fun _ h => h) dJ0_checkIndex_df160_2 ?_
  refine tx_S (A := fun _ => False) [.int k, .int n, fm] [] (tx_chk3 h0 h1 hfm) hx hb hml htw hown hl.1 hST (fun _ h => h.elim) hS wm_712 wm_711 wm_165 wm_710 ⟨by decide, by decide, by show _ = some 3; decide +kernel⟩ ⟨by omega, by omega⟩ ⟨Nat.zero_le _, Nat.zero_le _⟩ (Nat.le_of_ble_eq_true rfl) dJ0_checkIndex_df160_5 (fun H1 locs1 hS => ?_)
  refine lv_pop hx hb dJ0_checkIndex_df160_8 rfl ?_
  exact tail _ _ _ _ dJ0_checkIndex_df160_9 hS
theorem tx_char1 (i : Nat) (hi : i < 2) {k : Int32} (hk : vp_in k (TL.getD i 0)) (hfm : fm = .null ∨ ∃ t, fm = .ref t) : Met l yJ1_charAt_3b067 (.code yJ1_charAt_3b067 cJ1_charAt_3b067 2 (some .char) :: wt) (tx_rm 2) (va_Pc [.ref (adV i), .int k] (tx_ST Z0 adK adV fm)) (tx_Q ((TX.getD i []).getD k.toNatClampNeg 0 &&& 255)) 0 0 (fun _ => False) := by
  obtain ⟨h0, h1, h2⟩ := tx_lt hi hk
  refine mk_s (by decide +kernel) (Nat.le_of_ble_eq_true rfl) (tx_nr i hi _ h2) ?_
  intro p e s m args below meth c R Q ls hx hb hml htw hown hR hST tail hl
  have hl : lv_has ls 2 [(0, .ref (adV i)), (1, .int k)] := hl
  have hown : s.vm.findClass "java/lang/StringLatin1" = some m.cls := hown
  have hS : va_S (fun _ => False) s.heap s.heap [] := va_S.rf
  have hK := hST.2.1.narrow (B := fun _ => False) (fun q h => h.elim)
  refine lv_iload_n hx hb dJ1_charAt_3b067_0 rfl (lv_at hl 1 rfl) ?_
  refine lv_aload_n hx hb dJ1_charAt_3b067_1 rfl (lv_at hl 0 rfl) ?_
  refine va_tlen hx hb (hK.1 i hi).2.2.2 hS (v := nI (TL.getD i 0)) rfl dJ1_charAt_3b067_2 ?_
  refine tx_Sv (A := fun _ => False) [.int k, .int (nI (TL.getD i 0))] [] (tx_chk h0 h1 hfm) hx hb hml htw hown hl.1 hST (fun _ h => h.elim) hS wm_707 wm_706 wm_163 wm_705 ⟨by decide, by decide, by show _ = some 2; decide +kernel⟩ ⟨by omega, by omega⟩ ⟨Nat.zero_le _, Nat.zero_le _⟩ (Nat.le_of_ble_eq_true rfl) dJ1_charAt_3b067_3 (fun H1 locs1 hS => ?_)
  refine lv_aload_n hx hb dJ1_charAt_3b067_6 rfl (lv_at hl 0 rfl) ?_
  refine lv_iload_n hx hb dJ1_charAt_3b067_7 rfl (lv_at hl 1 rfl) ?_
  refine va_tb hx hb (hK.1 i hi).2.2.2 hS hk (v := .int ((TX.getD i []).getD k.toNatClampNeg 0)) rfl dJ1_charAt_3b067_8 ?_
  refine lv_sipush (v := 255) hx hb dJ1_charAt_3b067_9 (by decide) ?_
  refine lv_iand hx hb dJ1_charAt_3b067_12 ?_
  refine lv_i2c hx hb dJ1_charAt_3b067_13 (tx_by i hi _ h2) ?_
  exact tail _ _ _ _ dJ1_charAt_3b067_14 hS
theorem tx_char (i : Nat) (hi : i < 2) {k : Int32} (hk : vp_in k (TL.getD i 0)) (hfm : fm = .null ∨ ∃ t, fm = .ref t) : Met l yJ0_charAt_5068e (.code yJ0_charAt_5068e cJ0_charAt_5068e 2 (some .char) :: wt) (tx_rm 3) (va_Pc [.ref (adK i), .int k] (tx_ST Z0 adK adV fm)) (tx_Q ((TX.getD i []).getD k.toNatClampNeg 0 &&& 255)) 0 0 (fun _ => False) := by
  obtain ⟨h0, h1, h2⟩ := tx_lt hi hk
  refine mk_s (by decide +kernel) (Nat.le_of_ble_eq_true rfl) (tx_nr i hi _ h2) ?_
  intro p e s m args below meth c R Q ls hx hb hml htw hown hR hST tail hl
  have hl : lv_has ls 2 [(0, .ref (adK i)), (1, .int k)] := hl
  have hown : s.vm.findClass "java/lang/String" = some m.cls := hown
  have hS : va_S (fun _ => False) s.heap s.heap [] := va_S.rf
  have hK := hST.2.1.narrow (B := fun _ => False) (fun q h => h.elim)
  refine lv_aload_n hx hb dJ0_charAt_5068e_0 rfl (lv_at hl 0 rfl) ?_
  refine tx_V (A := fun _ => False) i hi [] [] (tx_latin i hi) rfl hx hb hml htw hown hl.1 hST (fun _ h => h.elim) hS wm_701 wm_699 wm_700 wm_163 wm_698 ⟨by decide, by decide, by show _ = some 0; decide +kernel⟩ ⟨by omega, by omega⟩ ⟨Nat.zero_le _, Nat.zero_le _⟩ (Nat.le_of_ble_eq_true rfl) dJ0_charAt_5068e_1 (fun H1 locs1 hS _ _ => ?_)
  refine lv_if_eq (tgt := 16) hx hb dJ0_charAt_5068e_4 (by decide) (fun h => absurd h (by decide)) (fun _ => ?_)
  refine lv_aload_n hx hb dJ0_charAt_5068e_7 rfl (lv_at hl 0 rfl) ?_
  refine vk_getf hx hb (hK.1 i hi).2.2.1 hS hown (htw _ wm_1849) (fun _ h => h) dJ0_charAt_5068e_8 ?_
  refine lv_iload_n hx hb dJ0_charAt_5068e_11 rfl (lv_at hl 1 rfl) ?_
  refine tx_S (A := fun _ => False) [.ref (adV i), .int k] [] (tx_char1 i hi hk hfm) hx hb hml htw hown hl.1 hST (fun _ h => h.elim) hS wm_704 wm_703 wm_164 wm_702 ⟨by decide, by decide, by show _ = some 2; decide +kernel⟩ ⟨by omega, by omega⟩ ⟨Nat.zero_le _, Nat.zero_le _⟩ (Nat.le_of_ble_eq_true rfl) dJ0_charAt_5068e_12 (fun H1 locs1 hS => ?_)
  exact tail _ _ _ _ dJ0_charAt_5068e_15 hS
end TXC

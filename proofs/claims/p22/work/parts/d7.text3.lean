/-! the texts: indexOf -/
theorem tx_eq0 : ∀ i, i < 2 → ∀ m, m < 256 → ∀ b ∈ TX.getD i [], (b = (nI m).toInt8.toInt32 ↔ b &&& 255 = nI m) := by decide +kernel
theorem tx_eq1 : ∀ i, i < 2 → ∀ b ∈ TX.getD i [], ¬ (b &&& 255) < 0 ∧ ¬ 255 < (b &&& 255) := by decide +kernel
theorem tx_nI {c : Int32} (h0 : ¬ c < 0) (h1 : ¬ 255 < c) : ∃ m, m < 256 ∧ c = nI m := by
  have a0 : 0 ≤ c.toInt := Int32.le_iff_toInt_le.mp (Int32.not_lt.mp h0)
  have a1 : c.toInt ≤ 255 := Int32.le_iff_toInt_le.mp (Int32.not_lt.mp h1)
  have a2 := clamp_toInt a0
  refine ⟨c.toNatClampNeg, by omega, ?_⟩
  have a3 : (nI c.toNatClampNeg).toInt = (c.toNatClampNeg : Int) := nI_toInt (by omega)
  exact Int32.toInt_inj.mp (by omega)
/-- a sign that no byte can be -/
theorem tx_ixo {c : Int32} (i : Nat) (hi : i < 2) (h : c < 0 ∨ 255 < c) : ixF c (TX.getD i []) 0 = -1 := by
  have key : ∀ (l : List Int32) (k : Nat), (∀ b ∈ l, ¬ (b &&& 255) < 0 ∧ ¬ 255 < (b &&& 255)) → ixF c l k = -1 := by
    intro l
    induction l with
    | nil => intro k _; rfl
    | cons b l ih =>
      intro k hb
      rw [ixF, if_neg, ih (k + 1) (fun x hx => hb x (List.mem_cons_of_mem _ hx))]
      intro he
      have := hb b List.mem_cons_self
      rw [he] at this
      rcases h with h | h
      · exact this.1 h
      · exact this.2 h
  exact key _ 0 (tx_eq1 i hi)
theorem tx_gd {l : List Int32} {k : Nat} (h : k < l.length) : l.getD k 0 = l[k] := by
  show (l[k]?).getD 0 = l[k]
  rw [List.getElem?_eq_getElem h]
  rfl
section TXD
variable {l : Launch} {Z0 : Nat} {adK adV : Nat → Nat} {fm : Value}
theorem tx_can {c : Int32} {v : Int32} (hv : v = if c < 0 then 0 else if 255 < c then 0 else 1) : Met l yJ1_canEncode_9a6ad (.code yJ1_canEncode_9a6ad cJ1_canEncode_9a6ad 1 (some .boolean) :: wt) (tx_rm 0) (va_Pc [.int c] (tx_ST Z0 adK adV fm)) (tx_Q v) 0 0 (fun _ => False) := by
  have hnr : narrow .boolean (.int v) = .int v := by
    rw [hv]
    split
    · decide
    · split <;> decide
  refine mk_s (by decide +kernel) (Nat.le_of_ble_eq_true rfl) hnr ?_
  intro p e s m args below meth cc R Q ls hx hb hml htw hown hR hST tail hl
  have hl : lv_has ls 1 [(0, .int c)] := hl
  have hS : va_S (fun _ => False) s.heap s.heap [] := va_S.rf
  refine lv_iload_n hx hb dJ1_canEncode_9a6ad_0 rfl (lv_at hl 0 rfl) ?_
  refine lv_if_lt (tgt := 15) hx hb dJ1_canEncode_9a6ad_1 (by decide) (fun h => ?_) (fun h => ?_)
  · rw [if_pos h] at hv
    subst hv
    refine lv_iconst (v := 0) hx hb dJ1_canEncode_9a6ad_15 (by decide) ?_
    exact tail _ _ _ _ dJ1_canEncode_9a6ad_16 hS
  · rw [if_neg h] at hv
    refine lv_iload_n hx hb dJ1_canEncode_9a6ad_4 rfl (lv_at hl 0 rfl) ?_
    refine lv_sipush (v := 255) hx hb dJ1_canEncode_9a6ad_5 (by decide) ?_
    refine lv_icmp_gt (tgt := 15) hx hb dJ1_canEncode_9a6ad_8 (by decide) (fun h2 => ?_) (fun h2 => ?_)
    · have h2 : 255 < c := h2
      rw [if_pos h2] at hv
      subst hv
      refine lv_iconst (v := 0) hx hb dJ1_canEncode_9a6ad_15 (by decide) ?_
      exact tail _ _ _ _ dJ1_canEncode_9a6ad_16 hS
    · have h2 : ¬ 255 < c := h2
      rw [if_neg h2] at hv
      subst hv
      refine lv_iconst (v := 1) hx hb dJ1_canEncode_9a6ad_11 (by decide) ?_
      refine lv_goto (tgt := 16) hx hb dJ1_canEncode_9a6ad_12 (by decide) ?_
      exact tail _ _ _ _ dJ1_canEncode_9a6ad_16 hS
theorem tx_ixl {p : Program} {e : Jvm.Env} {s : State} {m : MethodId} {args : Array Value} {below : List Frame} {meth : Method} {cd : Code} {R : Room} {Q : State → Prop} (i : Nat) (hi : i < 2) {c cb v : Int32} {n : Nat} (hn : n = TL.getD i 0) (hcb : ∀ b ∈ TX.getD i [], (b = cb ↔ b &&& 255 = c)) (hx : p.tables.exec = Jvm.exec) (hb : cd.code = cJ1_indexOfChar_4cfef) (hST : tx_ST Z0 adK adV fm s)
    (tail : ∀ (H1 : Heap) (locs : List Loc) (pc : Nat) (ls1 : Array Slot), decode cJ1_indexOfChar_4cfef pc = .ok (.ireturn, 1) → va_S (fun _ => False) s.heap H1 locs → W p l e R s m args below meth cd H1 locs 0 0 Q (F0 m pc ls1 [.int v])) : ∀ (r k : Nat) (ls : Array Slot), k + r = n → ixF c ((TX.getD i []).drop k) k = v → lv_has ls 6 [(5, .int (nI k)), (4, .int cb), (0, .ref (adV i)), (1, .int c), (2, .int 0), (3, .int (nI n))] → W p l e R s m args below meth cd s.heap [] 0 0 Q (F0 m 7 ls []) := by
  obtain ⟨q1, q2, q3⟩ := txt_len i hi
  have hS : va_S (fun _ => False) s.heap s.heap [] := va_S.rf
  have hK := hST.2.1.narrow (B := fun _ => False) (fun q h => h.elim)
  have hT : (nI n).toInt = (n : Int) := nI_toInt (by omega)
  intro r
  induction r with
  | zero =>
    intro k ls hk hv hl
    have hk' : k = n := by omega
    subst hk'
    refine lv_iload hx hb dJ1_indexOfChar_4cfef_7 (lv_at hl 0 rfl) ?_
    refine lv_iload_n hx hb dJ1_indexOfChar_4cfef_9 rfl (lv_at hl 5 rfl) ?_
    refine lv_icmp_ge (tgt := 31) hx hb dJ1_indexOfChar_4cfef_10 (by decide) (fun _ => ?_) (fun h => absurd (Int32.le_iff_toInt_le.mpr (Int.le_refl _)) h)
    refine lv_iconst (v := -1) hx hb dJ1_indexOfChar_4cfef_31 (by decide) ?_
    rw [show (TX.getD i []).drop k = [] by first | exact List.drop_eq_nil_of_le (by omega) | exact List.drop_of_length_le (by omega) | exact List.drop_eq_nil_iff.mpr (by omega)] at hv
    have hv : (-1 : Int32) = v := hv
    subst hv
    exact tail _ _ _ _ dJ1_indexOfChar_4cfef_32 hS
  | succ r ih =>
    intro k ls hk hv hl
    have hkn : k < (TX.getD i []).length := by omega
    have hTk : (nI k).toInt = (k : Int) := nI_toInt (by omega)
    have hg : (TX.getD i []).getD k 0 = (TX.getD i [])[k] := tx_gd hkn
    have hd : (TX.getD i []).drop k = (TX.getD i []).getD k 0 :: (TX.getD i []).drop (k + 1) := by
      rw [hg]
      exact List.drop_eq_getElem_cons hkn
    have hmem : (TX.getD i []).getD k 0 ∈ TX.getD i [] := by
      rw [hg]
      exact List.getElem_mem hkn
    have hkk : (nI k).toNatClampNeg = k := by
      have := clamp_toInt (x := nI k) (by omega)
      omega
    rw [hd, ixF] at hv
    refine lv_iload hx hb dJ1_indexOfChar_4cfef_7 (lv_at hl 0 rfl) ?_
    refine lv_iload_n hx hb dJ1_indexOfChar_4cfef_9 rfl (lv_at hl 5 rfl) ?_
    refine lv_icmp_ge (tgt := 31) hx hb dJ1_indexOfChar_4cfef_10 (by decide) (fun h => absurd (Int32.le_iff_toInt_le.mp h) (by omega)) (fun _ => ?_)
    refine lv_aload_n hx hb dJ1_indexOfChar_4cfef_13 rfl (lv_at hl 2 rfl) ?_
    refine lv_iload hx hb dJ1_indexOfChar_4cfef_14 (lv_at hl 0 rfl) ?_
    refine va_tb hx hb (hK.1 i hi).2.2.2 hS (vp_in_nI (by omega) (by omega)) (v := .int ((TX.getD i []).getD k 0)) (by rw [hkk]) dJ1_indexOfChar_4cfef_16 ?_
    refine lv_iload hx hb dJ1_indexOfChar_4cfef_17 (lv_at hl 1 rfl) ?_
    refine lv_icmp_ne (tgt := 25) hx hb dJ1_indexOfChar_4cfef_19 (by decide) (fun h => ?_) (fun h => ?_)
    · have h : ¬ (TX.getD i []).getD k 0 = cb := h
      rw [if_neg (fun q => h ((hcb _ hmem).mpr q))] at hv
      refine lv_iinc (v := nI (k + 1)) (lv' := [(5, .int (nI (k + 1))), (4, .int cb), (0, .ref (adV i)), (1, .int c), (2, .int 0), (3, .int (nI n))]) hx hb dJ1_indexOfChar_4cfef_25 hl (k := 0) rfl (nI_1 _) (by decide) rfl (fun ls hl => ?_)
      refine lv_goto (tgt := 7) hx hb dJ1_indexOfChar_4cfef_28 (by decide) ?_
      exact ih (k + 1) ls (by omega) hv hl
    · have h : (TX.getD i []).getD k 0 = cb := h
      rw [if_pos ((hcb _ hmem).mp h)] at hv
      refine lv_iload hx hb dJ1_indexOfChar_4cfef_22 (lv_at hl 0 rfl) ?_
      subst hv
      exact tail _ _ _ _ dJ1_indexOfChar_4cfef_24 hS
theorem tx_ixc (i : Nat) (hi : i < 2) {c : Int32} (h0 : ¬ c < 0) (h1 : ¬ 255 < c) : Met l yJ1_indexOfChar_4cfef (.code yJ1_indexOfChar_4cfef cJ1_indexOfChar_4cfef 6 (some .int) :: wt) (tx_rm 0) (va_Pc [.ref (adV i), .int c, .int 0, .int (nI (TL.getD i 0))] (tx_ST Z0 adK adV fm)) (tx_Q (ixF c (TX.getD i []) 0)) 0 0 (fun _ => False) := by
  obtain ⟨q, hq, rfl⟩ := tx_nI h0 h1
  refine mk_s (by decide +kernel) (Nat.le_of_ble_eq_true rfl) rfl ?_
  intro p e s m args below meth cd R Q ls hx hb hml htw hown hR hST tail hl
  have hl : lv_has ls 6 [(0, .ref (adV i)), (1, .int (nI q)), (2, .int 0), (3, .int (nI (TL.getD i 0)))] := hl
  refine lv_iload_n hx hb dJ1_indexOfChar_4cfef_0 rfl (lv_at hl 1 rfl) ?_
  refine lv_i2b hx hb dJ1_indexOfChar_4cfef_1 rfl ?_
  refine lv_istore (lv' := [(4, .int (nI q).toInt8.toInt32), (0, .ref (adV i)), (1, .int (nI q)), (2, .int 0), (3, .int (nI (TL.getD i 0)))]) hx hb dJ1_indexOfChar_4cfef_2 hl (by decide) rfl (fun ls hl => ?_)
  refine lv_iload_n hx hb dJ1_indexOfChar_4cfef_4 rfl (lv_at hl 3 rfl) ?_
  refine lv_istore (lv' := [(5, .int (nI 0)), (4, .int (nI q).toInt8.toInt32), (0, .ref (adV i)), (1, .int (nI q)), (2, .int 0), (3, .int (nI (TL.getD i 0)))]) hx hb dJ1_indexOfChar_4cfef_5 hl (by decide) rfl (fun ls hl => ?_)
  exact tx_ixl i hi (n := TL.getD i 0) rfl (fun b hb => tx_eq0 i hi q hq b hb) hx hb hST tail (TL.getD i 0) 0 ls (by omega) rfl hl
theorem tx_ix1 (i : Nat) (hi : i < 2) {c : Int32} : Met l yJ1_indexOf_4cfef (.code yJ1_indexOf_4cfef cJ1_indexOf_4cfef 4 (some .int) :: wt) (tx_rm 1) (va_Pc [.ref (adV i), .int c, .int 0, .int (nI (TL.getD i 0))] (tx_ST Z0 adK adV fm)) (tx_Q (ixF c (TX.getD i []) 0)) 0 0 (fun _ => False) := by
  refine mk_s (by decide +kernel) (Nat.le_of_ble_eq_true rfl) rfl ?_
  intro p e s m args below meth cd R Q ls hx hb hml htw hown hR hST tail hl
  have hl : lv_has ls 4 [(0, .ref (adV i)), (1, .int c), (2, .int 0), (3, .int (nI (TL.getD i 0)))] := hl
  have hown : s.vm.findClass "java/lang/StringLatin1" = some m.cls := hown
  have hS : va_S (fun _ => False) s.heap s.heap [] := va_S.rf
  have hK := hST.2.1.narrow (B := fun _ => False) (fun q h => h.elim)
  obtain ⟨q1, q2, q3⟩ := txt_len i hi
  have hT : (nI (TL.getD i 0)).toInt = (TL.getD i 0 : Int) := nI_toInt (by omega)
  obtain ⟨v, hv⟩ : ∃ v : Int32, v = if c < 0 then 0 else if 255 < c then 0 else 1 := ⟨_, rfl⟩
  refine lv_iload_n hx hb dJ1_indexOf_4cfef_0 rfl (lv_at hl 1 rfl) ?_
  refine tx_S (A := fun _ => False) [.int c] [] (tx_can hv) hx hb hml htw hown hl.1 hST (fun _ h => h.elim) hS wm_755 wm_754 wm_164 wm_753 ⟨by decide, by decide, by show _ = some 1; decide +kernel⟩ ⟨by omega, by omega⟩ ⟨Nat.zero_le _, Nat.zero_le _⟩ (Nat.le_of_ble_eq_true rfl) dJ1_indexOf_4cfef_1 (fun H1 locs1 hS => ?_)
  refine lv_if_ne (tgt := 9) hx hb dJ1_indexOf_4cfef_4 (by decide) (fun h => ?_) (fun h => ?_)
  · have hc : ¬ c < 0 ∧ ¬ 255 < c := by
      by_cases a : c < 0
      · rw [if_pos a] at hv
        exact absurd hv h
      · rw [if_neg a] at hv
        by_cases b : 255 < c
        · rw [if_pos b] at hv
          exact absurd hv h
        · exact ⟨a, b⟩
    refine lv_iload_n hx hb dJ1_indexOf_4cfef_9 rfl (lv_at hl 2 rfl) ?_
    refine lv_iconst (v := 0) hx hb dJ1_indexOf_4cfef_10 (by decide) ?_
    refine va_mmax hx hb (hml.trans hl.1.symm) hown (htw _ wm_756) (htw _ wm_757) (htw _ wm_162) (htw _ wm_758) (by omega) (by show 0 + 13 ≤ R.locals; omega) (Nat.zero_le _) (Nat.zero_le _) dJ1_indexOf_4cfef_11 ?_
    rw [ite_self]
    refine lv_istore_n (lv' := [(2, .int 0), (0, .ref (adV i)), (1, .int c), (3, .int (nI (TL.getD i 0)))]) hx hb dJ1_indexOf_4cfef_14 rfl hl (by decide) rfl (fun ls hl => ?_)
    refine lv_iload_n hx hb dJ1_indexOf_4cfef_15 rfl (lv_at hl 3 rfl) ?_
    refine lv_aload_n hx hb dJ1_indexOf_4cfef_16 rfl (lv_at hl 1 rfl) ?_
    refine va_tlen hx hb (hK.1 i hi).2.2.2 hS (v := nI (TL.getD i 0)) rfl dJ1_indexOf_4cfef_17 ?_
    refine va_mmin hx hb (hml.trans hl.1.symm) hown (htw _ wm_759) (htw _ wm_665) (htw _ wm_162) (htw _ wm_666) (by omega) (by show 0 + 13 ≤ R.locals; omega) (Nat.zero_le _) (Nat.zero_le _) dJ1_indexOf_4cfef_18 ?_
    rw [ite_self]
    refine lv_istore_n (lv' := [(3, .int (nI (TL.getD i 0))), (2, .int 0), (0, .ref (adV i)), (1, .int c)]) hx hb dJ1_indexOf_4cfef_21 rfl hl (by decide) rfl (fun ls hl => ?_)
    refine lv_iload_n hx hb dJ1_indexOf_4cfef_22 rfl (lv_at hl 1 rfl) ?_
    refine lv_iload_n hx hb dJ1_indexOf_4cfef_23 rfl (lv_at hl 0 rfl) ?_
    refine lv_icmp_lt (tgt := 29) hx hb dJ1_indexOf_4cfef_24 (by decide) (fun _ => ?_) (fun h => absurd (Int32.lt_iff_toInt_lt.mpr (show (0 : Int32).toInt < (nI (TL.getD i 0)).toInt by rw [hT]; show (0 : Int) < _; omega)) h)
    refine lv_aload_n hx hb dJ1_indexOf_4cfef_29 rfl (lv_at hl 2 rfl) ?_
    refine lv_iload_n hx hb dJ1_indexOf_4cfef_30 rfl (lv_at hl 3 rfl) ?_
    refine lv_iload_n hx hb dJ1_indexOf_4cfef_31 rfl (lv_at hl 1 rfl) ?_
    refine lv_iload_n hx hb dJ1_indexOf_4cfef_32 rfl (lv_at hl 0 rfl) ?_
    refine tx_S (A := fun _ => False) [.ref (adV i), .int c, .int 0, .int (nI (TL.getD i 0))] [] (tx_ixc i hi hc.1 hc.2) hx hb hml htw hown hl.1 hST (fun _ h => h.elim) hS wm_762 wm_761 wm_164 wm_760 ⟨by decide, by decide, by show _ = some 4; decide +kernel⟩ ⟨by omega, by omega⟩ ⟨Nat.zero_le _, Nat.zero_le _⟩ (Nat.le_of_ble_eq_true rfl) dJ1_indexOf_4cfef_33 (fun H1 locs1 hS => ?_)
    exact tail _ _ _ _ dJ1_indexOf_4cfef_36 hS
  · have h : v = 0 := h
    have hc : c < 0 ∨ 255 < c := by
      by_cases a : c < 0
      · exact Or.inl a
      · rw [if_neg a] at hv
        by_cases b : 255 < c
        · exact Or.inr b
        · rw [if_neg b, h] at hv
          exact absurd hv (by decide)
    refine lv_iconst (v := -1) hx hb dJ1_indexOf_4cfef_7 (by decide) ?_
    have e1 := tx_ixo i hi hc
    rw [e1] at tail
    exact tail _ _ _ _ dJ1_indexOf_4cfef_8 hS
theorem tx_ix2 (i : Nat) (hi : i < 2) {c : Int32} : Met l yJ0_indexOf_7cf53 (.code yJ0_indexOf_7cf53 cJ0_indexOf_7cf53 3 (some .int) :: wt) (tx_rm 2) (va_Pc [.ref (adK i), .int c, .int 0] (tx_ST Z0 adK adV fm)) (tx_Q (ixF c (TX.getD i []) 0)) 0 0 (fun _ => False) := by
  refine mk_s (by decide +kernel) (Nat.le_of_ble_eq_true rfl) rfl ?_
  intro p e s m args below meth cd R Q ls hx hb hml htw hown hR hST tail hl
  have hl : lv_has ls 3 [(0, .ref (adK i)), (1, .int c), (2, .int 0)] := hl
  have hown : s.vm.findClass "java/lang/String" = some m.cls := hown
  have hS : va_S (fun _ => False) s.heap s.heap [] := va_S.rf
  have hK := hST.2.1.narrow (B := fun _ => False) (fun q h => h.elim)
  refine lv_aload_n hx hb dJ0_indexOf_7cf53_0 rfl (lv_at hl 0 rfl) ?_
  refine tx_V (A := fun _ => False) i hi [] [] (tx_latin i hi) rfl hx hb hml htw hown hl.1 hST (fun _ h => h.elim) hS wm_701 wm_699 wm_700 wm_163 wm_698 ⟨by decide, by decide, by show _ = some 0; decide +kernel⟩ ⟨by omega, by omega⟩ ⟨Nat.zero_le _, Nat.zero_le _⟩ (Nat.le_of_ble_eq_true rfl) dJ0_indexOf_7cf53_1 (fun H1 locs1 hS _ _ => ?_)
  refine lv_if_eq (tgt := 23) hx hb dJ0_indexOf_7cf53_4 (by decide) (fun h => absurd h (by decide)) (fun _ => ?_)
  refine lv_aload_n hx hb dJ0_indexOf_7cf53_7 rfl (lv_at hl 0 rfl) ?_
  refine vk_getf hx hb (hK.1 i hi).2.2.1 hS hown (htw _ wm_1849) (fun _ h => h) dJ0_indexOf_7cf53_8 ?_
  refine lv_iload_n hx hb dJ0_indexOf_7cf53_11 rfl (lv_at hl 1 rfl) ?_
  refine lv_iload_n hx hb dJ0_indexOf_7cf53_12 rfl (lv_at hl 2 rfl) ?_
  refine lv_aload_n hx hb dJ0_indexOf_7cf53_13 rfl (lv_at hl 0 rfl) ?_
  refine tx_V (A := fun _ => False) i hi [] [.int 0, .int c, .ref (adV i)] (tx_length i hi) rfl hx hb hml htw hown hl.1 hST (fun _ h => h.elim) hS wm_687 wm_685 wm_686 wm_163 wm_749 ⟨by decide, by decide, by show _ = some 0; decide +kernel⟩ ⟨by omega, by omega⟩ ⟨Nat.zero_le _, Nat.zero_le _⟩ (Nat.le_of_ble_eq_true rfl) dJ0_indexOf_7cf53_14 (fun H1 locs1 hS _ _ => ?_)
  refine tx_S (A := fun _ => False) [.ref (adV i), .int c, .int 0, .int (nI (TL.getD i 0))] [] (tx_ix1 i hi) hx hb hml htw hown hl.1 hST (fun _ h => h.elim) hS wm_752 wm_751 wm_164 wm_750 ⟨by decide, by decide, by show _ = some 4; decide +kernel⟩ ⟨by omega, by omega⟩ ⟨Nat.zero_le _, Nat.zero_le _⟩ (Nat.le_of_ble_eq_true rfl) dJ0_indexOf_7cf53_17 (fun H1 locs1 hS => ?_)
  refine lv_goto (tgt := 36) hx hb dJ0_indexOf_7cf53_20 (by decide) ?_
  exact tail _ _ _ _ dJ0_indexOf_7cf53_36 hS
theorem tx_ix (i : Nat) (hi : i < 2) {c : Int32} : Met l yJ0_indexOf_0f7a4 (.code yJ0_indexOf_0f7a4 cJ0_indexOf_0f7a4 2 (some .int) :: wt) (tx_rm 3) (va_Pc [.ref (adK i), .int c] (tx_ST Z0 adK adV fm)) (tx_Q (ixF c (TX.getD i []) 0)) 0 0 (fun _ => False) := by
  refine mk_s (by decide +kernel) (Nat.le_of_ble_eq_true rfl) rfl ?_
  intro p e s m args below meth cd R Q ls hx hb hml htw hown hR hST tail hl
  have hl : lv_has ls 2 [(0, .ref (adK i)), (1, .int c)] := hl
  have hown : s.vm.findClass "java/lang/String" = some m.cls := hown
  have hS : va_S (fun _ => False) s.heap s.heap [] := va_S.rf
  refine lv_aload_n hx hb dJ0_indexOf_0f7a4_0 rfl (lv_at hl 0 rfl) ?_
  refine lv_iload_n hx hb dJ0_indexOf_0f7a4_1 rfl (lv_at hl 1 rfl) ?_
  refine lv_iconst (v := 0) hx hb dJ0_indexOf_0f7a4_2 (by decide) ?_
  refine tx_V (A := fun _ => False) i hi [.int c, .int 0] [] (tx_ix2 i hi) rfl hx hb hml htw hown hl.1 hST (fun _ h => h.elim) hS wm_748 wm_746 wm_747 wm_163 wm_745 ⟨by decide, by decide, by show _ = some 2; decide +kernel⟩ ⟨by omega, by omega⟩ ⟨Nat.zero_le _, Nat.zero_le _⟩ (Nat.le_of_ble_eq_true rfl) dJ0_indexOf_0f7a4_3 (fun H1 locs1 hS _ _ => ?_)
  exact tail _ _ _ _ dJ0_indexOf_0f7a4_6 hS
end TXD

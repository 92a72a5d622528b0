/-! what is frozen is read; comes goes through -/
section RDZ
variable {KT : List Kd} {ks : List Nat} {P n0 : Nat} {ρ0 : Nat → Value} {eff : List (Nat × Nat)} {w0 : pW} {σ : aS} {ρ : Nat → Value} {lc : pL} {st : List Value} {w : pW} {R : pR}
theorem rdZ {a i s k n : Nat} {e : Ds} (hG : Ga KT (FZ KT ks R) ks P n0 ρ0 eff w0 σ ρ lc st w) (hf : (2, a, i, s) ∈ σ.2.2.2.1) (hk : kdS σ.1 a = some k) (hK : KT[k]? = some (.inr (0, n, e))) (h5 : e.1 = 5) : ∃ x : Int32, ρ i = .int x ∧ 0 ≤ x.toInt ∧ ρ s = .int (R.1 k x.toNatClampNeg) := by
  obtain ⟨j, x, t, m, g, q1, q2, q3, q4, q5⟩ := (hG.2.2.2.1 _ hf).1.1 rfl
  obtain ⟨b, eb, kb⟩ := hG.kd hk
  simp only at q1 q2 q4
  rw [eb] at q1
  cases q1
  have hw := hG.2.2.2.2.2.1.1 b k n e kb hK h5
  rw [wAt3, hw] at q3
  cases q3
  exact ⟨x, q2, q5, q4⟩
theorem rdF {o f s k ci : Nat} {fds : List Ds} {e : Ds} (hG : Ga KT (FZ KT ks R) ks P n0 ρ0 eff w0 σ ρ lc st w) (hf : (1000 + f, o, 0, s) ∈ σ.2.2.2.1) (hk : kdS σ.1 o = some k) (hK : KT[k]? = some (.inl (ci, fds))) (hd : fds[f]? = some e) (h5 : e.1 = 5) : ρ s = .int (R.2 f) := by
  obtain ⟨j, c, fs, q1, q2, q3⟩ := (hG.2.2.2.1 _ hf).1.2.2.2.2.2.2.2 (Nat.le_add_right 1000 f)
  obtain ⟨b, eb, kb⟩ := hG.kd hk
  simp only at q1 q3
  rw [eb] at q1
  cases q1
  obtain ⟨fs', e1, e2⟩ := hG.2.2.2.2.2.1.2 b k ci fds kb hK
  rw [wAt3, e1] at q2
  cases q2
  rw [Nat.add_sub_cancel_left, e2 f e hd h5] at q3
  exact (Option.some.inj q3).symm
theorem f10_of {x y c : Nat} (hG : Ga KT (FZ KT ks R) ks P n0 ρ0 eff w0 σ ρ lc st w) (hf : (10, x, y, c) ∈ σ.2.2.2.1) : iv (ρ x) ≤ iv (ρ y) + (c : Int) - 2147483648 := (hG.2.2.2.1 _ hf).1.2.2.2.2.1 rfl
end RDZ
def stp (x : Int) (n : Nat) : Option Nat := if x = 126 then (if 1 ≤ n then some n else none) else if 97 ≤ x ∧ x ≤ 122 then (if n ≤ 59 then some (n + 1) else none) else (if 2 ≤ n then some (n - 1) else none)
/-- the depth behind m codes from k on, from n -/
def dpt (c : Nat → Int32) : Nat → Nat → Nat → Option Nat
  | 0, _, n => some n
  | m + 1, k, n => match stp (c k).toInt n with
    | some n' => dpt c m (k + 1) n'
    | none => none
/-- rule r of the bank is one that can be worked out -/
def VB (R : pR) (r : Nat) : Prop := ∀ f t : Nat, (R.1 61 (7 * (R.2 38).toNatClampNeg + r)).toInt = (f : Int) → (R.1 62 (7 * (R.2 38).toNatClampNeg + r)).toInt = (t : Int) → dpt (R.1 74) (t - f) f 0 ≠ none
section CMO
variable {ks : List Nat} {P : Nat} {ρ0 : Nat → Value} {w0 : pW} {xs : Nat → Int32} {L : Nat} {R : pR}
theorem all2 {f : Nat → Nat → Bool} (h : ((List.range 2).all fun b => (List.range 7).all fun r => f b r) = true) {b r : Nat} (hb : b < 2) (hr : r < 7) : f b r = true := List.all_eq_true.mp (List.all_eq_true.mp h b (List.mem_range.mpr hb)) r (List.mem_range.mpr hr)
def CmQ (ks : List Nat) (P : Nat) (w0 : pW) (R : pR) (v : Option Value) (w' : pW) : Prop := (∃ x : Int32, v = some (.int x)) ∧ Typed KTab ks P w' ∧ FZ KTab ks R w' ∧ Ef ks [(78, 999)] w0 w'
theorem cm_hC : ∀ R, ∀ c ∈ cm_e.2.2.2.2.2.1, CK KTab (FZ KTab ks R) ks PP FF GM xs L c := fun R => (show ∀ c ∈ [c_Model_two], CK KTab (FZ KTab ks R) ks PP FF GM xs L c from List.forall_mem_cons.mpr ⟨ck_c_Model_two FZ_xs, fun _ h => by cases h⟩)
theorem GZ_nil {σ : aS} {n0 : Nat} {ρ : Nat → Value} {eff : List (Nat × Nat)} {lc : pL} {st : List Value} {w : pW} {KT : List Kd} (h : lgF σ.2.2.2.1 = []) : GZ KT ks R P n0 ρ0 eff w0 σ ρ lc st w ↔ Ga KT (FZ KT ks R) ks P n0 ρ0 eff w0 σ ρ lc st w := by
  unfold GZ
  rw [h]
  exact Iff.rfl
/-- from the body's begin on -/
theorem cm_loop (hU : Uq KTab ks) {b r : Nat} (hb : b < 2) (hr : r < 7) (hP : P + CrMax + 3 * 16777216 ≤ PMax) : ∀ (m : Nat) (ρ : Nat → Value) (lc : pL) (st : List Value) (w : pW) (kx nx tx : Int32), Ga KTab (FZ KTab ks R) ks P 7 ρ0 [(78, 999)] w0 (stC (cm_h b r)) ρ lc st w → ρ 8 = .int kx → ρ 7 = .int nx → ρ 11 = .int tx → kx.toInt + (m : Int) = tx.toInt → dpt (R.1 74) m kx.toNatClampNeg nx.toNatClampNeg ≠ none → Rs PP FF GM TX xs L 3 mX11_comes 38 lc st w (CmQ ks P w0 R) := by
  intro m
  induction m with
  | zero =>
    intro ρ lc st w kx nx tx hG hk hn ht hm hd
    have := f10_of hG (x := 8) (y := 11) (c := 2147483647) (by simp [stC, cm_h])
    rw [hk, ht, iv_int, iv_int] at this
    omega
  | succ m ih =>
    intro ρ lc st w kx nx tx hG hk hn ht hm hd
    have hgk := eq_of_beq (all2 cm_gk hb hr)
    obtain ⟨τ, hτ, ρ', g⟩ := anL_ok (Ga.rb hG) hgk
    rw [List.mem_singleton.mp hτ] at g
    have e8 := g.2.2.2.2.2.2.2.1
    have hk' : ρ' 8 = .int kx := (e8 8 (show 8 < 12 by decide)).trans hk
    have hn' : ρ' 7 = .int nx := (e8 7 (show 7 < 12 by decide)).trans hn
    obtain ⟨x, ex, x0, ec⟩ := rdZ g (a := 12) (i := 8) (s := 13) (k := 74) (by simp [cm_g]) rfl rfl rfl
    rw [hk'] at ex
    cases ex
    have hn0 : okI Zb (Zb + 60) (ρ' 7) := g.1 7 (0, Zb, Zb + 60) rfl
    rw [hn'] at hn0
    obtain ⟨z, ez, n1, n2⟩ := hn0
    cases ez
    simp only [Zb] at n1 n2
    have hcn := clamp_toInt (x := nx) (by omega)
    have hck := clamp_toInt x0
    -- the rest of the way, whatever the code
    have hgo : ∀ (s : Nat → Nat → aS) (p : Nat → Nat → Cu) (q : Nat → Nat → Po) (nr cr : Ds) (n2s : Nat) (tau : List Nat), (∀ b r, (s b r) = (((cm_g b r).1.set 7 nr).set 13 cr, (cm_g b r).2)) → chkZ cm_e 3000 3 mX11_comes [] [38] 38 (s b r) [p b r] [q b r] = true → mtZ 7 (stC (p b r)) (cm_h b r) = some tau → (p b r).1 = 38 → wfU (p b r) = true → wfP 14 (q b r) = true → lgF (p b r).2.1.2.2.2 = [] → lgF (q b r).2.2 = [] → (∃ v, (q b r).1 = some v ∧ (q b r).2.1[v]? = some dFull) → tau = [0, 1, 2, 3, 4, 5, 6, n2s, 14, 9, 10, 11] → (10, 8, 14, 2147483647) ∈ (p b r).2.1.2.2.2 → (10, 14, 8, 2147483649) ∈ (p b r).2.1.2.2.2 → okD ks P nr (.int nx) → okD ks P cr (.int (R.1 74 kx.toNatClampNeg)) → (∀ (ρ2 : Nat → Value) (lc' : pL) (st' : List Value) (w' : pW), Ga KTab (FZ KTab ks R) ks P 14 ρ' [(78, 999)] w0 (stC (p b r)) ρ2 lc' st' w' → ∃ ny : Int32, ρ2 n2s = .int ny ∧ dpt (R.1 74) m (kx.toNatClampNeg + 1) ny.toNatClampNeg ≠ none) → Rs PP FF GM TX xs L 3 mX11_comes 38 lc st w (CmQ ks P w0 R) := by
      intro s p q nr cr n2s tau hs hchk hmt hpc hwp hwq hlp hlq hqv htau hf1 hf2 hnr hcr hfin
      have hs := hs b r
      have gs : Ga KTab (FZ KTab ks R) ks P 12 ρ [(78, 999)] w0 (s b r) ρ' lc st w := by
        rw [hs]
        refine g.re (ds := ((cm_g b r).1.set 7 nr).set 13 cr) (me := (cm_g b r).2.2.2.1) (by rw [List.length_set, List.length_set]) (fun t e ht => ?_) g.2.2.2.1
        by_cases h13 : t = 13
        · subst h13
          rw [List.getElem?_set_self (by rw [List.length_set]; exact (show 13 < 14 by decide))] at ht
          cases ht
          rw [ec]
          exact hcr
        · rw [List.getElem?_set_ne (Ne.symm h13)] at ht
          by_cases h7 : t = 7
          · subst h7
            rw [List.getElem?_set_self (show 7 < 14 by decide)] at ht
            cases ht
            rw [hn']
            exact hnr
          · rw [List.getElem?_set_ne (Ne.symm h7)] at ht
            exact g.1 t e ht
      have hls : lgF (s b r).2.2.2.1 = [] := by rw [hs]; rfl
      have hlen : (s b r).1.length = 14 := by rw [hs, List.length_set, List.length_set]; rfl
      refine seg_ok (E := cm_e) (R0 := R) (xs := xs) (L := L) hU cm_hC hchk (by simp only [List.all_cons, List.all_nil, Bool.and_true]; exact hwp) (by simp only [List.all_cons, List.all_nil, Bool.and_true]; rw [hlen]; exact hwq) ((GZ_nil hls).mpr gs) hP ?_ ?_
      · intro c hc ρ2 lc' st' w' hag hg2
        rw [List.mem_singleton.mp hc] at hg2 ⊢
        have hg2 := (GZ_nil hlp).mp hg2
        have hg3 : Ga KTab (FZ KTab ks R) ks P 14 ρ' [(78, 999)] w0 (stC (p b r)) ρ2 lc' st' w' := by
          obtain ⟨g1, g2, g3, g4, g5, g6, g7, g8, g9, g10⟩ := hg2
          refine ⟨g1, g2, g3, g4, g5, g6, g7, fun s hs => hag s (by rw [hlen]; exact hs), ?_, g10⟩
          have t1 := (chkP_ok (ks := ks) (P := P) (w := w') (σ := stC (p b r)) g1 (fun f hf => (g4 f hf).1) (show chkP _ tau _ _ = true from by
            unfold mtZ at hmt
            split at hmt
            · split at hmt
              · split at hmt
                · next l hl =>
                  split at hmt
                  · have := Option.some.inj hmt
                    subst this
                    exact mtch_ok hl
                  · cases hmt
                · cases hmt
              · cases hmt
            · cases hmt)).2.1
          have := t1 14 (by rw [htau]; simp)
          exact Nat.le_of_lt this
        obtain ⟨ny, eny, hdn⟩ := hfin ρ2 lc' st' w' hg3
        have hPM : P + (stC (p b r)).2.2.2.2 ≤ PMax := hg3.2.2.2.2.2.2.2.2.2.1
        have e0 : ∀ s, s < 7 → ρ' s = ρ0 s := fun s hs => (e8 s (show s < 12 by omega)).trans (hG.2.2.2.2.2.2.2.1 s hs)
        have hg4 := mtZ_ok (ρ0 := ρ0) hmt (show wfU (cm_h b r) = true from rfl) hg3 (by decide) e0 hPM
        have q8 : okI Zb (Zb + 1159) (ρ2 (nth tau 8)) := hg4.1 8 (0, Zb, Zb + 1159) rfl
        have n8 : nth tau 8 = 14 := by rw [htau]; rfl
        have n7 : nth tau 7 = n2s := by rw [htau]; rfl
        have n11 : nth tau 11 = 11 := by rw [htau]; rfl
        rw [n8] at q8
        obtain ⟨ky, eky, -⟩ := q8
        have a8 : ρ2 8 = .int kx := (hg3.2.2.2.2.2.2.2.1 8 (by decide)).trans hk'
        have a11 : ρ2 11 = .int tx := (hg3.2.2.2.2.2.2.2.1 11 (by decide)).trans ((e8 11 (show 11 < 12 by decide)).trans ht)
        have k1 := f10_of hg3 hf1
        have k2 := f10_of hg3 hf2
        rw [a8, eky, iv_int, iv_int] at k1 k2
        have eky2 : ky.toInt = kx.toInt + 1 := by omega
        have hcy := clamp_toInt (x := ky) (by omega)
        rw [hpc]
        refine ih (fun s => ρ2 (nth tau s)) lc' st' w' ky ny tx hg4 (by simp only [n8]; exact eky) (by simp only [n7]; exact eny) (by simp only [n11]; exact a11) (by omega) ?_
        rw [show ky.toNatClampNeg = kx.toNatClampNeg + 1 by omega]
        exact hdn
      · intro po hpo v w' han
        rw [List.mem_singleton.mp hpo] at han
        obtain ⟨ρ3, -, d3, -, t3, f3, ef3, ev⟩ := han
        obtain ⟨v0, hv0, hv1⟩ := hqv
        have := d3 v0 dFull hv1
        obtain ⟨x, ex, -⟩ := id (okD0 this)
        rw [hlq] at f3
        refine ⟨⟨x, ?_⟩, t3, f3, ef3⟩
        rw [ev, hv0, Option.map_some, ex]
    have hag : ∀ {p : Nat → Nat → Cu} {ρ2 : Nat → Value} {lc' : pL} {st' : List Value} {w' : pW}, Ga KTab (FZ KTab ks R) ks P 14 ρ' [(78, 999)] w0 (stC (p b r)) ρ2 lc' st' w' → ρ2 7 = .int nx := fun g => (g.2.2.2.2.2.2.2.1 7 (by decide)).trans hn'
    rw [dpt] at hd
    generalize hcx : (R.1 74 kx.toNatClampNeg).toInt = cx at hd
    have lc1 := i32_lo (R.1 74 kx.toNatClampNeg)
    have hci : ∀ (a b : Nat), (a : Int) ≤ cx + 2147483648 → cx + 2147483648 ≤ (b : Int) → okD ks P (0, a, b) (.int (R.1 74 kx.toNatClampNeg)) := fun a b h1 h2 => ⟨_, rfl, by rw [hcx]; exact h1, by rw [hcx]; exact h2⟩
    have hni : ∀ (a b : Nat), (a : Int) ≤ nx.toInt + 2147483648 → nx.toInt + 2147483648 ≤ (b : Int) → okD ks P (0, a, b) (.int nx) := fun a b h1 h2 => ⟨_, rfl, h1, h2⟩
    unfold stp at hd
    by_cases c1 : cx = 126
    · rw [if_pos c1] at hd
      by_cases c2 : 1 ≤ nx.toNatClampNeg
      · rw [if_pos c2] at hd
        refine hgo cm_st cm_pt cm_qt (0, Zb + 1, Zb + 60) (0, Zb + 126, Zb + 126) 7 _ (fun _ _ => rfl) (all2 cm_st_k hb hr) (eq_of_beq (all2 cm_mt hb hr)) rfl rfl rfl rfl rfl ⟨_, rfl, rfl⟩ rfl (by simp [cm_pt]) (by simp [cm_pt]) (hni _ _ (by simp only [Zb]; omega) (by simp only [Zb]; omega)) (hci _ _ (by simp only [Zb]; omega) (by simp only [Zb]; omega)) (fun ρ2 lc' st' w' g2 => ⟨nx, hag g2, hd⟩)
      · rw [if_neg c2] at hd
        exact absurd rfl hd
    · rw [if_neg c1] at hd
      by_cases c3 : 97 ≤ cx ∧ cx ≤ 122
      · rw [if_pos c3] at hd
        by_cases c4 : nx.toNatClampNeg ≤ 59
        · rw [if_pos c4] at hd
          refine hgo cm_sa cm_pa cm_qa (0, Zb, Zb + 59) (0, Zb + 97, Zb + 122) 15 _ (fun _ _ => rfl) (all2 cm_sa_k hb hr) (eq_of_beq (all2 cm_ma hb hr)) rfl rfl rfl rfl rfl ⟨_, rfl, rfl⟩ rfl (by simp [cm_pa]) (by simp [cm_pa]) (hni _ _ (by simp only [Zb]; omega) (by simp only [Zb]; omega)) (hci _ _ (by simp only [Zb]; omega) (by simp only [Zb]; omega)) (fun ρ2 lc' st' w' g2 => ?_)
          have u1 := f10_of g2 (x := 7) (y := 15) (c := 2147483647) (by simp [stC, cm_pa])
          have u2 := f10_of g2 (x := 15) (y := 7) (c := 2147483649) (by simp [stC, cm_pa])
          obtain ⟨ny, ey, -⟩ : okI (Zb + 1) (Zb + 60) (ρ2 15) := g2.1 15 (0, Zb + 1, Zb + 60) rfl
          rw [hag g2, ey, iv_int, iv_int] at u1 u2
          have hcy := clamp_toInt (x := ny) (by omega)
          refine ⟨ny, ey, ?_⟩
          rw [show ny.toNatClampNeg = nx.toNatClampNeg + 1 by omega]
          exact hd
        · rw [if_neg c4] at hd
          exact absurd rfl hd
      · rw [if_neg c3] at hd
        by_cases c5 : 2 ≤ nx.toNatClampNeg
        · rw [if_pos c5] at hd
          have fin : ∀ {p : Nat → Nat → Cu} {ρ2 : Nat → Value} {lc' : pL} {st' : List Value} {w' : pW}, Ga KTab (FZ KTab ks R) ks P 14 ρ' [(78, 999)] w0 (stC (p b r)) ρ2 lc' st' w' → (stC (p b r)).1[15]? = some (0, Zb + 1, Zb + 59) → (10, 7, 15, 2147483649) ∈ (stC (p b r)).2.2.2.1 → (10, 15, 7, 2147483647) ∈ (stC (p b r)).2.2.2.1 → ∃ ny : Int32, ρ2 15 = .int ny ∧ dpt (R.1 74) m (kx.toNatClampNeg + 1) ny.toNatClampNeg ≠ none := by
            intro p ρ2 lc' st' w' g2 hp15 hf1 hf2
            have u1 := f10_of g2 hf1
            have u2 := f10_of g2 hf2
            obtain ⟨ny, ey, y1, y2⟩ : okI (Zb + 1) (Zb + 59) (ρ2 15) := g2.1 15 (0, Zb + 1, Zb + 59) hp15
            rw [hag g2, ey, iv_int, iv_int] at u1 u2
            simp only [Zb] at y1
            have hcy := clamp_toInt (x := ny) (by omega)
            refine ⟨ny, ey, ?_⟩
            rw [show ny.toNatClampNeg = nx.toNatClampNeg - 1 by omega]
            exact hd
          by_cases c6 : cx ≤ 96
          · exact hgo cm_sl cm_pl cm_ql (0, Zb + 2, Zb + 60) (0, 0, Zb + 96) 15 _ (fun _ _ => rfl) (all2 cm_sl_k hb hr) (eq_of_beq (all2 cm_ml hb hr)) rfl rfl rfl rfl rfl ⟨_, rfl, rfl⟩ rfl (by simp [cm_pl]) (by simp [cm_pl]) (hni _ _ (by simp only [Zb]; omega) (by simp only [Zb]; omega)) (hci _ _ (by omega) (by simp only [Zb]; omega)) (fun ρ2 lc' st' w' g2 => fin g2 rfl (by simp [stC, cm_pl]) (by simp [stC, cm_pl]))
          · by_cases c7 : cx ≤ 125
            · exact hgo cm_sm cm_pm cm_qm (0, Zb + 2, Zb + 60) (0, Zb + 123, Zb + 125) 15 _ (fun _ _ => rfl) (all2 cm_sm_k hb hr) (eq_of_beq (all2 cm_mm hb hr)) rfl rfl rfl rfl rfl ⟨_, rfl, rfl⟩ rfl (by simp [cm_pm]) (by simp [cm_pm]) (hni _ _ (by simp only [Zb]; omega) (by simp only [Zb]; omega)) (hci _ _ (by simp only [Zb]; omega) (by simp only [Zb]; omega)) (fun ρ2 lc' st' w' g2 => fin g2 rfl (by simp [stC, cm_pm]) (by simp [stC, cm_pm]))
            · exact hgo cm_su cm_pu cm_qu (0, Zb + 2, Zb + 60) (0, Zb + 127, Mx) 15 _ (fun _ _ => rfl) (all2 cm_su_k hb hr) (eq_of_beq (all2 cm_mu hb hr)) rfl rfl rfl rfl rfl ⟨_, rfl, rfl⟩ rfl (by simp [cm_pu]) (by simp [cm_pu]) (hni _ _ (by simp only [Zb]; omega) (by simp only [Zb]; omega)) (hci _ _ (by simp only [Zb]; omega) (by simp only [Mx]; omega)) (fun ρ2 lc' st' w' g2 => fin g2 rfl (by simp [stC, cm_pu]) (by simp [stC, cm_pu]))
        · rw [if_neg c5] at hd
          exact absurd rfl hd
end CMO

/-! linear forms; what is looked at holds -/
section LNF
variable {ks : List Nat} {P : Nat} {ρ : Nat → Value} {w : pW} {ds : List Ds} {me : List Fa}
def lv (ρ : Nat → Value) : List (Nat × Nat × Nat) → Int
  | [] => 0
  | q :: l => ((q.2.1 : Int) - (q.2.2 : Int)) * iv (ρ q.1) + lv ρ l
def lV (ρ : Nat → Value) (a : Ln) : Int := lv ρ a.1 + (a.2.1 : Int) - (a.2.2 : Int)
theorem addL_ok {b p m : Nat} : ∀ {l : List (Nat × Nat × Nat)}, lv ρ (addL b p m l) = lv ρ l + ((p : Int) - (m : Int)) * iv (ρ b)
  | [] => by simp only [addL, lv]; omega
  | q :: l => by
    rw [addL]
    split
    · next h =>
      rw [nbe] at h
      simp only [lv]
      rw [h]
      have e : (((q.2.1 + p : Nat) : Int) - ((q.2.2 + m : Nat) : Int)) = ((q.2.1 : Int) - (q.2.2 : Int)) + ((p : Int) - (m : Int)) := by omega
      rw [e, Int.add_mul]
      generalize ((q.2.1 : Int) - (q.2.2 : Int)) * iv (ρ b) = A
      generalize ((p : Int) - (m : Int)) * iv (ρ b) = B
      omega
    · simp only [lv]
      rw [addL_ok]
      omega
theorem alg5 (p m B u v : Int) : (p - m) * (B + u - v) = (p - m) * B + (p * u + m * v) - (p * v + m * u) := by
  rw [Int.mul_sub, Int.mul_add, Int.sub_mul p m u, Int.sub_mul p m v]
  omega
theorem nrL_ok (hd : Sd ks P ρ ds) (hm : Sm P ρ w me) : ∀ {l : List (Nat × Nat × Nat)} {a : Ln}, lV ρ (nrL ds me l a) = lV ρ a + lv ρ l
  | [], a => by simp only [nrL, lv]; omega
  | q :: l, a => by
    have e := nrm_ok4 hd hm (x := q.1) (p := (nrm ds me 4 q.1 0 0).2.1) (m := (nrm ds me 4 q.1 0 0).2.2) (b := (nrm ds me 4 q.1 0 0).1) rfl
    rw [nrL]
    split
    · next b u v h =>
      rw [h] at e
      simp only [bv] at e
      rw [nrL_ok hd hm]
      simp only [lV, lv, addL_ok]
      rw [e, alg5]
      simp only [Int.natCast_add, Int.natCast_mul]
      omega
    · next u v h =>
      rw [h] at e
      simp only [bv] at e
      rw [nrL_ok hd hm]
      simp only [lV, lv]
      rw [e, alg5]
      simp only [Int.natCast_add, Int.natCast_mul, Int.mul_zero]
      omega
theorem loL_ok (hd : Sd ks P ρ ds) : ∀ {l : List (Nat × Nat × Nat)} {kp km : Nat}, loL ds l kp km = true → 0 ≤ lv ρ l + (kp : Int) - (km : Int)
  | [], kp, km, h => by
    rw [loL, nbl] at h
    simp only [lv]
    omega
  | q :: l, kp, km, h => by
    have hz := zbi
    rw [loL] at h
    split at h
    · next he =>
      rw [nbe] at he
      have ih := loL_ok hd h
      simp only [lv]
      rw [he, Int.sub_self, Int.zero_mul]
      omega
    · split at h
      · next a b hs =>
        obtain ⟨x, ex, h1, h2⟩ := hd q.1 _ hs
        simp only at h1 h2
        split at h
        · next hle =>
          rw [nbl] at hle
          have ih := loL_ok hd h
          simp only [lv]
          rw [ex, iv_int]
          have e : ((q.2.1 : Int) - (q.2.2 : Int)) = ((q.2.1 - q.2.2 : Nat) : Int) := by omega
          rw [e]
          have k : ((q.2.1 - q.2.2 : Nat) : Int) * ((a : Int) - 2147483648) ≤ ((q.2.1 - q.2.2 : Nat) : Int) * x.toInt := Int.mul_le_mul_of_nonneg_left (by omega) (by omega)
          rw [Int.mul_sub] at k
          simp only [Int.natCast_add, Int.natCast_mul, hz] at ih
          omega
        · next hle =>
          rw [nbl] at hle
          have ih := loL_ok hd h
          simp only [lv]
          rw [ex, iv_int]
          have e : ((q.2.1 : Int) - (q.2.2 : Int)) = -((q.2.2 - q.2.1 : Nat) : Int) := by omega
          rw [e]
          have k : ((q.2.2 - q.2.1 : Nat) : Int) * x.toInt ≤ ((q.2.2 - q.2.1 : Nat) : Int) * ((b : Int) - 2147483648) := Int.mul_le_mul_of_nonneg_left (by omega) (by omega)
          rw [Int.mul_sub] at k
          rw [Int.neg_mul]
          simp only [Int.natCast_add, Int.natCast_mul, hz] at ih
          omega
      · cases h
theorem hnL_ok (hd : Sd ks P ρ ds) (hm : Sm P ρ w me) : ∀ {hs : List Hn} {a b : Ln}, hnL ds me hs a = some b → lV ρ b ≤ lV ρ a
  | [], a, b, h => by
    have := Option.some.inj h
    subst this
    exact Int.le_refl _
  | q :: hs, a, b, h => by
    rw [hnL] at h
    split at h
    · next hl =>
      have k := hasLe_ok hm hl
      have ih := hnL_ok hd hm h
      refine Int.le_trans ih ?_
      simp only [lV, lv]
      have k2 : 0 ≤ (q.2.2.2.2 : Int) * (iv (ρ q.2.1) + (q.2.2.1 : Int) - (q.2.2.2.1 : Int) - iv (ρ q.1)) := Int.mul_nonneg (by omega) (by omega)
      rw [Int.mul_sub, Int.mul_sub, Int.mul_add] at k2
      simp only [Int.natCast_add, Int.natCast_mul]
      have e1 : (((0 : Nat) : Int) - (q.2.2.2.2 : Int)) * iv (ρ q.2.1) = -((q.2.2.2.2 : Int) * iv (ρ q.2.1)) := by
        rw [show (((0 : Nat) : Int) - (q.2.2.2.2 : Int)) = -(q.2.2.2.2 : Int) by omega, Int.neg_mul]
      have e2 : ((q.2.2.2.2 : Int) - ((0 : Nat) : Int)) * iv (ρ q.1) = (q.2.2.2.2 : Int) * iv (ρ q.1) := by
        rw [show ((q.2.2.2.2 : Int) - ((0 : Nat) : Int)) = (q.2.2.2.2 : Int) by omega]
      rw [e1, e2]
      omega
    · cases h
theorem geL_ok (hd : Sd ks P ρ ds) (hm : Sm P ρ w me) {hs : List Hn} {a : Ln} (h : geL ds me hs a = true) : 0 ≤ lV ρ a := by
  unfold geL at h
  split at h
  · next b hb =>
    have k1 := hnL_ok hd hm hb
    have k2 := nrL_ok hd hm (l := b.1) (a := ([], b.2.1, b.2.2))
    have k3 := loL_ok hd h
    simp only [lV, lv] at k1 k2 ⊢
    omega
  · cases h
theorem lv_map {τ : List Nat} : ∀ {l : List (Nat × Nat × Nat)}, lv ρ ((mapL τ l).map (fun q => (q.1, q.2.2, q.2.1))) = -(lv (fun s => ρ (nth τ s)) l)
  | [] => rfl
  | q :: l => by
    have ih := lv_map (τ := τ) (l := l)
    unfold mapL at ih ⊢
    simp only [List.map_cons, lv]
    rw [ih]
    have e : ((q.2.2 : Int) - (q.2.1 : Int)) = -((q.2.1 : Int) - (q.2.2 : Int)) := by omega
    rw [e, Int.neg_mul]
    omega
theorem lv_app : ∀ {a b : List (Nat × Nat × Nat)}, lv ρ (a ++ b) = lv ρ a + lv ρ b
  | [], b => by simp only [List.nil_append, lv]; omega
  | q :: a, b => by
    simp only [List.cons_append, lv]
    rw [lv_app]
    omega
theorem subL_ok {a b : Ln} {τ : List Nat} {c : Nat} : lV ρ (subL a b τ c) = lV ρ a - lV (fun s => ρ (nth τ s)) b - (c : Int) := by
  unfold subL lV
  simp only [lv_app, lv_map]
  omega
theorem lv_ext {ρ' : Nat → Value} {n : Nat} (h : ∀ s, s < n → ρ' s = ρ s) : ∀ {l : List (Nat × Nat × Nat)}, (l.all (fun q => Nat.ble (q.1 + 1) n)) = true → lv ρ' l = lv ρ l
  | [], _ => rfl
  | q :: l, hl => by
    rw [List.all_cons, Bool.and_eq_true, nbl] at hl
    simp only [lv]
    rw [h q.1 (by omega), lv_ext h hl.2]
end LNF
def wfF (n : Nat) (f : Fa) : Bool := Nat.ble (f.2.1 + 1) n && (Nat.ble (f.2.2.1 + 1) n && (Nat.beq f.1 10 || (Nat.beq f.1 11 || (Nat.beq f.1 12 || Nat.ble (f.2.2.2 + 1) n))))
theorem wfF_ok {n : Nat} {f : Fa} (h : wfF n f = true) : fsc n f := by
  unfold wfF at h
  simp only [Bool.and_eq_true, Bool.or_eq_true, nbe, nbl] at h
  exact ⟨h.1, h.2.1, h.2.2⟩
def wfU (c : Cu) : Bool := c.2.1.2.2.2.all (wfF c.2.1.1.length) && (c.2.2.1.1.all (fun q => Nat.ble (q.1 + 1) c.2.1.1.length) && c.2.2.2.1.all (fun q => Nat.ble (q.1 + 1) c.2.1.1.length))
def wfC (ct : Ctr) : Bool := ct.2.2.2.1.all (wfF ct.2.2.1.length) && (ct.2.2.2.2.2.2.2.all (fun p => p.2.2.all (wfF p.2.1.length) && (Nat.ble ct.2.2.1.length p.2.1.length && ltR p.1 p.2.1.length)) && (Nat.ble ct.2.2.2.2.2.1 CrMax && Nat.ble ct.2.1 ct.2.2.1.length))
section CHK
variable {X : pW → Prop} {ks : List Nat} {xs : Nat → Int32} {L : Nat} {E : Env}
theorem take_id {l : List Nat} {n : Nat} (h : l.take n = List.range n) : ∀ s, s < n → nth l s = s := by
  intro s hs
  have e : l[s]? = some s := by
    have e1 : (l.take n)[s]? = (List.range n)[s]? := by rw [h]
    rw [List.getElem?_take_of_lt hs, List.getElem?_range hs] at e1
    exact e1
  exact nth_eq e
/-- a state that is of a cut -/
theorem mtC_ok {KT : List Kd} {P n0 n1 : Nat} {ρ0 ρ1 ρ : Nat → Value} {eff : List (Nat × Nat)} {w0 : pW} {σ : aS} {lc : pL} {st : List Value} {w : pW} {c : Cu} {τ : List Nat} (h : mtC n0 σ c = some τ) (hw : wfU c = true) (hG : Ga KT X ks P n1 ρ1 eff w0 σ ρ lc st w) (h1 : n0 ≤ n1) (h2 : ∀ s, s < n0 → ρ1 s = ρ0 s) (hP : P + σ.2.2.2.2 ≤ PMax) : Ga KT X ks (P + σ.2.2.2.2) n0 ρ0 eff w0 (c.2.1.1, c.2.1.2.1, c.2.1.2.2.1, c.2.1.2.2.2, 0) (fun s => ρ (nth τ s)) lc st w := by
  unfold mtC at h
  split at h
  · split at h
    · split at h
      · next l hl =>
        split at h
        · next hc =>
          have := Option.some.inj h
          subst this
          simp only [Bool.and_eq_true, beq_iff_eq, nbl] at hc
          obtain ⟨c1, c2, c3, c4, c5⟩ := hc
          obtain ⟨t1, t2, t3, t4⟩ := chkP_ok hG.sd hG.sm (mtch_ok hl)
          obtain ⟨g1, g2, g3, g4, g5, g6, g7, g8, g9, g10, g11⟩ := hG
          unfold wfU at hw
          simp only [Bool.and_eq_true] at hw
          refine ⟨t3, fun q hq => ?_, ⟨?_, fun s hs => ?_⟩, fun f hf => ⟨t4 f hf, wfF_ok (List.all_eq_true.mp hw.1 f hf)⟩, g5, g6, g7, fun s hs => ?_, by rw [← t1]; exact c2, hP, Nat.zero_le _⟩
          · have k := List.all_eq_true.mp c3 q hq
            split at k
            · next s hs =>
              simp only [Bool.and_eq_true, nbe, nbl] at k
              have k2 := Ga.lg (KT := KT) (X := X) (P := P) (n0 := n1) (ρ0 := ρ1) (eff := eff) (w0 := w0) (st := st) (w := w) ⟨g1, g2, g3, g4, g5, g6, g7, g8, g9, g10, g11⟩ hs
              refine ⟨?_, by rw [← t1]; exact k.2⟩
              show lGet lc q.1 = some (ρ (nth l q.2))
              rw [← k.1]
              exact k2.1
            · cases k
          · rw [g3.1, ← c4, List.map_map]
            rfl
          · have k := List.all_eq_true.mp c5 s hs
            rw [nbl] at k
            show s < c.2.1.1.length
            omega
          · show ρ (nth l s) = ρ0 s
            rw [take_id c1 s hs, g8 s (Nat.lt_of_lt_of_le hs h1)]
            exact h2 s hs
        · cases h
      · cases h
    · cases h
  · cases h
theorem chk_ok {n na : Nat} {M : pM} {an : List (Nat × List An)} {ct : Ctr} {cus : List Cu} {hs0 : List (List Hn)} (hXs : XS E.1 ks X) (hC : ∀ c ∈ E.2.2.2.2.2.1, CK E.1 X ks E.2.2.1 E.2.1 E.2.2.2.1 xs L c) (hM : E.2.2.2.1[ct.1]? = some (M, na)) (heff : E.2.2.2.2.1 = ct.2.2.2.2.1) (hscr : E.2.2.2.2.2.2.2 = none) (hw : wfC ct = true) (hwU : ∀ c ∈ cus, wfU c = true) (hE : chkE E n M an ct cus hs0 = true) (hU : ∀ c ∈ cus, ∃ hs, chkU E n M an ct cus hs c = true) : CK E.1 X ks E.2.2.1 E.2.1 E.2.2.2.1 xs L ct := by
  intro P ρ0 w0 hd hm hT hX hPM
  refine ⟨M, na, hM, ?_⟩
  unfold wfC at hw
  simp only [Bool.and_eq_true, nbl] at hw
  obtain ⟨w1, w2, w3, w4⟩ := hw
  have hS : ∀ {k : Nat} {r : Nat → Value}, ScrOK L E.2.2.2.2.2.2.2 k r := fun s0 h => by rw [hscr] at h; cases h
  have hcm : CrMax + CrMax = 16777216 := rfl
  have hPM2 : P + 16777216 + ct.2.2.2.2.2.2.1 * 16777216 ≤ PMax := by
    rw [Nat.add_mul, Nat.one_mul] at hPM
    omega
  have hnn : ∀ {Pc : Nat} {σ : aS} {ρ : Nat → Value} {lc : pL} {st : List Value} {w : pW} {k : Nat} {r : Nat → Value} {hs : List (List Hn)} {a : Ln}, Ga E.1 X ks Pc k r E.2.2.2.2.1 w0 σ ρ lc st w → hs.any (fun h => geL σ.1 σ.2.2.2.1 h a) = true → 0 ≤ lV ρ a := by
    intro Pc σ ρ lc st w k r hs a g h
    obtain ⟨q, -, h2⟩ := List.any_eq_true.mp h
    exact geL_ok g.sd g.sm h2
  -- an answer
  have hret : ∀ {Pc : Nat} {σ : aS} {ρ ρ1 : Nat → Value} {lc : pL} {st : List Value} {w : pW} {n1 : Nat} {x : Option Nat} {p : Po} {l : List Nat}, p ∈ ct.2.2.2.2.2.2.2 → mtP ct.2.2.1.length σ x p = some l → Ga E.1 X ks Pc n1 ρ1 E.2.2.2.2.1 w0 σ ρ lc st w → ct.2.2.1.length ≤ n1 → (∀ s, s < ct.2.2.1.length → ρ1 s = ρ0 s) → Pc + σ.2.2.2.2 ≤ P + ct.2.2.2.2.2.1 → PoOK E.1 X ks ct P ρ0 w0 (x.map ρ) w := by
    intro Pc σ ρ ρ1 lc st w n1 x p l hp hl hg h1 h2 hle
    have hp2 := List.all_eq_true.mp w2 p hp
    simp only [Bool.and_eq_true, nbl] at hp2
    obtain ⟨p1, p2, p3⟩ := hp2
    have fin : ∀ {τ0 : List (Nat × Nat)}, mtch σ τ0 p.2.1 p.2.2 = some l → l.take ct.2.2.1.length = List.range ct.2.2.1.length → x.map ρ = p.1.map (fun s => ρ (nth l s)) → (∀ s, p.1 = some s → s < p.2.1.length) → PoOK E.1 X ks ct P ρ0 w0 (x.map ρ) w := by
      intro τ0 hm2 ht hv hlt
      obtain ⟨t1, t2, t3, t4⟩ := chkP_ok hg.sd hg.sm (mtch_ok hm2)
      have g8 := hg.2.2.2.2.2.2.2.1
      refine ⟨p, hp, fun s => ρ (nth l s), fun s hs => ?_, fun i e he => okD_up hle (t3 i e he), fun f hf => ⟨okF_up hle (t4 f hf), wfF_ok (List.all_eq_true.mp p1 f hf)⟩, p2, hg.2.2.2.2.1.up hle, hg.2.2.2.2.2.1, heff ▸ hg.2.2.2.2.2.2.1, hv, hlt⟩
      show ρ (nth l s) = ρ0 s
      rw [take_id ht s hs, g8 s (Nat.lt_of_lt_of_le hs h1)]
      exact h2 s hs
    unfold mtP at hl
    split at hl
    · next hx =>
      split at hl
      · next l' hm2 =>
        split at hl
        · next hc =>
          simp only [Bool.and_eq_true, beq_iff_eq, nbl] at hc
          have := Option.some.inj hl
          subst this
          refine fin hm2 hc.1 ?_ (fun s hs => by rw [hx] at hs; cases hs)
          rw [hx]
          rfl
        · cases hl
      · cases hl
    · next s q hq =>
      split at hl
      · next l' hm2 =>
        split at hl
        · next hc =>
          simp only [Bool.and_eq_true, beq_iff_eq, nbe, nbl] at hc
          have := Option.some.inj hl
          subst this
          obtain ⟨t1, -, -, -⟩ := chkP_ok hg.sd hg.sm (mtch_ok hm2)
          refine fin hm2 hc.1 ?_ (fun s' hs' => by rw [hq] at hs'; cases hs'; omega)
          rw [hq]
          simp only [Option.map_some]
          rw [hc.2.2.1]
        · cases hl
      · cases hl
    · cases hl
  -- from a cut on
  have hcut : ∀ (N : Nat) (c : Cu), c ∈ cus → ∀ (Pc : Nat) (ρ : Nat → Value) (lc : pL) (st : List Value) (w : pW), Ga E.1 X ks Pc ct.2.2.1.length ρ0 E.2.2.2.2.1 w0 (c.2.1.1, c.2.1.2.1, c.2.1.2.2.1, c.2.1.2.2.2, 0) ρ lc st w → lV ρ c.2.2.1 < (N : Int) → (Pc : Int) + lV ρ c.2.2.2 ≤ (P : Int) + (ct.2.2.2.2.2.1 : Int) → Rs E.2.2.1 E.2.1 E.2.2.2.1 TX xs L ct.2.2.2.2.2.2.1 M c.1 lc st w (PoOK E.1 X ks ct P ρ0 w0) := by
    intro N
    induction N with
    | zero =>
      intro c hc Pc ρ lc st w hg hlt _
      obtain ⟨hs, hu⟩ := hU c hc
      unfold chkU at hu
      simp only [Bool.and_eq_true] at hu
      have := hnn hg hu.1
      omega
    | succ N ih =>
      intro c hc Pc ρ lc st w hg hlt hcr
      obtain ⟨hs, hu⟩ := hU c hc
      have hwc := hwU c hc
      unfold wfU at hwc
      simp only [Bool.and_eq_true] at hwc
      unfold chkU at hu
      simp only [Bool.and_eq_true] at hu
      obtain ⟨u1, u2, u3⟩ := hu
      have n1 := hnn hg u1
      have n2 := hnn hg u2
      have hPc : Pc + CrMax + ct.2.2.2.2.2.2.1 * 16777216 ≤ PMax := by
        generalize ct.2.2.2.2.2.2.1 * 16777216 = K at hPM2 ⊢
        omega
      split at u3
      · next outs hex =>
        refine ex_ok hXs hC n _ _ _ _ _ _ _ _ hex c.2.1.1.length ρ ρ lc st w _ hg.rb hPc hS (fun o ho ρ' lc' st' w' hg' => ?_)
        have hoo := List.all_eq_true.mp u3 o ho
        have e8 : ∀ s, s < c.2.1.1.length → ρ' s = ρ s := hg'.2.2.2.2.2.2.2.1
        have h01 : ct.2.2.1.length ≤ c.2.1.1.length := hg.2.2.2.2.2.2.2.2.1
        have h02 := hg.2.2.2.2.2.2.2.1
        unfold okO at hoo
        split at hoo
        · next pc hpc =>
          rw [hpc]
          simp only
          obtain ⟨c', hc', hq⟩ := List.any_eq_true.mp hoo
          simp only [Bool.and_eq_true, nbe] at hq
          obtain ⟨q1, q2⟩ := hq
          split at q2
          · next τ hτ =>
            simp only [Bool.and_eq_true] at q2
            obtain ⟨m1, m2⟩ := q2
            have k1 := hnn hg' m1
            have k2 := hnn hg' m2
            rw [subL_ok] at k1 k2
            have e1 : lV ρ' c.2.2.1 = lV ρ c.2.2.1 := by unfold lV; rw [lv_ext e8 hwc.2.1]
            have e2 : lV ρ' c.2.2.2 = lV ρ c.2.2.2 := by unfold lV; rw [lv_ext e8 hwc.2.2]
            rw [e1] at k1
            rw [e2] at k2
            have hcrm := hg'.2.2.2.2.2.2.2.2.2.2
            have hPM3 : Pc + o.2.2.2.2.2 ≤ PMax := by
              generalize ct.2.2.2.2.2.2.1 * 16777216 = K at hPc
              omega
            have g2 := mtC_ok hτ (hwU c' hc') hg' h01 h02 hPM3
            rw [← q1]
            refine ih c' hc' _ _ _ _ _ g2 (by omega) ?_
            rw [Int.natCast_add]
            omega
          · cases q2
        · next x hx =>
          rw [hx]
          simp only
          simp only [Bool.and_eq_true] at hoo
          obtain ⟨o1, o2⟩ := hoo
          obtain ⟨p, hp, hq⟩ := List.any_eq_true.mp o1
          split at hq
          · next l hl =>
            have k2 := hnn hg' o2
            rw [subL_ok] at k2
            have e2 : lV ρ' c.2.2.2 = lV ρ c.2.2.2 := by unfold lV; rw [lv_ext e8 hwc.2.2]
            simp only [e2] at k2
            have e3 : lV (fun s => ρ' (nth [] s)) (([], 0, 0) : Ln) = 0 := rfl
            rw [e3] at k2
            exact hret hp hl hg' h01 h02 (by omega)
          · cases hq
      · cases u3
  -- from the entry on
  have hwf : ∀ f ∈ ct.2.2.2.1, fsc ct.2.2.1.length f := fun f hf => wfF_ok (List.all_eq_true.mp w1 f hf)
  have hPM0 : P ≤ PMax := by
    generalize ct.2.2.2.2.2.2.1 * 16777216 = K at hPM2
    omega
  have hg0 : Ga E.1 X ks P ct.2.2.1.length ρ0 E.2.2.2.2.1 w0 (ct.2.2.1, lArgsA ct.2.2.1 0 (List.range ct.2.1), [], ct.2.2.2.1, 0) ρ0 (lArgs 0 ((List.range ct.2.1).map ρ0)) [] w0 := by
    refine ⟨hd, lArgsA_ok hd (fun s hs => by have := List.mem_range.mp hs; omega), ⟨rfl, fun s hs => by cases hs⟩, fun f hf => ⟨hm f hf, hwf f hf⟩, hT, hX, ?_, fun s _ => rfl, Nat.le_refl _, hPM0, Nat.zero_le _⟩
    intro i k hk
    exact ⟨fun _ a ha => ha, fun ci fs h => ⟨fs, h, fun _ _ => rfl⟩⟩
  unfold chkE at hE
  split at hE
  · next outs hex =>
    have hPc : P + CrMax + ct.2.2.2.2.2.2.1 * 16777216 ≤ PMax := by
      generalize ct.2.2.2.2.2.2.1 * 16777216 = K at hPM2 ⊢
      omega
    refine ex_ok hXs hC n _ _ _ _ _ _ _ _ hex ct.2.2.1.length ρ0 ρ0 _ _ w0 _ hg0 hPc hS (fun o ho ρ' lc' st' w' hg' => ?_)
    have hoo := List.all_eq_true.mp hE o ho
    unfold okO at hoo
    split at hoo
    · next pc hpc =>
      rw [hpc]
      simp only
      obtain ⟨c', hc', hq⟩ := List.any_eq_true.mp hoo
      simp only [Bool.and_eq_true, nbe] at hq
      obtain ⟨q1, q2⟩ := hq
      split at q2
      · next τ hτ =>
        simp only [Bool.and_eq_true] at q2
        obtain ⟨-, m2⟩ := q2
        have k2 := hnn hg' m2
        rw [subL_ok] at k2
        have e2 : lV ρ' (([], ct.2.2.2.2.2.1, 0) : Ln) = (ct.2.2.2.2.2.1 : Int) := by
          simp only [lV, lv]
          omega
        simp only [e2] at k2
        have hcrm := hg'.2.2.2.2.2.2.2.2.2.2
        have hPM3 : P + o.2.2.2.2.2 ≤ PMax := by
          generalize ct.2.2.2.2.2.2.1 * 16777216 = K at hPc
          omega
        have g2 := mtC_ok hτ (hwU c' hc') hg' (Nat.le_refl _) (fun _ _ => rfl) hPM3
        rw [← q1]
        refine hcut ((lV (fun s => ρ' (nth τ s)) c'.2.2.1).toNat + 1) c' hc' _ _ _ _ _ g2 (by omega) ?_
        rw [Int.natCast_add]
        omega
      · cases q2
    · next x hx =>
      rw [hx]
      simp only
      simp only [Bool.and_eq_true] at hoo
      obtain ⟨o1, o2⟩ := hoo
      obtain ⟨p, hp, hq⟩ := List.any_eq_true.mp o1
      split at hq
      · next l hl =>
        have k2 := hnn hg' o2
        rw [subL_ok] at k2
        have e2 : lV ρ' (([], ct.2.2.2.2.2.1, 0) : Ln) = (ct.2.2.2.2.2.1 : Int) := by
          simp only [lV, lv]
          omega
        simp only [e2] at k2
        have e3 : lV (fun s => ρ' (nth [] s)) (([], 0, 0) : Ln) = 0 := rfl
        rw [e3] at k2
        exact hret hp hl hg' (Nat.le_refl _) (fun _ _ => rfl) (by omega)
      · cases hq
  · cases hE
end CHK

section SND4
variable {KT : List Kd} {X : pW → Prop} {ks : List Nat} {P n0 : Nat} {ρ0 : Nat → Value} {eff : List (Nat × Nat)} {w0 : pW} {σ : aS} {ρ : Nat → Value} {lc : pL} {st : List Value} {w : pW}
variable {pp : pP} {F : pF} {xs : Nat → Int32} {L own nL : Nat} {ini : Bool} {pc : Nat} {l : List (Nat × aS)}
theorem k_if_icmp {c : Jvm.ClassFile.Cond} {off : Int} (hG : Ga KT X ks P n0 ρ0 eff w0 σ ρ lc st w) (h : ai1 KT F pp eff own nL σ (.if_icmp c off) pc = some l) : Nx KT X ks P n0 ρ0 eff w0 pp F xs L own nL ini (.if_icmp c off) pc lc st w l := by
  simp only [ai1] at h
  split at h
  · next y x r t hst ht =>
    split at h
    · next hc =>
      simp only [Bool.and_eq_true] at hc
      simp only [Option.some.injEq] at h
      subst h
      obtain ⟨xv, ex⟩ := hG.tI hc.1
      obtain ⟨yv, ey⟩ := hG.tI hc.2
      have hG1 := hG.st1 (r := r) (fun s hs => by rw [hst]; exact List.mem_cons_of_mem _ (List.mem_cons_of_mem _ hs))
      obtain ⟨q, hq, e, g⟩ := brA_ok (c := c) (t := t) (f := pc + 3) hG1 ex ey
      refine ⟨q, hq, ρ, lc, _, w, ?_, g⟩
      rw [hG.stq, hst, List.map_cons, List.map_cons, ex, ey]
      simp only [sstep, ht, e]
    · cases h
  · cases h
theorem k_ifCond {c : Jvm.ClassFile.Cond} {off : Int} (hG : Ga KT X ks P n0 ρ0 eff w0 σ ρ lc st w) (h : ai1 KT F pp eff own nL σ (.ifCond c off) pc = some l) : Nx KT X ks P n0 ρ0 eff w0 pp F xs L own nL ini (.ifCond c off) pc lc st w l := by
  simp only [ai1] at h
  split at h
  · next x r t hst ht =>
    split at h
    · next hc =>
      simp only [Option.some.injEq] at h
      subst h
      obtain ⟨xv, ex⟩ := hG.tI hc
      have hxl : x < σ.1.length := hG.sl (by rw [hst]; exact List.mem_cons_self)
      have hr : ∀ s ∈ r, s < σ.1.length := fun s hs => hG.sl (by rw [hst]; exact List.mem_cons_of_mem _ hs)
      have hG1 := (hG.stk hr).pu (d := (0, Zb, Zb)) (v := .int 0) (okI_cI 0) nof
      have hG2 := hG1.stk (r := r) (fun s hs => by
        have := hr s hs
        simp only [push, setSt, List.length_append, List.length_singleton]
        omega)
      have ex2 : upS ρ σ.1.length (.int 0) x = .int xv := by rw [upS_ne hxl]; exact ex
      obtain ⟨q, hq, e, g⟩ := brA_ok (c := c) (t := t) (f := pc + 3) hG2 ex2 (upS_eq ρ σ.1.length (.int 0))
      refine ⟨q, hq, _, lc, _, w, ?_, g⟩
      rw [hG.stq, hst, List.map_cons, ex]
      have e3 : r.map (upS ρ σ.1.length (.int 0)) = r.map ρ := List.map_congr_left (fun s hs => upS_ne (hr s hs))
      have e4 : r.map (upS ρ (setSt σ r).1.length (.int 0)) = r.map ρ := e3
      simp only [sstep, ht, e, e4]
    · cases h
  · cases h
theorem k_ifnonnull {off : Int} (hG : Ga KT X ks P n0 ρ0 eff w0 σ ρ lc st w) (h : ai1 KT F pp eff own nL σ (.ifnonnull off) pc = some l) : Nx KT X ks P n0 ρ0 eff w0 pp F xs L own nL ini (.ifnonnull off) pc lc st w l := by
  simp only [ai1] at h
  split at h
  · next x r t hst ht =>
    have hG1 := hG.st1 (r := r) (fun s hs => by rw [hst]; exact List.mem_cons_of_mem _ hs)
    split at h
    · next hd =>
      obtain ⟨i, e, -⟩ := (hG.1 x _ hd)
      simp only [Option.some.injEq] at h
      subst h
      refine ⟨_, List.mem_singleton_self _, ρ, lc, _, w, ?_, hG1⟩
      rw [hG.stq, hst, List.map_cons, e]
      simp only [sstep, ht]
    · next hd =>
      have e : ρ x = .null := (hG.1 x _ hd)
      simp only [Option.some.injEq] at h
      subst h
      refine ⟨_, List.mem_singleton_self _, ρ, lc, _, w, ?_, hG1⟩
      rw [hG.stq, hst, List.map_cons, e]
      simp only [sstep]
    · next k kk hd =>
      simp only [Option.some.injEq] at h
      subst h
      have hs : ∀ d, okD ks P d (ρ x) → Ga KT X ks P n0 ρ0 eff w0 (σ.1.set x d, σ.2.1, r, σ.2.2.2.1, σ.2.2.2.2) ρ lc (r.map ρ) w := fun d hd2 => hG1.re (ds := σ.1.set x d) (me := σ.2.2.2.1) List.length_set (fun s d2 h2 => by
        by_cases hsx : s = x
        · subst hsx
          rw [List.getElem?_set_self (lt_ds hd)] at h2
          cases h2
          exact hd2
        · rw [List.getElem?_set_ne (Ne.symm hsx)] at h2
          exact hG.1 s d2 h2) hG.2.2.2.1
      rcases (hG.1 x _ hd : ρ x = .null ∨ ∃ i : Nat, ρ x = .ref (i + 3) ∧ ks[i]? = some k) with e | ⟨i, e, hk⟩
      · refine ⟨_, List.mem_cons_of_mem _ (List.mem_singleton_self _), ρ, lc, _, w, ?_, hs (7, 0, 0) e⟩
        rw [hG.stq, hst, List.map_cons, e]
        simp only [sstep]
      · refine ⟨_, List.mem_cons_self, ρ, lc, _, w, ?_, hs (1, k, 0) ⟨i, e, hk⟩⟩
        rw [hG.stq, hst, List.map_cons, e]
        simp only [sstep, ht]
    · cases h
  · cases h
theorem swT_ok {x : Nat} {xv : Int32} (hG : Ga KT X ks P n0 ρ0 eff w0 σ ρ lc st w) (hx : ρ x = .int xv) {lo : Int} : ∀ (offs : List Int) (k j : Nat), lo + (j : Int) + (k : Int) = xv.toInt → (∀ o ∈ offs, (jmp pc o).isSome = true) → ∀ o, offs[j]? = some o → ∃ t, jmp pc o = some t ∧ ∃ τ, (t, τ) ∈ swT pc σ x lo offs k ∧ Ga KT X ks P n0 ρ0 eff w0 τ ρ lc st w
  | [], _, _, _, _, _, h => by cases h
  | o1 :: r, k, 0, hk, ho, o, h => by
    cases h
    obtain ⟨t, ht⟩ := Option.isSome_iff_exists.mp (ho o1 List.mem_cons_self)
    have l := i32_lo xv
    obtain ⟨ds, e, n, d⟩ := meetS_ok (lo := (lo + (k : Int) + 2147483648).toNat) (hi := (lo + (k : Int) + 2147483648).toNat) hG.1 hx (by omega) (by omega)
    refine ⟨t, ht, _, ?_, hG.re n d hG.2.2.2.1⟩
    unfold swT
    rw [ht, e]
    exact List.mem_append_left _ List.mem_cons_self
  | o1 :: r, k, j + 1, hk, ho, o, h => by
    obtain ⟨t, ht, τ, hm, g⟩ := swT_ok hG hx (lo := lo) r (k + 1) j (by omega) (fun o h => ho o (List.mem_cons_of_mem _ h)) o h
    refine ⟨t, ht, τ, ?_, g⟩
    unfold swT
    exact List.mem_append_right _ hm
theorem swL_ok {x : Nat} {xv : Int32} (hG : Ga KT X ks P n0 ρ0 eff w0 σ ρ lc st w) (hx : ρ x = .int xv) {df : Int} {t0 : Nat} (ht0 : jmp pc df = some t0) : ∀ (ps : List (Int × Int)), (ps.all (fun q => (jmp pc q.2).isSome && (decide (-2147483648 ≤ q.1) && decide (q.1 ≤ 2147483647))) = true) → ∃ t, jmp pc (Op.lookupswitch.offset ps df xv.toInt) = some t ∧ ∃ τ, (t, τ) ∈ swL pc σ x ps ++ [(t0, σ)] ∧ Ga KT X ks P n0 ρ0 eff w0 τ ρ lc st w
  | [], _ => ⟨t0, ht0, σ, List.mem_cons_self, hG⟩
  | (key, o) :: r, ho => by
    simp only [List.all_cons, Bool.and_eq_true, decide_eq_true_eq] at ho
    obtain ⟨⟨h1, h2, h3⟩, ho⟩ := ho
    by_cases hk : key = xv.toInt
    · obtain ⟨t, ht⟩ := Option.isSome_iff_exists.mp h1
      obtain ⟨ds, e, n, d⟩ := meetS_ok (lo := (key + 2147483648).toNat) (hi := (key + 2147483648).toNat) hG.1 hx (by omega) (by omega)
      refine ⟨t, ?_, _, ?_, hG.re n d hG.2.2.2.1⟩
      · have : Op.lookupswitch.offset ((key, o) :: r) df xv.toInt = o := by simp [Op.lookupswitch.offset, hk]
        rw [this]
        exact ht
      · unfold swL
        rw [ht, e]
        exact List.mem_append_left _ (List.mem_append_left _ List.mem_cons_self)
    · obtain ⟨t, ht, τ, hm, g⟩ := swL_ok hG hx ht0 r ho
      refine ⟨t, ?_, τ, ?_, g⟩
      · have : Op.lookupswitch.offset ((key, o) :: r) df xv.toInt = Op.lookupswitch.offset r df xv.toInt := by
          have hk2 : ¬ xv.toInt = key := fun e => hk e.symm
          simp [Op.lookupswitch.offset, hk, hk2]
        rw [this]
        exact ht
      · unfold swL
        rw [List.append_assoc]
        exact List.mem_append_right _ hm
theorem k_lookupswitch {df : Int} {ps : Array (Int × Int)} (hG : Ga KT X ks P n0 ρ0 eff w0 σ ρ lc st w) (h : ai1 KT F pp eff own nL σ (.lookupswitch df ps) pc = some l) : Nx KT X ks P n0 ρ0 eff w0 pp F xs L own nL ini (.lookupswitch df ps) pc lc st w l := by
  simp only [ai1] at h
  split at h
  · next x r t hst ht =>
    split at h
    · next hc =>
      simp only [Bool.and_eq_true] at hc
      simp only [Option.some.injEq] at h
      subst h
      obtain ⟨xv, ex⟩ := hG.tI hc.1
      have hG1 := hG.st1 (r := r) (fun s hs => by rw [hst]; exact List.mem_cons_of_mem _ hs)
      obtain ⟨t1, ht1, τ, hm, g⟩ := swL_ok hG1 ex ht ps.toList hc.2.2
      refine ⟨_, hm, ρ, lc, _, w, ?_, g⟩
      rw [hG.stq, hst, List.map_cons, ex]
      simp only [sstep, hc.2.1, if_true, ht1]
    · cases h
  · cases h
theorem k_tableswitch {df lo hi : Int} {offs : Array Int} (hG : Ga KT X ks P n0 ρ0 eff w0 σ ρ lc st w) (h : ai1 KT F pp eff own nL σ (.tableswitch df lo hi offs) pc = some l) : Nx KT X ks P n0 ρ0 eff w0 pp F xs L own nL ini (.tableswitch df lo hi offs) pc lc st w l := by
  simp only [ai1] at h
  split at h
  · next x r t hst ht =>
    split at h
    · next hc =>
      simp only [Bool.and_eq_true, decide_eq_true_eq] at hc
      obtain ⟨hc1, hc2, hc3, hc4, hc5⟩ := hc
      simp only [Option.some.injEq] at h
      subst h
      obtain ⟨xv, ex⟩ := hG.tI hc1
      have hG1 := hG.st1 (r := r) (fun s hs => by rw [hst]; exact List.mem_cons_of_mem _ hs)
      have l := i32_lo xv
      by_cases hin : xv.toInt < lo ∨ hi < xv.toInt
      · rcases hin with hin | hin
        · obtain ⟨ds, e, n, d⟩ := meetS_ok (lo := 0) (hi := (lo + 2147483647).toNat) hG1.1 ex (by omega) (by omega)
          refine ⟨(t, (ds, σ.2.1, r, σ.2.2.2.1, σ.2.2.2.2)), ?_, ρ, lc, _, w, ?_, hG1.re n d hG.2.2.2.1⟩
          · refine List.mem_append_left _ (List.mem_append_right _ ?_)
            have e' : meetS σ.1 x 0 ((lo + 2147483647).toNat) = some ds := e
            rw [e']
            simp only
            rw [if_pos (by simp only [decide_eq_true_eq]; omega)]
            exact List.mem_cons_self
          · rw [hG.stq, hst, List.map_cons, ex]
            simp only [sstep, tsw, if_pos (Or.inl hin : xv.toInt < lo ∨ hi < xv.toInt), ht]
        · obtain ⟨ds, e, n, d⟩ := meetS_ok (lo := (hi + 2147483649).toNat) (hi := Mx) hG1.1 ex (by omega) (by simp only [Mx]; omega)
          refine ⟨(t, (ds, σ.2.1, r, σ.2.2.2.1, σ.2.2.2.2)), ?_, ρ, lc, _, w, ?_, hG1.re n d hG.2.2.2.1⟩
          · refine List.mem_append_right _ ?_
            have e' : meetS σ.1 x ((hi + 2147483649).toNat) Mx = some ds := e
            rw [e']
            exact List.mem_cons_self
          · rw [hG.stq, hst, List.map_cons, ex]
            simp only [sstep, tsw, if_pos (Or.inr hin : xv.toInt < lo ∨ hi < xv.toInt), ht]
      · have hj : (xv.toInt - lo).toNat < offs.toList.length := by omega
        obtain ⟨t1, ht1, τ, hm, g⟩ := swT_ok hG1 ex (lo := lo) offs.toList 0 (xv.toInt - lo).toNat (by omega) (fun o ho => List.all_eq_true.mp hc5 o ho) _ (List.getElem?_eq_getElem hj)
        refine ⟨_, List.mem_append_left _ (List.mem_append_left _ hm), ρ, lc, _, w, ?_, g⟩
        rw [hG.stq, hst, List.map_cons, ex]
        have e1 : offs[(xv.toInt - lo).toNat]? = some (offs.toList[(xv.toInt - lo).toNat]) := by rw [← Array.getElem?_toList, List.getElem?_eq_getElem hj]
        simp only [sstep, tsw, if_neg hin, e1, ht1]
    · cases h
  · cases h
end SND4

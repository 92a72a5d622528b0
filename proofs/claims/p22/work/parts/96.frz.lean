/-! the record of the first world -/
section FRZ
/-- rows and fields that are frozen stand once -/
def fzK (KT : List Kd) (k : Nat) : Bool := match KT[k]? with
  | some (.inr (0, _, (5, _, _))) => true
  | _ => false
def foK (KT : List Kd) (k : Nat) : Bool := match KT[k]? with
  | some (.inl (_, fds)) => fds.any (fun d => Nat.beq d.1 5)
  | _ => false
def uqR (KT : List Kd) : List Nat → Bool
  | [] => true
  | k :: r => (!fzK KT k || r.all (fun q => !(Nat.beq q k))) && uqR KT r
def uqO (KT : List Kd) : List Nat → Bool
  | [] => true
  | k :: r => (!foK KT k || r.all (fun q => !foK KT q)) && uqO KT r
theorem uqR_ok {KT : List Kd} : ∀ {ks : List Nat}, uqR KT ks = true → ∀ (i j k : Nat), ks[i]? = some k → ks[j]? = some k → fzK KT k = true → i = j
  | [], _, i, _, _, hi, _, _ => by simp at hi
  | k0 :: r, h, i, j, k, hi, hj, hk => by
    unfold uqR at h
    rw [Bool.and_eq_true, Bool.or_eq_true] at h
    have nope : ∀ m : Nat, r[m]? = some k → k0 = k → False := by
      intro m hm he
      subst he
      rcases h.1 with h1 | h1
      · rw [hk] at h1; cases h1
      · have := List.all_eq_true.mp h1 _ (List.mem_of_getElem? hm)
        rw [nbe.mpr rfl] at this
        cases this
    cases i with
    | zero => cases j with
      | zero => rfl
      | succ j => exact (nope j (by simpa using hj) (by simpa using hi)).elim
    | succ i => cases j with
      | zero => exact (nope i (by simpa using hi) (by simpa using hj)).elim
      | succ j => rw [uqR_ok h.2 i j k (by simpa using hi) (by simpa using hj) hk]
theorem uqO_ok {KT : List Kd} : ∀ {ks : List Nat}, uqO KT ks = true → ∀ (i j k k' : Nat), ks[i]? = some k → ks[j]? = some k' → foK KT k = true → foK KT k' = true → i = j
  | [], _, i, _, _, _, hi, _, _, _ => by simp at hi
  | k0 :: r, h, i, j, k, k', hi, hj, hk, hk' => by
    unfold uqO at h
    rw [Bool.and_eq_true, Bool.or_eq_true] at h
    have nope : ∀ m q : Nat, r[m]? = some q → foK KT k0 = true → foK KT q = true → False := by
      intro m q hm h0 hq
      rcases h.1 with h1 | h1
      · rw [h0] at h1; cases h1
      · have := List.all_eq_true.mp h1 _ (List.mem_of_getElem? hm)
        rw [hq] at this
        cases this
    cases i with
    | zero => cases j with
      | zero => rfl
      | succ j =>
        have e : k0 = k := by simpa using hi
        exact (nope j k' (by simpa using hj) (by rw [e]; exact hk) hk').elim
    | succ i => cases j with
      | zero =>
        have e : k0 = k' := by simpa using hj
        exact (nope i k (by simpa using hi) (by rw [e]; exact hk') hk).elim
      | succ j => rw [uqO_ok h.2 i j k k' (by simpa using hi) (by simpa using hj) hk hk']
theorem fzK_of {KT : List Kd} {k n : Nat} {d : Ds} (h : KT[k]? = some (.inr (0, n, d))) (h5 : d.1 = 5) : fzK KT k = true := by
  obtain ⟨a, b, c⟩ := d
  simp only at h5
  subst h5
  unfold fzK
  rw [h]
  rfl
theorem foK_of {KT : List Kd} {k ci f : Nat} {fds : List Ds} {d : Ds} (h : KT[k]? = some (.inl (ci, fds))) (hd : fds[f]? = some d) (h5 : d.1 = 5) : foK KT k = true := by
  unfold foK
  rw [h]
  exact List.any_eq_true.mpr ⟨d, List.mem_of_getElem? hd, nbe.mpr h5⟩
theorem uq_of {KT : List Kd} {ks : List Nat} (h1 : uqR KT ks = true) (h2 : uqO KT ks = true) : Uq KT ks :=
  ⟨fun i j k _ _ hi hj hk h5 => uqR_ok h1 i j k hi hj (fzK_of hk h5), fun i j k k' _ _ _ _ _ _ _ _ hi hj hk hk' hd h5 hd' h5' => uqO_ok h2 i j k k' hi hj (foK_of hk hd h5) (foK_of hk' hd' h5')⟩
def KSL : List Nat := KSX ++ KSM
theorem uqL : Uq KTab KSL := uq_of (by decide +kernel) (by decide +kernel)
theorem gok : GOk GM := by
  have h : GM.all (fun q => !(Nat.beq q.1.1 99)) = true := by decide +kernel
  intro j M na hj he
  have := List.all_eq_true.mp h _ (List.mem_of_getElem? hj)
  simp only at this
  rw [nbe.mpr he] at this
  cases this
/-- the record of a world -/
def idxK : List Nat → Nat → Nat
  | [], _ => 0
  | q :: r, k => if q = k then 0 else idxK r k + 1
theorem idxK_ok : ∀ {ks : List Nat} {i k : Nat}, ks[i]? = some k → ks[idxK ks k]? = some k
  | [], i, k, h => by simp at h
  | q :: r, i, k, h => by
    unfold idxK
    split
    · next e => simp [e]
    · next e => cases i with
      | zero => exact absurd (by simpa using h) e
      | succ i => simpa using idxK_ok (i := i) (by simpa using h)
def recW (ks : List Nat) (o : Nat) (w : pW) : pR := (fun k => match w[idxK ks k]? with
  | some (.inl (_, _, .inl f)) => f
  | _ => fun _ => 0, fun f => match w[o]? with
  | some (.inr (_, fs)) => (match fs[f]? with
    | some (.int x) => x
    | _ => 0)
  | _ => 0)
theorem recW_row {ks : List Nat} {o k j t m : Nat} {w : pW} {f : Nat → Int32} (hi : idxK ks k = j) (hw : w[j]? = some (.inl (t, m, .inl f))) : (recW ks o w).1 k = f := by
  simp only [recW, hi, hw]
theorem recW_fld {ks : List Nat} {o ci f : Nat} {w : pW} {fs : List Value} {x : Int32} (hw : w[o]? = some (.inr (ci, fs))) (hf : fs[f]? = some (.int x)) : (recW ks o w).2 f = x := by
  simp only [recW, hw, hf]
theorem fz_rec {ks : List Nat} {w : pW} {B o k0 c0 f0 : Nat} {fd0 : List Ds} {d0 : Ds} (hT : Typed KTab ks B w) (hU : Uq KTab ks) (h0 : ks[o]? = some k0) (h1 : KTab[k0]? = some (.inl (c0, fd0))) (h2 : fd0[f0]? = some d0) (h3 : d0.1 = 5) : FZ KTab ks (recW ks o w) w := by
  refine ⟨fun i k n d hi hk h5 => ?_, fun i k ci fds hi hk => ?_⟩
  · obtain ⟨kd, e, a1, a2, a3⟩ := hT.2 i k hi
    rw [hk] at a1
    cases a1
    have ei : idxK ks k = i := hU.1 _ _ k n d (idxK_ok hi) hi hk h5
    rcases e with ⟨t, m, v⟩ | c
    · obtain ⟨b1, b2, b3⟩ := a3
      simp only at b1 b2
      subst b1 b2
      rcases v with f | v
      · rw [recW_row ei a2]; exact a2
      · exfalso
        rcases v with v | v | v | v
        · cases b3
        · cases b3
        · cases b3
        · cases b3.1
    · cases a3
  · obtain ⟨kd, e, a1, a2, a3⟩ := hT.2 i k hi
    rw [hk] at a1
    cases a1
    rcases e with e | ⟨c, fs⟩
    · cases a3
    · obtain ⟨b1, b2, b3⟩ := a3
      simp only at b1 b2 b3
      subst b1
      refine ⟨fs, a2, fun f d hd h5 => ?_⟩
      have ei : i = o := hU.2 i o k k0 _ c0 f f0 fds fd0 d d0 hi h0 hk h1 hd h5 h2 h3
      subst ei
      obtain ⟨v, v1, v2⟩ := b3 f d hd
      obtain ⟨a, b, c⟩ := d
      simp only at h5
      subst h5
      obtain ⟨x, rfl, _⟩ := v2
      rw [recW_fld a2 v1]
      exact v1
end FRZ

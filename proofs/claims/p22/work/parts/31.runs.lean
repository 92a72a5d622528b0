/-! RUNS OF THE PURE MACHINE -/
def TX : pT := [[112, 111, 110, 100, 32, 32, 32, 32, 98, 121, 32, 32, 32, 32, 32, 32, 99, 101, 108, 108, 32, 32, 32, 32, 112, 108, 97, 110, 107, 32, 32, 32, 97, 116, 32, 32, 32, 32, 32, 32, 116, 117, 110, 101, 32, 32, 32, 32, 98, 97, 114, 115, 32, 32, 32, 32, 115, 105, 108, 101, 110, 99, 101, 32, 115, 107, 97, 116, 101, 114, 32, 32, 119, 101, 105, 103, 104, 116, 32, 32, 115, 116, 97, 121, 32, 32, 32, 32, 110, 111, 114, 116, 104, 32, 32, 32, 101, 97, 115, 116, 32, 32, 32, 32, 115, 111, 117, 116, 104, 32, 32, 32, 119, 101, 115, 116, 32, 32, 32, 32, 111, 114, 32, 32, 32, 32, 32, 32, 97, 110, 100, 32, 32, 32, 32, 32, 110, 111, 116, 32, 32, 32, 32, 32, 105, 99, 101, 32, 32, 32, 32, 32, 98, 101, 97, 116, 32, 32, 32, 32, 108, 111, 97, 100, 32, 32, 32, 32, 97, 114, 111, 117, 110, 100, 32, 32], [59, 40, 41, 60, 62, 61, 43, 45, 42, 47, 37]]
section RS
variable {xs : Nat → Int32} {L : Nat}
theorem run_up {pp : pP} {F : pF} {Gm : pG} {tx : pT} : ∀ (n d : Nat) (M : pM) (pc : Nat) (lc : pL) (st : List Value) (w : pW) (r : Option Value × pW), run pp F Gm tx xs L n d M pc lc st w = some r → run pp F Gm tx xs L (n + 1) d M pc lc st w = some r := by
  intro n
  induction n with
  | zero => intro d M pc lc st w r h; cases h
  | succ n ih =>
    intro d M pc lc st w r h
    rw [run]
    rw [run] at h
    split at h
    · cases h
    · next ins hi =>
      try rw [hi]
      split at h
      · next hA =>
        try simp only [hA]
        exact h
      · next hA =>
        try simp only [hA]
        exact ih _ _ _ _ _ _ _ h
      · next hA =>
        try simp only [hA]
        split at h
        · cases h
        · split at h
          · next hc =>
            simp only [ih _ _ _ _ _ _ _ hc]
            exact ih _ _ _ _ _ _ _ h
          · cases h
      · cases h
theorem run_le {pp : pP} {F : pF} {Gm : pG} {tx : pT} {n n' d : Nat} {M : pM} {pc : Nat} {lc : pL} {st : List Value} {w : pW} {r : Option Value × pW} (hn : n ≤ n') (h : run pp F Gm tx xs L n d M pc lc st w = some r) : run pp F Gm tx xs L n' d M pc lc st w = some r := by
  obtain ⟨k, rfl⟩ := Nat.le.dest hn
  induction k with
  | zero => exact h
  | succ k ih => exact run_up _ _ _ _ _ _ _ _ (ih (Nat.le_add_right _ _))
/-- a run comes to an end with P -/
def Rs (pp : pP) (F : pF) (Gm : pG) (tx : pT) (xs : Nat → Int32) (L d : Nat) (M : pM) (pc : Nat) (lc : pL) (st : List Value) (w : pW) (P : Option Value → pW → Prop) : Prop := ∃ (n : Nat) (v : Option Value) (w' : pW), run pp F Gm tx xs L n d M pc lc st w = some (v, w') ∧ P v w'
variable {pp : pP} {F : pF} {Gm : pG} {tx : pT} {d : Nat} {M : pM} {pc : Nat} {lc : pL} {st : List Value} {w : pW} {P : Option Value → pW → Prop}
theorem Rs.imp {Q : Option Value → pW → Prop} (h : Rs pp F Gm tx xs L d M pc lc st w P) (k : ∀ v w', P v w' → Q v w') : Rs pp F Gm tx xs L d M pc lc st w Q := by
  obtain ⟨n, v, w', h1, h2⟩ := h
  exact ⟨n, v, w', h1, k v w' h2⟩
theorem Rs.step {ins : Instr} {pc' : Nat} {lc' : pL} {st' : List Value} {w1 : pW} (hi : instrAt M pc = some ins) (hs : sstep pp F xs L M.1 M.2.2.2.1 (isInit M.2.1) ins pc lc st w = some (pc', lc', st', w1)) (k : Rs pp F Gm tx xs L d M pc' lc' st' w1 P) : Rs pp F Gm tx xs L d M pc lc st w P := by
  obtain ⟨n, v, w', h1, h2⟩ := k
  refine ⟨n + 1, v, w', ?_, h2⟩
  have hA : astep pp F Gm tx xs L M d ins pc lc st w = some (.inr (.inl (pc', lc', st', w1))) := by
    unfold astep
    split
    · simp [sstep] at hs
    · simp [sstep] at hs
    · simp [sstep] at hs
    · simp [sstep] at hs
    · simp [sstep] at hs
    · simp [sstep] at hs
    · simp [sstep] at hs
    · rw [hs]; rfl
  rw [run, hi]
  try simp only [hA]
  exact h1
theorem Rs.next {ins : Instr} {pc' : Nat} {lc' : pL} {st' : List Value} {w1 : pW} (hi : instrAt M pc = some ins) (hA : astep pp F Gm tx xs L M d ins pc lc st w = some (.inr (.inl (pc', lc', st', w1)))) (k : Rs pp F Gm tx xs L d M pc' lc' st' w1 P) : Rs pp F Gm tx xs L d M pc lc st w P := by
  obtain ⟨n, v, w', h1, h2⟩ := k
  refine ⟨n + 1, v, w', ?_, h2⟩
  rw [run, hi]
  try simp only [hA]
  exact h1
theorem Rs.ret {ins : Instr} {v : Option Value} (hi : instrAt M pc = some ins) (hA : astep pp F Gm tx xs L M d ins pc lc st w = some (.inl v)) (k : P v w) : Rs pp F Gm tx xs L d M pc lc st w P := by
  refine ⟨1, v, w, ?_, k⟩
  rw [run, hi]
  try simp only [hA]
theorem Rs.call {ins : Instr} {M' : pM} {as r : List Value} {pc' : Nat} {lc' : pL} {P1 : Option Value → pW → Prop} (hi : instrAt M pc = some ins) (hA : astep pp F Gm tx xs L M (d + 1) ins pc lc st w = some (.inr (.inr (M', as, pc', lc', r)))) (hc : Rs pp F Gm tx xs L d M' 0 (lArgs 0 as) [] w P1) (k : ∀ v w1, P1 v w1 → Rs pp F Gm tx xs L (d + 1) M pc' lc' (v.toList ++ r) w1 P) : Rs pp F Gm tx xs L (d + 1) M pc lc st w P := by
  obtain ⟨n1, v1, w1, h1, h2⟩ := hc
  obtain ⟨n2, v, w', h3, h4⟩ := k v1 w1 h2
  refine ⟨max n1 n2 + 1, v, w', ?_, h4⟩
  rw [run, hi]
  try simp only [hA]
  rw [run_le (Nat.le_max_left n1 n2) h1]
  exact run_le (Nat.le_max_right n1 n2) h3
/-- deeper is no worse -/
theorem astep_dup {a : pA} {ins : Instr} (h : astep pp F Gm tx xs L M d ins pc lc st w = some a) : astep pp F Gm tx xs L M (d + 1) ins pc lc st w = some a := by
  unfold astep at h ⊢
  split at h
  · exact h
  · exact h
  · exact h
  · exact h
  · unfold acallV at h ⊢
    split at h
    · next hp => (try simp only [hp]); exact h
    · next hno hp =>
      try simp only [hp]
      split at h
      · next ht =>
        try simp only [ht]
        split at h
        · next hc =>
          simp only [Bool.and_eq_true, decide_eq_true_eq] at hc
          rw [if_pos (by simp only [Bool.and_eq_true, decide_eq_true_eq]; omega)]
          exact h
        · cases h
      · cases h
    · cases h
  · unfold acallS at h ⊢
    split at h
    · next hp => (try simp only [hp]); exact h
    · next hp =>
      try simp only [hp]
      split at h
      · split at h
        · next hc =>
          simp only [Bool.and_eq_true, decide_eq_true_eq] at hc
          rw [if_pos (by simp only [Bool.and_eq_true, decide_eq_true_eq]; omega)]
          exact h
        · cases h
      · cases h
    · next hp =>
      try simp only [hp]
      split at h
      · split at h
        · next hc =>
          simp only [Bool.and_eq_true, decide_eq_true_eq] at hc
          rw [if_pos (by simp only [Bool.and_eq_true, decide_eq_true_eq]; omega)]
          exact h
        · cases h
      · cases h
    · next hp =>
      try simp only [hp]
      split at h
      · split at h
        · next hc =>
          simp only [Bool.and_eq_true, decide_eq_true_eq] at hc
          rw [if_pos (by simp only [Bool.and_eq_true, decide_eq_true_eq]; omega)]
          exact h
        · cases h
      · cases h
    · cases h
  · unfold acallI at h ⊢
    split at h
    · next hp => (try simp only [hp]); exact h
    · next hp =>
      try simp only [hp]
      split at h
      · split at h
        · next hc =>
          simp only [Bool.and_eq_true, decide_eq_true_eq] at hc
          rw [if_pos (by simp only [Bool.and_eq_true, decide_eq_true_eq]; omega)]
          exact h
        · cases h
      · cases h
    · cases h
  · exact h
theorem run_deep : ∀ (n d : Nat) (M : pM) (pc : Nat) (lc : pL) (st : List Value) (w : pW) (r : Option Value × pW), run pp F Gm tx xs L n d M pc lc st w = some r → run pp F Gm tx xs L n (d + 1) M pc lc st w = some r := by
  intro n
  induction n with
  | zero => intro d M pc lc st w r h; cases h
  | succ n ih =>
    intro d M pc lc st w r h
    rw [run]
    rw [run] at h
    split at h
    · cases h
    · next ins hi =>
      try rw [hi]
      split at h
      · next hA =>
        simp only [astep_dup hA]
        exact h
      · next hA =>
        simp only [astep_dup hA]
        exact ih _ _ _ _ _ _ _ h
      · next hA =>
        simp only [astep_dup hA]
        split at h
        · cases h
        · next d' =>
          split at h
          · next hc =>
            simp only [ih _ _ _ _ _ _ _ hc]
            exact ih _ _ _ _ _ _ _ h
          · cases h
      · cases h
theorem Rs.deep {d' : Nat} (hd : d ≤ d') (h : Rs pp F Gm tx xs L d M pc lc st w P) : Rs pp F Gm tx xs L d' M pc lc st w P := by
  obtain ⟨k, rfl⟩ := Nat.le.dest hd
  induction k with
  | zero => exact h
  | succ k ih =>
    obtain ⟨n, v, w', h1, h2⟩ := ih (Nat.le_add_right _ _)
    exact ⟨n, v, w', run_deep _ _ _ _ _ _ _ _ h1, h2⟩
/-- what is run without a script is run with any -/
theorem aldI_L {xs' : Nat → Int32} {L' : Nat} {a : Nat} {i : Int32} {ts : List Nat} {v : Int32} (h : aldI xs 0 w a i ts = some v) : aldI xs' L' w a i ts = some v := by
  unfold aldI at h ⊢
  split at h
  · next hw => (try simp only [hw]); exact h
  · cases h
  · split at h
    · next hc =>
      simp only [Bool.and_eq_true] at hc
      have := hc.2
      simp [inB] at this
    · cases h
theorem alen_L {L' : Nat} {a n : Nat} (h : alen 0 w a = some n) : alen L' w a = some n := by
  unfold alen at h ⊢
  split at h
  · next hw => (try simp only [hw]); exact h
  · cases h
  · simp at h
theorem sstep_L {xs' : Nat → Int32} {L' own nL : Nat} {ini : Bool} {ins : Instr} {c : pC} (h : sstep pp F xs 0 own nL ini ins pc lc st w = some c) : sstep pp F xs' L' own nL ini ins pc lc st w = some c := by
  cases ins with
  | iaload =>
    simp only [sstep] at h ⊢
    split at h
    · split at h
      · next hv => simp only [aldI_L (xs' := xs') (L' := L') hv]; exact h
      · cases h
    · cases h
  | baload =>
    simp only [sstep] at h ⊢
    split at h
    · split at h
      · next hv => simp only [aldI_L (xs' := xs') (L' := L') hv]; exact h
      · cases h
    · cases h
  | arraylength =>
    simp only [sstep] at h ⊢
    split at h
    · split at h
      · next hv => simp only [alen_L (L' := L') hv]; exact h
      · cases h
    · cases h
  | _ => simp only [sstep] at h ⊢; exact h
theorem astep_L {xs' : Nat → Int32} {L' : Nat} {a : pA} {ins : Instr} (h : astep pp F Gm tx xs 0 M d ins pc lc st w = some a) : astep pp F Gm tx xs' L' M d ins pc lc st w = some a := by
  unfold astep at h ⊢
  split at h
  · exact h
  · exact h
  · exact h
  · exact h
  · exact h
  · exact h
  · exact h
  · next h1 h2 h3 h4 h5 h6 h7 =>
    cases hs : sstep pp F xs 0 M.1 M.2.2.2.1 (isInit M.2.1) ins pc lc st w with
    | none => rw [hs] at h; cases h
    | some c =>
      rw [hs] at h
      rw [sstep_L hs]
      exact h
theorem run_L {xs' : Nat → Int32} {L' : Nat} : ∀ (n d : Nat) (M : pM) (pc : Nat) (lc : pL) (st : List Value) (w : pW) (r : Option Value × pW), run pp F Gm tx xs 0 n d M pc lc st w = some r → run pp F Gm tx xs' L' n d M pc lc st w = some r := by
  intro n
  induction n with
  | zero => intro d M pc lc st w r h; cases h
  | succ n ih =>
    intro d M pc lc st w r h
    rw [run]
    rw [run] at h
    split at h
    · cases h
    · next ins hi =>
      try rw [hi]
      split at h
      · next hA =>
        simp only [astep_L (xs' := xs') (L' := L') hA]
        exact h
      · next hA =>
        simp only [astep_L (xs' := xs') (L' := L') hA]
        exact ih _ _ _ _ _ _ _ h
      · next hA =>
        simp only [astep_L (xs' := xs') (L' := L') hA]
        split at h
        · cases h
        · split at h
          · next hc =>
            simp only [ih _ _ _ _ _ _ _ hc]
            exact ih _ _ _ _ _ _ _ h
          · cases h
      · cases h
end RS

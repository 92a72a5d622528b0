/-! law from its start, to its loop -/
section LWS
variable {xs : Nat → Int32} {L : Nat}
def r0 (s : Nat) : Value := match s with
  | 0 => .ref 3
  | 1 => .ref 363
  | 3 => .ref 0
  | 4 => .ref 35
  | _ => .int 0
theorem ef_id (ks : List Nat) (eff : List (Nat × Nat)) (w : pW) : Ef ks eff w w := fun _ _ _ => ⟨fun _ _ h => h, fun _ fs h => ⟨fs, h, fun _ _ => rfl⟩⟩
theorem fF {w : pW} {P : Nat} {ρ : Nat → Value} {f o s i : Nat} {v : Value} (ho : ρ o = .ref (i + 3)) (hs : ρ s = v) (h : ∃ (ci : Nat) (fs : List Value), w[i]? = some (.inr (ci, fs)) ∧ fs[f]? = some v) : okF P ρ w (1000 + f, o, 0, s) := by
  obtain ⟨ci, fs, h1, h2⟩ := h
  refine ⟨fun h => ?_, fun h => ?_, fun h => ?_, fun h => ?_, fun h => ?_, fun h => ?_, fun h => ?_, fun _ => ⟨i + 3, ci, fs, ho, h1, ?_⟩⟩
  · exact absurd h (by simp only; omega)
  · exact absurd h (by simp only; omega)
  · exact absurd h (by simp only; omega)
  · exact absurd h (by simp only; omega)
  · exact absurd h (by simp only; omega)
  · exact absurd h (by simp only; omega)
  · exact absurd h (by simp only; omega)
  · simp only [Nat.add_sub_cancel_left, hs]
    exact h2
theorem fS {w : pW} {P : Nat} {ρ : Nat → Value} {a b c : Nat} (ha : ρ a = .int 0) (hb : ρ b = .int 0) (hc : ρ c = .int 0) : okF P ρ w (3, a, b, c) := by
  refine ⟨fun h => ?_, fun h => ⟨⟨0, hc⟩, ?_⟩, fun h => ?_, fun h => ?_, fun h => ?_, fun h => ?_, fun h => ?_, fun h => ?_⟩
  · cases h
  · simp only [ha, hb, hc]; rfl
  · cases h
  · cases h
  · cases h
  · cases h
  · cases h
  · exact absurd h (by simp only; omega)
theorem ga0 {w : pW} (hT : Typed KTab KSL 0 w) (hX : XL KSL w) (hM : IM w) (g1 : ∃ (ci : Nat) (fs : List Value), w[0]? = some (.inr (ci, fs)) ∧ fs[6]? = some (.ref 35)) (g2 : HF w 0 15) (g3 : HF w 32 2) (g4 : HF w 32 3) {lc : pL} (l0 : lGet lc 0 = some (.ref 0)) (l1 : lGet lc 1 = some (.ref 3)) (l2 : lGet lc 2 = some (.ref 363)) (l3 : lGet lc 3 = some (.int 0)) : Ga KTab (XL KSL) KSL 0 0 r0 lz_e.2.2.2.2.1 w (stC lz_h) r0 lc [] w := by
  obtain ⟨k1, k2, k3, k4, -⟩ := ksl_i
  obtain ⟨-, m51, m52, m67, -⟩ := hM
  refine ⟨fun s d hs => ?_, ?_, ⟨rfl, fun s hs => by cases hs⟩, ?_, hT, hX, ef_id _ _ _, fun s hs => absurd hs (Nat.not_lt_zero _), Nat.zero_le _, Nat.zero_le _, Nat.zero_le _⟩
  · have hi : ∀ (a b : Nat), a ≤ 2147483648 → 2147483648 ≤ b → okI a b (.int 0) := fun a b ha hb => ⟨0, rfl, by rw [show (0 : Int32).toInt = 0 from rfl]; omega, by rw [show (0 : Int32).toInt = 0 from rfl]; omega⟩
    rcases s with _ | _ | _ | _ | _ | _ | _ | _ | _ | _ | _ | _ | s
    · cases hs; exact ⟨0, rfl, k3⟩
    · cases hs; exact ⟨360, rfl, k2⟩
    · cases hs; exact hi _ _ (by decide) (by decide)
    · cases hs; exact rfl
    · cases hs; exact ⟨32, rfl, k4⟩
    · cases hs; exact hi _ _ (by decide) (by decide)
    · cases hs; exact hi _ _ (by decide) (by decide)
    · cases hs; exact hi _ _ (by decide) (by decide)
    · cases hs; exact hi _ _ (by decide) (by decide)
    · cases hs; exact hi _ _ (by decide) (by decide)
    · cases hs; exact hi _ _ (by decide) (by decide)
    · cases hs; exact hi _ _ (by decide) (by decide)
    · cases hs
  · refine List.forall_mem_cons.mpr ⟨⟨l0, by decide⟩, List.forall_mem_cons.mpr ⟨⟨l1, by decide⟩, List.forall_mem_cons.mpr ⟨⟨l2, by decide⟩, List.forall_mem_cons.mpr ⟨⟨l3, by decide⟩, fun q hq => by cases hq⟩⟩⟩⟩
  · refine List.forall_mem_cons.mpr ⟨⟨fF (w := w) (P := 0) (ρ := r0) (f := 6) (o := 0) (s := 4) (i := 0) (v := .ref 35) rfl rfl g1, by unfold fsc; decide⟩, List.forall_mem_cons.mpr ⟨⟨fF (w := w) (P := 0) (ρ := r0) (f := 2) (o := 4) (s := 5) (i := 32) (v := .int 0) rfl rfl g3, by unfold fsc; decide⟩, List.forall_mem_cons.mpr ⟨⟨fF (w := w) (P := 0) (ρ := r0) (f := 3) (o := 4) (s := 6) (i := 32) (v := .int 0) rfl rfl g4, by unfold fsc; decide⟩, List.forall_mem_cons.mpr ⟨⟨fS (w := w) (P := 0) (ρ := r0) (a := 5) (b := 6) (c := 7) rfl rfl rfl, by unfold fsc; decide⟩, List.forall_mem_cons.mpr ⟨⟨fF (w := w) (P := 0) (ρ := r0) (f := 51) (o := 1) (s := 8) (i := 360) (v := .int 0) rfl rfl m51, by unfold fsc; decide⟩, List.forall_mem_cons.mpr ⟨⟨fF (w := w) (P := 0) (ρ := r0) (f := 52) (o := 1) (s := 9) (i := 360) (v := .int 0) rfl rfl m52, by unfold fsc; decide⟩, List.forall_mem_cons.mpr ⟨⟨fS (w := w) (P := 0) (ρ := r0) (a := 8) (b := 9) (c := 10) rfl rfl rfl, by unfold fsc; decide⟩, List.forall_mem_cons.mpr ⟨⟨fF (w := w) (P := 0) (ρ := r0) (f := 15) (o := 0) (s := 11) (i := 0) (v := .int 0) rfl rfl g2, by unfold fsc; decide⟩, List.forall_mem_cons.mpr ⟨⟨fF (w := w) (P := 0) (ρ := r0) (f := 67) (o := 1) (s := 11) (i := 360) (v := .int 0) rfl rfl m67, by unfold fsc; decide⟩, fun q hq => by cases hq⟩⟩⟩⟩⟩⟩⟩⟩⟩
end LWS

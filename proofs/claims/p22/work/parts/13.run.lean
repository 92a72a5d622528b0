/-! one instruction, any; then runs -/
section RUN
variable {p : Program} {l : Launch} {e : Env} {R : Room} {s : State} {m : MethodId} {args : Array Value} {below : List Frame} {meth : Method} {c : Code} {H : Heap} {locs : List Loc} {cells slots : Nat} {Q : State → Prop}
variable {G : va_G} {cI cZ cB cJ cE : ClassId} {A : Nat → Prop} {Z0 : Nat}
theorem sstep_ok {pp : pP} {F : pF} {tr : List (String × Nat × Nat)} {xs : Nat → Int32} {L : Nat} {M : pM} (hF : ClsOK F) (hPo : PoolOK pp tr) (C : Cx p s m args meth c G cI cZ cB cJ cE A Z0 M) {pc : Nat} {lc : pL} {st : List Value} {w : pW} {pc' : Nat} {lc' : pL} {st' : List Value} {w' : pW} {ad : Nat → Nat} {ls : Array Slot} (hX : EXf xs L tr Z0 ad s) {ins : Instr} (hd : DecAt M.2.2.1 pc ins) (h : sstep pp F xs L M.1 M.2.2.2.1 (isInit M.2.1) ins pc lc st w = some (pc', lc', st', w')) (hR : Rn s G cI cZ cB cJ cE A M.2.2.2.1 ad H locs ls lc w) (hs : scS (w.length + 3) st) (hroom : cells + (w'.length - w.length) ≤ R.cells ∧ slots + (slW w' - slW w) ≤ R.slots)
    (k : Go p l e R s m args below meth c Q G cI cZ cB cJ cE A M (w.length + 3) ad (cells + (w'.length - w.length)) (slots + (slW w' - slW w)) pc' lc' st' w') : W p l e R s m args below meth c H locs cells slots Q (F0 m pc ls (st.map (cvV ad))) := by
  cases ins with
  | iconst n => exact ss_iconst hF hPo C hX hd h hR hs hroom k
  | bipush n => exact ss_bipush hF hPo C hX hd h hR hs hroom k
  | sipush n => exact ss_sipush hF hPo C hX hd h hR hs hroom k
  | lconst n => exact ss_lconst hF hPo C hX hd h hR hs hroom k
  | ldc i => exact ss_ldc hF hPo C hX hd h hR hs hroom k
  | ldc_w i => exact ss_ldc_w hF hPo C hX hd h hR hs hroom k
  | ldc2_w i => exact ss_ldc2_w hF hPo C hX hd h hR hs hroom k
  | iload_n i => exact ss_iload_n hF hPo C hX hd h hR hs hroom k
  | iload i => exact ss_iload hF hPo C hX hd h hR hs hroom k
  | lload_n i => exact ss_lload_n hF hPo C hX hd h hR hs hroom k
  | aload_n i => exact ss_aload_n hF hPo C hX hd h hR hs hroom k
  | aload i => exact ss_aload hF hPo C hX hd h hR hs hroom k
  | istore_n i => exact ss_istore_n hF hPo C hX hd h hR hs hroom k
  | istore i => exact ss_istore hF hPo C hX hd h hR hs hroom k
  | astore_n i => exact ss_astore_n hF hPo C hX hd h hR hs hroom k
  | astore i => exact ss_astore hF hPo C hX hd h hR hs hroom k
  | lstore_n i => exact ss_lstore_n hF hPo C hX hd h hR hs hroom k
  | iinc i n => exact ss_iinc hF hPo C hX hd h hR hs hroom k
  | iadd => exact ss_iadd hF hPo C hX hd h hR hs hroom k
  | isub => exact ss_isub hF hPo C hX hd h hR hs hroom k
  | imul => exact ss_imul hF hPo C hX hd h hR hs hroom k
  | iand => exact ss_iand hF hPo C hX hd h hR hs hroom k
  | ior => exact ss_ior hF hPo C hX hd h hR hs hroom k
  | ixor => exact ss_ixor hF hPo C hX hd h hR hs hroom k
  | ishl => exact ss_ishl hF hPo C hX hd h hR hs hroom k
  | ishr => exact ss_ishr hF hPo C hX hd h hR hs hroom k
  | iushr => exact ss_iushr hF hPo C hX hd h hR hs hroom k
  | lor => exact ss_lor hF hPo C hX hd h hR hs hroom k
  | lshl => exact ss_lshl hF hPo C hX hd h hR hs hroom k
  | lcmp => exact ss_lcmp hF hPo C hX hd h hR hs hroom k
  | idiv => exact ss_idiv hF hPo C hX hd h hR hs hroom k
  | irem => exact ss_irem hF hPo C hX hd h hR hs hroom k
  | ineg => exact ss_ineg hF hPo C hX hd h hR hs hroom k
  | i2l => exact ss_i2l hF hPo C hX hd h hR hs hroom k
  | i2b => exact ss_i2b hF hPo C hX hd h hR hs hroom k
  | i2c => exact ss_i2c hF hPo C hX hd h hR hs hroom k
  | dup => exact ss_dup hF hPo C hX hd h hR hs hroom k
  | pop => exact ss_pop hF hPo C hX hd h hR hs hroom k
  | dup2 => exact ss_dup2 hF hPo C hX hd h hR hs hroom k
  | ifCond cc off => exact ss_ifCond hF hPo C hX hd h hR hs hroom k
  | if_icmp cc off => exact ss_if_icmp hF hPo C hX hd h hR hs hroom k
  | goto off => exact ss_goto hF hPo C hX hd h hR hs hroom k
  | ifnonnull off => exact ss_ifnonnull hF hPo C hX hd h hR hs hroom k
  | tableswitch df lo hi offs => exact ss_tableswitch hF hPo C hX hd h hR hs hroom k
  | lookupswitch df ps => exact ss_lookupswitch hF hPo C hX hd h hR hs hroom k
  | getfield i => exact ss_getfield hF hPo C hX hd h hR hs hroom k
  | putfield i => exact ss_putfield hF hPo C hX hd h hR hs hroom k
  | iaload => exact ss_iaload hF hPo C hX hd h hR hs hroom k
  | baload => exact ss_baload hF hPo C hX hd h hR hs hroom k
  | laload => exact ss_laload hF hPo C hX hd h hR hs hroom k
  | aaload => exact ss_aaload hF hPo C hX hd h hR hs hroom k
  | iastore => exact ss_iastore hF hPo C hX hd h hR hs hroom k
  | bastore => exact ss_bastore hF hPo C hX hd h hR hs hroom k
  | lastore => exact ss_lastore hF hPo C hX hd h hR hs hroom k
  | aastore => exact ss_aastore hF hPo C hX hd h hR hs hroom k
  | arraylength => exact ss_arraylength hF hPo C hX hd h hR hs hroom k
  | new i => exact ss_new hF hPo C hX hd h hR hs hroom k
  | newarray t => exact ss_newarray hF hPo C hX hd h hR hs hroom k
  | anewarray i => exact ss_anewarray hF hPo C hX hd h hR hs hroom k
  | _ => exact absurd h (by simp [sstep])
theorem lArgs_cv (ad : Nat → Nat) : ∀ (as : List Value) (i : Nat), lv_args i (as.map (cvV ad)) = cvL ad (lArgs i as)
  | [], _ => rfl
  | v :: r, i => by
    simp only [List.map_cons, lv_args, lArgs, cvL, cat_cv]
    rw [lArgs_cv ad r]
    rfl
theorem lg_len : ∀ (as : List Value), (lg_sl as).length = cats as
  | [] => rfl
  | v :: r => by
    have ih := lg_len r
    simp only [lg_sl, cats] at ih
    simp only [lg_sl, cats, List.flatMap_cons, List.length_append, List.map_cons, List.sum_cons, ih]
    congr 1
    rcases lv_cat v with h | h <;> simp [h]
theorem lArgs_sc {n : Nat} : ∀ {as : List Value} {i : Nat}, scS n as → scL n (lArgs i as)
  | [], _, _ => fun _ h => by cases h
  | v :: r, i, h => fun q hq => by
    rcases List.mem_cons.mp hq with rfl | hq
    · exact scS_h h
    · exact lArgs_sc (scS_t h) q hq
def szOK (w w' : pW) : Prop := w.length ≤ w'.length ∧ slW w ≤ slW w'
theorem szOK.r (w : pW) : szOK w w := ⟨Nat.le_refl _, Nat.le_refl _⟩
theorem szOK.t {a b c : pW} (h : szOK a b) (k : szOK b c) : szOK a c := ⟨Nat.le_trans h.1 k.1, Nat.le_trans h.2 k.2⟩
theorem szOK.push (w : pW) (x : pE) : szOK w (w ++ [x]) := ⟨by simp, by rw [slW_push]; omega⟩
theorem szOK.set {w : pW} {i : Nat} {x y : pE} (h : w[i]? = some y) (he : slE x = slE y) : szOK w (w.set i x) := ⟨by simp, Nat.le_of_eq (slW_set h he).symm⟩
theorem putF_sz {F : pF} {ini : Bool} {own : Nat} {w w' : pW} {a ci k : Nat} {v : Value} (h : putF F ini own w a ci k v = some w') : szOK w w' := by
  unfold putF at h
  split at h
  · next cj fs ty fin hw hty =>
    split at h
    · obtain ⟨j, rfl, hj⟩ := wAt_some hw
      have := Option.some.inj h
      rw [← this]
      exact szOK.set hj (by simp [slE])
    · cases h
  · cases h
theorem astI_sz {w w' : pW} {a : Nat} {i x : Int32} {ts : List Nat} (h : astI w a i x ts = some w') : szOK w w' := by
  obtain ⟨j, t, n, f, rfl, hj, -, -, rfl⟩ := astI_some h
  exact szOK.set hj rfl
theorem acpy_sz {w w' : pW} {a0 a : Nat} {sp dp n : Int32} (h : acpy w a0 sp a dp n = some w') : szOK w w' := by
  unfold acpy at h
  split at h
  · next n0 f n1 g h0 h1 =>
    split at h
    · obtain ⟨j, rfl, hj⟩ := wAt_some h1
      have := Option.some.inj h
      rw [← this]
      exact szOK.set hj rfl
    · cases h
  · cases h
set_option maxHeartbeats 4000000 in
theorem sstep_sz {pp : pP} {F : pF} {xs : Nat → Int32} {L own nL : Nat} {ini : Bool} {ins : Instr} {pc : Nat} {lc : pL} {st : List Value} {w : pW} {pc' : Nat} {lc' : pL} {st' : List Value} {w' : pW} (h : sstep pp F xs L own nL ini ins pc lc st w = some (pc', lc', st', w')) : szOK w w' := by
  unfold sstep at h
  split at h
  all_goals (repeat' split at h)
  all_goals first
    | (cases h; done)
    | (simp only [Option.some.injEq, Prod.mk.injEq] at h; obtain ⟨-, -, -, rfl⟩ := h; exact szOK.r _)
    | (simp only [Option.some.injEq, Prod.mk.injEq] at h; obtain ⟨-, -, -, rfl⟩ := h; exact szOK.push _ _)
    | (next hv => simp only [Option.some.injEq, Prod.mk.injEq] at h; obtain ⟨-, -, -, rfl⟩ := h; exact putF_sz hv)
    | (next hv => simp only [Option.some.injEq, Prod.mk.injEq] at h; obtain ⟨-, -, -, rfl⟩ := h; exact astI_sz hv)
    | (next hw _ => simp only [Option.some.injEq, Prod.mk.injEq] at h; obtain ⟨-, -, -, rfl⟩ := h; obtain ⟨j, rfl, hj⟩ := wAt_some hw; exact szOK.set hj rfl)
    | (next hw _ _ => simp only [Option.some.injEq, Prod.mk.injEq] at h; obtain ⟨-, -, -, rfl⟩ := h; obtain ⟨j, rfl, hj⟩ := wAt_some hw; exact szOK.set hj rfl)
end RUN

section SNDA
variable {KT : List Kd} {X : pW → Prop} {ks : List Nat} {P n0 : Nat} {ρ0 : Nat → Value} {eff : List (Nat × Nat)} {w0 : pW} {σ : aS} {ρ : Nat → Value} {lc : pL} {st : List Value} {w : pW}
variable {pp : pP} {F : pF} {xs : Nat → Int32} {L own nL : Nat} {ini : Bool} {pc : Nat} {l : List (Nat × aS)}
/-- EACH STEP OF THE ABSTRACT MACHINE IS ONE OF THE PURE MACHINE -/
theorem ai1_ok {ins : Instr} (hXs : XS KT ks X) (hG : Ga KT X ks P n0 ρ0 eff w0 σ ρ lc st w) (h : ai1 KT F pp eff own nL σ ins pc = some l) : Nx KT X ks P n0 ρ0 eff w0 pp F xs L own nL ini ins pc lc st w l := by
  cases ins with
  | iconst n => exact k_iconst hG h
  | bipush n => exact k_bipush hG h
  | sipush n => exact k_sipush hG h
  | lconst n => exact k_lconst hG h
  | ldc i => exact k_ldc hG h
  | ldc_w i => exact k_ldc_w hG h
  | ldc2_w i => exact k_ldc2_w hG h
  | iload_n i => exact k_iload_n hG h
  | iload i => exact k_iload hG h
  | lload_n i => exact k_lload_n hG h
  | aload_n i => exact k_aload_n hG h
  | aload i => exact k_aload hG h
  | istore_n i => exact k_istore_n hG h
  | istore i => exact k_istore hG h
  | astore_n i => exact k_astore_n hG h
  | astore i => exact k_astore hG h
  | lstore_n i => exact k_lstore_n hG h
  | iadd => exact k_iadd hG h
  | isub => exact k_isub hG h
  | imul => exact k_imul hG h
  | idiv => exact k_idiv hG h
  | irem => exact k_irem hG h
  | iand => exact k_iand hG h
  | ior => exact k_ior hG h
  | ixor => exact k_ixor hG h
  | ishl => exact k_ishl hG h
  | ishr => exact k_ishr hG h
  | iushr => exact k_iushr hG h
  | ineg => exact k_ineg hG h
  | i2l => exact k_i2l hG h
  | i2b => exact k_i2b hG h
  | i2c => exact k_i2c hG h
  | lor => exact k_lor hG h
  | lshl => exact k_lshl hG h
  | lcmp => exact k_lcmp hG h
  | dup => exact k_dup hG h
  | pop => exact k_pop hG h
  | dup2 => exact k_dup2 hG h
  | goto off => exact k_goto hG h
  | iinc i n => exact k_iinc hG h
  | if_icmp c off => exact k_if_icmp hG h
  | ifCond c off => exact k_ifCond hG h
  | ifnonnull off => exact k_ifnonnull hG h
  | lookupswitch df ps => exact k_lookupswitch hG h
  | tableswitch df lo hi offs => exact k_tableswitch hG h
  | getfield i => exact k_getfield hG h
  | putfield i => exact k_putfield hXs hG h
  | iaload => exact k_iaload hG h
  | baload => exact k_baload hG h
  | laload => exact k_laload hG h
  | aaload => exact k_aaload hG h
  | arraylength => exact k_arraylength hG h
  | iastore => exact k_iastore hXs hG h
  | bastore => exact k_bastore hXs hG h
  | lastore => exact k_lastore hXs hG h
  | _ => exact absurd h (by simp [ai1])
end SNDA

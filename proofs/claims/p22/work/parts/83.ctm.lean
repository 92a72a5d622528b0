def pre0 : pW := List.replicate 360 dumE
def fldI (e : Option pE) (f : Nat) : Bool := match e with
  | some (.inr (_, fs)) => (match fs[f]? with | some (.int x) => decide (x = 0) | _ => false)
  | _ => false
theorem ctM : (match run PP FF GM TX xs0 0 20000 20 mX11_init 0 (lArgs 0 [.ref 363]) [] (pre0 ++ [objE 11]) with
  | some (none, w) => typL KTab (KSX ++ KSM) KSM (w.drop 360) && (fldI w[360]? 38 && (rowI w[367]? (fun j x => !(Nat.beq j 0) || decide (x = 0)) 2 && (rowI w[372]? (fun j x => !(Nat.beq j 6) || decide (x = 0)) 7 && rowI w[373]? (fun j x => !(Nat.beq j 6) || decide (x = 0)) 7)))
  | _ => false) = true := by decide +kernel

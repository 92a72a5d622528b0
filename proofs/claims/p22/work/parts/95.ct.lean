/-! the constructors' first values -/
theorem ctX2 : (match run PP FF GM TX xs0 0 20000 20 mX10_init 0 (lArgs 0 [.ref 3]) [] [objE 10] with
  | some (none, w) => typL KTab KSX KSX w && (rowI w[285]? (fun _ x => decide (x = 0)) 30 && (isVal w[0]? 6 (.ref 35) && (isVal w[0]? 15 (.int 0) && (isVal w[32]? 2 (.int 0) && isVal w[32]? 3 (.int 0)))))
  | _ => false) = true := by decide +kernel
theorem ctM2 : (match run PP FF GM TX xs0 0 20000 20 mX11_init 0 (lArgs 0 [.ref 363]) [] (pre0 ++ [objE 11]) with
  | some (none, w) => typL KTab (KSX ++ KSM) KSM (w.drop 360) && (isVal w[360]? 38 (.int 0) && (isVal w[360]? 51 (.int 0) && (isVal w[360]? 52 (.int 0) && (isVal w[360]? 67 (.int 0) && (rowI w[367]? (fun j x => !(Nat.beq j 0) || decide (x = 0)) 2 && (rowI w[372]? (fun j x => !(Nat.beq j 6) || decide (x = 0)) 7 && rowI w[373]? (fun j x => !(Nat.beq j 6) || decide (x = 0)) 7))))))
  | _ => false) = true := by decide +kernel

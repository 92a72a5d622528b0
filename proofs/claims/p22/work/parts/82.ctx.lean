/-! THE CONSTRUCTORS, run by the kernel -/
def objE (ci : Nat) : pE := .inr (ci, (FF.getD ci []).map (fun q => dflt q.1))
def xs0 : Nat → Int32 := fun _ => 0
def rowI (e : Option pE) (p : Nat → Int32 → Bool) (n : Nat) : Bool := match e with
  | some (.inl (_, _, .inl f)) => (List.range n).all (fun j => p j (f j))
  | _ => false
theorem ctX : (match run PP FF GM TX xs0 0 20000 20 mX10_init 0 (lArgs 0 [.ref 3]) [] [objE 10] with
  | some (none, w) => typL KTab KSX KSX w && rowI w[285]? (fun _ x => decide (x = 0)) 30
  | _ => false) = true := by decide +kernel

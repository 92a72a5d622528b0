/-! THE CONSTRUCTORS, run by the kernel -/
def xs0 : Nat → Int32 := fun _ => 0
def cell0 (ci : Nat) : pE := .inr (ci, (FF.getD ci []).map (fun q => dflt q.1))
def ranEv : Option (Option Value × pW) := run PP FF GM TX xs0 0 1000 20 mX2_init 0 (lArgs 0 [.ref 3]) [] [cell0 2]
def isDone (r : Option (Option Value × pW)) (n : Nat) : Bool := match r with
  | some (none, w) => w.length == n
  | _ => false
theorem t_ev : isDone ranEv 6 = true := by decide +kernel

def c_Model_goes : Ctr := (173, 2, [(1, 11, 0), (0, 2147483648, 2147483653)], [], [(79, 999)], 0, 2, [(none, [(1, 11, 0), (0, 2147483648, 2147483653)], [])])
def c_Model_goes_e : Env := (KTab, FF, PP, GM, c_Model_goes.2.2.2.2.1, [], [], none)
def c_Model_goes_a : List (Nat × List An) := [(0, [(1, 1, [])])]
theorem c_Model_goes_k : chkE c_Model_goes_e 3000 mX11_goes c_Model_goes_a c_Model_goes [] [[]] = true := by decide +kernel
theorem ck_c_Model_goes {X : pW → Prop} {ks : List Nat} {xs : Nat → Int32} {L : Nat} (hXs : XS KTab ks X) : CK KTab X ks PP FF GM xs L c_Model_goes := chk_ok (E := c_Model_goes_e) (n := 3000) (na := 1) (M := mX11_goes) (an := c_Model_goes_a) (cus := []) hXs (show ∀ c ∈ [], CK KTab X ks PP FF GM xs L c from (fun _ h => by cases h)) rfl rfl rfl (by decide +kernel) (List.all_eq_true.mp (by decide +kernel)) c_Model_goes_k (show ∀ c ∈ [], ∃ hs, chkU c_Model_goes_e 3000 mX11_goes c_Model_goes_a c_Model_goes [] hs c = true from (fun _ h => by cases h))

/-! from relative addresses to the heap's -/
def cvV (ad : Nat → Nat) : Value → Value
  | .ref i => .ref (ad i)
  | v => v
def cvA (ad : Nat → Nat) (a : vp_A) : vp_A := match a with
  | (n, .inr (.inr (.inr (.inr f)))) => (n, .inr (.inr (.inr (.inr (fun j => (f j).map ad)))))
  | a => a
def cvE (ad : Nat → Nat) (ct : Nat → ClassId) (e : pE) : va_E := match e with
  | .inl a => .inl (ct a.1, cvA ad a.2)
  | .inr o => .inr (o.1, o.2.map (cvV ad))
def cW (ad : Nat → Nat) (ct : Nat → ClassId) (w : pW) : va_W := w.zipIdx.map (fun q => (ad (q.2 + 3), cvE ad ct q.1))
theorem cW_get (ad : Nat → Nat) (ct : Nat → ClassId) (w : pW) (i : Nat) : (cW ad ct w)[i]? = (w[i]?).map (fun e => (ad (i + 3), cvE ad ct e)) := by
  simp only [cW, List.getElem?_map, List.getElem?_zipIdx, Nat.zero_add]
  cases w[i]? <;> rfl
theorem cW_len (ad : Nat → Nat) (ct : Nat → ClassId) (w : pW) : (cW ad ct w).length = w.length := by simp [cW]
theorem cW_at {ad : Nat → Nat} {ct : Nat → ClassId} {w : pW} {i : Nat} {e : pE} (h : w[i]? = some e) : (cW ad ct w)[i]? = some (ad (i + 3), cvE ad ct e) := by rw [cW_get, h]; rfl
theorem cW_set (ad : Nat → Nat) (ct : Nat → ClassId) (w : pW) (i : Nat) (e : pE) : cW ad ct (w.set i e) = (cW ad ct w).set i (ad (i + 3), cvE ad ct e) := by
  apply List.ext_getElem?
  intro j
  rw [cW_get]
  by_cases h : j = i
  · subst h
    by_cases hl : j < w.length
    · rw [List.getElem?_set_self hl, List.getElem?_set_self (by rw [cW_len]; exact hl)]
      rfl
    · rw [List.getElem?_eq_none (by rw [List.length_set]; omega), List.getElem?_eq_none (by rw [List.length_set, cW_len]; omega)]
      rfl
  · rw [List.getElem?_set_ne (Ne.symm h), List.getElem?_set_ne (Ne.symm h), cW_get]
theorem cW_push (ad : Nat → Nat) (ct : Nat → ClassId) (w : pW) (e : pE) : cW ad ct (w ++ [e]) = cW ad ct w ++ [(ad (w.length + 3), cvE ad ct e)] := by
  apply List.ext_getElem?
  intro j
  rw [cW_get]
  by_cases h : j < w.length
  · rw [List.getElem?_append_left h, List.getElem?_append_left (by rw [cW_len]; exact h), cW_get]
  · by_cases h2 : j = w.length
    · subst h2
      rw [List.getElem?_append_right (Nat.le_refl _), List.getElem?_append_right (by rw [cW_len]; exact Nat.le_refl _), cW_len, Nat.sub_self]
      rfl
    · rw [List.getElem?_eq_none (by simp; omega), List.getElem?_eq_none (by simp [cW_len]; omega)]
      rfl
/-- what is named lies in the world -/
def scV (n : Nat) (v : Value) : Prop := ∀ i, v = .ref i → i < n
def scE (n : Nat) (e : pE) : Prop := match e with
  | .inl (_, _, .inr (.inr (.inr (.inr f)))) => ∀ j r, f j = some r → r < n
  | .inl _ => True
  | .inr o => ∀ v ∈ o.2, scV n v
def scW (n : Nat) (w : pW) : Prop := ∀ e ∈ w, scE n e
def scL (n : Nat) (lc : pL) : Prop := ∀ q ∈ lc, scV n q.2
def scS (n : Nat) (st : List Value) : Prop := ∀ v ∈ st, scV n v
def adX (n : Nat) (ad ad' : Nat → Nat) : Prop := ∀ i, i < n → ad' i = ad i
theorem cvV_x {n : Nat} {ad ad' : Nat → Nat} (h : adX n ad ad') {v : Value} (hv : scV n v) : cvV ad' v = cvV ad v := by
  cases v with
  | ref i => simp only [cvV]; rw [h i (hv i rfl)]
  | _ => rfl
theorem cvE_x {n : Nat} {ad ad' : Nat → Nat} {ct : Nat → ClassId} (h : adX n ad ad') {e : pE} (he : scE n e) : cvE ad' ct e = cvE ad ct e := by
  rcases e with ⟨t, k, a⟩ | ⟨ci, fs⟩
  · rcases a with f | f | f | f | f
    · rfl
    · rfl
    · rfl
    · rfl
    · simp only [cvE, cvA]
      congr 7
      funext j
      cases hf : f j with
      | none => rfl
      | some r => simp only [Option.map_some]; rw [h r (he j r hf)]
  · simp only [cvE]
    congr 2
    exact List.map_congr_left (fun v hv => cvV_x h (he v hv))
theorem cW_x {n : Nat} {ad ad' : Nat → Nat} {ct : Nat → ClassId} (h : adX n ad ad') {w : pW} (hw : scW n w) (hn : w.length + 3 ≤ n) : cW ad' ct w = cW ad ct w := by
  apply List.ext_getElem?
  intro j
  rw [cW_get, cW_get]
  cases hj : w[j]? with
  | none => rfl
  | some e =>
    have hl := (List.getElem?_eq_some_iff.mp hj).1
    simp only [Option.map_some]
    rw [h (j + 3) (by omega), cvE_x h (hw e (List.mem_of_getElem? hj))]
theorem cS_x {n : Nat} {ad ad' : Nat → Nat} (h : adX n ad ad') {st : List Value} (hs : scS n st) : st.map (cvV ad') = st.map (cvV ad) := List.map_congr_left (fun v hv => cvV_x h (hs v hv))
def cvL (ad : Nat → Nat) (lc : pL) : List (Nat × Value) := lc.map (fun q => (q.1, cvV ad q.2))
theorem cL_x {n : Nat} {ad ad' : Nat → Nat} (h : adX n ad ad') {lc : pL} (hs : scL n lc) : cvL ad' lc = cvL ad lc := List.map_congr_left (fun q hq => by rw [cvV_x h (hs q hq)])
theorem cat_cv (ad : Nat → Nat) (v : Value) : (cvV ad v).category = v.category := by cases v <;> rfl
theorem cats_cv (ad : Nat → Nat) (st : List Value) : ((st.map (cvV ad)).map fun v => v.category).sum = cats st := by
  simp only [cats, List.map_map]
  congr 1
  exact List.map_congr_left (fun v _ => cat_cv ad v)
theorem scV_up {n n' : Nat} (h : n ≤ n') {v : Value} (hv : scV n v) : scV n' v := fun i hi => Nat.lt_of_lt_of_le (hv i hi) h
theorem scE_up {n n' : Nat} (h : n ≤ n') {e : pE} (he : scE n e) : scE n' e := by
  rcases e with ⟨t, k, a⟩ | ⟨ci, fs⟩
  · rcases a with f | f | f | f | f
    · trivial
    · trivial
    · trivial
    · trivial
    · exact fun j r hr => Nat.lt_of_lt_of_le (he j r hr) h
  · exact fun v hv => scV_up h (he v hv)
theorem scW_up {n n' : Nat} (h : n ≤ n') {w : pW} (hw : scW n w) : scW n' w := fun e he => scE_up h (hw e he)
theorem scL_up {n n' : Nat} (h : n ≤ n') {lc : pL} (hw : scL n lc) : scL n' lc := fun q hq => scV_up h (hw q hq)
theorem scS_up {n n' : Nat} (h : n ≤ n') {st : List Value} (hw : scS n st) : scS n' st := fun v hv => scV_up h (hw v hv)
theorem scV_int (n : Nat) (x : Int32) : scV n (.int x) := fun _ h => by cases h
theorem scV_long (n : Nat) (x : Int64) : scV n (.long x) := fun _ h => by cases h
theorem scV_null (n : Nat) : scV n .null := fun _ h => by cases h
theorem scW_set {n : Nat} {w : pW} {i : Nat} {e : pE} (hw : scW n w) (he : scE n e) : scW n (w.set i e) := by
  intro x hx
  rcases List.mem_or_eq_of_mem_set hx with h | h
  · exact hw x h
  · rw [h]; exact he
theorem lGet_mem {lc : pL} {i : Nat} {v : Value} (h : lGet lc i = some v) : (i, v) ∈ lc := by
  unfold lGet at h
  cases hf : lc.find? (fun q => q.1 == i) with
  | none => rw [hf] at h; cases h
  | some q =>
    rw [hf] at h
    have h1 := List.mem_of_find?_eq_some hf
    have h2 := List.find?_some hf
    simp only [beq_iff_eq] at h2
    have h3 : q.2 = v := Option.some.inj h
    rw [← h2, ← h3]
    exact h1
theorem lv_get {ad : Nat → Nat} {ls : Array Slot} {nL : Nat} {lc : pL} {i : Nat} {v : Value} (hl : lv_has ls nL (cvL ad lc)) (h : lGet lc i = some v) : ls[i]? = some (.val (cvV ad v)) :=
  hl.2.2 (i, cvV ad v) (List.mem_map.mpr ⟨(i, v), lGet_mem h, rfl⟩)
theorem cvL_set1 (ad : Nat → Nat) (lc : pL) (i : Nat) (v : Value) : (i, cvV ad v) :: (cvL ad lc).filter (fun q => !(q.1 == i) && !(q.1 + 1 == i && q.2.category == 2)) = cvL ad (lSet1 lc i v) := by
  simp only [cvL, lSet1, List.map_cons, List.filter_map]
  congr 2
  apply List.filter_congr
  intro q _
  simp only [Function.comp, cat_cv]
theorem cvL_set2 (ad : Nat → Nat) (lc : pL) (i : Nat) (v : Value) : (i, cvV ad v) :: (cvL ad lc).filter (fun q => !(q.1 == i) && (!(q.1 == i + 1) && !(q.1 + 1 == i && q.2.category == 2))) = cvL ad (lSet2 lc i v) := by
  simp only [cvL, lSet2, List.map_cons, List.filter_map]
  congr 2
  apply List.filter_congr
  intro q _
  simp only [Function.comp, cat_cv]
theorem scL_set1 {n : Nat} {lc : pL} (hl : scL n lc) (i : Nat) {v : Value} (hv : scV n v) : scL n (lSet1 lc i v) := by
  intro q hq
  rcases List.mem_cons.mp hq with rfl | hq
  · exact hv
  · exact hl q (List.mem_filter.mp hq).1
theorem scL_set2 {n : Nat} {lc : pL} (hl : scL n lc) (i : Nat) {v : Value} (hv : scV n v) : scL n (lSet2 lc i v) := by
  intro q hq
  rcases List.mem_cons.mp hq with rfl | hq
  · exact hv
  · exact hl q (List.mem_filter.mp hq).1
theorem inB_in {i : Int32} {n : Nat} (h : inB i n = true) : vp_in i n := by
  simp only [inB, Bool.and_eq_true, Bool.not_eq_true', decide_eq_false_iff_not, decide_eq_true_eq] at h
  exact fun q => q.elim h.1 (fun q => absurd h.2 (by omega))
theorem jmp_eq {pc : Nat} {off : Int} {t : Nat} (h : jmp pc off = some t) : (pc : Int) + off = (t : Int) := by
  unfold jmp at h
  by_cases h0 : 0 ≤ (pc : Int) + off
  · rw [if_pos h0] at h
    have := Option.some.inj h
    omega
  · rw [if_neg h0] at h; cases h
theorem wAt_some {w : pW} {a : Nat} {e : pE} (h : wAt w a = some e) : ∃ j, a = j + 3 ∧ w[j]? = some e := by
  rcases a with _ | _ | _ | j
  · cases h
  · cases h
  · cases h
  · exact ⟨j, rfl, h⟩
theorem okPut_ok {ty : FieldType} {v : Value} (h : okPut ty v = true) (ad : Nat → Nat) : narrow ty (cvV ad v) = cvV ad v ∧ fits ty (cvV ad v) = true := by
  cases ty <;> cases v <;> first | exact ⟨rfl, rfl⟩ | (cases h; done) | skip
  next x =>
    simp only [okPut, Bool.or_eq_true, beq_iff_eq] at h
    rcases h with rfl | rfl
    · exact ⟨show narrow .boolean (.int 0) = .int 0 by decide, show fits .boolean (.int 0) = true by decide⟩
    · exact ⟨show narrow .boolean (.int 1) = .int 1 by decide, show fits .boolean (.int 1) = true by decide⟩

/-! the class's lists: how many there are, and an element -/
theorem nd2 {a b : Nat} {e1 e2 : va_E} (h : a ≠ b) : ∀ (i j : Nat) (p q : Nat × va_E), ([(a, e1), (b, e2)] : va_W)[i]? = some p → ([(a, e1), (b, e2)] : va_W)[j]? = some q → p.1 = q.1 → i = j := by
  intro i j p q hi hj hpq
  match i, j, hi, hj with
  | 0, 0, _, _ => rfl
  | 1, 1, _, _ => rfl
  | 0, 1, hi, hj => cases hi; cases hj; exact absurd hpq h
  | 1, 0, hi, hj => cases hi; cases hj; exact absurd hpq.symm h
  | k + 2, _, hi, _ => simp at hi
  | 0, k + 2, _, hj => simp at hj
  | 1, k + 2, _, hj => simp at hj
theorem nd1 {a : Nat} {e1 : va_E} : ∀ (i j : Nat) (p q : Nat × va_E), ([(a, e1)] : va_W)[i]? = some p → ([(a, e1)] : va_W)[j]? = some q → p.1 = q.1 → i = j := by
  intro i j p q hi hj _
  match i, j, hi, hj with
  | 0, 0, _, _ => rfl
  | k + 1, _, hi, _ => simp at hi
  | 0, k + 1, _, hj => simp at hj
theorem cW_mL (E : cE) (x : Nat → Nat → Int32) {i : Nat} (h : i < 8) : (eLad E i, lC (x 14 i) (eEd E i) (x 15 i)) ∈ cW E x := List.mem_of_getElem? (cW_L E x h)
theorem cW_mR (E : cE) (x : Nat → Nat → Int32) {i : Nat} (h : i ∈ eLP E) : ∃ k, (cW E x)[33 + k]? = some (eEd E i, lR (eB E) (pRow E (x 15 i) i)) := by
  obtain ⟨k, hk⟩ := List.getElem?_of_mem (show (eEd E i, lR (eB E) (pRow E (x 15 i) i)) ∈ cPool E x from List.mem_map.mpr ⟨i, h, rfl⟩)
  refine ⟨k, ?_⟩
  unfold cW
  rw [List.getElem?_append_right (by show 33 ≤ 33 + k; omega), show 33 + k - (cF E x).length = k from by show 33 + k - 33 = k; omega]
  exact hk
theorem cW_LR {A : Nat → Prop} {E : cE} {x : Nat → Nat → Int32} (hD : va_D A (cW E x)) {i k : Nat} (h : i < 8) (hk : k ∈ eLP E) : eLad E i ≠ eEd E k := by
  intro q
  obtain ⟨j, hj⟩ := cW_mR E x hk
  have := hD.1 _ _ _ _ (cW_L E x h) hj q
  omega
/-- nothing changed -/
theorem resSame {w0 w1 : va_W} {A : Nat → Prop} (hD : va_D A w0) (hsub : ∀ q ∈ w1, q ∈ w0) : (∀ q ∈ w0, q ∈ w1 ∨ (q ∈ w0 ∧ ∀ q1 ∈ w1, q.1 ≠ q1.1)) ∧ ∃ new : List Nat, w0.map Prod.fst = w0.map Prod.fst ++ new ∧ (new = [] ∨ ∃ a, new = [a] ∧ a ∉ w0.map Prod.fst) := by
  refine ⟨fun q hq => ?_, [], by rw [List.append_nil], Or.inl rfl⟩
  by_cases h : ∃ q1, q1 ∈ w1 ∧ q.1 = q1.1
  · obtain ⟨q1, h1, h2⟩ := h
    obtain ⟨i, hi⟩ := List.getElem?_of_mem hq
    obtain ⟨j, hj⟩ := List.getElem?_of_mem (hsub q1 h1)
    have := hD.1 i j q q1 hi hj h2
    subst this
    have : q = q1 := Option.some.inj (hi.symm.trans hj)
    subst this
    exact Or.inl h1
  · exact Or.inr ⟨hq, fun q1 h1 h2 => h ⟨q1, h1, h2⟩⟩
section LROWS2
variable {p : Program} {l : Launch} {e : Env} {R : Room} {s : State} {m : MethodId} {args : Array Value} {below : List Frame} {meth : Method} {c : Code} {H : Heap} {locs : List Loc} {cells slots : Nat} {Q : State → Prop}
variable {cc : ByteArray} {pc nL index : Nat} {ls : Array Slot} {rest : List Value} {D : va_G} {A : Nat → Prop} {Ts : List Cond} {E : cE} {tl : gTy} {x : Nat → Nat → Int32}
theorem c_size (F : CallFix p m c cc nL s args Ts RX2) (hG : GoodIn Ts (wsV RX2 index RJx4a65c yJx4a65c_size_8abf5 wsJx4a65c_size_8abf5)) (hK : va_K D vwCl (cT E tl) s) (hX : cX (eDf E) A s) (hP : va_P D vwCl (cW E x) H) (hD : va_D A (cW E x)) (hS : va_S A s.heap H locs) (hA : ∀ q : Nat, s.heap.size ≤ q → A q)
    {i : Nat} (hi : i < 8) (hR : 1 ≤ R.frames ∧ 20 ≤ R.locals) (hl : ls.size = nL) (hW : (rest.map fun v => v.category).sum ≤ 8) (hdg : decode cc pc = .ok (.invokevirtual index, 3)) (hf : cells ≤ R.cells ∧ slots ≤ R.slots)
    (kk : ∀ (H1 : Heap) (locs1 : List Loc), va_P D vwCl (cW E x) H1 → va_D A (cW E x) → va_S A s.heap H1 locs1 → W p l e R s m args below meth c H1 locs1 cells slots Q (F0 m (pc + 3) ls (.int (x 15 i) :: rest))) : W p l e R s m args below meth c H locs cells slots Q (F0 m pc ls (.ref (eLad E i) :: rest)) := by
  have hsub : ∀ q ∈ ([(eLad E i, lC (x 14 i) (eEd E i) (x 15 i))] : va_W), q ∈ cW E x := by
    intro q hq
    rw [List.mem_singleton.mp hq]
    exact cW_mL E x hi
  refine f_calli (As := []) (rest := rest) (w0' := fun _ : Unit => cW E x) F (c_Jx4a65c_size_8abf5 l D E tl (eLad E i) (eEd E i) (x 14 i) (x 15 i)) (cwV 0 F.2.2.2.2 hG rfl rfl rfl (by decide +kernel) ⟨hR.1, by have := hR.2; show 8 + (1 + 11) + 0 ≤ R.locals; omega⟩) (c_recvL hK hP hi) hK hX hP hD hS hA hsub nd1 (fun _ _ _ _ => resSame hD hsub) rfl hl rfl hW hdg ⟨hf.1, hf.2⟩ (fun r u H1 locs1 hw hP1 hD1 hS1 => ?_)
  have hw2 : r = x 15 i := hw
  subst hw2
  exact kk H1 locs1 hP1 hD1 hS1
theorem c_get (F : CallFix p m c cc nL s args Ts RX2) (hG : GoodIn Ts (wsV RX2 index RJx4a65c yJx4a65c_get_915e3 wsJx4a65c_get_915e3)) (hK : va_K D vwCl (cT E tl) s) (hX : cX (eDf E) A s) (hP : va_P D vwCl (cW E x) H) (hD : va_D A (cW E x)) (hS : va_S A s.heap H locs) (hA : ∀ q : Nat, s.heap.size ≤ q → A q)
    {i k n0 : Nat} (hi : i < 8) (hLP : i ∈ eLP E) (h15 : x 15 i = nI n0) (hk : k < n0) (hn0 : n0 ≤ 10) (hR : 3 ≤ R.frames ∧ 64 ≤ R.locals) (hl : ls.size = nL) (hW : (rest.map fun v => v.category).sum ≤ 8) (hdg : decode cc pc = .ok (.invokevirtual index, 3)) (hf : cells ≤ R.cells ∧ slots ≤ R.slots)
    (kk : ∀ (H1 : Heap) (locs1 : List Loc), va_P D vwCl (cW E x) H1 → va_D A (cW E x) → va_S A s.heap H1 locs1 → W p l e R s m args below meth c H1 locs1 cells slots Q (F0 m (pc + 3) ls (.ref (ePad E (ePc E i k)) :: rest))) : W p l e R s m args below meth c H locs cells slots Q (F0 m pc ls (.int (nI k) :: .ref (eLad E i) :: rest)) := by
  obtain ⟨j, hj⟩ := cW_mR E x hLP
  have hsub : ∀ q ∈ ([(eLad E i, lC (x 14 i) (eEd E i) (nI n0)), (eEd E i, lR (eB E) (pRow E (nI n0) i))] : va_W), q ∈ cW E x := by
    intro q hq
    rcases List.mem_cons.mp hq with rfl | hq
    · rw [← h15]; exact cW_mL E x hi
    · rw [List.mem_singleton.mp hq, ← h15]
      exact List.mem_of_getElem? hj
  refine f_callq (As := [.int (nI k)]) (rest := rest) (w0' := fun _ : Unit => cW E x) F (c_Jx4a65c_get_915e3 l D E tl (eLad E i) (eEd E i) (x 14 i) n0 (pRow E (nI n0) i) k hk hn0) (cwV 1 F.2.2.2.2 hG rfl rfl rfl (by decide +kernel) ⟨hR.1, by have := hR.2; show 8 + (2 + 11) + 43 ≤ R.locals; omega⟩) (c_recvL hK hP hi) hK hX hP hD hS hA hsub (nd2 (cW_LR hD hi hLP)) (fun _ _ _ _ => resSame hD hsub) rfl hl rfl hW hdg ⟨hf.1, hf.2⟩ (fun r u H1 locs1 hw hP1 hD1 hS1 => ?_)
  have hw2 : r = pRow E (nI n0) i k := hw
  have hr : r = some (ePad E (ePc E i k)) := by
    rw [hw2]
    unfold pRow
    rw [nI_clamp (by omega), if_pos hk]
  subst hr
  exact kk H1 locs1 hP1 hD1 hS1
end LROWS2

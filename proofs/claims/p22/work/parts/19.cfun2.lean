theorem cLeave_f (x : Nat → Nat → Int32) (i f n : Nat) (h : f ≠ 6 ∧ f ≠ 7 ∧ f ≠ 8 ∧ f ≠ 9 ∧ f ≠ 11 ∧ f ≠ 12 ∧ f ≠ 13) : cLeave x i f n = x f n := by
  obtain ⟨h6, h7, h8, h9, h11, h12, h13⟩ := h
  unfold cLeave cIdle
  rw [up2_k _ _ _ _ h9, up2_k _ _ _ _ h8, up2_k _ _ _ _ h7, up2_k _ _ _ _ h6]
  split
  · unfold cUn
    rw [if_neg h8]
  · unfold cLose
    rw [up2_k _ _ _ _ h13, up2_k _ _ _ _ h12, up2_k _ _ _ _ h11]
    unfold cUn
    rw [if_neg h8]
def cFillR (j : Nat) : Nat → Int32 → (Nat → Nat → Int32) → (Nat → Nat → Int32) → Prop
  | 0, fr, x, x' => (fr ≤ 0 ∨ ∀ k, k < 8 → ¬ cFst x j k) ∧ x' = x
  | n + 1, fr, x, x' => ¬ fr ≤ 0 ∧ ∃ i, i < 8 ∧ cFst x j i ∧ (∀ k, k < 8 → cFst x j k → k = i) ∧ cFillR j n (fr + (-1)) (cGo x i j) x'
def cLets : Nat → Nat → (Nat → Nat → Int32) → (Nat → Nat → Int32) → Prop
  | 0, _, x, x' => x' = x
  | n + 1, k, x, x' => ∃ x1, ((x 3 k = nI 0 ∧ x1 = x) ∨ (¬ x 3 k = nI 0 ∧ ∃ q, cFillR k q (x 1 k - nI (cCnt x (nI 2) k 8)) x x1)) ∧ cLets n (k + 1) x1 x'
def cTT (x : Nat → Nat → Int32) (i : Nat) (x' : Nat → Nat → Int32) : Prop :=
  ((x 12 i = -1 ∨ ∃ j, j < 6 ∧ x 12 i = nI j ∧ (x 6 i = nI 2 ∨ x 3 j = nI 0)) ∧ x' = cLose x i) ∨
  (∃ j x1, j < 6 ∧ x 12 i = nI j ∧ ¬ x 6 i = nI 2 ∧ ¬ x 3 j = nI 0 ∧ ((x 6 i = nI 1 ∧ x1 = cLeave x i) ∨ (¬ x 6 i = nI 1 ∧ x1 = x)) ∧ x' = up2 (cJoin x1 i j (nI (cBt x1 j 8))) 13 i (nI 1))
def cTTs : Nat → Nat → (Nat → Nat → Int32) → (Nat → Nat → Int32) → Prop
  | 0, _, x, x' => x' = x
  | n + 1, k, x, x' => ∃ x1, ((¬ x 11 k = x 0 0 ∧ x1 = x) ∨ (x 11 k = x 0 0 ∧ cTT x k x1)) ∧ cTTs n (k + 1) x1 x'
def cFP (E : cE) (i : Nat) : Nat → Nat → (Nat → Nat → Int32) → (Nat → Nat → Int32) → Prop
  | 0, _, x, x' => x' = x
  | n + 1, k, x, x' => ePc E i k < 6 ∧ ((x 3 (ePc E i k) = nI 0 ∧ cFP E i n (k + 1) x x') ∨ (¬ x 3 (ePc E i k) = nI 0 ∧ cHas x i (ePc E i k) = 1 ∧ cFP E i n (k + 1) x x') ∨
      (¬ x 3 (ePc E i k) = nI 0 ∧ cHas x i (ePc E i k) = 0 ∧ x' = cJoin x i (ePc E i k) (nI (cCnt x (nI 1) (ePc E i k) 8))))
def cFPs (E : cE) : Nat → Nat → (Nat → Nat → Int32) → (Nat → Nat → Int32) → Prop
  | 0, _, x, x' => x' = x
  | n + 1, k, x, x' => ∃ x1, ((¬ x 6 k = nI 0 ∧ x1 = x) ∨ (x 6 k = nI 0 ∧ ∃ q, q ≤ 6 ∧ x 15 k = nI q ∧ (q = 0 ∨ k ∈ eLP E) ∧ cFP E k q 0 x x1)) ∧ cFPs E n (k + 1) x1 x'
def cMin (E : cE) (x x' : Nat → Nat → Int32) : Prop := ∃ x2 x3, cTTs 8 0 (cOut (up2 x 0 0 (x 0 0 + nI 1)) 8) x2 ∧ cFPs E 8 0 x2 x3 ∧ cLets 6 0 x3 x'
def cMins (E : cE) : Nat → (Nat → Nat → Int32) → (Nat → Nat → Int32) → Prop
  | 0, x, x' => x' = x
  | n + 1, x, x' => ∃ x1, cMin E x x1 ∧ cMins E n x1 x'
section QTOPV
variable {p : Program} {l : Launch} {e : Env} {R : Room} {s : State} {m : MethodId} {args : Array Value} {below : List Frame} {meth : Method} {c : Code} {H : Heap} {locs : List Loc} {cells slots : Nat} {Q : State → Prop} {ls : Array Slot} {rest : List Value}
theorem q_topv {v v' : Value} {g : Nat} (h : v = v') (kk : W p l e R s m args below meth c H locs cells slots Q (F0 m g ls (v' :: rest))) : W p l e R s m args below meth c H locs cells slots Q (F0 m g ls (v :: rest)) := by
  subst h
  exact kk
end QTOPV

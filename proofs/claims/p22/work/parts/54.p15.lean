theorem w_setp {E : cE} {x y : T2} {q : Nat → List Nat} {m : Nat} (h : wR E x y q m) (p : Nat) (a b : Int32) : wR E (up2 (up2 x 1 p a) 2 p b) (up2 (up2 (up2 y 18 0 (nI 0)) 1 p a) 2 p b) q m := by
  have hF := h.2.2.1.1
  refine w_pav h (fun f i hf => by rw [up2_k _ _ _ _ (by omega), up2_k _ _ _ _ (by omega), up2_k _ _ _ _ (by omega)]) (fun f i hf => by rw [up2_k _ _ _ _ (by omega), up2_k _ _ _ _ (by omega)]) (fun j hj => ?_)
  obtain ⟨g1, g2, g3, g4, g5⟩ := hF.2 j hj
  by_cases h1 : j = p
  · subst h1
    refine ⟨?_, ?_, ?_, ?_, ?_⟩ <;> simp [up2, g3, g4, g5]
  · refine ⟨?_, ?_, ?_, ?_, ?_⟩ <;> simp [up2, h1, g1, g2, g3, g4, g5]
theorem w_openo {E : cE} {x y : T2} {q : Nat → List Nat} {m : Nat} (h : wR E x y q m) (p : Nat) : wR E (up2 x 3 p (nI 1)) (up2 (up2 y 18 0 (nI 0)) 3 p (nI 0)) q m := by
  have hF := h.2.2.1.1
  refine w_pav h (fun f i hf => by rw [up2_k _ _ _ _ (by omega), up2_k _ _ _ _ (by omega)]) (fun f i hf => by rw [up2_k _ _ _ _ (by omega)]) (fun j hj => ?_)
  obtain ⟨g1, g2, g3, g4, g5⟩ := hF.2 j hj
  by_cases h1 : j = p
  · subst h1
    refine ⟨?_, ?_, ?_, ?_, ?_⟩ <;> simp [up2, g1, g2, g4, g5]
  · refine ⟨?_, ?_, ?_, ?_, ?_⟩ <;> simp [up2, h1, g1, g2, g3, g4, g5]
theorem w_sende {E : cE} {x y : T2} {q : Nat → List Nat} {m : Nat} (h : wR E x y q m) {p : Nat} (hp : p < 6) : wR E (up2 x 5 p (x 5 p + nI 1)) (up2 (up2 y 18 0 (nI 0)) 16 p (y 16 p + nI 1)) q m := by
  have hF := h.2.2.1.1
  refine w_pav h (fun f i hf => by rw [up2_k _ _ _ _ (by omega), up2_k _ _ _ _ (by omega)]) (fun f i hf => by rw [up2_k _ _ _ _ (by omega)]) (fun j hj => ?_)
  obtain ⟨g1, g2, g3, g4, g5⟩ := hF.2 j hj
  by_cases h1 : j = p
  · subst h1
    refine ⟨?_, ?_, ?_, ?_, ?_⟩ <;> simp [up2, g1, g2, g3, g4, g5]
  · refine ⟨?_, ?_, ?_, ?_, ?_⟩ <;> simp [up2, h1, g1, g2, g3, g4, g5]

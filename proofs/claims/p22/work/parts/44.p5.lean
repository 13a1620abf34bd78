/-- what is told of one visitor's turn, on both sides -/
def wTu (x y : T2) (v : Nat) : Prop := (y 12 v = -1 ∨ ∃ t k, t ≤ 2000 ∧ k < 6 ∧ y 12 v = nI t ∧ y 13 v = nI k) ∧ x 11 v = y 12 v ∧ ((y 12 v = -1 ∧ x 12 v = -1) ∨ (¬ y 12 v = -1 ∧ x 12 v = y 13 v))
/-- one visitor that doesn't wait changes, and doesn't wait behind it -/
theorem w_one {E : cE} {x y x' y' : T2} {q : Nat → List Nat} {m : Nat} (h : wR E x y q m) {v : Nat} (hv : v < 8) (hn : ¬ y 8 v = nI 1) (ey : ∀ f i, f < 8 ∨ 14 < f ∨ i ≠ v → y' f i = y f i) (ex : ∀ f i, f < 6 ∨ 13 < f ∨ i ≠ v → x' f i = x f i)
    (hs : (y' 8 v = nI 0 ∧ y' 9 v = -1) ∨ (y' 8 v = nI 2 ∧ ∃ p, p < 6 ∧ y' 9 v = nI p)) (h6 : x' 6 v = y' 8 v) (h7 : x' 7 v = y' 9 v) (h8 : x' 8 v = -1) (h14 : y' 14 v = nI 0) (h13 : x' 13 v = nI 0) (ht : wTu x' y' v) (h10 : x' 10 v = y' 11 v) (h9 : y' 8 v = nI 2 → x' 9 v = y' 10 v) : wR E x' y' q m := by
  obtain ⟨⟨hQ, hC, hN⟩, ⟨hV, hT, hB⟩, ⟨hF, hG⟩, hL, hS⟩ := h
  have hne : ∀ p' : Nat, p' < 6 → ∀ k v' : Nat, (q p')[k]? = some v' → v' ≠ v := by
    intro p' hp' k v' hk e
    rw [e] at hk
    exact hn ((hQ p' hp').2.2 k v hk).2.2.1
  refine ⟨⟨?_, ?_, ?_⟩, ⟨?_, ?_, ?_⟩, ⟨⟨?_, ?_⟩, ?_⟩, ?_, ?_⟩
  · intro p hp
    refine ⟨(hQ p hp).1, by rw [ey 5 p (by omega)]; exact (hQ p hp).2.1, fun k i hk => ?_⟩
    have hi := hne p hp k i hk
    rw [ey 4 _ (by omega), ey 8 i (by omega), ey 9 i (by omega)]
    exact (hQ p hp).2.2 k i hk
  · intro i hi
    by_cases hiv : i = v
    · rw [hiv]; exact ⟨h6, h7⟩
    · rw [ex 6 i (by omega), ex 7 i (by omega), ey 8 i (by omega), ey 9 i (by omega)]
      exact hC i hi
  · intro p hp k i hk
    have hi := hne p hp k i hk
    rw [ex 8 i (by omega)]
    exact hN p hp k i hk
  · intro i hi
    by_cases hiv : i = v
    · rw [hiv]
      rcases hs with g | g
      · exact Or.inl g
      · exact Or.inr (Or.inr g)
    · rw [ey 8 i (by omega), ey 9 i (by omega)]
      exact hV i hi
  · intro i hi
    by_cases hiv : i = v
    · rw [hiv]; exact ⟨Or.inl h14, ht.1⟩
    · rw [ey 14 i (by omega), ey 8 i (by omega), ey 12 i (by omega), ey 13 i (by omega)]
      exact hT i hi
  · intro p hp
    obtain ⟨b, b1, b2⟩ := hB p hp
    refine ⟨b, b1, fun k i hk => ?_⟩
    have hi := hne p hp k i hk
    rw [ey 14 i (by omega)]
    exact b2 k i hk
  · rw [ex 0 0 (by omega), ey 0 0 (by omega)]
    exact hF.1
  · intro j hj
    rw [ex 1 j (by omega), ex 2 j (by omega), ex 3 j (by omega), ex 4 j (by omega), ex 5 j (by omega), ey 1 j (by omega), ey 2 j (by omega), ey 3 j (by omega), ey 15 j (by omega), ey 16 j (by omega)]
    exact hF.2 j hj
  · intro i hi
    by_cases hiv : i = v
    · rw [hiv]
      exact ⟨h9, h10, ht.2.1, ht.2.2, by rw [h13, h14], fun _ => h8⟩
    · rw [ex 8 i (by omega), ex 9 i (by omega), ex 10 i (by omega), ex 11 i (by omega), ex 12 i (by omega), ex 13 i (by omega), ey 8 i (by omega), ey 10 i (by omega), ey 11 i (by omega), ey 12 i (by omega), ey 13 i (by omega), ey 14 i (by omega)]
      exact hG i hi
  · intro i hi
    rw [ey 7 i (by omega), ex 15 i (by omega)]
    obtain ⟨n, n1, n2, n3, n4, n5⟩ := hL i hi
    exact ⟨n, n1, n2, n3, fun k hk => ⟨(n4 k hk).1, by rw [ey 6 _ (by omega)]; exact (n4 k hk).2⟩, n5⟩
  · intro i j hi hj
    rw [ey 17 _ (by omega)]
    exact hS i j hi hj
/-- a turn is got or lost by one who doesn't wait by a turn -/
theorem w_turn {E : cE} {x y x' y' : T2} {q : Nat → List Nat} {m : Nat} (h : wR E x y q m) {v : Nat} (hv : v < 8) (h14 : y 14 v = nI 0) (ey : ∀ f i, (f ≠ 12 ∧ f ≠ 13) ∨ i ≠ v → y' f i = y f i) (ex : ∀ f i, (f ≠ 11 ∧ f ≠ 12) ∨ i ≠ v → x' f i = x f i) (ht : wTu x' y' v) : wR E x' y' q m := by
  obtain ⟨⟨hQ, hC, hN⟩, ⟨hV, hT, hB⟩, ⟨hF, hG⟩, hL, hS⟩ := h
  refine ⟨⟨?_, ?_, ?_⟩, ⟨?_, ?_, ?_⟩, ⟨⟨?_, ?_⟩, ?_⟩, ?_, ?_⟩
  · exact wQ_c hQ (fun i => ⟨ey 4 i (by omega), ey 5 i (by omega), ey 8 i (by omega), ey 9 i (by omega)⟩)
  · intro i hi
    rw [ex 6 i (by omega), ex 7 i (by omega), ey 8 i (by omega), ey 9 i (by omega)]
    exact hC i hi
  · intro p hp k i hk
    rw [ex 8 i (by omega)]
    exact hN p hp k i hk
  · intro i hi
    rw [ey 8 i (by omega), ey 9 i (by omega)]
    exact hV i hi
  · intro i hi
    rw [ey 14 i (by omega), ey 8 i (by omega)]
    by_cases hiv : i = v
    · rw [hiv]; exact ⟨Or.inl h14, ht.1⟩
    · rw [ey 12 i (by omega), ey 13 i (by omega)]
      exact hT i hi
  · intro p hp
    obtain ⟨b, b1, b2⟩ := hB p hp
    refine ⟨b, b1, fun k i hk => ?_⟩
    rw [ey 14 i (by omega)]
    exact b2 k i hk
  · rw [ex 0 0 (by omega), ey 0 0 (by omega)]
    exact hF.1
  · intro j hj
    rw [ex 1 j (by omega), ex 2 j (by omega), ex 3 j (by omega), ex 4 j (by omega), ex 5 j (by omega), ey 1 j (by omega), ey 2 j (by omega), ey 3 j (by omega), ey 15 j (by omega), ey 16 j (by omega)]
    exact hF.2 j hj
  · intro i hi
    rw [ex 8 i (by omega), ex 9 i (by omega), ex 10 i (by omega), ex 13 i (by omega), ey 8 i (by omega), ey 10 i (by omega), ey 11 i (by omega), ey 14 i (by omega)]
    by_cases hiv : i = v
    · rw [hiv]
      obtain ⟨g1, g2, g3, g4, g5, g6⟩ := hG v hv
      exact ⟨g1, g2, ht.2.1, ht.2.2, g5, g6⟩
    · rw [ex 11 i (by omega), ex 12 i (by omega), ey 12 i (by omega), ey 13 i (by omega)]
      exact hG i hi
  · intro i hi
    rw [ey 7 i (by omega), ex 15 i (by omega)]
    obtain ⟨n, n1, n2, n3, n4, n5⟩ := hL i hi
    exact ⟨n, n1, n2, n3, fun k hk => ⟨(n4 k hk).1, by rw [ey 6 _ (by omega)]; exact (n4 k hk).2⟩, n5⟩
  · intro i j hi hj
    rw [ey 17 _ (by omega)]
    exact hS i j hi hj
/-- fields that nobody here speaks of -/
theorem w_same {E : cE} {x y x' y' : T2} {q : Nat → List Nat} {m : Nat} (h : wR E x y q m) (ey : ∀ f i, f < 18 → y' f i = y f i) (ex : ∀ f i, f < 14 ∨ f = 15 → x' f i = x f i) : wR E x' y' q m := by
  obtain ⟨⟨hQ, hC, hN⟩, ⟨hV, hT, hB⟩, ⟨hF, hG⟩, hL, hS⟩ := h
  refine ⟨⟨?_, ?_, ?_⟩, ⟨?_, ?_, ?_⟩, ⟨⟨?_, ?_⟩, ?_⟩, ?_, ?_⟩
  · exact wQ_c hQ (fun i => ⟨ey 4 i (by omega), ey 5 i (by omega), ey 8 i (by omega), ey 9 i (by omega)⟩)
  · intro i hi
    rw [ex 6 i (by omega), ex 7 i (by omega), ey 8 i (by omega), ey 9 i (by omega)]
    exact hC i hi
  · intro p hp k i hk
    rw [ex 8 i (by omega)]
    exact hN p hp k i hk
  · intro i hi
    rw [ey 8 i (by omega), ey 9 i (by omega)]
    exact hV i hi
  · intro i hi
    rw [ey 14 i (by omega), ey 8 i (by omega), ey 12 i (by omega), ey 13 i (by omega)]
    exact hT i hi
  · intro p hp
    obtain ⟨b, b1, b2⟩ := hB p hp
    refine ⟨b, b1, fun k i hk => ?_⟩
    rw [ey 14 i (by omega)]
    exact b2 k i hk
  · rw [ex 0 0 (by omega), ey 0 0 (by omega)]
    exact hF.1
  · intro j hj
    rw [ex 1 j (by omega), ex 2 j (by omega), ex 3 j (by omega), ex 4 j (by omega), ex 5 j (by omega), ey 1 j (by omega), ey 2 j (by omega), ey 3 j (by omega), ey 15 j (by omega), ey 16 j (by omega)]
    exact hF.2 j hj
  · intro i hi
    rw [ex 8 i (by omega), ex 9 i (by omega), ex 10 i (by omega), ex 11 i (by omega), ex 12 i (by omega), ex 13 i (by omega), ey 8 i (by omega), ey 10 i (by omega), ey 11 i (by omega), ey 12 i (by omega), ey 13 i (by omega), ey 14 i (by omega)]
    exact hG i hi
  · intro i hi
    rw [ey 7 i (by omega), ex 15 i (by omega)]
    obtain ⟨n, n1, n2, n3, n4, n5⟩ := hL i hi
    exact ⟨n, n1, n2, n3, fun k hk => ⟨(n4 k hk).1, by rw [ey 6 _ (by omega)]; exact (n4 k hk).2⟩, n5⟩
  · intro i j hi hj
    rw [ey 17 _ (by omega)]
    exact hS i j hi hj
/-- one pavilion's own numbers change -/
theorem w_pav {E : cE} {x y x' y' : T2} {q : Nat → List Nat} {m : Nat} (h : wR E x y q m) (ey : ∀ f i, f = 0 ∨ (3 < f ∧ f < 15) ∨ f = 17 → y' f i = y f i) (ex : ∀ f i, f = 0 ∨ (5 < f ∧ f < 16) → x' f i = x f i)
    (hj9 : ∀ j, j < 6 → x' 1 j = y' 1 j ∧ x' 2 j = y' 2 j ∧ ((x' 3 j = nI 1 ∧ y' 3 j = nI 0) ∨ (x' 3 j = nI 0 ∧ y' 3 j = nI 1)) ∧ x' 4 j = y' 15 j ∧ x' 5 j = y' 16 j) : wR E x' y' q m := by
  obtain ⟨⟨hQ, hC, hN⟩, ⟨hV, hT, hB⟩, ⟨hF, hG⟩, hL, hS⟩ := h
  refine ⟨⟨?_, ?_, ?_⟩, ⟨?_, ?_, ?_⟩, ⟨⟨?_, hj9⟩, ?_⟩, ?_, ?_⟩
  · exact wQ_c hQ (fun i => ⟨ey 4 i (by omega), ey 5 i (by omega), ey 8 i (by omega), ey 9 i (by omega)⟩)
  · intro i hi
    rw [ex 6 i (by omega), ex 7 i (by omega), ey 8 i (by omega), ey 9 i (by omega)]
    exact hC i hi
  · intro p hp k i hk
    rw [ex 8 i (by omega)]
    exact hN p hp k i hk
  · intro i hi
    rw [ey 8 i (by omega), ey 9 i (by omega)]
    exact hV i hi
  · intro i hi
    rw [ey 14 i (by omega), ey 8 i (by omega), ey 12 i (by omega), ey 13 i (by omega)]
    exact hT i hi
  · intro p hp
    obtain ⟨b, b1, b2⟩ := hB p hp
    refine ⟨b, b1, fun k i hk => ?_⟩
    rw [ey 14 i (by omega)]
    exact b2 k i hk
  · rw [ex 0 0 (by omega), ey 0 0 (by omega)]
    exact hF.1
  · intro i hi
    rw [ex 8 i (by omega), ex 9 i (by omega), ex 10 i (by omega), ex 11 i (by omega), ex 12 i (by omega), ex 13 i (by omega), ey 8 i (by omega), ey 10 i (by omega), ey 11 i (by omega), ey 12 i (by omega), ey 13 i (by omega), ey 14 i (by omega)]
    exact hG i hi
  · intro i hi
    rw [ey 7 i (by omega), ex 15 i (by omega)]
    obtain ⟨n, n1, n2, n3, n4, n5⟩ := hL i hi
    exact ⟨n, n1, n2, n3, fun k hk => ⟨(n4 k hk).1, by rw [ey 6 _ (by omega)]; exact (n4 k hk).2⟩, n5⟩
  · intro i j hi hj
    rw [ey 17 _ (by omega)]
    exact hS i j hi hj

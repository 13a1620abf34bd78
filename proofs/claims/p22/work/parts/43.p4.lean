/-- joining, in all that is told: bt tells whether by a turn -/
theorem w_in {E : cE} {x y : T2} {q : Nat → List Nat} {m : Nat} (h : wR E x y q m) {p a v : Nat} {bt : Int32} (hp : p < 6) (hv : v < 8) (hn : ¬ y 8 v = nI 1) (ha : a ≤ (q p).length)
    (hbt : (bt = nI 0 ∧ ∀ k i : Nat, (q p)[k]? = some i → y 14 i = nI 1 → k < a) ∨ (bt = nI 1 ∧ (∀ k i : Nat, (q p)[k]? = some i → (y 14 i = nI 1 ↔ k < a)) ∧ ∃ t, t ≤ m ∧ y 12 v = nI t)) :
    wR E (up2 (cJoin x v p (nI a)) 13 v bt) (up2 (mPuts y p a v (q p).length) 14 v bt) (qIns q p a v) m := by
  obtain ⟨⟨hQ, hC, hN⟩, ⟨hV, hT, hB⟩, ⟨hF, hG⟩, hL, hS⟩ := h
  have l2 := w_put hQ hp hv hn ha
  obtain ⟨l3, l4⟩ := w_cjoin hQ hC hN hp hv hn ha
  have hne : ∀ p' : Nat, p' < 6 → ∀ k v' : Nat, (q p')[k]? = some v' → v' ≠ v := by
    intro p' hp' k v' hk e
    rw [e] at hk
    exact hn ((hQ p' hp').2.2 k v hk).2.2.1
  have o : ∀ f i, f ≠ 14 → up2 (mPuts y p a v (q p).length) 14 v bt f i = mPuts y p a v (q p).length f i := fun f i hf => up2_k _ _ _ _ hf
  have o4 : ∀ f i, f ≠ 4 ∧ f ≠ 5 ∧ f ≠ 8 ∧ f ≠ 9 ∧ f ≠ 14 → up2 (mPuts y p a v (q p).length) 14 v bt f i = y f i := fun f i hf => by rw [o f i hf.2.2.2.2, mPuts_o _ _ _ _ _ _ _ ⟨hf.1, hf.2.1, hf.2.2.1, hf.2.2.2.1⟩]
  have o14 : ∀ i, up2 (mPuts y p a v (q p).length) 14 v bt 14 i = if i = v then bt else y 14 i := fun i => by
    by_cases hi : i = v
    · rw [hi, up2_s, if_pos rfl]
    · rw [up2_n _ _ _ _ hi, if_neg hi, mPuts_o _ _ _ _ _ _ _ (by decide)]
  have c13 : ∀ i, up2 (cJoin x v p (nI a)) 13 v bt 13 i = if i = v then bt else x 13 i := fun i => by
    by_cases hi : i = v
    · rw [hi, up2_s, if_pos rfl]
    · rw [up2_n _ _ _ _ hi, if_neg hi, cJoin_o _ _ _ _ _ _ (by decide)]
  have c4 : ∀ f i, f ≠ 6 ∧ f ≠ 7 ∧ f ≠ 8 ∧ f ≠ 13 → up2 (cJoin x v p (nI a)) 13 v bt f i = x f i := fun f i hf => by rw [up2_k _ _ _ _ hf.2.2.2, cJoin_o _ _ _ _ _ _ ⟨hf.1, hf.2.1, hf.2.2.1⟩]
  have c0 : ∀ f i, f ≠ 13 → up2 (cJoin x v p (nI a)) 13 v bt f i = cJoin x v p (nI a) f i := fun f i hf => up2_k _ _ _ _ hf
  refine ⟨⟨?_, ?_, ?_⟩, ⟨?_, ?_, ?_⟩, ⟨⟨?_, ?_⟩, ?_⟩, ?_, ?_⟩
  · exact wQ_c l2 (fun i => ⟨o 4 i (by decide), o 5 i (by decide), o 8 i (by decide), o 9 i (by decide)⟩)
  · exact fun i hi => ⟨by rw [c0 6 i (by decide), o 8 i (by decide)]; exact (l3 i hi).1, by rw [c0 7 i (by decide), o 9 i (by decide)]; exact (l3 i hi).2⟩
  · exact fun p' hp' k i hk => by rw [c0 8 i (by decide)]; exact l4 p' hp' k i hk
  · intro i hi
    rw [o 8 i (by decide), o 9 i (by decide), mPuts_8, mPuts_9]
    by_cases hiv : i = v
    · rw [if_pos hiv, if_pos hiv]
      refine Or.inr (Or.inl ⟨rfl, p, hp, rfl, ?_⟩)
      rw [show qIns q p a v p = (q p).insertIdx a v from if_pos rfl, hiv]
      exact List.mem_of_getElem? (i := a) (by rw [List.getElem?_insertIdx, if_neg (Nat.lt_irrefl a), if_pos rfl, if_pos ha])
    · rw [if_neg hiv, if_neg hiv]
      rcases hV i hi with g | ⟨g1, p', g2, g3, g4⟩ | g
      · exact Or.inl g
      · refine Or.inr (Or.inl ⟨g1, p', g2, g3, ?_⟩)
        by_cases hpp : p' = p
        · subst hpp
          rw [show qIns q p' a v p' = (q p').insertIdx a v from if_pos rfl]
          obtain ⟨k, hk⟩ := List.getElem?_of_mem g4
          by_cases hka : k < a
          · exact List.mem_of_getElem? (i := k) (by rw [List.getElem?_insertIdx, if_pos hka]; exact hk)
          · exact List.mem_of_getElem? (i := k + 1) (by rw [List.getElem?_insertIdx, if_neg (by omega), if_neg (by omega), show k + 1 - 1 = k by omega]; exact hk)
        · rw [show qIns q p a v p' = q p' from if_neg hpp]
          exact g4
      · exact Or.inr (Or.inr g)
  · intro i hi
    rw [o14, o 8 i (by decide), mPuts_8, o4 12 i (by decide), o4 13 i (by decide)]
    by_cases hiv : i = v
    · rw [if_pos hiv, if_pos hiv]
      refine ⟨?_, (hT i hi).2⟩
      rcases hbt with g | g
      · exact Or.inl g.1
      · obtain ⟨t, t1, t2⟩ := g.2.2
        exact Or.inr ⟨g.1, rfl, t, t1, by rw [hiv]; exact t2⟩
    · rw [if_neg hiv, if_neg hiv]
      exact hT i hi
  · intro p' hp'
    by_cases hpp : p' = p
    · subst hpp
      rw [show qIns q p' a v p' = (q p').insertIdx a v from if_pos rfl, List.length_insertIdx_of_le_length ha]
      obtain ⟨b, b1, b2⟩ := hB p' hp'
      rcases hbt with ⟨g1, g2⟩ | ⟨g1, g2, -⟩
      · have hba : b ≤ a := by
          rcases Nat.lt_or_ge a b with hab | hab
          · have ha9 : a < (q p').length := by omega
            have := g2 a _ (List.getElem?_eq_getElem ha9) ((b2 a _ (List.getElem?_eq_getElem ha9)).mpr hab)
            omega
          · exact hab
        refine ⟨b, by omega, fun k i hk => ?_⟩
        rw [List.getElem?_insertIdx] at hk
        by_cases h1 : k < a
        · rw [if_pos h1] at hk
          rw [o14, if_neg (hne p' hp' k i hk)]
          exact b2 k i hk
        · rw [if_neg h1] at hk
          by_cases h2 : k = a
          · rw [if_pos h2, if_pos (by omega)] at hk
            rw [o14, if_pos (Option.some.inj hk).symm, g1]
            exact ⟨fun c => absurd c nI_01, fun c => by omega⟩
          · rw [if_neg h2] at hk
            rw [o14, if_neg (hne p' hp' _ i hk), b2 (k - 1) i hk]
            omega
      · refine ⟨a + 1, by omega, fun k i hk => ?_⟩
        rw [List.getElem?_insertIdx] at hk
        by_cases h1 : k < a
        · rw [if_pos h1] at hk
          rw [o14, if_neg (hne p' hp' k i hk), g2 k i hk]
          omega
        · rw [if_neg h1] at hk
          by_cases h2 : k = a
          · rw [if_pos h2, if_pos (by omega)] at hk
            rw [o14, if_pos (Option.some.inj hk).symm, g1]
            exact ⟨fun _ => by omega, fun _ => rfl⟩
          · rw [if_neg h2] at hk
            rw [o14, if_neg (hne p' hp' _ i hk), g2 (k - 1) i hk]
            omega
    · rw [show qIns q p a v p' = q p' from if_neg hpp]
      obtain ⟨b, b1, b2⟩ := hB p' hp'
      refine ⟨b, b1, fun k i hk => ?_⟩
      rw [o14, if_neg (hne p' hp' k i hk)]
      exact b2 k i hk
  · rw [c4 0 0 (by decide), o4 0 0 (by decide)]
    exact hF.1
  · intro j hj
    rw [c4 1 j (by decide), c4 2 j (by decide), c4 3 j (by decide), c4 4 j (by decide), c4 5 j (by decide), o4 1 j (by decide), o4 2 j (by decide), o4 3 j (by decide), o4 15 j (by decide), o4 16 j (by decide)]
    exact hF.2 j hj
  · intro i hi
    obtain ⟨g1, g2, g3, g4, g5, g6⟩ := hG i hi
    rw [o 8 i (by decide), mPuts_8, o14, c13, o4 10 i (by decide), o4 11 i (by decide), o4 12 i (by decide), o4 13 i (by decide), c4 9 i (by decide), c4 10 i (by decide), c4 11 i (by decide), c4 12 i (by decide), c0 8 i (by decide), cJoin_8]
    by_cases hiv : i = v
    · rw [if_pos hiv, if_pos hiv, if_pos hiv, if_pos hiv]
      exact ⟨fun c => absurd c nI_12, g2, g3, g4, rfl, fun c => absurd rfl c⟩
    · rw [if_neg hiv, if_neg hiv, if_neg hiv, if_neg hiv]
      refine ⟨g1, g2, g3, g4, g5, fun c => ?_⟩
      rw [if_neg (fun d => c ((hC i hi).1.symm.trans d.2.1))]
      exact g6 c
  · intro i hi
    rw [o4 7 i (by decide), c4 15 i (by decide)]
    obtain ⟨n, n1, n2, n3, n4, n5⟩ := hL i hi
    exact ⟨n, n1, n2, n3, fun k hk => ⟨(n4 k hk).1, by rw [o4 6 _ (by decide)]; exact (n4 k hk).2⟩, n5⟩
  · intro i j hi hj
    rw [o4 17 _ (by decide)]
    exact hS i j hi hj

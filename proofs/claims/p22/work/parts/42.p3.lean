def wV (y : T2) (q : Nat → List Nat) : Prop := ∀ v, v < 8 → (y 8 v = nI 0 ∧ y 9 v = -1) ∨ (y 8 v = nI 1 ∧ ∃ p, p < 6 ∧ y 9 v = nI p ∧ v ∈ q p) ∨ (y 8 v = nI 2 ∧ ∃ p, p < 6 ∧ y 9 v = nI p)
/-- turns; who waits by a turn holds one that is not after minute m -/
def wT (y : T2) (m : Nat) : Prop := ∀ v, v < 8 → (y 14 v = nI 0 ∨ (y 14 v = nI 1 ∧ y 8 v = nI 1 ∧ ∃ t, t ≤ m ∧ y 12 v = nI t)) ∧ (y 12 v = -1 ∨ ∃ t k, t ≤ 2000 ∧ k < 6 ∧ y 12 v = nI t ∧ y 13 v = nI k)
def wB (y : T2) (q : Nat → List Nat) : Prop := ∀ p, p < 6 → ∃ b, b ≤ (q p).length ∧ ∀ k v, (q p)[k]? = some v → (y 14 v = nI 1 ↔ k < b)
def wF (x y : T2) : Prop := x 0 0 = y 0 0 ∧ ∀ j, j < 6 → x 1 j = y 1 j ∧ x 2 j = y 2 j ∧ ((x 3 j = nI 1 ∧ y 3 j = nI 0) ∨ (x 3 j = nI 0 ∧ y 3 j = nI 1)) ∧ x 4 j = y 15 j ∧ x 5 j = y 16 j
def wG (x y : T2) : Prop := ∀ i, i < 8 → (y 8 i = nI 2 → x 9 i = y 10 i) ∧ x 10 i = y 11 i ∧ x 11 i = y 12 i ∧ ((y 12 i = -1 ∧ x 12 i = -1) ∨ (¬ y 12 i = -1 ∧ x 12 i = y 13 i)) ∧ x 13 i = y 14 i ∧ (¬ y 8 i = nI 1 → x 8 i = -1)
def wL (E : cE) (x y : T2) : Prop := ∀ v, v < 8 → ∃ n, n ≤ 6 ∧ y 7 v = nI n ∧ x 15 v = nI n ∧ (∀ k, k < n → ePc E v k < 6 ∧ y 6 (6 * v + k) = nI (ePc E v k)) ∧ (∀ i k, i < k → k < n → ePc E v i ≠ ePc E v k) ∧ (v ∈ eLP E ∨ (n = 0 ∧ v ∉ eLP E ∧ eEd E v = eDf E))
def wS (E : cE) (y : T2) : Prop := ∀ v j, v < 8 → j < 6 → eS E v j = y 17 (6 * v + j)
/-- the class against the reference, at minute m's turns -/
def wR (E : cE) (x y : T2) (q : Nat → List Nat) (m : Nat) : Prop := (wQ y q ∧ wC x y ∧ wN x q) ∧ (wV y q ∧ wT y m ∧ wB y q) ∧ (wF x y ∧ wG x y) ∧ wL E x y ∧ wS E y
theorem nI_01 : ¬ nI 0 = nI 1 := by decide
theorem nI_12 : ¬ nI 1 = nI 2 := by decide
theorem nI_02 : ¬ nI 0 = nI 2 := by decide
def mOffF (y : T2) (v p w a : Nat) : T2 := if y 14 v = nI 0 then mLeave y v p w a else mLose (mLeave y v p w a) v
theorem mLose_12 (y : T2) (v i : Nat) : mLose y v 12 i = if i = v then -1 else y 12 i := by
  unfold mLose up2
  simp
theorem mLose_14 (y : T2) (v i : Nat) : mLose y v 14 i = if i = v then nI 0 else y 14 i := by
  unfold mLose up2
  simp
theorem mLose_o (y : T2) (v f i : Nat) (h : f ≠ 12 ∧ f ≠ 14) : mLose y v f i = y f i := by
  unfold mLose up2
  simp [h.1, h.2]
theorem mOffF_o (y : T2) (v p w a f i : Nat) (h : f ≠ 4 ∧ f ≠ 5 ∧ f ≠ 8 ∧ f ≠ 9 ∧ f ≠ 12 ∧ f ≠ 14) : mOffF y v p w a f i = y f i := by
  unfold mOffF
  by_cases h1 : y 14 v = nI 0
  · rw [if_pos h1, mLeave_o _ _ _ _ _ _ _ ⟨h.1, h.2.1, h.2.2.1, h.2.2.2.1⟩]
  · rw [if_neg h1, mLose_o _ _ _ _ ⟨h.2.2.2.2.1, h.2.2.2.2.2⟩, mLeave_o _ _ _ _ _ _ _ ⟨h.1, h.2.1, h.2.2.1, h.2.2.2.1⟩]
theorem mOffF_q (y : T2) (v p w a f i : Nat) (h : f ≠ 12 ∧ f ≠ 14) : mOffF y v p w a f i = mLeave y v p w a f i := by
  unfold mOffF
  by_cases h1 : y 14 v = nI 0
  · rw [if_pos h1]
  · rw [if_neg h1, mLose_o _ _ _ _ h]
theorem mOffF_12 (y : T2) (v p w a i : Nat) : mOffF y v p w a 12 i = if i = v ∧ ¬ y 14 v = nI 0 then -1 else y 12 i := by
  unfold mOffF
  by_cases h1 : y 14 v = nI 0
  · rw [if_pos h1, mLeave_o _ _ _ _ _ _ _ (by decide), if_neg (fun c => c.2 h1)]
  · rw [if_neg h1, mLose_12, mLeave_o _ _ _ _ _ _ _ (by decide)]
    by_cases h2 : i = v
    · rw [if_pos h2, if_pos ⟨h2, h1⟩]
    · rw [if_neg h2, if_neg (fun c => h2 c.1)]
theorem mOffF_14 (y : T2) (v p w a i : Nat) : mOffF y v p w a 14 i = if i = v then nI 0 else y 14 i := by
  unfold mOffF
  by_cases h1 : y 14 v = nI 0
  · rw [if_pos h1, mLeave_o _ _ _ _ _ _ _ (by decide)]
    by_cases h2 : i = v
    · rw [if_pos h2, h2]; exact h1
    · rw [if_neg h2]
  · rw [if_neg h1, mLose_14, mLeave_o _ _ _ _ _ _ _ (by decide)]
theorem wQ_c {y y' : T2} {q : Nat → List Nat} (h : wQ y q) (e : ∀ i, y' 4 i = y 4 i ∧ y' 5 i = y 5 i ∧ y' 8 i = y 8 i ∧ y' 9 i = y 9 i) : wQ y' q := fun p hp => ⟨(h p hp).1, by rw [(e p).2.1]; exact (h p hp).2.1, fun k v hk => by
  obtain ⟨g1, g2, g3, g4⟩ := (h p hp).2.2 k v hk
  exact ⟨g1, by rw [(e _).1]; exact g2, by rw [(e v).2.2.1]; exact g3, by rw [(e v).2.2.2]; exact g4⟩⟩
theorem cLeave_f2 (x : T2) (v f i : Nat) (h : f ≠ 6 ∧ f ≠ 7 ∧ f ≠ 8 ∧ f ≠ 9 ∧ f ≠ 11 ∧ f ≠ 12 ∧ f ≠ 13) : cLeave x v f i = x f i := cLeave_f x v f i h
/-- leaving, in all that is told -/
theorem w_off {E : cE} {x y : T2} {q : Nat → List Nat} {m : Nat} (h : wR E x y q m) {p a v : Nat} (hp : p < 6) (hv : (q p)[a]? = some v) : mOffR y v (mOffF y v p (q p).length a) ∧ wR E (cLeave x v) (mOffF y v p (q p).length a) (qDel q p a) m := by
  obtain ⟨⟨hQ, hC, hN⟩, ⟨hV, hT, hB⟩, ⟨hF, hG⟩, hL, hS⟩ := h
  obtain ⟨l1, l2⟩ := w_leave hQ hp hv
  obtain ⟨l3, l4⟩ := w_cleave hQ hC hN hp hv
  obtain ⟨h1, h2, h3, h4⟩ := (hQ p hp).2.2 a v hv
  have ha : a < (q p).length := (List.getElem?_eq_some_iff.mp hv).1
  have hg13 : x 13 v = y 14 v := (hG v h1).2.2.2.2.1
  refine ⟨⟨_, l1, ?_⟩, ⟨⟨?_, ?_, l4⟩, ⟨?_, ?_, ?_⟩, ⟨⟨?_, ?_⟩, ?_⟩, ?_, ?_⟩⟩
  · rw [mLeave_o _ _ _ _ _ _ _ (by decide)]
    unfold mOffF
    rcases (hT v h1).1 with h5 | h5
    · exact Or.inl ⟨h5, by rw [if_pos h5]⟩
    · exact Or.inr ⟨h5.1, by rw [if_neg (by rw [h5.1]; exact fun c => nI_01 c.symm)]⟩
  · exact wQ_c l2 (fun i => ⟨mOffF_q _ _ _ _ _ _ _ (by decide), mOffF_q _ _ _ _ _ _ _ (by decide), mOffF_q _ _ _ _ _ _ _ (by decide), mOffF_q _ _ _ _ _ _ _ (by decide)⟩)
  · exact fun i hi => ⟨(l3 i hi).1.trans (mOffF_q _ _ _ _ _ _ _ (by decide)).symm, (l3 i hi).2.trans (mOffF_q _ _ _ _ _ _ _ (by decide)).symm⟩
  · intro i hi
    rw [mOffF_q _ _ _ _ _ _ _ (by decide), mOffF_q _ _ _ _ _ _ _ (by decide), mLeave_8, mLeave_9]
    by_cases hiv : i = v
    · rw [if_pos hiv, if_pos hiv]
      exact Or.inl ⟨rfl, rfl⟩
    · rw [if_neg hiv, if_neg hiv]
      rcases hV i hi with g | ⟨g1, p', g2, g3, g4⟩ | g
      · exact Or.inl g
      · refine Or.inr (Or.inl ⟨g1, p', g2, g3, ?_⟩)
        by_cases hpp : p' = p
        · subst hpp
          rw [show qDel q p' a p' = (q p').eraseIdx a from if_pos rfl]
          obtain ⟨k, hk⟩ := List.getElem?_of_mem g4
          by_cases hka : k < a
          · exact List.mem_of_getElem? (i := k) (by rw [List.getElem?_eraseIdx, if_pos hka]; exact hk)
          · have hne : k ≠ a := fun e => hiv (Option.some.inj (hk.symm.trans (e ▸ hv)))
            exact List.mem_of_getElem? (i := k - 1) (by rw [List.getElem?_eraseIdx, if_neg (by omega), show k - 1 + 1 = k by omega]; exact hk)
        · rw [show qDel q p a p' = q p' from if_neg hpp]
          exact g4
      · exact Or.inr (Or.inr g)
  · intro i hi
    rw [mOffF_14, mOffF_12, mOffF_q _ _ _ _ _ _ _ (by decide), mLeave_8, mOffF_o _ _ _ _ _ _ _ (by decide)]
    by_cases hiv : i = v
    · rw [if_pos hiv]
      refine ⟨Or.inl rfl, ?_⟩
      by_cases h5 : y 14 v = nI 0
      · rw [if_neg (fun c => c.2 h5)]; exact (hT i hi).2
      · rw [if_pos ⟨hiv, h5⟩]; exact Or.inl rfl
    · rw [if_neg hiv, if_neg hiv, if_neg (fun c => hiv c.1)]
      exact hT i hi
  · intro p' hp'
    by_cases hpp : p' = p
    · subst hpp
      rw [show qDel q p' a p' = (q p').eraseIdx a from if_pos rfl]
      obtain ⟨b, b1, b2⟩ := hB p' hp'
      have key : ∀ k i : Nat, (q p')[k]? = some i → k ≠ a → (mOffF y v p' (q p').length a 14 i = nI 1 ↔ k < b) := by
        intro k i hk hka
        have hiv : i ≠ v := fun e => hka (nodup_ix (hQ p' hp').1 (e ▸ hk) hv)
        rw [mOffF_14, if_neg hiv]
        exact b2 k i hk
      by_cases hab : a < b
      · refine ⟨b - 1, by rw [List.length_eraseIdx, if_pos ha]; omega, fun k i hk => ?_⟩
        rw [List.getElem?_eraseIdx] at hk
        by_cases hka : k < a
        · rw [if_pos hka] at hk
          rw [key k i hk (by omega)]
          omega
        · rw [if_neg hka] at hk
          rw [key (k + 1) i hk (by omega)]
          omega
      · refine ⟨b, by rw [List.length_eraseIdx, if_pos ha]; omega, fun k i hk => ?_⟩
        rw [List.getElem?_eraseIdx] at hk
        by_cases hka : k < a
        · rw [if_pos hka] at hk
          rw [key k i hk (by omega)]
        · rw [if_neg hka] at hk
          rw [key (k + 1) i hk (by omega)]
          omega
    · rw [show qDel q p a p' = q p' from if_neg hpp]
      obtain ⟨b, b1, b2⟩ := hB p' hp'
      refine ⟨b, b1, fun k i hk => ?_⟩
      have hiv : i ≠ v := fun e => by
        have g4 := ((hQ p' hp').2.2 k i hk).2.2.2
        rw [e, h4] at g4
        exact hpp (nI_inj (by omega) (by omega) g4.symm)
      rw [mOffF_14, if_neg hiv]
      exact b2 k i hk
  · rw [cLeave_f2 _ _ _ _ (by decide), mOffF_o _ _ _ _ _ _ _ (by decide)]
    exact hF.1
  · intro j hj
    rw [cLeave_f2 _ _ _ _ (by decide), mOffF_o _ _ _ _ _ _ _ (by decide), cLeave_f2 _ _ _ _ (by decide), mOffF_o _ _ _ _ _ _ _ (by decide), cLeave_f2 _ _ _ _ (by decide), mOffF_o _ _ _ _ _ _ _ (by decide), cLeave_f2 _ _ _ _ (by decide), mOffF_o _ _ _ _ _ _ _ (by decide), cLeave_f2 _ _ _ _ (by decide), mOffF_o _ _ _ _ _ _ _ (by decide)]
    exact hF.2 j hj
  · intro i hi
    obtain ⟨g1, g2, g3, g4, g5, g6⟩ := hG i hi
    rw [mOffF_q _ _ _ _ _ _ _ (by decide), mLeave_8, mOffF_12, mOffF_14, mOffF_o _ _ _ _ _ _ _ (by decide), mOffF_o _ _ _ _ _ _ _ (by decide), mOffF_o _ _ _ _ _ _ _ (by decide), cLeave_9, cLeave_f2 _ _ _ _ (by decide), cLeave_11, cLeave_12, cLeave_13, cLeave_8, hg13]
    by_cases hiv : i = v
    · rw [if_pos hiv, if_pos hiv, if_pos hiv, if_pos hiv, if_pos hiv]
      refine ⟨fun c => absurd c nI_02, g2, ?_, ?_, rfl, fun _ => rfl⟩
      · rw [g3]
      · by_cases h5 : y 14 v = nI 0
        · rw [if_neg (fun c => c.2 h5), if_neg (fun c => c.2 h5)]
          exact g4
        · rw [if_pos ⟨hiv, h5⟩, if_pos ⟨hiv, h5⟩]
          exact Or.inl ⟨rfl, rfl⟩
    · rw [if_neg hiv, if_neg hiv, if_neg hiv, if_neg hiv, if_neg hiv, if_neg (fun c => hiv c.1), if_neg (fun c => hiv c.1), if_neg (fun c => hiv c.1)]
      refine ⟨g1, g2, g3, g4, g5, fun c => ?_⟩
      rw [if_neg (fun d => c ((hC i hi).1.symm.trans d.2.1))]
      exact g6 c
  · intro i hi
    rw [mOffF_o _ _ _ _ _ _ _ (by decide), cLeave_f2 _ _ _ _ (by decide)]
    obtain ⟨n, n1, n2, n3, n4, n5⟩ := hL i hi
    exact ⟨n, n1, n2, n3, fun k hk => ⟨(n4 k hk).1, by rw [mOffF_o _ _ _ _ _ _ _ (by decide)]; exact (n4 k hk).2⟩, n5⟩
  · intro i j hi hj
    rw [mOffF_o _ _ _ _ _ _ _ (by decide)]
    exact hS i j hi hj

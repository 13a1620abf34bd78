theorem mEnter_8 (y : T2) (v p i : Nat) : mEnter y v p 8 i = if i = v then nI 2 else y 8 i := by
  unfold mEnter up2
  simp
theorem mEnter_9 (y : T2) (v p i : Nat) : mEnter y v p 9 i = if i = v then nI p else y 9 i := by
  unfold mEnter up2
  simp
theorem mEnter_10 (y : T2) (v p i : Nat) : mEnter y v p 10 i = if i = v then y 0 0 + y 2 p else y 10 i := by
  unfold mEnter up2
  simp
theorem mEnter_o (y : T2) (v p f i : Nat) (h : (f ≠ 8 ∧ f ≠ 9 ∧ f ≠ 10) ∨ i ≠ v) : mEnter y v p f i = y f i := by
  unfold mEnter up2
  by_cases h1 : i = v
  · rcases h with ⟨a1, a2, a3⟩ | a1
    · simp [a1, a2, a3]
    · exact absurd h1 a1
  · simp [h1]
theorem cGo_6 (x : T2) (v p : Nat) : cGo x v p 6 v = nI 2 := by
  unfold cGo up2
  simp
theorem cGo_7 (x : T2) (v p : Nat) : cGo x v p 7 v = nI p := by
  unfold cGo up2
  simp
theorem cGo_9 (x : T2) (v p : Nat) : cGo x v p 9 v = x 0 0 + x 2 p := by
  unfold cGo up2
  simp
theorem cGo_o (x : T2) (v p f i : Nat) (h : (f ≠ 6 ∧ f ≠ 7 ∧ f ≠ 9) ∨ i ≠ v) : cGo x v p f i = cLeave x v f i := by
  unfold cGo
  by_cases h1 : i = v
  · rcases h with ⟨a1, a2, a3⟩ | a1
    · rw [up2_k _ _ _ _ a3, up2_k _ _ _ _ a2, up2_k _ _ _ _ a1]
    · exact absurd h1 a1
  · by_cases a3 : f = 9
    · subst a3; rw [up2_n _ _ _ _ h1, up2_k _ _ _ _ (by decide), up2_k _ _ _ _ (by decide)]
    · rw [up2_k _ _ _ _ a3]
      by_cases a2 : f = 7
      · subst a2; rw [up2_n _ _ _ _ h1, up2_k _ _ _ _ (by decide)]
      · rw [up2_k _ _ _ _ a2]
        by_cases a1 : f = 6
        · subst a1; rw [up2_n _ _ _ _ h1]
        · rw [up2_k _ _ _ _ a1]
/-- the first of a queue goes in -/
theorem w_go {E : cE} {x y : T2} {q : Nat → List Nat} {m : Nat} (h : wR E x y q m) {p v : Nat} (hp : p < 6) (hv : (q p)[0]? = some v) : wR E (cGo x v p) (mEnter (mOffF y v p (q p).length 0) v p) (qDel q p 0) m := by
  obtain ⟨-, l⟩ := w_off h hp hv
  have h' := h
  obtain ⟨⟨hQ, hC, hN⟩, ⟨hV, hT, hB⟩, ⟨hF, hG⟩, hL, hS⟩ := h'
  obtain ⟨h1, h2, h3, h4⟩ := (hQ p hp).2.2 0 v hv
  have y8 : mOffF y v p (q p).length 0 8 v = nI 0 := by rw [mOffF_q _ _ _ _ _ _ _ (by decide), mLeave_8, if_pos rfl]
  have y14 : mOffF y v p (q p).length 0 14 v = nI 0 := by rw [mOffF_14, if_pos rfl]
  have hl := l
  obtain ⟨-, -, ⟨lF, lG⟩, -⟩ := hl
  refine w_one l h1 (by rw [y8]; exact nI_01) (fun f i hf => mEnter_o _ _ _ _ _ (by omega)) (fun f i hf => cGo_o _ _ _ _ _ (by omega)) (Or.inr ⟨by rw [mEnter_8, if_pos rfl], p, hp, by rw [mEnter_9, if_pos rfl]⟩) (by rw [cGo_6, mEnter_8, if_pos rfl]) (by rw [cGo_7, mEnter_9, if_pos rfl]) (by rw [cGo_o _ _ _ _ _ (by omega), cLeave_8, if_pos rfl]) (by rw [mEnter_o _ _ _ _ _ (by omega)]; exact y14) (by rw [cGo_o _ _ _ _ _ (by omega), cLeave_13, if_pos rfl]) ?_ ?_ (fun _ => ?_)
  · obtain ⟨t1, t2, t3⟩ := wTu_of l h1
    exact ⟨by rw [mEnter_o _ _ _ _ _ (by omega), mEnter_o _ _ _ _ _ (by omega)]; exact t1, by rw [cGo_o _ _ _ _ _ (by omega), mEnter_o _ _ _ _ _ (by omega)]; exact t2, by rw [cGo_o _ _ _ _ _ (by omega), mEnter_o _ _ _ _ _ (by omega), mEnter_o _ _ _ _ _ (by omega)]; exact t3⟩
  · rw [cGo_o _ _ _ _ _ (by omega), mEnter_o _ _ _ _ _ (by omega)]
    exact (lG v h1).2.1
  · rw [cGo_9, mEnter_10, if_pos rfl, mOffF_o _ _ _ _ _ _ _ (by decide), mOffF_o _ _ _ _ _ _ _ (by decide), hF.1, (hF.2 p hp).2.1]
theorem mIns_up {y y' : T2} {p v : Nat} (he : ∀ i, i ≠ v → y' 8 i = y 8 i ∧ y' 9 i = y 9 i) (h0 : ¬ (y 8 v = nI 2 ∧ y 9 v = nI p)) (h1 : y' 8 v = nI 2 ∧ y' 9 v = nI p) : ∀ n, mIns y' p n = mIns y p n + (if v < n then 1 else 0)
  | 0 => rfl
  | n + 1 => by
    rw [mIns, mIns, mIns_up he h0 h1 n]
    by_cases h2 : n = v
    · subst h2
      rw [if_pos h1, if_neg h0, if_neg (Nat.lt_irrefl n), if_pos (Nat.lt_succ_self n)]
    · rw [(he n h2).1, (he n h2).2]
      by_cases h3 : v < n
      · rw [if_pos h3, if_pos (show v < n + 1 by omega)]
        omega
      · rw [if_neg h3, if_neg (show ¬ v < n + 1 by omega)]
        omega
theorem fr_le : ∀ r, r < 9 → ∀ c, c < 9 → (nI r - nI c ≤ 0 ↔ nI r ≤ nI c) := by decide
theorem fr_dec : ∀ r, r < 9 → ∀ c, c < 8 → nI r - nI c + (-1) = nI r - nI (c + 1) := by decide
theorem mIns_le (y : T2) (p : Nat) : ∀ n, mIns y p n ≤ n
  | 0 => Nat.le_refl 0
  | n + 1 => by
    rw [mIns]
    have := mIns_le y p n
    by_cases h : y 8 n = nI 2 ∧ y 9 n = nI p
    · rw [if_pos h]; omega
    · rw [if_neg h]; omega
theorem w_first {E : cE} {x y : T2} {q : Nat → List Nat} {m : Nat} (h : wR E x y q m) {p : Nat} (hp : p < 6) (v : Nat) : (v < 8 ∧ cFst x p v) ↔ (q p)[0]? = some v := by
  obtain ⟨⟨hQ, hC, hN⟩, ⟨hV, hT, hB⟩, -⟩ := h
  constructor
  · rintro ⟨h1, h2, h3, h4⟩
    obtain ⟨k, hk⟩ := List.getElem?_of_mem ((wQ_mem hQ hV hp v).mpr ⟨h1, (hC v h1).1.symm.trans h2, (hC v h1).2.symm.trans h3⟩)
    have hl := wQ_len hQ hp
    have hk9 := (List.getElem?_eq_some_iff.mp hk).1
    have : k = 0 := nI_inj (by omega) (by omega) ((hN p hp k v hk).symm.trans h4)
    rw [← this]; exact hk
  · intro hv
    obtain ⟨g1, -, g3, g4⟩ := (hQ p hp).2.2 0 v hv
    exact ⟨g1, (hC v g1).1.trans g3, (hC v g1).2.trans g4, hN p hp 0 v hv⟩
/-- a pavilion lets in as many as it has room for -/
theorem w_fill {E : cE} {m p r : Nat} (hp : p < 6) (hr : r < 9) : ∀ (w : Nat) (x y : T2) (q : Nat → List Nat), (q p).length = w → wR E x y q m → y 1 p = nI r → y 3 p = nI 0 → ∃ n x' y' q', cFillR p n (nI r - nI (mIns y p 8)) x x' ∧ mGoIn p n y y' ∧ wR E x' y' q' m ∧ (∀ f i, f < 4 → y' f i = y f i)
  | w, x, y, q, hw, h, h1, h3 => by
    have h' := h
    obtain ⟨⟨hQ, hC, hN⟩, ⟨hV, hT, hB⟩, ⟨hF, hG⟩, hL, hS⟩ := h'
    have hi8 := mIns_le y p 8
    by_cases hroom : y 1 p ≤ nI (mIns y p 8)
    · refine ⟨0, x, y, q, ⟨Or.inl ((fr_le r hr _ (by omega)).mpr (by rw [← h1]; exact hroom)), rfl⟩, ⟨Or.inr (Or.inr ⟨h3, ⟨(q p).length, wQ_len hQ hp, (hQ p hp).2.1⟩, hroom⟩), rfl⟩, h, fun _ _ _ => rfl⟩
    · have hfr : ¬ nI r - nI (mIns y p 8) ≤ 0 := fun c => hroom (by rw [h1]; exact (fr_le r hr _ (by omega)).mp c)
      match hw9 : w with
      | 0 =>
        refine ⟨0, x, y, q, ⟨Or.inr (fun k hk c => ?_), rfl⟩, ⟨Or.inr (Or.inl ⟨h3, by rw [(hQ p hp).2.1, hw]⟩), rfl⟩, h, fun _ _ _ => rfl⟩
        have := (w_first h hp k).mp ⟨hk, c⟩
        have := (List.getElem?_eq_some_iff.mp this).1
        omega
      | w + 1 =>
        have hlt : 0 < (q p).length := by omega
        have hv := List.getElem?_eq_getElem hlt
        generalize (q p)[0] = v at hv
        obtain ⟨g1, g2, g3, g4⟩ := (hQ p hp).2.2 0 v hv
        have hoff := (w_off h hp hv).1
        have hgo := w_go h hp hv
        have e4 : ∀ f i, f < 4 → mEnter (mOffF y v p (q p).length 0) v p f i = y f i := fun f i hf => by rw [mEnter_o _ _ _ _ _ (by omega), mOffF_o _ _ _ _ _ _ _ (by omega)]
        have hins : mIns (mEnter (mOffF y v p (q p).length 0) v p) p 8 = mIns y p 8 + 1 := by
          have := mIns_up (y := y) (y' := mEnter (mOffF y v p (q p).length 0) v p) (p := p) (v := v) (fun i hi => ⟨by rw [mEnter_8, if_neg hi, mOffF_q _ _ _ _ _ _ _ (by decide), mLeave_8, if_neg hi], by rw [mEnter_9, if_neg hi, mOffF_q _ _ _ _ _ _ _ (by decide), mLeave_9, if_neg hi]⟩) (fun c => nI_12 (g3.symm.trans c.1)) ⟨by rw [mEnter_8, if_pos rfl], by rw [mEnter_9, if_pos rfl]⟩ 8
          rw [if_pos g1] at this
          exact this
        have hi9 := mIns_le (mEnter (mOffF y v p (q p).length 0) v p) p 8
        obtain ⟨n, x2, y2, q2, b1, b2, b3, b4⟩ := w_fill hp hr w (cGo x v p) (mEnter (mOffF y v p (q p).length 0) v p) (qDel q p 0) (by rw [show qDel q p 0 p = (q p).eraseIdx 0 from if_pos rfl, List.length_eraseIdx, if_pos hlt]; omega) hgo (by rw [e4 1 p (by omega)]; exact h1) (by rw [e4 3 p (by omega)]; exact h3)
        have hlen := wQ_len hQ hp
        refine ⟨n + 1, x2, y2, q2, ⟨hfr, v, g1, ((w_first h hp v).mpr hv).2, fun k hk c => ?_, ?_⟩, ⟨h3, hroom, w, v, _, by omega, by rw [(hQ p hp).2.1, hw], g1, g2, hoff, b2⟩, b3, fun f i hf => (b4 f i hf).trans (e4 f i hf)⟩
        · have := (w_first h hp k).mp ⟨hk, c⟩
          exact Option.some.inj (this.symm.trans hv)
        · rw [fr_dec r hr _ (by omega), ← hins]
          exact b1

theorem cLose_k (x : T2) (v f i : Nat) (h : (f ≠ 11 ∧ f ≠ 12) ∨ i ≠ v) : cLose x v f i = x f i := by
  unfold cLose up2
  by_cases h1 : f = 12
  · by_cases h2 : i = v
    · omega
    · simp [h2]
  · by_cases h3 : f = 11
    · by_cases h2 : i = v
      · omega
      · simp [h2]
    · simp [h1, h3]
theorem cLose_11 (x : T2) (v : Nat) : cLose x v 11 v = -1 := by
  unfold cLose up2
  simp
theorem cLose_12 (x : T2) (v : Nat) : cLose x v 12 v = -1 := by
  unfold cLose up2
  simp
/-- a turn is lost by one who doesn't wait by it -/
theorem w_lose {E : cE} {x y : T2} {q : Nat → List Nat} {m : Nat} (h : wR E x y q m) {v : Nat} (hv : v < 8) (h14 : y 14 v = nI 0) : wR E (cLose x v) (mLose y v) q m := by
  refine w_turn h hv h14 (fun f i hf => ?_) (fun f i hf => cLose_k x v f i hf) ?_
  · by_cases h1 : f = 14
    · rw [h1, mLose_14]
      by_cases h2 : i = v
      · rw [if_pos h2, h2, h14]
      · rw [if_neg h2]
    · by_cases h3 : f = 12
      · rw [h3, mLose_12, if_neg (by omega)]
      · exact mLose_o _ _ _ _ ⟨h3, h1⟩
  · have e : mLose y v 12 v = -1 := by rw [mLose_12, if_pos rfl]
    exact ⟨Or.inl e, by rw [cLose_11, e], Or.inl ⟨e, cLose_12 x v⟩⟩
/-- a visitor's turn comes -/
theorem w_tt {E : cE} {x y : T2} {q : Nat → List Nat} {m : Nat} (h : wR E x y q m) (hm : y 0 0 = nI m) (hm9 : m ≤ 1200) {k : Nat} (hk : k < 8) (hst : y 14 k = nI 1 → ¬ y 12 k = nI m) :
    ∃ x' y' q', ((¬ x 11 k = x 0 0 ∧ x' = x) ∨ (x 11 k = x 0 0 ∧ cTT x k x')) ∧ mTTR y k y' ∧ wR E x' y' q' m ∧ (∀ f i, f < 4 → y' f i = y f i) ∧ ∀ v, v ≠ k → y' 12 v = y 12 v ∧ y' 14 v = y 14 v := by
  have h' := h
  obtain ⟨⟨hQ, hC, hN⟩, ⟨hV, hT, hB⟩, ⟨hF, hG⟩, hL, hS⟩ := h'
  have e11 : x 11 k = y 12 k := (hG k hk).2.2.1
  by_cases ht : ¬ y 12 k = y 0 0
  · exact ⟨x, y, q, Or.inl ⟨by rw [e11, hF.1]; exact ht, rfl⟩, Or.inl ⟨Or.inl ht, rfl⟩, h, fun _ _ _ => rfl, fun _ _ => ⟨rfl, rfl⟩⟩
  replace ht := Classical.not_not.mp ht
  have h14 : y 14 k = nI 0 := (hT k hk).1.resolve_right (fun c => hst c.1 (ht.trans hm))
  have hne1 : ¬ y 12 k = -1 := by rw [ht, hm]; exact nI_nem1 (by omega)
  obtain ⟨t, p, t1, hp, t2, t3⟩ := (hT k hk).2.resolve_left hne1
  have x12 : x 12 k = nI p := by
    rcases (hG k hk).2.2.2.1 with c | c
    · exact absurd c.1 hne1
    · exact c.2.trans t3
  have hx11 : x 11 k = x 0 0 := by rw [e11, hF.1]; exact ht
  have h3 := (hF.2 p hp).2.2.1
  by_cases hl : y 8 k = nI 2 ∨ ¬ y 3 p = nI 0
  · refine ⟨cLose x k, mLose y k, q, Or.inr ⟨hx11, Or.inl ⟨Or.inr ⟨p, hp, x12, ?_⟩, rfl⟩⟩, Or.inr ⟨ht, h14, p, hp, t3, Or.inl ⟨hl, rfl⟩⟩, w_lose h hk h14, fun f i hf => mLose_o _ _ _ _ (by omega), fun v hv => ⟨by rw [mLose_12, if_neg hv], by rw [mLose_14, if_neg hv]⟩⟩
    rcases hl with c | c
    · exact Or.inl ((hC k hk).1.trans c)
    · exact Or.inr (h3.resolve_left (fun d => c d.2)).1
  · have hl1 : ¬ y 8 k = nI 2 := fun c => hl (Or.inl c)
    have hl2 : y 3 p = nI 0 := Classical.byContradiction (fun c => hl (Or.inr c))
    have hx3 : ¬ x 3 p = nI 0 := fun c => by
      rcases h3 with d | d
      · exact nI_01 (c.symm.trans d.1)
      · exact nI_01 (hl2.symm.trans d.2)
    -- out of the old queue first
    obtain ⟨x1, y1, q1, w1, w2, w3, w4, w5, w6, w7, w8⟩ : ∃ x1 y1 q1, ((x 6 k = nI 1 ∧ x1 = cLeave x k) ∨ (¬ x 6 k = nI 1 ∧ x1 = x)) ∧ ((y 8 k = nI 1 ∧ mLeaveR y k y1) ∨ (¬ y 8 k = nI 1 ∧ y1 = y)) ∧ wR E x1 y1 q1 m ∧ ¬ y1 8 k = nI 1 ∧ (∀ f i, f < 4 ∨ f = 12 ∨ f = 14 → y1 f i = y f i) ∧ True ∧ True ∧ True := by
      by_cases hw : y 8 k = nI 1
      · rcases hV k hk with c | ⟨-, p', c2, c3, c4⟩ | c
        · exact absurd (c.1.symm.trans hw) nI_01
        · obtain ⟨a, ha⟩ := List.getElem?_of_mem c4
          have hoff := w_off h c2 ha
          have e : mOffF y k p' (q p').length a = mLeave y k p' (q p').length a := if_pos h14
          rw [e] at hoff
          refine ⟨_, _, _, Or.inl ⟨(hC k hk).1.trans hw, rfl⟩, Or.inl ⟨hw, (w_leave hQ c2 ha).1⟩, hoff.2, ?_, fun f i hf => ?_, trivial, trivial, trivial⟩
          · rw [mLeave_8, if_pos rfl]; exact nI_01
          · exact mLeave_o _ _ _ _ _ _ _ (by omega)
        · exact absurd (hw.symm.trans c.1) nI_12
      · exact ⟨x, y, q, Or.inr ⟨fun c => hw ((hC k hk).1.symm.trans c), rfl⟩, Or.inr ⟨hw, rfl⟩, h, hw, fun _ _ _ => rfl, trivial, trivial, trivial⟩
    have w3c := w3
    obtain ⟨⟨hQ1, hC1, hN1⟩, ⟨hV1, hT1, hB1⟩, -⟩ := w3c
    obtain ⟨b, b1, b2⟩ := hB1 p hp
    have hlen := wQ_len7 hQ1 hp hk w4
    have hbt := w_bt w3 hp b1 b2
    have hin := w_in w3 (bt := nI 1) hp hk w4 b1 (Or.inr ⟨rfl, b2, m, Nat.le_refl m, by rw [w5 12 k (by omega), ht, hm]⟩)
    refine ⟨_, _, _, Or.inr ⟨hx11, Or.inr ⟨p, x1, hp, x12, fun c => hl1 ((hC k hk).1.symm.trans c), hx3, w1, rfl⟩⟩, Or.inr ⟨ht, h14, p, hp, t3, Or.inr ⟨hl1, hl2, y1, (q1 p).length, b, w2, hlen, (hQ1 p hp).2.1, w_at hQ1 hp b1 (fun v hv => (hT1 v hv).1.imp id (fun c => c.1)) b2 _ 0 (Nat.zero_add _) (Nat.zero_le _), b1, rfl⟩⟩, (by rw [hbt]; exact hin), fun f i hf => ?_, fun v hv => ⟨?_, ?_⟩⟩
    · rw [up2_k _ _ _ _ (by omega), mPuts_o _ _ _ _ _ _ _ (by omega), w5 f i (by omega)]
    · rw [up2_k _ _ _ _ (by decide), mPuts_o _ _ _ _ _ _ _ (by decide), w5 12 v (by omega)]
    · rw [up2_n _ _ _ _ hv, mPuts_o _ _ _ _ _ _ _ (by decide), w5 14 v (by omega)]
/-- all turns of a minute -/
theorem w_tts {E : cE} {m : Nat} (hm9 : m ≤ 1200) : ∀ (n k : Nat) (x y : T2) (q : Nat → List Nat), k + n = 8 → wR E x y q m → y 0 0 = nI m → (∀ v, v < 8 → k ≤ v → y 14 v = nI 1 → ¬ y 12 v = nI m) → ∃ x' y' q', cTTs n k x x' ∧ mTTs n k y y' ∧ wR E x' y' q' m ∧ (∀ f i, f < 4 → y' f i = y f i)
  | 0, k, x, y, q, _, h, hm, _ => ⟨x, y, q, rfl, rfl, h, fun _ _ _ => rfl⟩
  | n + 1, k, x, y, q, hkn, h, hm, hst => by
    obtain ⟨x1, y1, q1, a1, a2, a3, a4, a5⟩ := w_tt h hm hm9 (k := k) (by omega) (hst k (by omega) (Nat.le_refl k))
    obtain ⟨x2, y2, q2, b1, b2, b3, b4⟩ := w_tts hm9 n (k + 1) x1 y1 q1 (by omega) a3 ((a4 0 0 (by omega)).trans hm) (fun v hv hkv => by
      rw [(a5 v (by omega)).1, (a5 v (by omega)).2]
      exact hst v hv (by omega))
    exact ⟨x2, y2, q2, ⟨x1, a1, b1⟩, ⟨y1, a2, b2⟩, b3, fun f i hf => (b4 f i hf).trans (a4 f i hf)⟩

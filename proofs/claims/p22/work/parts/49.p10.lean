def wRm (y : T2) : Prop := ∀ p, p < 6 → ∃ r, r < 9 ∧ y 1 p = nI r
theorem w_lets {E : cE} {m : Nat} : ∀ (n k : Nat) (x y : T2) (q : Nat → List Nat), k + n = 6 → wR E x y q m → wRm y → ∃ x' y' q', cLets n k x x' ∧ mGoIns n k y y' ∧ wR E x' y' q' m ∧ (∀ f i, f < 4 → y' f i = y f i)
  | 0, k, x, y, q, _, h, _ => ⟨x, y, q, rfl, rfl, h, fun _ _ _ => rfl⟩
  | n + 1, k, x, y, q, hkn, h, hr => by
    have h' := h
    obtain ⟨⟨hQ, hC, hN⟩, ⟨hV, hT, hB⟩, ⟨hF, hG⟩, hL, hS⟩ := h'
    have hk : k < 6 := by omega
    obtain ⟨x1, y1, q1, a1, ⟨i, a2⟩, a3, a4⟩ : ∃ x1 y1 q1, ((x 3 k = nI 0 ∧ x1 = x) ∨ (¬ x 3 k = nI 0 ∧ ∃ q, cFillR k q (x 1 k - nI (cCnt x (nI 2) k 8)) x x1)) ∧ (∃ i, mGoIn k i y y1) ∧ wR E x1 y1 q1 m ∧ (∀ f i, f < 4 → y1 f i = y f i) := by
      rcases (hF.2 k hk).2.2.1 with c | c
      · obtain ⟨r, r1, r2⟩ := hr k hk
        obtain ⟨n9, x1, y1, q1, b1, b2, b3, b4⟩ := w_fill hk r1 (q k).length x y q rfl h r2 c.2
        refine ⟨x1, y1, q1, Or.inr ⟨by rw [c.1]; exact fun e => nI_01 e.symm, n9, ?_⟩, ⟨n9, b2⟩, b3, b4⟩
        rw [(hF.2 k hk).1, r2, w_ins hC k 8 (Nat.le_refl 8)]
        exact b1
      · exact ⟨x, y, q, Or.inl ⟨c.1, rfl⟩, ⟨0, Or.inl (by rw [c.2]; exact fun e => nI_01 e.symm), rfl⟩, h, fun _ _ _ => rfl⟩
    obtain ⟨x2, y2, q2, b1, b2, b3, b4⟩ := w_lets n (k + 1) x1 y1 q1 (by omega) a3 (fun p hp => by
      obtain ⟨r, r1, r2⟩ := hr p hp
      exact ⟨r, r1, by rw [a4 1 p (by omega)]; exact r2⟩)
    exact ⟨x2, y2, q2, ⟨x1, a1, b1⟩, ⟨i, y1, a2, b2⟩, b3, fun f i hf => (b4 f i hf).trans (a4 f i hf)⟩

theorem cIdle_6 (x : T2) (v i : Nat) : cIdle x v 6 i = if i = v then nI 0 else x 6 i := by
  unfold cIdle up2
  simp
theorem cIdle_7 (x : T2) (v i : Nat) : cIdle x v 7 i = if i = v then -1 else x 7 i := by
  unfold cIdle up2
  simp
theorem cIdle_8 (x : T2) (v i : Nat) : cIdle x v 8 i = if i = v then -1 else x 8 i := by
  unfold cIdle up2
  simp
theorem cIdle_9 (x : T2) (v i : Nat) : cIdle x v 9 i = if i = v then -1 else x 9 i := by
  unfold cIdle up2
  simp
theorem cIdle_o (x : T2) (v f i : Nat) (h : f ≠ 6 ∧ f ≠ 7 ∧ f ≠ 8 ∧ f ≠ 9) : cIdle x v f i = x f i := by
  unfold cIdle up2
  simp [h.1, h.2.1, h.2.2.1, h.2.2.2]
theorem wTu_of {E : cE} {x y : T2} {q : Nat → List Nat} {m v : Nat} (h : wR E x y q m) (hv : v < 8) : wTu x y v := ⟨(h.2.1.2.1 v hv).2, (h.2.2.1.2 v hv).2.2.1, (h.2.2.1.2 v hv).2.2.2.1⟩
/-- who is inside and has seen enough comes out -/
theorem w_out1 {E : cE} {x y : T2} {q : Nat → List Nat} {m : Nat} (h : wR E x y q m) {k : Nat} (hk : k < 8) : wR E (cOut1 x k) (mOut1 y k) q m ∧ (∀ f i, f < 4 → (mOut1 y k) f i = y f i) ∧ ∀ v, (mOut1 y k) 12 v = y 12 v ∧ (mOut1 y k) 14 v = y 14 v := by
  have h' := h
  obtain ⟨⟨hQ, hC, hN⟩, ⟨hV, hT, hB⟩, ⟨hF, hG⟩, hL, hS⟩ := h'
  obtain ⟨g1, g2, g3, g4, g5, g6⟩ := hG k hk
  by_cases hc : y 8 k = nI 2 ∧ y 10 k ≤ y 0 0
  · have hcx : x 6 k = nI 2 ∧ x 9 k ≤ x 0 0 := ⟨(hC k hk).1.trans hc.1, by rw [g1 hc.1, hF.1]; exact hc.2⟩
    have ey : mOut1 y k = up2 (up2 (up2 y 11 k (y 11 k ||| (nI 1 <<< (y 9 k &&& 31)))) 8 k (nI 0)) 9 k (-1) := if_pos hc
    have ex : cOut1 x k = cIdle (up2 x 10 k (x 10 k ||| (nI 1 <<< (x 7 k &&& 31)))) k := if_pos hcx
    have h14 : y 14 k = nI 0 := (hT k hk).1.resolve_right (fun c => nI_12 (c.2.1.symm.trans hc.1))
    have y8 : mOut1 y k 8 k = nI 0 := by rw [ey, up2_k _ _ _ _ (by decide), up2_s]
    have y9 : mOut1 y k 9 k = -1 := by rw [ey, up2_s]
    have yo : ∀ f i, (f ≠ 8 ∧ f ≠ 9 ∧ f ≠ 11) ∨ i ≠ k → mOut1 y k f i = y f i := by
      intro f i hf
      rw [ey]
      unfold up2
      by_cases h1 : i = k
      · rcases hf with ⟨a1, a2, a3⟩ | a1
        · simp [a1, a2, a3]
        · exact absurd h1 a1
      · simp [h1]
    have xo : ∀ f i, (f < 6 ∨ 10 < f) ∨ i ≠ k → cOut1 x k f i = x f i := by
      intro f i hf
      rw [ex]
      by_cases h1 : i = k
      · rw [cIdle_o _ _ _ _ (by omega), up2_k _ _ _ _ (by omega)]
      · unfold cIdle up2
        simp [h1]
    refine ⟨w_one h hk (by rw [hc.1]; exact fun c => nI_12 c.symm) (fun f i hf => yo f i (by omega)) (fun f i hf => xo f i (by omega)) (Or.inl ⟨y8, y9⟩) ?_ ?_ ?_ ?_ ?_ ?_ ?_ (fun c => absurd (y8.symm.trans c) nI_02), fun f i hf => yo f i (by omega), fun v => ⟨yo 12 v (by omega), yo 14 v (by omega)⟩⟩
    · rw [ex, cIdle_6, if_pos rfl, y8]
    · rw [ex, cIdle_7, if_pos rfl, y9]
    · rw [ex, cIdle_8, if_pos rfl]
    · rw [yo 14 k (by omega)]; exact h14
    · rw [xo 13 k (by omega), g5]; exact h14
    · obtain ⟨t1, t2, t3⟩ := wTu_of h hk
      exact ⟨by rw [yo 12 k (by omega), yo 13 k (by omega)]; exact t1, by rw [xo 11 k (by omega), yo 12 k (by omega)]; exact t2, by rw [xo 12 k (by omega), yo 12 k (by omega), yo 13 k (by omega)]; exact t3⟩
    · rw [ex, cIdle_o _ _ _ _ (by decide), up2_s, ey, up2_k _ _ _ _ (by decide), up2_k _ _ _ _ (by decide), up2_s, g2, (hC k hk).2]
  · have hcx : ¬ (x 6 k = nI 2 ∧ x 9 k ≤ x 0 0) := fun c => hc (by
      have c1 : y 8 k = nI 2 := (hC k hk).1.symm.trans c.1
      exact ⟨c1, by rw [← g1 c1, ← hF.1]; exact c.2⟩)
    rw [show mOut1 y k = y from if_neg hc, show cOut1 x k = x from if_neg hcx]
    exact ⟨h, fun _ _ _ => rfl, fun _ => ⟨rfl, rfl⟩⟩
theorem w_outs {E : cE} {x y : T2} {q : Nat → List Nat} {m : Nat} (h : wR E x y q m) : ∀ n, n ≤ 8 → wR E (cOut x n) (mOut y n) q m ∧ (∀ f i, f < 4 → (mOut y n) f i = y f i) ∧ ∀ v, (mOut y n) 12 v = y 12 v ∧ (mOut y n) 14 v = y 14 v
  | 0, _ => ⟨h, fun _ _ _ => rfl, fun _ => ⟨rfl, rfl⟩⟩
  | n + 1, hn => by
    obtain ⟨a1, a2, a3⟩ := w_outs h n (by omega)
    obtain ⟨b1, b2, b3⟩ := w_out1 a1 (k := n) (by omega)
    exact ⟨b1, fun f i hf => (b2 f i hf).trans (a2 f i hf), fun v => ⟨(b3 v).1.trans (a3 v).1, (b3 v).2.trans (a3 v).2⟩⟩
/-- the clock goes on -/
theorem w_tick {E : cE} {x y : T2} {q : Nat → List Nat} {m : Nat} (h : wR E x y q m) (hm : y 0 0 = nI m) : wR E (up2 x 0 0 (x 0 0 + nI 1)) (up2 y 0 0 (y 0 0 + nI 1)) q (m + 1) ∧ (up2 y 0 0 (y 0 0 + nI 1)) 0 0 = nI (m + 1) := by
  obtain ⟨⟨hQ, hC, hN⟩, ⟨hV, hT, hB⟩, ⟨hF, hG⟩, hL, hS⟩ := h
  have ey : ∀ f i, f ≠ 0 → up2 y 0 0 (y 0 0 + nI 1) f i = y f i := fun f i hf => up2_k _ _ _ _ hf
  have ex : ∀ f i, f ≠ 0 → up2 x 0 0 (x 0 0 + nI 1) f i = x f i := fun f i hf => up2_k _ _ _ _ hf
  refine ⟨⟨⟨?_, ?_, ?_⟩, ⟨?_, ?_, ?_⟩, ⟨⟨?_, ?_⟩, ?_⟩, ?_, ?_⟩, by rw [up2_s, hm, nI_add]⟩
  · exact wQ_c hQ (fun i => ⟨ey 4 i (by omega), ey 5 i (by omega), ey 8 i (by omega), ey 9 i (by omega)⟩)
  · intro i hi
    rw [ex 6 i (by omega), ex 7 i (by omega), ey 8 i (by omega), ey 9 i (by omega)]
    exact hC i hi
  · intro p hp k i hk
    rw [ex 8 i (by omega)]
    exact hN p hp k i hk
  · intro i hi
    rw [ey 8 i (by omega), ey 9 i (by omega)]
    exact hV i hi
  · intro i hi
    rw [ey 14 i (by omega), ey 8 i (by omega), ey 12 i (by omega), ey 13 i (by omega)]
    refine ⟨(hT i hi).1.imp id (fun c => ?_), (hT i hi).2⟩
    obtain ⟨t, t1, t2⟩ := c.2.2
    exact ⟨c.1, c.2.1, t, by omega, t2⟩
  · intro p hp
    obtain ⟨b, b1, b2⟩ := hB p hp
    refine ⟨b, b1, fun k i hk => ?_⟩
    rw [ey 14 i (by omega)]
    exact b2 k i hk
  · rw [up2_s, up2_s, hF.1]
  · intro j hj
    rw [ex 1 j (by omega), ex 2 j (by omega), ex 3 j (by omega), ex 4 j (by omega), ex 5 j (by omega), ey 1 j (by omega), ey 2 j (by omega), ey 3 j (by omega), ey 15 j (by omega), ey 16 j (by omega)]
    exact hF.2 j hj
  · intro i hi
    rw [ex 8 i (by omega), ex 9 i (by omega), ex 10 i (by omega), ex 11 i (by omega), ex 12 i (by omega), ex 13 i (by omega), ey 8 i (by omega), ey 10 i (by omega), ey 11 i (by omega), ey 12 i (by omega), ey 13 i (by omega), ey 14 i (by omega)]
    exact hG i hi
  · intro i hi
    rw [ey 7 i (by omega), ex 15 i (by omega)]
    obtain ⟨n, n1, n2, n3, n4, n5⟩ := hL i hi
    exact ⟨n, n1, n2, n3, fun k hk => ⟨(n4 k hk).1, by rw [ey 6 _ (by omega)]; exact (n4 k hk).2⟩, n5⟩
  · intro i j hi hj
    rw [ey 17 _ (by omega)]
    exact hS i j hi hj

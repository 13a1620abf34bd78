theorem cFreeR_one {x : T2} {j : Nat} : ∀ (n : Nat) (f r r' : Int32), cFreeR x j n f r → cFreeR x j n f r' → r = r'
  | 0, f, r, r', h, h' => h.trans h'.symm
  | n + 1, f, r, r', h, h' => by
    rcases h with ⟨a, b⟩ | ⟨a, b⟩ <;> rcases h' with ⟨a', b'⟩ | ⟨a', b'⟩
    · exact cFreeR_one n _ r r' b b'
    · exact absurd a a'
    · exact absurd a' a
    · exact b.trans b'.symm
theorem w_tk {E : cE} {x y : T2} {q : Nat → List Nat} {m : Nat} (h : wR E x y q m) {p n : Nat} (hp : p < 6) (hn : n < 2 ^ 31) : cTk x p (nI n) ↔ aT y p (nI n) := by
  have hG := h.2.2.1.2
  constructor
  · rintro ⟨k, k1, k2, k3⟩
    obtain ⟨-, -, g3, g4, -⟩ := hG k k1
    rcases g4 with c | c
    · exact absurd (k2.symm.trans c.2) (nI_nem1 (by omega))
    · exact ⟨k, k1, g3.symm.trans k3, c.2.symm.trans k2⟩
  · rintro ⟨k, k1, k2, k3⟩
    obtain ⟨-, -, g3, g4, -⟩ := hG k k1
    rcases g4 with c | c
    · exact absurd (k2.symm.trans c.1) (nI_nem1 hn)
    · exact ⟨k, k1, c.2.trans k3, g3.trans k2⟩
theorem w_askc {E : cE} {x y : T2} {q : Nat → List Nat} {m m0 p k : Nat} (h : wR E x y q m) (hp : p < 6) (hm : m0 ≤ 1200) (hk : k ≤ 8) (hf : ¬ aT y p (nI (aF m0 k))) (ht : ∀ i, i < k → aT y p (nI (aF m0 i))) : ∀ d j c, j + d = k → j + c = 8 → cFreeR x p c (nI (aF m0 j)) (nI (aF m0 k))
  | 0, j, 0, h1, h2 => by
    rw [show j = k by omega]
    exact rfl
  | 0, j, c + 1, h1, h2 => by
    rw [show j = k by omega]
    exact Or.inr ⟨fun e => hf ((w_tk h hp (by unfold aF; omega)).mp e), rfl⟩
  | d + 1, j, 0, h1, h2 => by omega
  | d + 1, j, c + 1, h1, h2 => by
    refine Or.inl ⟨(w_tk h hp (by unfold aF; omega)).mpr (ht j (by omega)), ?_⟩
    rw [aF_s]
    exact w_askc h hp hm hk hf ht d (j + 1) c (by omega) (by omega)
theorem w_askm {y : T2} {m0 p k : Nat} (hf : ¬ aT y p (nI (aF m0 k))) (ht : ∀ i, i < k → aT y p (nI (aF m0 i))) : ∀ d j, j + d = k → mAskR y p d (nI (aF m0 j)) (nI (aF m0 k))
  | 0, j, h1 => by
    rw [show j = k by omega]
    exact ⟨mTaken_0 8 hf, rfl⟩
  | d + 1, j, h1 => by
    refine ⟨mTaken_1 8 (ht j (by omega)), ?_⟩
    rw [aF_s]
    exact w_askm hf ht d (j + 1) (by omega)
/-- asking: both find the same minute, and stay in relation -/
theorem w_ask {E : cE} {x y : T2} {q : Nat → List Nat} {m m0 : Nat} (h : wR E x y q m) (hm : y 0 0 = nI m0) (hm9 : m0 ≤ 1200) (hmm : m ≤ 1200) {v p : Nat} (hv : v < 8) (hp : p < 6) (hno : y 12 v = -1) :
    ∃ n k, mAskR y p n ((y 0 0 / nI 5 + nI 1) * nI 5) (nI k) ∧ cFreeR x p 8 ((x 0 0 / nI 5 + nI 1) * nI 5) (nI k) ∧ wR E (up2 (up2 x 11 v (nI k)) 12 v (nI p)) (up2 (up2 (up2 y 12 v (nI k)) 13 v (nI p)) 14 v (nI 0)) q m := by
  obtain ⟨k, k1, k2, k3⟩ := aT_free (y := y) (p := p) hm9
  have hF := h.2.2.1.1
  have h14 : y 14 v = nI 0 := (h.2.1.2.1 v hv).1.resolve_right (fun c => by
    obtain ⟨t, t1, t2⟩ := c.2.2
    exact nI_nem1 (by omega) (t2.symm.trans hno))
  refine ⟨k, aF m0 k, ?_, ?_, ?_⟩
  · rw [hm, aF_0 m0 (by omega)]
    exact w_askm k2 k3 k 0 (by omega)
  · rw [hF.1, hm, aF_0 m0 (by omega)]
    exact w_askc h hp hm9 k1 k2 k3 k 0 8 (by omega) (by omega)
  · refine w_turn h hv h14 (fun f i hf => ?_) (fun f i hf => ?_) ?_
    · by_cases h1 : f = 14
      · subst h1
        by_cases h2 : i = v
        · rw [h2, up2_s, h14]
        · rw [up2_n _ _ _ _ h2, up2_k _ _ _ _ (by decide), up2_k _ _ _ _ (by decide)]
      · rw [up2_k _ _ _ _ h1]
        unfold up2
        rcases hf with ⟨a1, a2⟩ | a1
        · simp [a1, a2]
        · simp [a1]
    · unfold up2
      rcases hf with ⟨a1, a2⟩ | a1
      · simp [a1, a2]
      · simp [a1]
    · have e12 : up2 (up2 (up2 y 12 v (nI (aF m0 k))) 13 v (nI p)) 14 v (nI 0) 12 v = nI (aF m0 k) := by
        rw [up2_k _ _ _ _ (by decide), up2_k _ _ _ _ (by decide), up2_s]
      have e13 : up2 (up2 (up2 y 12 v (nI (aF m0 k))) 13 v (nI p)) 14 v (nI 0) 13 v = nI p := by
        rw [up2_k _ _ _ _ (by decide), up2_s]
      have x11 : up2 (up2 x 11 v (nI (aF m0 k))) 12 v (nI p) 11 v = nI (aF m0 k) := by
        rw [up2_k _ _ _ _ (by decide), up2_s]
      have x12 : up2 (up2 x 11 v (nI (aF m0 k))) 12 v (nI p) 12 v = nI p := up2_s _ _ _ _
      exact ⟨Or.inr ⟨aF m0 k, p, by have := aF_lt hm9 k1; omega, hp, e12, e13⟩, by rw [x11, e12], Or.inr ⟨by rw [e12]; exact nI_nem1 (by unfold aF; omega), by rw [x12, e13]⟩⟩

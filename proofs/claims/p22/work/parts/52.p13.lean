theorem up2_id {y : T2} {k i : Nat} {v : Int32} (h : y k i = v) : up2 y k i v = y := by
  funext f j
  unfold up2
  by_cases h1 : f = k
  · rw [if_pos h1]
    by_cases h2 : j = i
    · rw [if_pos h2, h1, h2, h]
    · rw [if_neg h2]
  · rw [if_neg h1]
theorem mGoOn_end {y : T2} {v w : Nat} (h : ¬ y 8 v = nI 0) : ∀ n k, mGoOn v w n k y y
  | 0, _ => rfl
  | _ + 1, _ => Or.inl ⟨h, rfl⟩
/-- an idle visitor goes on along its plan -/
theorem w_goon {E : cE} {m v w : Nat} (hv : v < 8) {x y : T2} {q : Nat → List Nat} (h : wR E x y q m) (hi : y 8 v = nI 0) (hpl : ∀ k, k < w → ePc E v k < 6 ∧ y 6 (6 * v + k) = nI (ePc E v k)) : ∀ n k, k + n = w → ∃ x' y' q', cFP E v n k x x' ∧ mGoOn v w n k y y' ∧ wR E x' y' q' m ∧ (∀ f i, f < 4 → y' f i = y f i)
  | 0, k, _ => ⟨x, y, q, rfl, rfl, h, fun _ _ _ => rfl⟩
  | n + 1, k, hk => by
    obtain ⟨p1, p2⟩ := hpl k (by omega)
    obtain ⟨x', y', q', a1, a2, a3, a4⟩ := w_goon hv h hi hpl n (k + 1) (by omega)
    have h' := h
    obtain ⟨⟨hQ, hC, hN⟩, ⟨hV, hT, hB⟩, ⟨hF, hG⟩, hL, hS⟩ := h'
    generalize hp9 : ePc E v k = p at p1 p2
    have e10 : x 10 v = y 11 v := (hG v hv).2.1
    rcases (hF.2 p p1).2.2.1 with c | c
    · have c1 : ¬ x 3 p = nI 0 := by rw [c.1]; exact fun e => nI_01 e.symm
      by_cases hb : (y 11 v >>> (nI p &&& 31)) &&& nI 1 = nI 0
      · have hh : cHas x v p = 0 := if_pos (by rw [e10]; exact (w_bit _ p1).mp hb)
        have hn : ¬ y 8 v = nI 1 := by rw [hi]; exact nI_01
        have h14 : y 14 v = nI 0 := (hT v hv).1.resolve_right (fun d => nI_01 (hi.symm.trans d.2.1))
        have hin := w_in h (bt := nI 0) p1 hv hn (Nat.le_refl (q p).length) (Or.inl ⟨rfl, fun k i hk _ => (List.getElem?_eq_some_iff.mp hk).1⟩)
        rw [up2_id (by rw [cJoin_o _ _ _ _ _ _ (by decide), (hG v hv).2.2.2.2.1]; exact h14), up2_id (by rw [mPuts_o _ _ _ _ _ _ _ (by decide)]; exact h14)] at hin
        refine ⟨_, _, _, ⟨by rw [hp9]; exact p1, Or.inr (Or.inr ⟨by rw [hp9]; exact c1, by rw [hp9]; exact hh, rfl⟩)⟩, Or.inr ⟨hi, p, p1, p2, Or.inr (Or.inr ⟨c.2, hb, _, wQ_len7 hQ p1 hv hn, (hQ p p1).2.1, mGoOn_end (by rw [mPuts_8, if_pos rfl]; exact fun e => nI_01 e.symm) n (k + 1)⟩)⟩, (by rw [hp9, w_cnt h p1]; exact hin), fun f i hf => mPuts_o _ _ _ _ _ _ _ (by omega)⟩
      · have hh : cHas x v p = 1 := if_neg (by rw [e10]; exact fun d => hb ((w_bit _ p1).mpr d))
        exact ⟨x', y', q', ⟨by rw [hp9]; exact p1, Or.inr (Or.inl ⟨by rw [hp9]; exact c1, by rw [hp9]; exact hh, a1⟩)⟩, Or.inr ⟨hi, p, p1, p2, Or.inr (Or.inl ⟨c.2, hb, a2⟩)⟩, a3, a4⟩
    · exact ⟨x', y', q', ⟨by rw [hp9]; exact p1, Or.inl ⟨by rw [hp9]; exact c.1, a1⟩⟩, Or.inr ⟨hi, p, p1, p2, Or.inl ⟨by rw [c.2]; exact fun e => nI_01 e.symm, a2⟩⟩, a3, a4⟩
theorem w_goons {E : cE} {m : Nat} : ∀ (n k : Nat) (x y : T2) (q : Nat → List Nat), k + n = 8 → wR E x y q m → ∃ x' y' q', cFPs E n k x x' ∧ mGoOns n k y y' ∧ wR E x' y' q' m ∧ (∀ f i, f < 4 → y' f i = y f i)
  | 0, k, x, y, q, _, h => ⟨x, y, q, rfl, rfl, h, fun _ _ _ => rfl⟩
  | n + 1, k, x, y, q, hkn, h => by
    have hk : k < 8 := by omega
    have h' := h
    obtain ⟨⟨hQ, hC, hN⟩, ⟨hV, hT, hB⟩, ⟨hF, hG⟩, hL, hS⟩ := h'
    obtain ⟨w, n1, n2, n3, n4, n5, n6⟩ := hL k hk
    obtain ⟨x1, y1, q1, a1, a2, a3, a4⟩ : ∃ x1 y1 q1, ((¬ x 6 k = nI 0 ∧ x1 = x) ∨ (x 6 k = nI 0 ∧ ∃ q, q ≤ 6 ∧ x 15 k = nI q ∧ (q = 0 ∨ k ∈ eLP E) ∧ cFP E k q 0 x x1)) ∧ mGoOnR y k y1 ∧ wR E x1 y1 q1 m ∧ (∀ f i, f < 4 → y1 f i = y f i) := by
      by_cases hi : y 8 k = nI 0
      · obtain ⟨x1, y1, q1, b1, b2, b3, b4⟩ := w_goon hk h hi n4 w 0 (Nat.zero_add w)
        exact ⟨x1, y1, q1, Or.inr ⟨(hC k hk).1.trans hi, w, n1, n3, n6.elim Or.inr (fun d => Or.inl d.1), b1⟩, ⟨w, n1, n2, b2⟩, b3, b4⟩
      · exact ⟨x, y, q, Or.inl ⟨fun d => hi ((hC k hk).1.symm.trans d), rfl⟩, ⟨w, n1, n2, mGoOn_end hi w 0⟩, h, fun _ _ _ => rfl⟩
    obtain ⟨x2, y2, q2, b1, b2, b3, b4⟩ := w_goons n (k + 1) x1 y1 q1 (by omega) a3
    exact ⟨x2, y2, q2, ⟨x1, a1, b1⟩, ⟨y1, a2, b2⟩, b3, fun f i hf => (b4 f i hf).trans (a4 f i hf)⟩

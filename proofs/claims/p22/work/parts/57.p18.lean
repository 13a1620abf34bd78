/-- some visitors have left their queue, in any order -/
def offR (y : T2) (S : Nat → Prop) (y' : T2) : Prop := (∀ i, (S i → y' 8 i = nI 0 ∧ y' 9 i = -1 ∧ y' 14 i = nI 0 ∧ (y 14 i = nI 0 → y' 12 i = y 12 i) ∧ (¬ y 14 i = nI 0 → y' 12 i = -1)) ∧ (¬ S i → y' 8 i = y 8 i ∧ y' 9 i = y 9 i ∧ y' 14 i = y 14 i ∧ y' 12 i = y 12 i)) ∧ ∀ f i, f ≠ 4 ∧ f ≠ 5 ∧ f ≠ 8 ∧ f ≠ 9 ∧ f ≠ 12 ∧ f ≠ 14 → y' f i = y f i
theorem offR_0 (y : T2) : offR y (fun _ => False) y := ⟨fun _ => ⟨fun c => c.elim, fun _ => ⟨rfl, rfl, rfl, rfl⟩⟩, fun _ _ _ => rfl⟩
theorem offR_c {y y' : T2} {S S' : Nat → Prop} (h : offR y S y') (e : ∀ i, S i ↔ S' i) : offR y S' y' := ⟨fun i => ⟨fun c => (h.1 i).1 ((e i).mpr c), fun c => (h.1 i).2 (fun d => c ((e i).mp d))⟩, h.2⟩
theorem offR_s {y0 y : T2} {S : Nat → Prop} (h : offR y0 S y) {v p w a : Nat} (hv : ¬ S v) : offR y0 (fun i => S i ∨ i = v) (mOffF y v p w a) := by
  refine ⟨fun i => ?_, fun f i hf => ?_⟩
  · obtain ⟨h1, h2⟩ := h.1 i
    rw [mOffF_q _ _ _ _ _ _ _ (by decide), mOffF_q _ _ _ _ _ _ _ (by decide), mLeave_8, mLeave_9, mOffF_12, mOffF_14]
    by_cases hiv : i = v
    · subst hiv
      obtain ⟨g1, g2, g3, g4⟩ := h2 hv
      refine ⟨fun _ => ?_, fun c => absurd (Or.inr rfl) c⟩
      rw [if_pos rfl, if_pos rfl, if_pos rfl, g3, g4]
      refine ⟨rfl, rfl, rfl, fun c => ?_, fun c => ?_⟩
      · rw [if_neg (fun d => d.2 c)]
      · rw [if_pos ⟨rfl, c⟩]
    · rw [if_neg hiv, if_neg hiv, if_neg hiv, if_neg (fun d => hiv d.1)]
      exact ⟨fun c => h1 (c.resolve_right hiv), fun c => h2 (fun d => c (Or.inl d))⟩
  · rw [mOffF_o _ _ _ _ _ _ _ hf]
    exact h.2 f i hf
/-- two that left alike agree -/
theorem offR_eq {y a b : T2} {S : Nat → Prop} (ha : offR y S a) (hb : offR y S b) {f : Nat} (hf : f ≠ 4 ∧ f ≠ 5) (i : Nat) : a f i = b f i := by
  obtain ⟨a1, a2⟩ := ha.1 i
  obtain ⟨b1, b2⟩ := hb.1 i
  by_cases hd : f ≠ 8 ∧ f ≠ 9 ∧ f ≠ 12 ∧ f ≠ 14
  · rw [ha.2 f i (by omega), hb.2 f i (by omega)]
  · by_cases hS : S i
    · obtain ⟨a3, a4, a5, a6, a7⟩ := a1 hS
      obtain ⟨b3, b4, b5, b6, b7⟩ := b1 hS
      rcases (show f = 8 ∨ f = 9 ∨ f = 12 ∨ f = 14 by omega) with e | e | e | e <;> rw [e]
      · rw [a3, b3]
      · rw [a4, b4]
      · by_cases h14 : y 14 i = nI 0
        · rw [a6 h14, b6 h14]
        · rw [a7 h14, b7 h14]
      · rw [a5, b5]
    · obtain ⟨a3, a4, a5, a6⟩ := a2 hS
      obtain ⟨b3, b4, b5, b6⟩ := b2 hS
      rcases (show f = 8 ∨ f = 9 ∨ f = 12 ∨ f = 14 by omega) with e | e | e | e <;> rw [e]
      · rw [a3, b3]
      · rw [a4, b4]
      · rw [a6, b6]
      · rw [a5, b5]
/-- another table with the same queues -/
theorem w_rows {E : cE} {x y y' : T2} {q : Nat → List Nat} {m : Nat} (h : wR E x y q m) (hQ' : wQ y' q) (ey : ∀ f i, f ≠ 4 ∧ f ≠ 5 → y' f i = y f i) : wR E x y' q m := by
  obtain ⟨⟨hQ, hC, hN⟩, ⟨hV, hT, hB⟩, ⟨hF, hG⟩, hL, hS⟩ := h
  refine ⟨⟨hQ', ?_, hN⟩, ⟨?_, ?_, ?_⟩, ⟨⟨?_, ?_⟩, ?_⟩, ?_, ?_⟩
  · intro i hi
    rw [ey 8 i (by omega), ey 9 i (by omega)]
    exact hC i hi
  · intro i hi
    rw [ey 8 i (by omega), ey 9 i (by omega)]
    exact hV i hi
  · intro i hi
    rw [ey 14 i (by omega), ey 8 i (by omega), ey 12 i (by omega), ey 13 i (by omega)]
    exact hT i hi
  · intro p hp
    obtain ⟨b, b1, b2⟩ := hB p hp
    refine ⟨b, b1, fun k i hk => ?_⟩
    rw [ey 14 i (by omega)]
    exact b2 k i hk
  · rw [ey 0 0 (by omega)]
    exact hF.1
  · intro j hj
    rw [ey 1 j (by omega), ey 2 j (by omega), ey 3 j (by omega), ey 15 j (by omega), ey 16 j (by omega)]
    exact hF.2 j hj
  · intro i hi
    rw [ey 8 i (by omega), ey 10 i (by omega), ey 11 i (by omega), ey 12 i (by omega), ey 13 i (by omega), ey 14 i (by omega)]
    exact hG i hi
  · intro i hi
    rw [ey 7 i (by omega)]
    obtain ⟨n, n1, n2, n3, n4, n5⟩ := hL i hi
    exact ⟨n, n1, n2, n3, fun k hk => ⟨(n4 k hk).1, by rw [ey 6 _ (by omega)]; exact (n4 k hk).2⟩, n5⟩
  · intro i j hi hj
    rw [ey 17 _ (by omega)]
    exact hS i j hi hj
def qEmp (q : Nat → List Nat) (p : Nat) : Nat → List Nat := fun p' => if p' = p then [] else q p'
theorem qEmp_del (q : Nat → List Nat) (p a : Nat) : qEmp (qDel q p a) p = qEmp q p := by
  funext p'
  unfold qEmp qDel
  by_cases h : p' = p
  · rw [if_pos h, if_pos h]
  · rw [if_neg h, if_neg h, if_neg h]
theorem qEmp_nil {q : Nat → List Nat} {p : Nat} (h : q p = []) : qEmp q p = q := by
  funext p'
  unfold qEmp
  by_cases h1 : p' = p
  · rw [if_pos h1, h1, h]
  · rw [if_neg h1]
/-- the reference empties a queue from its head -/
theorem w_drain {E : cE} {p m : Nat} (hp : p < 6) {y0 : T2} : ∀ (n : Nat) (x y : T2) (q : Nat → List Nat) (S : Nat → Prop), wR E x y q m → offR y0 S y → (∀ v, v ∈ q p → ¬ S v) → (q p).length = n →
    ∃ x' y', mDrain p n y y' ∧ wR E x' y' (qEmp q p) m ∧ offR y0 (fun i => S i ∨ i ∈ q p) y' := by
  intro n
  induction n with
  | zero =>
    intro x y q S h ho hd hl
    have hnil : q p = [] := List.length_eq_zero_iff.mp hl
    refine ⟨x, y, ⟨?_, rfl⟩, by rw [qEmp_nil hnil]; exact h, offR_c ho (fun i => ?_)⟩
    · rw [(h.1.1 p hp).2.1, hl]
    · rw [hnil]
      exact ⟨Or.inl, fun c => c.resolve_right (fun d => absurd d List.not_mem_nil)⟩
  | succ n ih =>
    intro x y q S h ho hd hl
    obtain ⟨v, r, hq⟩ : ∃ v r, q p = v :: r := by
      cases hq : q p with
      | nil => rw [hq, List.length_nil] at hl; omega
      | cons v r => exact ⟨v, r, rfl⟩
    have hv : (q p)[0]? = some v := by rw [hq]; rfl
    obtain ⟨g1, g2⟩ := w_off h hp hv
    obtain ⟨k1, k2, k3, k4⟩ := (h.1.1 p hp).2.2 0 v hv
    have hdel : qDel q p 0 p = r := by
      rw [show qDel q p 0 p = (q p).eraseIdx 0 from if_pos rfl, hq]
      rfl
    have hnd : v ∉ r := by
      have := (h.1.1 p hp).1
      rw [hq] at this
      exact (List.nodup_cons.mp this).1
    have hSv : ¬ S v := hd v (by rw [hq]; exact List.mem_cons_self)
    obtain ⟨x', y', a1, a2, a3⟩ := ih (cLeave x v) _ (qDel q p 0) (fun i => S i ∨ i = v) g2 (offR_s ho hSv) (fun u hu c => by
      rw [hdel] at hu
      rcases c with c | c
      · exact hd u (by rw [hq]; exact List.mem_cons_of_mem _ hu) c
      · exact hnd (c ▸ hu)) (by
        rw [hdel]
        rw [hq, List.length_cons] at hl
        omega)
    refine ⟨x', y', ⟨?_, ?_, v, _, k1, k2, g1, a1⟩, by rw [← qEmp_del q p 0]; exact a2, offR_c a3 (fun i => ?_)⟩
    · rw [(h.1.1 p hp).2.1, hl]
    · have := wQ_len h.1.1 hp
      omega
    · rw [hdel, hq, List.mem_cons]
      constructor
      · rintro ((c | c) | c)
        · exact Or.inl c
        · exact Or.inr (Or.inl c)
        · exact Or.inr (Or.inr c)
      · rintro (c | c | c)
        · exact Or.inl (Or.inl c)
        · exact Or.inl (Or.inr c)
        · exact Or.inr c
/-- the class empties it by its visitors' numbers -/
theorem w_emp {E : cE} {p m : Nat} (hp : p < 6) {x y : T2} {q : Nat → List Nat} (h : wR E x y q m) : ∀ n, n ≤ 8 →
    ∃ y' q', wR E (cEmp x p n) y' q' m ∧ (∀ p', p' ≠ p → q' p' = q p') ∧ (∀ v, v ∈ q' p ↔ v ∈ q p ∧ n ≤ v) ∧ (q' p).length + cEmpN x p n = (q p).length ∧ offR y (fun i => i ∈ q p ∧ i < n) y' := by
  intro n
  induction n with
  | zero =>
    intro _
    refine ⟨y, q, h, fun _ _ => rfl, fun v => ⟨fun c => ⟨c, Nat.zero_le _⟩, fun c => c.1⟩, rfl, offR_c (offR_0 y) (fun i => ⟨fun c => c.elim, fun c => absurd c.2 (Nat.not_lt_zero i)⟩)⟩
  | succ n ih =>
    intro hn
    obtain ⟨y', q', h1, h2, h3, h4, h5⟩ := ih (by omega)
    obtain ⟨⟨hQ, hC, hN⟩, ⟨hV, hT, hB⟩, -⟩ := id h1
    by_cases hat : cAt (cEmp x p n) n (nI 1) p = 1
    · have hx := cAt_y (x := cEmp x p n) (i := n) (st := nI 1) (j := p) (by rw [hat]; decide)
      have hmem : n ∈ q' p := (wQ_mem hQ hV hp n).mpr ⟨by omega, (hC n (by omega)).1.symm.trans hx.1, (hC n (by omega)).2.symm.trans hx.2⟩
      obtain ⟨a, ha⟩ := List.getElem?_of_mem hmem
      obtain ⟨-, g2⟩ := w_off h1 hp ha
      have hal := (List.getElem?_eq_some_iff.mp ha).1
      have hq1 : qDel q' p a p = (q' p).eraseIdx a := if_pos rfl
      refine ⟨_, _, by rw [cEmp, if_pos hat]; exact g2, fun p' hp' => ?_, fun v => ?_, ?_, offR_c (offR_s h5 (fun c => absurd c.2 (Nat.lt_irrefl n))) (fun i => ?_)⟩
      · rw [← h2 p' hp']
        exact if_neg hp'
      · rw [wQ_mem g2.1.1 g2.2.1.1 hp v, mOffF_q _ _ _ _ _ _ _ (by decide), mOffF_q _ _ _ _ _ _ _ (by decide), mLeave_8, mLeave_9]
        by_cases hvn : v = n
        · rw [if_pos hvn, if_pos hvn]
          constructor
          · rintro ⟨-, c, -⟩; exact absurd c nI_01
          · rintro ⟨-, c⟩; omega
        · rw [if_neg hvn, if_neg hvn, ← wQ_mem hQ hV hp v, h3 v]
          constructor
          · rintro ⟨c1, c2⟩; exact ⟨c1, by omega⟩
          · rintro ⟨c1, c2⟩; exact ⟨c1, by omega⟩
      · rw [hq1, List.length_eraseIdx, if_pos hal, cEmpN, hat]
        omega
      · have hm9 := ((h3 n).mp hmem).1
        constructor
        · rintro (c | c)
          · exact ⟨c.1, by omega⟩
          · rw [c]; exact ⟨hm9, by omega⟩
        · rintro ⟨c1, c2⟩
          by_cases hin : i = n
          · exact Or.inr hin
          · exact Or.inl ⟨c1, by omega⟩
    · have hat0 := (cAt_01 (cEmp x p n) n (nI 1) p).resolve_right hat
      have hx := cAt_n hat0
      have hmem : n ∉ q' p := fun c => by
        obtain ⟨c1, c2, c3⟩ := (wQ_mem hQ hV hp n).mp c
        exact hx ⟨(hC n c1).1.trans c2, (hC n c1).2.trans c3⟩
      have hmem2 : n ∉ q p := fun c => hmem ((h3 n).mpr ⟨c, Nat.le_refl n⟩)
      refine ⟨y', q', by rw [cEmp, if_neg hat]; exact h1, h2, fun v => ?_, by rw [cEmpN, hat0]; exact h4, offR_c h5 (fun i => ?_)⟩
      · rw [h3 v]
        constructor
        · rintro ⟨c1, c2⟩
          have : v ≠ n := fun e => hmem2 (e ▸ c1)
          exact ⟨c1, by omega⟩
        · rintro ⟨c1, c2⟩; exact ⟨c1, by omega⟩
      · constructor
        · rintro ⟨c1, c2⟩; exact ⟨c1, by omega⟩
        · rintro ⟨c1, c2⟩
          have : i ≠ n := fun e => hmem2 (e ▸ c1)
          exact ⟨c1, by omega⟩
/-- closing: both empty the queue, count alike and stay in relation -/
theorem w_close {E : cE} {x y : T2} {q : Nat → List Nat} {m p : Nat} (hp : p < 6) (h : wR E x y q m) : ∃ y', mDrain p (q p).length y y' ∧ wR E (cEmp x p 8) y' (qEmp q p) m ∧ cEmpN x p 8 = (q p).length ∧ ∀ f i, f ≠ 4 ∧ f ≠ 5 ∧ f ≠ 8 ∧ f ≠ 9 ∧ f ≠ 12 ∧ f ≠ 14 → y' f i = y f i := by
  obtain ⟨x', y', a1, a2, a3⟩ := w_drain hp (q p).length x y q (fun _ => False) h (offR_0 y) (fun _ _ c => c) rfl
  obtain ⟨y2, q2, b1, b2, b3, b4, b5⟩ := w_emp hp h 8 (Nat.le_refl 8)
  have hn : q2 p = [] := by
    cases hq : q2 p with
    | nil => rfl
    | cons v r =>
      have c := (b3 v).mp (by rw [hq]; exact List.mem_cons_self)
      have := ((wQ_mem h.1.1 h.2.1.1 hp v).mp c.1).1
      omega
  have e : q2 = qEmp q p := by
    funext p'
    unfold qEmp
    by_cases h1 : p' = p
    · rw [if_pos h1, h1, hn]
    · rw [if_neg h1, b2 p' h1]
  rw [e] at b1
  refine ⟨y', a1, w_rows b1 a2.1.1 (fun f i hf => offR_eq (offR_c a3 (fun i => ?_)) b5 hf i), ?_, a3.2⟩
  · constructor
    · intro c
      have c2 := c.resolve_left id
      exact ⟨c2, ((wQ_mem h.1.1 h.2.1.1 hp i).mp c2).1⟩
    · intro c; exact Or.inr c.1
  · rw [hn, List.length_nil] at b4
    omega
theorem w_clo {E : cE} {x y : T2} {q : Nat → List Nat} {m : Nat} (h : wR E x y q m) (p : Nat) : wR E (up2 x 3 p (nI 0)) (up2 (up2 y 18 0 (nI 0)) 3 p (nI 1)) q m := by
  have hF := h.2.2.1.1
  refine w_pav h (fun f i hf => by rw [up2_k _ _ _ _ (by omega), up2_k _ _ _ _ (by omega)]) (fun f i hf => by rw [up2_k _ _ _ _ (by omega)]) (fun j hj => ?_)
  obtain ⟨g1, g2, g3, g4, g5⟩ := hF.2 j hj
  by_cases h1 : j = p
  · subst h1
    refine ⟨?_, ?_, ?_, ?_, ?_⟩ <;> simp [up2, g1, g2, g4, g5]
  · refine ⟨?_, ?_, ?_, ?_, ?_⟩ <;> simp [up2, h1, g1, g2, g3, g4, g5]

theorem cIdx_n {E : cE} {i j : Nat} : ∀ (n k : Nat), (∀ t, k ≤ t → t < k + n → ePc E i t ≠ j) → cIdx E i j n k = -1
  | 0, _, _ => rfl
  | n + 1, k, h => by
    rw [cIdx, if_neg (h k (Nat.le_refl k) (by omega))]
    exact cIdx_n n (k + 1) (fun t h1 h2 => h t (by omega) (by omega))
theorem cIdx_y {E : cE} {i j a : Nat} (ha : ePc E i a = j) : ∀ (n k : Nat), k ≤ a → a < k + n → (∀ t, k ≤ t → t < a → ePc E i t ≠ j) → cIdx E i j n k = nI a
  | 0, k, h1, h2, _ => by omega
  | n + 1, k, h1, h2, h => by
    by_cases hk : k = a
    · rw [cIdx, hk, if_pos ha]
    · rw [cIdx, if_neg (h k (Nat.le_refl k) (by omega))]
      exact cIdx_y ha n (k + 1) (by omega) (by omega) (fun t g1 g2 => h t (by omega) g2)
theorem mLastP_n {y : T2} {v p : Nat} : ∀ n, (∀ t, t < n → ¬ y 6 (6 * v + t) = nI p) → mLastP y v p n = -1
  | 0, _ => rfl
  | n + 1, h => by
    rw [mLastP, if_neg (h n (by omega))]
    exact mLastP_n n (fun t ht => h t (by omega))
theorem mLastP_y {y : T2} {v p a : Nat} (ha : y 6 (6 * v + a) = nI p) : ∀ n, a < n → (∀ t, a < t → t < n → ¬ y 6 (6 * v + t) = nI p) → mLastP y v p n = nI a
  | 0, h, _ => by omega
  | n + 1, h1, h => by
    by_cases hn : n = a
    · rw [mLastP, hn, if_pos ha]
    · rw [mLastP, if_neg (h n (by omega) (by omega))]
      exact mLastP_y ha n (by omega) (fun t g1 g2 => h t g1 (by omega))
/-- a pavilion in a plan, or not: both sides find the same -/
theorem w_idx {E : cE} {x y : T2} (hL : wL E x y) {v p : Nat} (hv : v < 8) (hp : p < 6) : ∃ n, n ≤ 6 ∧ y 7 v = nI n ∧ x 15 v = nI n ∧ (∀ k, k < n → ePc E v k < 6) ∧ (n = 0 ∨ v ∈ eLP E) ∧ (v ∈ eLP E ∨ (n = 0 ∧ v ∉ eLP E ∧ eEd E v = eDf E)) ∧
    ((n ≤ 5 ∧ cIdx E v p n 0 = -1 ∧ mLastP y v p n = -1 ∧ ∀ k, k < n → ePc E v k ≠ p) ∨ (∃ a, a < n ∧ ePc E v a = p ∧ cIdx E v p n 0 = nI a ∧ mLastP y v p n = nI a)) := by
  obtain ⟨n, n1, n2, n3, n4, n5, n6⟩ := hL v hv
  refine ⟨n, n1, n2, n3, fun k hk => (n4 k hk).1, ?_, n6, ?_⟩
  · rcases n6 with c | c
    · exact Or.inr c
    · exact Or.inl c.1
  · by_cases hc : ∃ a, a < n ∧ ePc E v a = p
    · obtain ⟨a, a1, a2⟩ := hc
      refine Or.inr ⟨a, a1, a2, cIdx_y a2 n 0 (Nat.zero_le _) (by omega) (fun t _ ht e => n5 t a ht a1 (e.trans a2.symm)), mLastP_y (by rw [(n4 a a1).2, a2]) n a1 (fun t t1 t2 e => ?_)⟩
      rw [(n4 t t2).2] at e
      exact n5 a t t1 t2 (a2.trans (nI_inj (by have := (n4 t t2).1; omega) (by omega) e).symm)
    · have hne : ∀ k, k < n → ePc E v k ≠ p := fun k hk e => hc ⟨k, hk, e⟩
      refine Or.inl ⟨?_, cIdx_n n 0 (fun t _ ht => hne t (by omega)), mLastP_n n (fun t ht e => ?_), hne⟩
      · have hd : (p :: (List.range n).map (ePc E v)).Nodup := by
          refine List.nodup_cons.mpr ⟨fun hm => ?_, List.pairwise_iff_getElem.mpr (fun i j hi hj hij => ?_)⟩
          · obtain ⟨k, k1, k2⟩ := List.mem_map.mp hm
            exact hne k (List.mem_range.mp k1) k2
          · rw [List.length_map, List.length_range] at hi hj
            rw [List.getElem_map, List.getElem_map, List.getElem_range, List.getElem_range]
            exact n5 i j hij hj
        have := nodup_len 6 _ hd (fun z hz => by
          rcases List.mem_cons.mp hz with e | e
          · rw [e]; exact hp
          · obtain ⟨k, k1, k2⟩ := List.mem_map.mp e
            rw [← k2]; exact (n4 k (List.mem_range.mp k1)).1)
        rw [List.length_cons, List.length_map, List.length_range] at this
        omega
      · rw [(n4 t ht).2] at e
        exact hne t ht (nI_inj (by have := (n4 t ht).1; omega) (by omega) e)
/-- a plan changes -/
theorem w_pl {E E' : cE} {x y x' y' : T2} {q : Nat → List Nat} {m : Nat} (h : wR E x y q m) (hS9 : eS E' = eS E) (ey : ∀ f i, f < 6 ∨ (7 < f ∧ f < 18) → y' f i = y f i) (ex : ∀ f i, f < 14 → x' f i = x f i) (hl : wL E' x' y') : wR E' x' y' q m := by
  obtain ⟨⟨hQ, hC, hN⟩, ⟨hV, hT, hB⟩, ⟨hF, hG⟩, hL, hS⟩ := h
  refine ⟨⟨?_, ?_, ?_⟩, ⟨?_, ?_, ?_⟩, ⟨⟨?_, ?_⟩, ?_⟩, hl, ?_⟩
  · exact wQ_c hQ (fun i => ⟨ey 4 i (by omega), ey 5 i (by omega), ey 8 i (by omega), ey 9 i (by omega)⟩)
  · intro i hi
    rw [ex 6 i (by omega), ex 7 i (by omega), ey 8 i (by omega), ey 9 i (by omega)]
    exact hC i hi
  · intro p hp k i hk
    rw [ex 8 i (by omega)]
    exact hN p hp k i hk
  · intro i hi
    rw [ey 8 i (by omega), ey 9 i (by omega)]
    exact hV i hi
  · intro i hi
    rw [ey 14 i (by omega), ey 8 i (by omega), ey 12 i (by omega), ey 13 i (by omega)]
    exact hT i hi
  · intro p hp
    obtain ⟨b, b1, b2⟩ := hB p hp
    refine ⟨b, b1, fun k i hk => ?_⟩
    rw [ey 14 i (by omega)]
    exact b2 k i hk
  · rw [ex 0 0 (by omega), ey 0 0 (by omega)]
    exact hF.1
  · intro j hj
    rw [ex 1 j (by omega), ex 2 j (by omega), ex 3 j (by omega), ex 4 j (by omega), ex 5 j (by omega), ey 1 j (by omega), ey 2 j (by omega), ey 3 j (by omega), ey 15 j (by omega), ey 16 j (by omega)]
    exact hF.2 j hj
  · intro i hi
    rw [ex 8 i (by omega), ex 9 i (by omega), ex 10 i (by omega), ex 11 i (by omega), ex 12 i (by omega), ex 13 i (by omega), ey 8 i (by omega), ey 10 i (by omega), ey 11 i (by omega), ey 12 i (by omega), ey 13 i (by omega), ey 14 i (by omega)]
    exact hG i hi
  · intro i j hi hj
    rw [ey 17 _ (by omega), hS9]
    exact hS i j hi hj
def wNew (E : cE) (ed : Nat → Nat) (LP : List Nat) (v : Nat) : Prop := v ∈ LP ∧ ∀ i, i ≠ v → (i ∈ LP ↔ i ∈ eLP E) ∧ ed i = eEd E i
theorem w_plan {E : cE} {x y : T2} {q : Nat → List Nat} {m : Nat} (h : wR E x y q m) {v p n : Nat} (hv : v < 8) (hp : p < 6) (hn : n ≤ 5) (h7 : y 7 v = nI n) (hne : ∀ k, k < n → ePc E v k ≠ p) {ed : Nat → Nat} {LP : List Nat} (hw : wNew E ed LP v) :
    wR (eSetP E (pcAdd (ePc E) v n p) ed LP) (xLen x v (n + 1)) (up2 (up2 (up2 y 18 0 (nI 0)) 6 (6 * v + n) (nI p)) 7 v (nI (n + 1))) q m := by
  refine w_pl h rfl (fun f i hf => ?_) (fun f i hf => xLen_o (by omega) (by omega)) (fun i hi => ?_)
  · rw [up2_k _ _ _ _ (by omega), up2_k _ _ _ _ (by omega), up2_k _ _ _ _ (by omega)]
  · obtain ⟨n', n1, n2, n3, n4, n5, n6⟩ := h.2.2.2.1 i hi
    have hpc : ePc (eSetP E (pcAdd (ePc E) v n p) ed LP) = pcAdd (ePc E) v n p := rfl
    have hlp : eLP (eSetP E (pcAdd (ePc E) v n p) ed LP) = LP := rfl
    have hed : eEd (eSetP E (pcAdd (ePc E) v n p) ed LP) = ed := rfl
    have hdf : eDf (eSetP E (pcAdd (ePc E) v n p) ed LP) = eDf E := rfl
    rw [hpc, hlp, hed, hdf]
    by_cases hiv : i = v
    · subst hiv
      have hnn : n' = n := nI_inj (by omega) (by omega) (n2.symm.trans h7)
      subst hnn
      have hg : ∀ k, pcAdd (ePc E) i n' p i k = if k = n' then p else ePc E i k := fun k => by
        unfold pcAdd
        rw [if_pos rfl]
      refine ⟨n' + 1, by omega, up2_s _ _ _ _, xLen_15, fun k hk => ?_, fun a b hab hb => ?_, Or.inl hw.1⟩
      · rw [hg k, up2_k _ _ _ _ (by decide)]
        by_cases hkn : k = n'
        · rw [if_pos hkn, hkn, up2_s]
          exact ⟨hp, rfl⟩
        · rw [if_neg hkn, up2_n _ _ _ _ (by omega), up2_k _ _ _ _ (by decide)]
          exact n4 k (by omega)
      · rw [hg a, hg b, if_neg (by omega)]
        by_cases hbn : b = n'
        · rw [if_pos hbn]
          exact hne a (by omega)
        · rw [if_neg hbn]
          exact n5 a b hab (by omega)
    · have hg : pcAdd (ePc E) v n p i = ePc E i := by
        unfold pcAdd
        rw [if_neg hiv]
      rw [hg, (xLen_n hiv).2, up2_n _ _ _ _ hiv, up2_k _ _ _ _ (by decide), up2_k _ _ _ _ (by decide)]
      refine ⟨n', n1, n2, n3, fun k hk => ?_, n5, ?_⟩
      · rw [up2_k _ _ _ _ (by decide), up2_n _ _ _ _ (by omega), up2_k _ _ _ _ (by decide)]
        exact n4 k hk
      · rw [(hw.2 i hiv).1, (hw.2 i hiv).2]
        exact n6
theorem mDs_6 (y : T2) (v w a k i : Nat) : mDs y v w a k 6 i = if 6 * v + a ≤ i ∧ i < 6 * v + k then y 6 (i + 1) else y 6 i := by
  unfold mDs upA up2
  simp
theorem mDs_7n (y : T2) (v w a k i : Nat) : mDs y v w a k 7 i = if i = v then nI (w - 1) else y 7 i := by
  unfold mDs upA up2
  simp
theorem mDs_o (y : T2) (v w a k f i : Nat) (h : f ≠ 6 ∧ f ≠ 7) : mDs y v w a k f i = y f i := by
  unfold mDs upA up2
  simp [h.1, h.2]
theorem w_drop1 {E : cE} {x y : T2} {q : Nat → List Nat} {m : Nat} (h : wR E x y q m) {v n a : Nat} (hv : v < 8) (ha : a < n) (hn6 : n ≤ 6) (h7 : y 7 v = nI n) : wR (eSetP E (pcDel (ePc E) v a) (eEd E) (eLP E)) (xLen x v (n - 1)) (mDs (up2 y 18 0 (nI 0)) v n a (n - 1)) q m := by
  refine w_pl h rfl (fun f i hf => ?_) (fun f i hf => xLen_o (by omega) (by omega)) (fun i hi => ?_)
  · rw [mDs_o _ _ _ _ _ _ _ (by omega), up2_k _ _ _ _ (by omega)]
  · obtain ⟨n', n1, n2, n3, n4, n5, n6⟩ := h.2.2.2.1 i hi
    have hpc : ePc (eSetP E (pcDel (ePc E) v a) (eEd E) (eLP E)) = pcDel (ePc E) v a := rfl
    have hlp : eLP (eSetP E (pcDel (ePc E) v a) (eEd E) (eLP E)) = eLP E := rfl
    have hed : eEd (eSetP E (pcDel (ePc E) v a) (eEd E) (eLP E)) = eEd E := rfl
    have hdf : eDf (eSetP E (pcDel (ePc E) v a) (eEd E) (eLP E)) = eDf E := rfl
    rw [hpc, hlp, hed, hdf, mDs_7n]
    by_cases hiv : i = v
    · subst hiv
      have hnn : n' = n := nI_inj (by omega) (by omega) (n2.symm.trans h7)
      subst hnn
      have hg : ∀ k, pcDel (ePc E) i a i k = if k < a then ePc E i k else ePc E i (k + 1) := fun k => by
        unfold pcDel
        rw [if_pos rfl]
      refine ⟨n' - 1, by omega, if_pos rfl, xLen_15, fun k hk => ?_, fun c b hcb hb => ?_, ?_⟩
      · rw [hg k, mDs_6, up2_k _ _ _ _ (by decide), up2_k _ _ _ _ (by decide)]
        by_cases hka : k < a
        · rw [if_pos hka, if_neg (by omega)]
          exact n4 k (by omega)
        · rw [if_neg hka, if_pos (by omega)]
          exact n4 (k + 1) (by omega)
      · rw [hg c, hg b]
        by_cases hca : c < a
        · rw [if_pos hca]
          by_cases hba : b < a
          · rw [if_pos hba]; exact n5 c b hcb (by omega)
          · rw [if_neg hba]; exact n5 c (b + 1) (by omega) (by omega)
        · rw [if_neg hca, if_neg (by omega)]
          exact n5 (c + 1) (b + 1) (by omega) (by omega)
      · rcases n6 with c | c
        · exact Or.inl c
        · omega
    · have hg : pcDel (ePc E) v a i = ePc E i := by
        unfold pcDel
        rw [if_neg hiv]
      rw [hg, (xLen_n hiv).2, if_neg hiv, up2_k _ _ _ _ (by decide)]
      refine ⟨n', n1, n2, n3, fun k hk => ?_, n5, n6⟩
      rw [mDs_6, if_neg (by omega), up2_k _ _ _ _ (by decide)]
      exact n4 k hk
/-- dropping: who waits there and not by a turn leaves -/
theorem w_drop {E : cE} {x y : T2} {q : Nat → List Nat} {m : Nat} (h : wR E x y q m) {v p n a : Nat} (hv : v < 8) (hp : p < 6) (ha : a < n) (hn6 : n ≤ 6) (h7 : y 7 v = nI n) : ∃ y' q', mDropR (mDs (up2 y 18 0 (nI 0)) v n a (n - 1)) v p n y' ∧ wR (eSetP E (pcDel (ePc E) v a) (eEd E) (eLP E)) (cDropX x v p n) y' q' m ∧ ∀ f i, f < 4 ∨ f = 18 → y' f i = up2 y 18 0 (nI 0) f i := by
  have h1 := w_drop1 h hv ha hn6 h7
  have hy : ∀ f i, f < 4 ∨ f = 18 → mDs (up2 y 18 0 (nI 0)) v n a (n - 1) f i = up2 y 18 0 (nI 0) f i := fun f i hf => mDs_o _ _ _ _ _ _ _ (by omega)
  have hC := h1.1.2.1 v hv
  have h13 := (h1.2.2.1.2 v hv).2.2.2.2.1
  generalize hy1 : mDs (up2 y 18 0 (nI 0)) v n a (n - 1) = y1 at *
  unfold cDropX
  by_cases hc : cAt (xLen x v (n - 1)) v (nI 1) p = 1 ∧ xLen x v (n - 1) 13 v = nI 0
  · have hx := cAt_y (x := xLen x v (n - 1)) (i := v) (st := nI 1) (j := p) (by rw [hc.1]; decide)
    have hmem : v ∈ q p := (wQ_mem h1.1.1 h1.2.1.1 hp v).mpr ⟨hv, hC.1.symm.trans hx.1, hC.2.symm.trans hx.2⟩
    obtain ⟨b, hb⟩ := List.getElem?_of_mem hmem
    obtain ⟨-, g2⟩ := w_off h1 hp hb
    obtain ⟨g3, -⟩ := w_leave h1.1.1 hp hb
    have h14 : y1 14 v = nI 0 := h13.symm.trans hc.2
    have he : mOffF y1 v p (q p).length b = mLeave y1 v p (q p).length b := by
      unfold mOffF
      rw [if_pos h14]
    rw [he] at g2
    refine ⟨_, _, Or.inl ⟨hC.1.symm.trans hx.1, hC.2.symm.trans hx.2, h14, g3⟩, by rw [if_pos hc]; exact g2, fun f i hf => ?_⟩
    rw [mLeave_o _ _ _ _ _ _ _ (by omega)]
    exact hy f i hf
  · refine ⟨y1, q, Or.inr ⟨?_, rfl⟩, by rw [if_neg hc]; exact h1, hy⟩
    by_cases h8 : y1 8 v = nI 1
    · by_cases h9 : y1 9 v = nI p
      · refine Or.inr (Or.inr (fun h14 => hc ⟨cAt_1 ⟨hC.1.trans h8, hC.2.trans h9⟩, h13.trans h14⟩))
      · exact Or.inr (Or.inl h9)
    · exact Or.inl h8
/-- a card is sent -/
theorem w_card {E : cE} {x y : T2} {q : Nat → List Nat} {m : Nat} (h : wR E x y q m) {v p : Nat} (hv : v < 8) (hp : p < 6) : wR (eSetS E (up2 (eS E) v p (eS E v p + nI 1))) (up2 x 4 p (x 4 p - nI 1)) (up2 (up2 (up2 y 18 0 (nI 0)) 15 p (y 15 p - nI 1)) 17 (6 * v + p) (y 17 (6 * v + p) + nI 1)) q m := by
  have hF := h.2.2.1.1
  have h1 : wR E (up2 x 4 p (x 4 p - nI 1)) (up2 (up2 y 18 0 (nI 0)) 15 p (y 15 p - nI 1)) q m := by
    refine w_pav h (fun f i hf => by rw [up2_k _ _ _ _ (by omega), up2_k _ _ _ _ (by omega)]) (fun f i hf => by rw [up2_k _ _ _ _ (by omega)]) (fun j hj => ?_)
    obtain ⟨g1, g2, g3, g4, g5⟩ := hF.2 j hj
    by_cases h1 : j = p
    · subst h1
      refine ⟨?_, ?_, ?_, ?_, ?_⟩ <;> simp [up2, g1, g2, g3, g4, g5]
    · refine ⟨?_, ?_, ?_, ?_, ?_⟩ <;> simp [up2, h1, g1, g2, g3, g4, g5]
  obtain ⟨⟨hQ, hC, hN⟩, ⟨hV, hT, hB⟩, ⟨hF1, hG⟩, hL, hS⟩ := h1
  have e17 : ∀ f i, f ≠ 17 → up2 (up2 (up2 y 18 0 (nI 0)) 15 p (y 15 p - nI 1)) 17 (6 * v + p) (y 17 (6 * v + p) + nI 1) f i = up2 (up2 y 18 0 (nI 0)) 15 p (y 15 p - nI 1) f i := fun f i hf => up2_k _ _ _ _ hf
  have e18 : ∀ i, up2 (up2 y 18 0 (nI 0)) 15 p (y 15 p - nI 1) 17 i = y 17 i := fun i => by rw [up2_k _ _ _ _ (by decide), up2_k _ _ _ _ (by decide)]
  have hS0 := h.2.2.2.2
  generalize hyy : up2 (up2 y 18 0 (nI 0)) 15 p (y 15 p - nI 1) = y1 at *
  clear hyy hF h
  have hS9 : wS (eSetS E (up2 (eS E) v p (eS E v p + nI 1))) (up2 y1 17 (6 * v + p) (y 17 (6 * v + p) + nI 1)) := by
    intro i j hi hj
    show up2 (eS E) v p (eS E v p + nI 1) i j = _
    by_cases hij : i = v ∧ j = p
    · rw [hij.1, hij.2, up2_s, up2_s, hS0 v p hv hp]
    · rw [up2_n _ _ _ _ (show ¬ 6 * i + j = 6 * v + p from by omega), e18, ← hS0 i j hi hj]
      by_cases hiv : i = v
      · rw [hiv, up2_n _ _ _ _ (by omega)]
      · rw [up2_k _ _ _ _ hiv]
  refine ⟨⟨wQ_c hQ (fun i => ⟨e17 4 i (by omega), e17 5 i (by omega), e17 8 i (by omega), e17 9 i (by omega)⟩), fun i hi => ?_, hN⟩, ⟨fun i hi => ?_, fun i hi => ?_, fun p' hp' => ?_⟩, ⟨⟨?_, fun j hj => ?_⟩, fun i hi => ?_⟩, fun i hi => ?_, hS9⟩
  · rw [e17 8 i (by omega), e17 9 i (by omega)]
    exact hC i hi
  · rw [e17 8 i (by omega), e17 9 i (by omega)]
    exact hV i hi
  · rw [e17 14 i (by omega), e17 8 i (by omega), e17 12 i (by omega), e17 13 i (by omega)]
    exact hT i hi
  · obtain ⟨b, b1, b2⟩ := hB p' hp'
    refine ⟨b, b1, fun k i hk => ?_⟩
    rw [e17 14 i (by omega)]
    exact b2 k i hk
  · rw [e17 0 0 (by omega)]
    exact hF1.1
  · rw [e17 1 j (by omega), e17 2 j (by omega), e17 3 j (by omega), e17 15 j (by omega), e17 16 j (by omega)]
    exact hF1.2 j hj
  · rw [e17 8 i (by omega), e17 10 i (by omega), e17 11 i (by omega), e17 12 i (by omega), e17 13 i (by omega), e17 14 i (by omega)]
    exact hG i hi
  · rw [e17 7 i (by omega)]
    obtain ⟨n, n1, n2, n3, n4, n5⟩ := hL i hi
    exact ⟨n, n1, n2, n3, fun k hk => ⟨(n4 k hk).1, by rw [e17 6 _ (by omega)]; exact (n4 k hk).2⟩, n5⟩
/-- one pavilion's cards are printed again -/
theorem w_rep1 {E : cE} {x y : T2} {q : Nat → List Nat} {m : Nat} (h : wR E x y q m) (p : Nat) : wR E (up2 (up2 x 4 p (x 4 p + x 5 p)) 5 p (nI 0)) (up2 (up2 y 15 p (y 15 p + y 16 p)) 16 p (nI 0)) q m := by
  have hF := h.2.2.1.1
  refine w_pav h (fun f i hf => by rw [up2_k _ _ _ _ (by omega), up2_k _ _ _ _ (by omega)]) (fun f i hf => by rw [up2_k _ _ _ _ (by omega), up2_k _ _ _ _ (by omega)]) (fun j hj => ?_)
  obtain ⟨g1, g2, g3, g4, g5⟩ := hF.2 j hj
  by_cases h1 : j = p
  · subst h1
    refine ⟨?_, ?_, ?_, ?_, ?_⟩ <;> simp [up2, g1, g2, g3, g4, g5]
  · refine ⟨?_, ?_, ?_, ?_, ?_⟩ <;> simp [up2, h1, g1, g2, g3, g4, g5]
theorem w_rep {E : cE} {x y : T2} {q : Nat → List Nat} {m : Nat} (h : wR E x y q m) (t : Int32) : ∀ n, n ≤ 6 → wR E (cRepX x t n) (mRepY y t n) q m ∧ cRepV x t n = mRepV y t n ∧ ∀ f i, f ≠ 15 ∧ f ≠ 16 → mRepY y t n f i = y f i
  | 0, _ => ⟨h, rfl, fun _ _ _ => rfl⟩
  | n + 1, hn => by
    obtain ⟨h1, h2, h3⟩ := w_rep h t n (by omega)
    have e := (h1.2.2.1.1.2 n (by omega)).2.2.2.2
    rw [cRepX, mRepY, cRepV, mRepV, e, h2]
    by_cases hc : mRepY y t n 16 n < t
    · rw [if_pos hc, if_pos hc, if_pos hc]
      exact ⟨h1, rfl, h3⟩
    · rw [if_neg hc, if_neg hc, if_neg hc]
      have h5 := w_rep1 h1 n
      rw [e] at h5
      refine ⟨h5, rfl, fun f i hf => ?_⟩
      rw [up2_k _ _ _ _ (by omega), up2_k _ _ _ _ (by omega)]
      exact h3 f i hf

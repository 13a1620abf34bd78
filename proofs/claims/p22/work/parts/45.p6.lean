/-- so many below n are P -/
theorem cnt_of {c : Nat → Nat} {P : Nat → Prop} (h0 : c 0 = 0) (hs : ∀ k, (P k ∧ c (k + 1) = c k + 1) ∨ (¬ P k ∧ c (k + 1) = c k)) : ∀ (n : Nat) (l : List Nat), l.Nodup → (∀ x, x ∈ l ↔ x < n ∧ P x) → l.length = c n := by
  intro n
  induction n with
  | zero =>
    intro l _ h
    cases l with
    | nil => exact h0.symm
    | cons a r => exact absurd ((h a).mp List.mem_cons_self).1 (Nat.not_lt_zero a)
  | succ n ih =>
    intro l hl h
    rcases hs n with ⟨g1, g2⟩ | ⟨g1, g2⟩
    · have hm : n ∈ l := (h n).mpr ⟨by omega, g1⟩
      have h1 := ih (l.erase n) (hl.erase n) (fun x => by
        rw [hl.mem_erase_iff, h x]
        constructor
        · rintro ⟨a1, a2, a3⟩; exact ⟨by omega, a3⟩
        · rintro ⟨a1, a2⟩; exact ⟨by omega, by omega, a2⟩)
      have h2 := List.length_erase_of_mem hm
      have h3 : 0 < l.length := List.length_pos_of_mem hm
      omega
    · rw [g2]
      exact ih l hl (fun x => by
        rw [h x]
        constructor
        · rintro ⟨a1, a2⟩
          have : x ≠ n := fun e => g1 (e ▸ a2)
          exact ⟨by omega, a2⟩
        · rintro ⟨a1, a2⟩; exact ⟨by omega, a2⟩)
theorem wQ_mem {y : T2} {q : Nat → List Nat} (hQ : wQ y q) (hV : wV y q) {p : Nat} (hp : p < 6) (v : Nat) : v ∈ q p ↔ v < 8 ∧ y 8 v = nI 1 ∧ y 9 v = nI p := by
  constructor
  · intro h
    obtain ⟨k, hk⟩ := List.getElem?_of_mem h
    obtain ⟨g1, -, g3, g4⟩ := (hQ p hp).2.2 k v hk
    exact ⟨g1, g3, g4⟩
  · rintro ⟨h1, h2, h3⟩
    rcases hV v h1 with g | ⟨-, p', g2, g3, g4⟩ | g
    · exact absurd (g.1.symm.trans h2) nI_01
    · have : p' = p := nI_inj (by omega) (by omega) (g3.symm.trans h3)
      rw [← this]; exact g4
    · exact absurd (h2.symm.trans g.1) nI_12
theorem cAt_1 {x : T2} {i j : Nat} {st : Int32} (h : x 6 i = st ∧ x 7 i = nI j) : cAt x i st j = 1 := if_pos h
theorem cAt_0 {x : T2} {i j : Nat} {st : Int32} (h : ¬ (x 6 i = st ∧ x 7 i = nI j)) : cAt x i st j = 0 := if_neg h
/-- how many wait, by the class's count -/
theorem w_cnt {E : cE} {x y : T2} {q : Nat → List Nat} {m : Nat} (h : wR E x y q m) {p : Nat} (hp : p < 6) : cCnt x (nI 1) p 8 = (q p).length := by
  obtain ⟨⟨hQ, hC, hN⟩, ⟨hV, hT, hB⟩, -⟩ := h
  refine (cnt_of (c := cCnt x (nI 1) p) (P := fun v => x 6 v = nI 1 ∧ x 7 v = nI p) rfl (fun k => ?_) 8 (q p) (hQ p hp).1 (fun v => ?_)).symm
  · by_cases hk : x 6 k = nI 1 ∧ x 7 k = nI p
    · exact Or.inl ⟨hk, by rw [cCnt, cAt_1 hk]⟩
    · exact Or.inr ⟨hk, by rw [cCnt, cAt_0 hk, Nat.add_zero]⟩
  · rw [wQ_mem hQ hV hp]
    constructor
    · rintro ⟨a1, a2, a3⟩; exact ⟨a1, (hC v a1).1.trans a2, (hC v a1).2.trans a3⟩
    · rintro ⟨a1, a2, a3⟩; exact ⟨a1, (hC v a1).1.symm.trans a2, (hC v a1).2.symm.trans a3⟩
/-- how many are inside: both count alike -/
theorem w_ins {x y : T2} (hC : wC x y) (p : Nat) : ∀ n, n ≤ 8 → cCnt x (nI 2) p n = mIns y p n
  | 0, _ => rfl
  | n + 1, h => by
    rw [cCnt, mIns, w_ins hC p n (by omega)]
    unfold cAt
    rw [(hC n (by omega)).1, (hC n (by omega)).2]
/-- the place behind those who wait by a turn: the reference's -/
theorem w_at {y : T2} {q : Nat → List Nat} (hQ : wQ y q) {p b : Nat} (hp : p < 6) (hb : b ≤ (q p).length) (h01 : ∀ v, v < 8 → y 14 v = nI 0 ∨ y 14 v = nI 1) (h : ∀ k v : Nat, (q p)[k]? = some v → (y 14 v = nI 1 ↔ k < b)) : ∀ n a, a + n = (q p).length → a ≤ b → mAtR y p n a b
  | 0, a, h1, h2 => (show b = a by omega)
  | n + 1, a, h1, h2 => by
    have ha : a < (q p).length := by omega
    obtain ⟨g1, g2, -⟩ := (hQ p hp).2.2 a _ (List.getElem?_eq_getElem ha)
    refine ⟨_, g1, g2, ?_⟩
    rcases Nat.lt_or_ge a b with hab | hab
    · exact Or.inr ⟨(h a _ (List.getElem?_eq_getElem ha)).mpr hab, w_at hQ hp hb h01 h n (a + 1) (by omega) (by omega)⟩
    · refine Or.inl ⟨(h01 _ g1).resolve_right (fun c => ?_), by omega⟩
      have := (h a _ (List.getElem?_eq_getElem ha)).mp c
      omega
/-- .. and the class's -/
theorem w_bt {E : cE} {x y : T2} {q : Nat → List Nat} {m : Nat} (h : wR E x y q m) {p b : Nat} (hp : p < 6) (hb : b ≤ (q p).length) (hbb : ∀ k v : Nat, (q p)[k]? = some v → (y 14 v = nI 1 ↔ k < b)) : cBt x p 8 = b := by
  obtain ⟨⟨hQ, hC, hN⟩, ⟨hV, hT, hB⟩, ⟨hF, hG⟩, -⟩ := h
  have h1 := cnt_of (c := cBt x p) (P := fun v => x 6 v = nI 1 ∧ x 7 v = nI p ∧ ¬ x 13 v = nI 0) rfl (fun k => by
    by_cases hk : x 6 k = nI 1 ∧ x 7 k = nI p ∧ ¬ x 13 k = nI 0
    · exact Or.inl ⟨hk, by rw [cBt, if_pos hk]⟩
    · exact Or.inr ⟨hk, by rw [cBt, if_neg hk, Nat.add_zero]⟩) 8 ((q p).take b) ((hQ p hp).1.sublist (List.take_sublist _ _)) (fun v => ?_)
  · rw [← h1, List.length_take]
    omega
  · constructor
    · intro hm
      obtain ⟨k, hk⟩ := List.getElem?_of_mem hm
      have hkb : k < b := by
        have := (List.getElem?_eq_some_iff.mp hk).1
        rw [List.length_take] at this
        omega
      rw [List.getElem?_take, if_pos hkb] at hk
      obtain ⟨g1, -, g3, g4⟩ := (hQ p hp).2.2 k v hk
      exact ⟨g1, (hC v g1).1.trans g3, (hC v g1).2.trans g4, fun c => by
        rw [(hG v g1).2.2.2.2.1, (hbb k v hk).mpr hkb] at c
        exact nI_01 c.symm⟩
    · rintro ⟨a1, a2, a3, a4⟩
      obtain ⟨k, hk⟩ := List.getElem?_of_mem ((wQ_mem hQ hV hp v).mpr ⟨a1, (hC v a1).1.symm.trans a2, (hC v a1).2.symm.trans a3⟩)
      have h14 : y 14 v = nI 1 := ((hT v a1).1.resolve_left (fun c => a4 ((hG v a1).2.2.2.2.1.trans c))).1
      exact List.mem_of_getElem? (i := k) (by rw [List.getElem?_take, if_pos ((hbb k v hk).mp h14)]; exact hk)

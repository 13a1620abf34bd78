/-! the pure part: the class's table against the reference's, over queues told as lists -/
abbrev T2 : Type := Nat → Nat → Int32
theorem nI_inj {a b : Nat} (ha : a < 2 ^ 31) (hb : b < 2 ^ 31) (h : nI a = nI b) : a = b := (nI_eq ha hb).mp h
theorem nodup_ix {l : List Nat} (h : l.Nodup) {i j v : Nat} (hi : l[i]? = some v) (hj : l[j]? = some v) : i = j := by
  obtain ⟨i1, i2⟩ := List.getElem?_eq_some_iff.mp hi
  obtain ⟨j1, j2⟩ := List.getElem?_eq_some_iff.mp hj
  have hp := List.pairwise_iff_getElem.mp h
  rcases Nat.lt_trichotomy i j with h1 | h1 | h1
  · exact absurd (i2.trans j2.symm) (hp i j i1 j1 h1)
  · exact h1
  · exact absurd (j2.trans i2.symm) (hp j i j1 i1 h1)
theorem nodup_len : ∀ (n : Nat) (l : List Nat), l.Nodup → (∀ x ∈ l, x < n) → l.length ≤ n := by
  intro n
  induction n with
  | zero =>
    intro l _ h
    cases l with
    | nil => exact Nat.le_refl 0
    | cons a r => exact absurd (h a List.mem_cons_self) (Nat.not_lt_zero a)
  | succ n ih =>
    intro l hl h
    have h1 := ih (l.filter (fun x => decide (x < n))) (hl.filter _) (fun x hx => by
      have := (List.mem_filter.mp hx).2
      exact of_decide_eq_true this)
    have h2 : l.length ≤ (l.filter (fun x => decide (x < n))).length + 1 := by
      clear ih h1
      induction l with
      | nil => exact Nat.zero_le _
      | cons a r ih2 =>
        have hr := List.nodup_cons.mp hl
        by_cases ha : a < n
        · rw [List.filter_cons, if_pos (decide_eq_true ha), List.length_cons, List.length_cons]
          have := ih2 hr.2 (fun x hx => h x (List.mem_cons_of_mem _ hx))
          omega
        · have han : a = n := by
            have := h a List.mem_cons_self
            omega
          have hall : r.filter (fun x => decide (x < n)) = r := List.filter_eq_self.mpr (fun x hx => by
            refine decide_eq_true ?_
            have h3 := h x (List.mem_cons_of_mem _ hx)
            have h4 : x ≠ n := fun e => hr.1 (by rw [han, ← e]; exact hx)
            omega)
          rw [List.filter_cons_of_neg (by rw [decide_eq_true_eq]; exact ha), hall, List.length_cons]
          exact Nat.le_refl _
    omega
/-- the reference's queues -/
def wQ (y : T2) (q : Nat → List Nat) : Prop := ∀ p, p < 6 → (q p).Nodup ∧ y 5 p = nI (q p).length ∧ ∀ k v, (q p)[k]? = some v → v < 8 ∧ y 4 (8 * p + k) = nI v ∧ y 8 v = nI 1 ∧ y 9 v = nI p
theorem wQ_len {y : T2} {q : Nat → List Nat} (h : wQ y q) {p : Nat} (hp : p < 6) : (q p).length ≤ 8 := nodup_len 8 _ (h p hp).1 (fun x hx => by
  obtain ⟨k, hk⟩ := List.getElem?_of_mem hx
  exact ((h p hp).2.2 k x hk).1)
theorem wQ_mQ {y : T2} {q : Nat → List Nat} (h : wQ y q) {p : Nat} (hp : p < 6) : mQ y p (q p).length := by
  refine ⟨wQ_len h hp, (h p hp).2.1, fun k hk => ?_, fun i k hik hk e => ?_⟩
  · obtain ⟨h1, h2, -⟩ := (h p hp).2.2 k _ (List.getElem?_eq_getElem hk)
    exact ⟨_, h1, h2⟩
  · have hi : i < (q p).length := by omega
    obtain ⟨h1, h2, -⟩ := (h p hp).2.2 i _ (List.getElem?_eq_getElem hi)
    obtain ⟨h3, h4, -⟩ := (h p hp).2.2 k _ (List.getElem?_eq_getElem hk)
    have e2 : (q p)[i] = (q p)[k] := nI_inj (by omega) (by omega) (h2.symm.trans (e.trans h4))
    have := nodup_ix (h p hp).1 (List.getElem?_eq_getElem hi) (by rw [e2]; exact List.getElem?_eq_getElem hk)
    omega
def qDel (q : Nat → List Nat) (p a : Nat) : Nat → List Nat := fun p' => if p' = p then (q p).eraseIdx a else q p'
def qIns (q : Nat → List Nat) (p a v : Nat) : Nat → List Nat := fun p' => if p' = p then (q p).insertIdx a v else q p'
theorem mLeave_8 (y : T2) (v p w a i : Nat) : mLeave y v p w a 8 i = if i = v then nI 0 else y 8 i := by
  unfold mLeave mLs upA up2
  simp
theorem mLeave_9 (y : T2) (v p w a i : Nat) : mLeave y v p w a 9 i = if i = v then -1 else y 9 i := by
  unfold mLeave mLs upA up2
  simp
theorem mLeave_5 (y : T2) (v p w a i : Nat) : mLeave y v p w a 5 i = if i = p then nI (w - 1) else y 5 i := by
  unfold mLeave mLs upA up2
  simp
theorem mLeave_4 (y : T2) (v p w a i : Nat) : mLeave y v p w a 4 i = if 8 * p + a ≤ i ∧ i < 8 * p + (w - 1) then y 4 (i + 1) else y 4 i := by
  unfold mLeave mLs upA up2
  simp
theorem mLeave_o (y : T2) (v p w a f i : Nat) (h : f ≠ 4 ∧ f ≠ 5 ∧ f ≠ 8 ∧ f ≠ 9) : mLeave y v p w a f i = y f i := by
  unfold mLeave mLs upA up2
  simp [h.1, h.2.1, h.2.2.1, h.2.2.2]
/-- a visitor leaves its queue -/
theorem w_leave {y : T2} {q : Nat → List Nat} (h : wQ y q) {p a v : Nat} (hp : p < 6) (hv : (q p)[a]? = some v) : mLeaveR y v (mLeave y v p (q p).length a) ∧ wQ (mLeave y v p (q p).length a) (qDel q p a) := by
  have ha : a < (q p).length := (List.getElem?_eq_some_iff.mp hv).1
  have hlen := wQ_len h hp
  obtain ⟨h1, h2, h3, h4⟩ := (h p hp).2.2 a v hv
  refine ⟨⟨p, _, a, hp, by omega, hlen, ha, h4, (h p hp).2.1, mLast_of (wQ_mQ h hp).2.2.2 h2 _ ha (Nat.le_refl _), rfl⟩, fun p' hp' => ?_⟩
  have hne : ∀ k v', (q p')[k]? = some v' → (p' ≠ p ∨ k ≠ a) → v' ≠ v := by
    intro k v' hk hor e
    subst e
    obtain ⟨-, -, -, g4⟩ := (h p' hp').2.2 k _ hk
    have hpp : p' = p := nI_inj (by omega) (by omega) (g4.symm.trans h4)
    subst hpp
    rcases hor with h9 | h9
    · exact h9 rfl
    · exact h9 (nodup_ix (h p' hp').1 hk hv)
  by_cases hpp : p' = p
  · subst hpp
    have hq : qDel q p' a p' = (q p').eraseIdx a := if_pos rfl
    rw [hq]
    refine ⟨(h p' hp').1.sublist (List.eraseIdx_sublist _ _), ?_, fun k v' hk => ?_⟩
    · rw [mLeave_5, if_pos rfl, List.length_eraseIdx, if_pos ha]
    · rw [List.getElem?_eraseIdx] at hk
      by_cases hka : k < a
      · rw [if_pos hka] at hk
        obtain ⟨g1, g2, g3, g4⟩ := (h p' hp').2.2 k v' hk
        have hn := hne k v' hk (Or.inr (by omega))
        exact ⟨g1, by rw [mLeave_4, if_neg (by omega)]; exact g2, by rw [mLeave_8, if_neg hn]; exact g3, by rw [mLeave_9, if_neg hn]; exact g4⟩
      · rw [if_neg hka] at hk
        obtain ⟨g1, g2, g3, g4⟩ := (h p' hp').2.2 (k + 1) v' hk
        have hk9 := (List.getElem?_eq_some_iff.mp hk).1
        have hn := hne (k + 1) v' hk (Or.inr (by omega))
        exact ⟨g1, by rw [mLeave_4, if_pos (by omega)]; exact g2, by rw [mLeave_8, if_neg hn]; exact g3, by rw [mLeave_9, if_neg hn]; exact g4⟩
  · have hq : qDel q p a p' = q p' := if_neg hpp
    rw [hq]
    refine ⟨(h p' hp').1, by rw [mLeave_5, if_neg hpp]; exact (h p' hp').2.1, fun k v' hk => ?_⟩
    obtain ⟨g1, g2, g3, g4⟩ := (h p' hp').2.2 k v' hk
    have hk9 := (List.getElem?_eq_some_iff.mp hk).1
    have hl9 := wQ_len h hp'
    have hn := hne k v' hk (Or.inl hpp)
    exact ⟨g1, by rw [mLeave_4, if_neg (by omega)]; exact g2, by rw [mLeave_8, if_neg hn]; exact g3, by rw [mLeave_9, if_neg hn]; exact g4⟩

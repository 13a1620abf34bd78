theorem mPuts_8 (y : T2) (p a v w i : Nat) : mPuts y p a v w 8 i = if i = v then nI 1 else y 8 i := by
  unfold mPuts mPs upA up2
  simp
theorem mPuts_9 (y : T2) (p a v w i : Nat) : mPuts y p a v w 9 i = if i = v then nI p else y 9 i := by
  unfold mPuts mPs upA up2
  simp
theorem mPuts_5 (y : T2) (p a v w i : Nat) : mPuts y p a v w 5 i = if i = p then nI (w + 1) else y 5 i := by
  unfold mPuts mPs upA up2
  simp
theorem mPuts_4 (y : T2) (p a v w i : Nat) : mPuts y p a v w 4 i = if i = 8 * p + a then nI v else if 8 * p + a < i ∧ i ≤ 8 * p + w then y 4 (i - 1) else y 4 i := by
  unfold mPuts mPs upA up2
  simp
theorem mPuts_o (y : T2) (p a v w f i : Nat) (h : f ≠ 4 ∧ f ≠ 5 ∧ f ≠ 8 ∧ f ≠ 9) : mPuts y p a v w f i = y f i := by
  unfold mPuts mPs upA up2
  simp [h.1, h.2.1, h.2.2.1, h.2.2.2]
theorem wQ_len7 {y : T2} {q : Nat → List Nat} (h : wQ y q) {p v : Nat} (hp : p < 6) (hv : v < 8) (hn : ¬ y 8 v = nI 1) : (q p).length ≤ 7 := by
  have h1 : v ∉ q p := fun hm => by
    obtain ⟨k, hk⟩ := List.getElem?_of_mem hm
    exact hn ((h p hp).2.2 k v hk).2.2.1
  have := nodup_len 8 (v :: q p) (List.nodup_cons.mpr ⟨h1, (h p hp).1⟩) (fun x hx => by
    rcases List.mem_cons.mp hx with rfl | hx
    · exact hv
    · obtain ⟨k, hk⟩ := List.getElem?_of_mem hx
      exact ((h p hp).2.2 k x hk).1)
  rw [List.length_cons] at this
  omega
/-- a visitor that doesn't wait is put at place a -/
theorem w_put {y : T2} {q : Nat → List Nat} (h : wQ y q) {p a v : Nat} (hp : p < 6) (hv : v < 8) (hn : ¬ y 8 v = nI 1) (ha : a ≤ (q p).length) : wQ (mPuts y p a v (q p).length) (qIns q p a v) := by
  have hlen := wQ_len7 h hp hv hn
  have hne : ∀ p' : Nat, p' < 6 → ∀ k v' : Nat, (q p')[k]? = some v' → v' ≠ v := by
    intro p' hp' k v' hk e
    rw [e] at hk
    exact hn ((h p' hp').2.2 k v hk).2.2.1
  intro p' hp'
  by_cases hpp : p' = p
  · subst hpp
    have hq : qIns q p' a v p' = (q p').insertIdx a v := if_pos rfl
    rw [hq]
    have hget : ∀ k v' : Nat, ((q p').insertIdx a v)[k]? = some v' → (k < a ∧ (q p')[k]? = some v') ∨ (k = a ∧ v' = v) ∨ (a < k ∧ (q p')[k - 1]? = some v') := by
      intro k v' hk
      rw [List.getElem?_insertIdx] at hk
      by_cases h1 : k < a
      · rw [if_pos h1] at hk
        exact Or.inl ⟨h1, hk⟩
      · rw [if_neg h1] at hk
        by_cases h2 : k = a
        · rw [if_pos h2, if_pos (by omega)] at hk
          exact Or.inr (Or.inl ⟨h2, (Option.some.inj hk).symm⟩)
        · rw [if_neg h2] at hk
          exact Or.inr (Or.inr ⟨by omega, hk⟩)
    refine ⟨?_, ?_, fun k v' hk => ?_⟩
    · refine List.pairwise_iff_getElem.mpr (fun i j hi hj hij e => ?_)
      have gi := hget i _ (List.getElem?_eq_getElem hi)
      have gj := hget j _ (List.getElem?_eq_getElem hj)
      rw [e] at gi
      rcases gi with ⟨i1, i2⟩ | ⟨i1, i2⟩ | ⟨i1, i2⟩ <;> rcases gj with ⟨j1, j2⟩ | ⟨j1, j2⟩ | ⟨j1, j2⟩
      · exact absurd (nodup_ix (h p' hp').1 i2 j2) (by omega)
      · exact hne p' hp' _ _ i2 j2
      · exact absurd (nodup_ix (h p' hp').1 i2 j2) (by omega)
      · exact hne p' hp' _ _ j2 i2
      · omega
      · exact hne p' hp' _ _ j2 i2
      · exact absurd (nodup_ix (h p' hp').1 i2 j2) (by omega)
      · exact hne p' hp' _ _ i2 j2
      · exact absurd (nodup_ix (h p' hp').1 i2 j2) (by omega)
    · rw [mPuts_5, if_pos rfl, List.length_insertIdx_of_le_length ha]
    · rcases hget k v' hk with ⟨h1, h2⟩ | ⟨h1, h2⟩ | ⟨h1, h2⟩
      · obtain ⟨g1, g2, g3, g4⟩ := (h p' hp').2.2 k v' h2
        have hn9 := hne p' hp' k v' h2
        exact ⟨g1, by rw [mPuts_4, if_neg (by omega), if_neg (by omega)]; exact g2, by rw [mPuts_8, if_neg hn9]; exact g3, by rw [mPuts_9, if_neg hn9]; exact g4⟩
      · subst h2
        exact ⟨hv, by rw [mPuts_4, if_pos (by omega)], by rw [mPuts_8, if_pos rfl], by rw [mPuts_9, if_pos rfl]⟩
      · obtain ⟨g1, g2, g3, g4⟩ := (h p' hp').2.2 (k - 1) v' h2
        have hn9 := hne p' hp' _ v' h2
        have hk9 := (List.getElem?_eq_some_iff.mp h2).1
        exact ⟨g1, by rw [mPuts_4, if_neg (by omega), if_pos (by omega), show 8 * p' + k - 1 = 8 * p' + (k - 1) by omega]; exact g2, by rw [mPuts_8, if_neg hn9]; exact g3, by rw [mPuts_9, if_neg hn9]; exact g4⟩
  · have hq : qIns q p a v p' = q p' := if_neg hpp
    rw [hq]
    refine ⟨(h p' hp').1, by rw [mPuts_5, if_neg hpp]; exact (h p' hp').2.1, fun k v' hk => ?_⟩
    obtain ⟨g1, g2, g3, g4⟩ := (h p' hp').2.2 k v' hk
    have hk9 := (List.getElem?_eq_some_iff.mp hk).1
    have hl9 := wQ_len h hp'
    have hn9 := hne p' hp' k v' hk
    exact ⟨g1, by rw [mPuts_4, if_neg (by omega), if_neg (by omega)]; exact g2, by rw [mPuts_8, if_neg hn9]; exact g3, by rw [mPuts_9, if_neg hn9]; exact g4⟩
/-! the class's places -/
def wC (x y : T2) : Prop := ∀ i, i < 8 → x 6 i = y 8 i ∧ x 7 i = y 9 i
def wN (x : T2) (q : Nat → List Nat) : Prop := ∀ p, p < 6 → ∀ k v, (q p)[k]? = some v → x 8 v = nI k
theorem cLeave_6 (x : T2) (v i : Nat) : cLeave x v 6 i = if i = v then nI 0 else x 6 i := by
  unfold cLeave cIdle cLose cUn up2
  by_cases h : x 13 v = nI 0 <;> simp [h]
theorem cLeave_7 (x : T2) (v i : Nat) : cLeave x v 7 i = if i = v then -1 else x 7 i := by
  unfold cLeave cIdle cLose cUn up2
  by_cases h : x 13 v = nI 0 <;> simp [h]
theorem cLeave_8 (x : T2) (v i : Nat) : cLeave x v 8 i = if i = v then -1 else if i < 8 ∧ x 6 i = nI 1 ∧ x 7 i = x 7 v ∧ x 8 v < x 8 i then x 8 i - nI 1 else x 8 i := by
  unfold cLeave cIdle cLose cUn up2
  by_cases h : x 13 v = nI 0 <;> simp [h]
theorem cLeave_9 (x : T2) (v i : Nat) : cLeave x v 9 i = if i = v then -1 else x 9 i := by
  unfold cLeave cIdle cLose cUn up2
  by_cases h : x 13 v = nI 0 <;> simp [h]
theorem cLeave_11 (x : T2) (v i : Nat) : cLeave x v 11 i = if i = v ∧ ¬ x 13 v = nI 0 then -1 else x 11 i := by
  unfold cLeave cIdle cLose cUn up2
  by_cases h : x 13 v = nI 0 <;> simp [h]
theorem cLeave_12 (x : T2) (v i : Nat) : cLeave x v 12 i = if i = v ∧ ¬ x 13 v = nI 0 then -1 else x 12 i := by
  unfold cLeave cIdle cLose cUn up2
  by_cases h : x 13 v = nI 0 <;> simp [h]
theorem cLeave_13 (x : T2) (v i : Nat) : cLeave x v 13 i = if i = v then nI 0 else x 13 i := by
  unfold cLeave cIdle cLose cUn up2
  by_cases h : x 13 v = nI 0
  · by_cases h2 : i = v
    · subst h2; simp [h]
    · simp [h, h2]
  · simp [h]
theorem nI_dec {k : Nat} (h : 1 ≤ k) : nI k - nI 1 = nI (k - 1) := by
  obtain ⟨m, rfl⟩ : ∃ m, k = m + 1 := ⟨k - 1, by omega⟩
  rw [show m + 1 - 1 = m by omega, ← nI_add]
  exact Int32.add_sub_cancel _ _
/-- the same on the class's side -/
theorem w_cleave {x y : T2} {q : Nat → List Nat} (h : wQ y q) (hC : wC x y) (hN : wN x q) {p a v : Nat} (hp : p < 6) (hv : (q p)[a]? = some v) : wC (cLeave x v) (mLeave y v p (q p).length a) ∧ wN (cLeave x v) (qDel q p a) := by
  have ha : a < (q p).length := (List.getElem?_eq_some_iff.mp hv).1
  have hlen := wQ_len h hp
  obtain ⟨h1, h2, h3, h4⟩ := (h p hp).2.2 a v hv
  refine ⟨fun i hi => ⟨by rw [cLeave_6, mLeave_8, (hC i hi).1], by rw [cLeave_7, mLeave_9, (hC i hi).2]⟩, fun p' hp' k v' hk => ?_⟩
  have hx8 : x 8 v = nI a := hN p hp a v hv
  have hx7 : x 7 v = nI p := (hC v h1).2.trans h4
  by_cases hpp : p' = p
  · subst hpp
    rw [show qDel q p' a p' = (q p').eraseIdx a from if_pos rfl, List.getElem?_eraseIdx] at hk
    by_cases hka : k < a
    · rw [if_pos hka] at hk
      obtain ⟨g1, g2, g3, g4⟩ := (h p' hp').2.2 k v' hk
      have hne : v' ≠ v := fun e => by
        rw [e] at hk
        exact absurd (nodup_ix (h p' hp').1 hk hv) (by omega)
      rw [cLeave_8, if_neg hne, hN p' hp' k v' hk, if_neg (fun c => ?_)]
      have c4 := c.2.2.2
      rw [hx8] at c4
      exact absurd ((nI_ltI (by omega) (by omega)).mp c4) (by omega)
    · rw [if_neg hka] at hk
      obtain ⟨g1, g2, g3, g4⟩ := (h p' hp').2.2 (k + 1) v' hk
      have hk9 := (List.getElem?_eq_some_iff.mp hk).1
      have hne : v' ≠ v := fun e => by
        rw [e] at hk
        exact absurd (nodup_ix (h p' hp').1 hk hv) (by omega)
      rw [cLeave_8, if_neg hne, hN p' hp' (k + 1) v' hk, if_pos ⟨g1, (hC v' g1).1.trans g3, by rw [hx7, (hC v' g1).2, g4], by rw [hx8]; exact nI_lt (by omega) (by omega)⟩, nI_dec (by omega)]
      rfl
  · rw [show qDel q p a p' = q p' from if_neg hpp] at hk
    obtain ⟨g1, g2, g3, g4⟩ := (h p' hp').2.2 k v' hk
    have hne : v' ≠ v := fun e => by
      rw [e] at g4
      exact hpp (nI_inj (by omega) (by omega) (g4.symm.trans h4))
    rw [cLeave_8, if_neg hne, if_neg (fun c => ?_)]
    · exact hN p' hp' k v' hk
    · have c3 := c.2.2.1
      rw [hx7, (hC v' g1).2, g4] at c3
      exact hpp (nI_inj (by omega) (by omega) c3)
theorem cJoin_6 (x : T2) (i p : Nat) (pl : Int32) (v : Nat) : cJoin x i p pl 6 v = if v = i then nI 1 else x 6 v := by
  unfold cJoin cSh up2
  simp
theorem cJoin_7 (x : T2) (i p : Nat) (pl : Int32) (v : Nat) : cJoin x i p pl 7 v = if v = i then nI p else x 7 v := by
  unfold cJoin cSh up2
  simp
theorem cJoin_8 (x : T2) (i p : Nat) (pl : Int32) (v : Nat) : cJoin x i p pl 8 v = if v = i then pl else if v < 8 ∧ x 6 v = nI 1 ∧ x 7 v = nI p ∧ ¬ x 8 v < pl then x 8 v + nI 1 else x 8 v := by
  unfold cJoin cSh up2
  simp
theorem cJoin_o (x : T2) (i p : Nat) (pl : Int32) (f v : Nat) (h : f ≠ 6 ∧ f ≠ 7 ∧ f ≠ 8) : cJoin x i p pl f v = x f v := by
  unfold cJoin cSh up2
  simp [h.1, h.2.1, h.2.2]
theorem w_cjoin {x y : T2} {q : Nat → List Nat} (h : wQ y q) (hC : wC x y) (hN : wN x q) {p a v : Nat} (hp : p < 6) (hv : v < 8) (hn : ¬ y 8 v = nI 1) (ha : a ≤ (q p).length) : wC (cJoin x v p (nI a)) (mPuts y p a v (q p).length) ∧ wN (cJoin x v p (nI a)) (qIns q p a v) := by
  have hlen := wQ_len7 h hp hv hn
  have hne : ∀ p' : Nat, p' < 6 → ∀ k v' : Nat, (q p')[k]? = some v' → v' ≠ v := by
    intro p' hp' k v' hk e
    rw [e] at hk
    exact hn ((h p' hp').2.2 k v hk).2.2.1
  refine ⟨fun i hi => ⟨by rw [cJoin_6, mPuts_8, (hC i hi).1], by rw [cJoin_7, mPuts_9, (hC i hi).2]⟩, fun p' hp' k v' hk => ?_⟩
  by_cases hpp : p' = p
  · subst hpp
    rw [show qIns q p' a v p' = (q p').insertIdx a v from if_pos rfl, List.getElem?_insertIdx] at hk
    by_cases h1 : k < a
    · rw [if_pos h1] at hk
      rw [cJoin_8, if_neg (hne p' hp' k v' hk), hN p' hp' k v' hk, if_neg (fun c => c.2.2.2 (nI_lt h1 (by omega)))]
    · rw [if_neg h1] at hk
      by_cases h2 : k = a
      · rw [if_pos h2, if_pos (by omega)] at hk
        rw [cJoin_8, if_pos (Option.some.inj hk).symm, h2]
      · rw [if_neg h2] at hk
        obtain ⟨g1, g2, g3, g4⟩ := (h p' hp').2.2 (k - 1) v' hk
        have hk9 := (List.getElem?_eq_some_iff.mp hk).1
        rw [cJoin_8, if_neg (hne p' hp' _ v' hk), hN p' hp' (k - 1) v' hk, if_pos ⟨g1, (hC v' g1).1.trans g3, (hC v' g1).2.trans g4, fun c => absurd ((nI_ltI (by omega) (by omega)).mp c) (by omega)⟩, nI_add, show k - 1 + 1 = k by omega]
  · rw [show qIns q p a v p' = q p' from if_neg hpp] at hk
    obtain ⟨g1, g2, g3, g4⟩ := (h p' hp').2.2 k v' hk
    rw [cJoin_8, if_neg (hne p' hp' k v' hk), if_neg (fun c => ?_)]
    · exact hN p' hp' k v' hk
    · have c3 := c.2.2.1
      rw [(hC v' g1).2, g4] at c3
      exact hpp (nI_inj (by omega) (by omega) c3)

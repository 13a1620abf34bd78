/-! the class's lists: an element more, an element less -/
theorem cW_R (E : cE) (x : Nat → Nat → Int32) {i k : Nat} (h : (eLP E)[k]? = some i) : (cW E x)[33 + k]? = some (eEd E i, lR (eB E) (pRow E (x 15 i) i)) := by
  unfold cW
  rw [List.getElem?_append_right (by show 33 ≤ 33 + k; omega), show 33 + k - (cF E x).length = k from by show 33 + k - 33 = k; omega]
  unfold cPool
  rw [List.getElem?_map, h]
  rfl
theorem cW_mem {E : cE} {x : Nat → Nat → Int32} {q : Nat × va_E} (h : q ∈ cW E x) : (q = (eO E, .inr (3, cO E x)) ∨ q = (ePa E, .inl (eP E, 6, .inr (.inr (.inr (.inr (fun j => if j < 6 then some (ePad E j) else none)))))) ∨ q = (eVa E, .inl (eV E, 8, .inr (.inr (.inr (.inr (fun i => if i < 8 then some (eVad E i) else none))))))) ∨ (∃ j, j < 6 ∧ q = (ePad E j, .inr (1, cP E x j))) ∨ (∃ i, i < 8 ∧ q = (eVad E i, .inr (2, cV E x i))) ∨ (∃ i, i < 8 ∧ q = (eLad E i, lC (x 14 i) (eEd E i) (x 15 i))) ∨ (∃ i, i < 8 ∧ q = (eSad E i, .inl (eI E, 6, .inl (eS E i)))) ∨ (∃ i k : Nat, (eLP E)[k]? = some i ∧ q = (eEd E i, lR (eB E) (pRow E (x 15 i) i))) := by
  rcases List.mem_append.mp h with h | h
  · rcases List.mem_append.mp h with h | h
    · simp only [List.mem_cons, List.not_mem_nil, or_false] at h
      exact Or.inl h
    · refine Or.inr ?_
      rcases List.mem_append.mp h with h | h
      · obtain ⟨j, h1, h2⟩ := List.mem_map.mp h
        exact Or.inl ⟨j, List.mem_range.mp h1, h2.symm⟩
      · refine Or.inr ?_
        rcases List.mem_append.mp h with h | h
        · obtain ⟨j, h1, h2⟩ := List.mem_map.mp h
          exact Or.inl ⟨j, List.mem_range.mp h1, h2.symm⟩
        · refine Or.inr ?_
          rcases List.mem_append.mp h with h | h
          · obtain ⟨j, h1, h2⟩ := List.mem_map.mp h
            exact Or.inl ⟨j, List.mem_range.mp h1, h2.symm⟩
          · obtain ⟨j, h1, h2⟩ := List.mem_map.mp h
            exact Or.inr (Or.inl ⟨j, List.mem_range.mp h1, h2.symm⟩)
  · obtain ⟨i, h1, h2⟩ := List.mem_map.mp h
    obtain ⟨k, hk⟩ := List.getElem?_of_mem h1
    exact Or.inr (Or.inr (Or.inr (Or.inr (Or.inr ⟨i, k, hk, h2.symm⟩))))
theorem cW_ne {A : Nat → Prop} {w : va_W} (hD : va_D A w) {a b : Nat} {p q : Nat × va_E} (ha : w[a]? = some p) (hb : w[b]? = some q) (h : a ≠ b) : p.1 ≠ q.1 := fun e => h (hD.1 a b p q ha hb e)
theorem resList {A : Nat → Prop} {E : cE} {x x' : Nat → Nat → Int32} {i : Nat} (hD : va_D A (cW E x)) (hi : i < 8) {pc' : Nat → Nat → Nat} {ed' : Nat → Nat} {LP' : List Nat} {w1 w' : va_W} (hx : ∀ k j, k ≠ 14 → k ≠ 15 → x' k j = x k j) (hx2 : ∀ i', i' ≠ i → x' 14 i' = x 14 i' ∧ x' 15 i' = x 15 i') (hpc : ∀ i', i' ≠ i → pc' i' = ePc E i') (hed : ∀ i', i' ≠ i → ed' i' = eEd E i') (hLP : ∀ i', i' ∈ LP' → i' ≠ i → i' ∈ eLP E)
    (hL : (eLad E i, lC (x' 14 i) (ed' i) (x' 15 i)) ∈ w') (hR : (ed' i, lR (eB E) (pRow (eSetP E pc' ed' LP') (x' 15 i) i)) ∈ w')
    (h1 : ∀ q1 ∈ w1, q1.1 = eLad E i ∨ (i ∈ eLP E ∧ q1.1 = eEd E i) ∨ ∃ j, j < 6 ∧ q1.1 = ePad E j ∧ (ePad E j, .inr (1, cP E x j)) ∈ w') : ∀ q ∈ cW (eSetP E pc' ed' LP') x', q ∈ w' ∨ (q ∈ cW E x ∧ ∀ q1 ∈ w1, q.1 ≠ q1.1) := by
  have hLi := cW_L E x hi
  have far : ∀ (a : Nat) (p : Nat × va_E), (cW E x)[a]? = some p → a ≠ 17 + i → (∀ k, (eLP E)[k]? = some i → a ≠ 33 + k) → (∀ j, j < 6 → a ≠ 3 + j) → ∀ q1 ∈ w1, p.1 ≠ q1.1 := by
    intro a p ha n1 n2 n3 q1 hq1
    rcases h1 q1 hq1 with h | ⟨h, h'⟩ | ⟨j, hj, h, -⟩
    · rw [h]; exact cW_ne hD ha hLi n1
    · obtain ⟨k, hk⟩ := List.getElem?_of_mem h
      rw [h']; exact cW_ne hD ha (cW_R E x hk) (n2 k hk)
    · rw [h]; exact cW_ne hD ha (cW_P E x hj) (n3 j hj)
  intro q hq
  have h0 : x' 0 0 = x 0 0 := hx 0 0 (by decide) (by decide)
  rcases cW_mem hq with (rfl | rfl | rfl) | ⟨j, hj, rfl⟩ | ⟨v, hv, rfl⟩ | ⟨v, hv, rfl⟩ | ⟨v, hv, rfl⟩ | ⟨v, k, hk, rfl⟩
  · have e : ((eO (eSetP E pc' ed' LP'), .inr (3, cO (eSetP E pc' ed' LP') x')) : Nat × va_E) = (eO E, .inr (3, cO E x)) := by
      unfold cO; rw [h0]; rfl
    rw [e]
    exact Or.inr ⟨List.mem_of_getElem? (cW_O E x), far 0 _ (cW_O E x) (by omega) (fun k _ => by omega) (fun j hj => by omega)⟩
  · exact Or.inr ⟨List.mem_of_getElem? (cW_Pa E x), far 1 _ (cW_Pa E x) (by omega) (fun k _ => by omega) (fun j hj => by omega)⟩
  · exact Or.inr ⟨List.mem_of_getElem? (cW_Va E x), far 2 _ (cW_Va E x) (by omega) (fun k _ => by omega) (fun j hj => by omega)⟩
  · have e : ((ePad (eSetP E pc' ed' LP') j, .inr (1, cP (eSetP E pc' ed' LP') x' j)) : Nat × va_E) = (ePad E j, .inr (1, cP E x j)) := by
      unfold cP; rw [hx 1 j (by decide) (by decide), hx 2 j (by decide) (by decide), hx 3 j (by decide) (by decide), hx 4 j (by decide) (by decide), hx 5 j (by decide) (by decide)]; rfl
    rw [e]
    by_cases hz : ∃ q1, q1 ∈ w1 ∧ ePad E j = q1.1
    · obtain ⟨q1, g1, g2⟩ := hz
      rcases h1 q1 g1 with h | ⟨h, h'⟩ | ⟨j', hj', h, h'⟩
      · exact absurd (g2.trans h) (cW_ne hD (cW_P E x hj) hLi (by omega))
      · obtain ⟨k, hk⟩ := List.getElem?_of_mem h
        exact absurd (g2.trans h') (cW_ne hD (cW_P E x hj) (cW_R E x hk) (by omega))
      · have := hD.1 _ _ _ _ (cW_P E x hj) (cW_P E x hj') (g2.trans h)
        have : j = j' := by omega
        subst this
        exact Or.inl h'
    · exact Or.inr ⟨List.mem_of_getElem? (cW_P E x hj), fun q1 g1 g2 => hz ⟨q1, g1, g2⟩⟩
  · have e : ((eVad (eSetP E pc' ed' LP') v, .inr (2, cV (eSetP E pc' ed' LP') x' v)) : Nat × va_E) = (eVad E v, .inr (2, cV E x v)) := by
      unfold cV; rw [hx 6 v (by decide) (by decide), hx 7 v (by decide) (by decide), hx 8 v (by decide) (by decide), hx 9 v (by decide) (by decide), hx 10 v (by decide) (by decide), hx 11 v (by decide) (by decide), hx 12 v (by decide) (by decide), hx 13 v (by decide) (by decide)]; rfl
    rw [e]
    exact Or.inr ⟨List.mem_of_getElem? (cW_V E x hv), far (9 + v) _ (cW_V E x hv) (by omega) (fun k _ => by omega) (fun j hj => by omega)⟩
  · by_cases hvi : v = i
    · subst hvi
      exact Or.inl hL
    · have e : ((eLad (eSetP E pc' ed' LP') v, lC (x' 14 v) (eEd (eSetP E pc' ed' LP') v) (x' 15 v)) : Nat × va_E) = (eLad E v, .inr (0, cL E x v)) := by
        rw [(hx2 v hvi).1, (hx2 v hvi).2, show eEd (eSetP E pc' ed' LP') v = eEd E v from hed v hvi]; rfl
      rw [e]
      exact Or.inr ⟨List.mem_of_getElem? (cW_L E x hv), far (17 + v) _ (cW_L E x hv) (by omega) (fun k _ => by omega) (fun j hj => by omega)⟩
  · exact Or.inr ⟨List.mem_of_getElem? (cW_S E x hv), far (25 + v) _ (cW_S E x hv) (by omega) (fun k _ => by omega) (fun j hj => by omega)⟩
  · by_cases hvi : v = i
    · subst hvi
      exact Or.inl hR
    · obtain ⟨k', hk'⟩ := List.getElem?_of_mem (hLP v (List.mem_of_getElem? hk) hvi)
      have e : ((eEd (eSetP E pc' ed' LP') v, lR (eB (eSetP E pc' ed' LP')) (pRow (eSetP E pc' ed' LP') (x' 15 v) v)) : Nat × va_E) = (eEd E v, lR (eB E) (pRow E (x 15 v) v)) := by
        rw [(hx2 v hvi).2, show eEd (eSetP E pc' ed' LP') v = eEd E v from hed v hvi, show pRow (eSetP E pc' ed' LP') (x 15 v) v = pRow E (x 15 v) v from by unfold pRow; rw [show ePc (eSetP E pc' ed' LP') v = ePc E v from hpc v hvi]; rfl]; rfl
      rw [e]
      refine Or.inr ⟨List.mem_of_getElem? (cW_R E x hk'), far (33 + k') _ (cW_R E x hk') (by omega) (fun k hk9 e9 => hvi ?_) (fun j hj => by omega)⟩
      have : k' = k := by omega
      subst this
      exact Option.some.inj (hk'.symm.trans hk9)
theorem cW_fst {E : cE} {x x' : Nat → Nat → Int32} {pc' : Nat → Nat → Nat} {ed' : Nat → Nat} {LP' : List Nat} : (cW (eSetP E pc' ed' LP') x').map Prod.fst = (cF E x).map Prod.fst ++ LP'.map ed' := by
  unfold cW cPool
  rw [List.map_append, List.map_map]
  rfl
theorem cW_fst0 {E : cE} {x : Nat → Nat → Int32} : (cW E x).map Prod.fst = (cF E x).map Prod.fst ++ (eLP E).map (eEd E) := by
  unfold cW cPool
  rw [List.map_append, List.map_map]
  rfl
/-- one pavilion more at the end of a plan of n0 -/
def pcAdd (g : Nat → Nat → Nat) (i n0 j : Nat) : Nat → Nat → Nat := fun i' => if i' = i then (fun k => if k = n0 then j else g i k) else g i'
/-- the pavilion at k leaves a plan -/
def pcDel (g : Nat → Nat → Nat) (i k : Nat) : Nat → Nat → Nat := fun i' => if i' = i then (fun q => if q < k then g i q else g i (q + 1)) else g i'
def edAdd (g : Nat → Nat) (i u : Nat) : Nat → Nat := fun i' => if i' = i then u else g i'
def xLen (x : Nat → Nat → Int32) (i n1 : Nat) : Nat → Nat → Int32 := up2 (up2 x 14 i (x 14 i + nI 1)) 15 i (nI n1)
theorem xLen_o {x : Nat → Nat → Int32} {i n1 k j : Nat} (h1 : k ≠ 14) (h2 : k ≠ 15) : xLen x i n1 k j = x k j := by
  unfold xLen; rw [up2_k _ _ _ _ h2, up2_k _ _ _ _ h1]
theorem xLen_n {x : Nat → Nat → Int32} {i n1 i' : Nat} (h : i' ≠ i) : xLen x i n1 14 i' = x 14 i' ∧ xLen x i n1 15 i' = x 15 i' := by
  unfold xLen
  exact ⟨by rw [up2_k _ _ _ _ (by decide), up2_n _ _ _ _ h], by rw [up2_n _ _ _ _ h, up2_k _ _ _ _ (by decide)]⟩
theorem xLen_14 {x : Nat → Nat → Int32} {i n1 : Nat} : xLen x i n1 14 i = x 14 i + nI 1 := by
  unfold xLen; rw [up2_k _ _ _ _ (by decide), up2_s]
theorem xLen_15 {x : Nat → Nat → Int32} {i n1 : Nat} : xLen x i n1 15 i = nI n1 := by
  unfold xLen; rw [up2_s]
theorem nd3 {a b c : Nat} {e1 e2 e3 : va_E} (h1 : a ≠ b) (h2 : a ≠ c) (h3 : b ≠ c) : ∀ (i j : Nat) (p q : Nat × va_E), ([(a, e1), (b, e2), (c, e3)] : va_W)[i]? = some p → ([(a, e1), (b, e2), (c, e3)] : va_W)[j]? = some q → p.1 = q.1 → i = j := by
  intro i j p q hi hj hpq
  match i, j, hi, hj with
  | 0, 0, _, _ => rfl
  | 1, 1, _, _ => rfl
  | 2, 2, _, _ => rfl
  | 0, 1, hi, hj => cases hi; cases hj; exact absurd hpq h1
  | 1, 0, hi, hj => cases hi; cases hj; exact absurd hpq.symm h1
  | 0, 2, hi, hj => cases hi; cases hj; exact absurd hpq h2
  | 2, 0, hi, hj => cases hi; cases hj; exact absurd hpq.symm h2
  | 1, 2, hi, hj => cases hi; cases hj; exact absurd hpq h3
  | 2, 1, hi, hj => cases hi; cases hj; exact absurd hpq.symm h3
  | k + 3, _, hi, _ => simp at hi
  | 0, k + 3, _, hj => simp at hj
  | 1, k + 3, _, hj => simp at hj
  | 2, k + 3, _, hj => simp at hj
section LROWS3
variable {p : Program} {l : Launch} {e : Env} {R : Room} {s : State} {m : MethodId} {args : Array Value} {below : List Frame} {meth : Method} {c : Code} {H : Heap} {locs : List Loc} {cells slots : Nat} {Q : State → Prop}
variable {cc : ByteArray} {pc nL index : Nat} {ls : Array Slot} {rest : List Value} {D : va_G} {A : Nat → Prop} {Ts : List Cond} {E : cE} {tl : gTy} {x : Nat → Nat → Int32}
theorem c_addM (F : CallFix p m c cc nL s args Ts RX2) (hG : GoodIn Ts (wsV RX2 index RJx4a65c yJx4a65c_add_9ea2d wsJx4a65c_add_9ea2d)) (hK : va_K D vwCl (cT E tl) s) (hX : cX (eDf E) A s) (hP : va_P D vwCl (cW E x) H) (hD : va_D A (cW E x)) (hS : va_S A s.heap H locs) (hA : ∀ q : Nat, s.heap.size ≤ q → A q)
    {i j n0 : Nat} (hi : i < 8) (hj : j < 6) (hLP : i ∈ eLP E) (h15 : x 15 i = nI n0) (hn0 : n0 < 6) (hR : 5 ≤ R.frames ∧ 130 ≤ R.locals) (hl : ls.size = nL) (hW : (rest.map fun v => v.category).sum ≤ 8) (hdg : decode cc pc = .ok (.invokevirtual index, 3)) (hf : cells ≤ R.cells ∧ slots ≤ R.slots)
    (kk : ∀ (r : Int32) (H1 : Heap) (locs1 : List Loc), va_P D vwCl (cW (eSetP E (pcAdd (ePc E) i n0 j) (eEd E) (eLP E)) (xLen x i (n0 + 1))) H1 → va_D A (cW (eSetP E (pcAdd (ePc E) i n0 j) (eEd E) (eLP E)) (xLen x i (n0 + 1))) → va_S A s.heap H1 locs1 → W p l e R s m args below meth c H1 locs1 cells slots Q (F0 m (pc + 3) ls (.int r :: rest))) : W p l e R s m args below meth c H locs cells slots Q (F0 m pc ls (.ref (ePad E j) :: .ref (eLad E i) :: rest)) := by
  obtain ⟨kk0, hkk0⟩ := List.getElem?_of_mem hLP
  have hRr := cW_R E x hkk0
  have nLR : eLad E i ≠ eEd E i := cW_ne hD (cW_L E x hi) hRr (by omega)
  have nLP : eLad E i ≠ ePad E j := cW_ne hD (cW_L E x hi) (cW_P E x hj) (by omega)
  have nRP : eEd E i ≠ ePad E j := cW_ne hD hRr (cW_P E x hj) (by omega)
  have hsub : ∀ q ∈ ([(eLad E i, lC (x 14 i) (eEd E i) (nI n0)), (eEd E i, lR (eB E) (pRow E (nI n0) i)), (ePad E j, .inr (1, cP E x j))] : va_W), q ∈ cW E x := by
    intro q hq
    rcases List.mem_cons.mp hq with rfl | hq
    · rw [← h15]; exact cW_mL E x hi
    · rcases List.mem_cons.mp hq with rfl | hq
      · rw [← h15]; exact List.mem_of_getElem? hRr
      · rw [List.mem_singleton.mp hq]; exact List.mem_of_getElem? (cW_P E x hj)
  refine f_calli (As := [.ref (ePad E j)]) (rest := rest) (w0' := fun _ : Unit => cW (eSetP E (pcAdd (ePc E) i n0 j) (eEd E) (eLP E)) (xLen x i (n0 + 1))) F (c_Jx4a65c_add_9ea2d_m l D E tl (eLad E i) (eEd E i) (ePad E j) (x 14 i) n0 (pRow E (nI n0) i) (cP E x j) (by omega)) (cwV 1 F.2.2.2.2 hG rfl rfl rfl (by decide +kernel) ⟨hR.1, by have := hR.2; show 8 + (2 + 11) + 96 ≤ R.locals; omega⟩) (c_recvL hK hP hi) hK hX hP hD hS hA hsub (nd3 nLR nLP nRP) (fun r u _ _ => ⟨?_, [], ?_, Or.inl rfl⟩) rfl hl rfl hW hdg ⟨hf.1, hf.2⟩ (fun r u H1 locs1 hw hP1 hD1 hS1 => kk r H1 locs1 hP1 hD1 hS1)
  · refine resList hD hi (fun k j h1 h2 => xLen_o h1 h2) (fun i' h => xLen_n h) (fun i' h => if_neg h) (fun _ _ => rfl) (fun _ h _ => h) ?_ ?_ ?_
    · rw [xLen_14, xLen_15]
      exact List.mem_cons_self
    · have e9 : pRow (eSetP E (pcAdd (ePc E) i n0 j) (eEd E) (eLP E)) (nI (n0 + 1)) i = va_up (pRow E (nI n0) i) n0 (some (ePad E j)) := by
        funext k
        show (if k < (nI (n0 + 1)).toNatClampNeg then some (ePad E ((if i = i then (fun k => if k = n0 then j else ePc E i k) else ePc E i) k)) else none) = (if k = n0 then some (ePad E j) else if k < (nI n0).toNatClampNeg then some (ePad E (ePc E i k)) else none)
        rw [nI_clamp (by omega), nI_clamp (by omega), if_pos rfl]
        show (if k < n0 + 1 then some (ePad E (if k = n0 then j else ePc E i k)) else none) = _
        by_cases h1 : k = n0
        · rw [if_pos (by omega), if_pos h1, if_pos h1]
        · rw [if_neg h1, if_neg h1]
          by_cases h2 : k < n0
          · rw [if_pos (by omega), if_pos h2]
          · rw [if_neg (by omega), if_neg h2]
      rw [xLen_15, e9]
      exact List.mem_cons_of_mem _ List.mem_cons_self
    · intro q1 hq1
      rcases List.mem_cons.mp hq1 with rfl | hq1
      · exact Or.inl rfl
      · rcases List.mem_cons.mp hq1 with rfl | hq1
        · exact Or.inr (Or.inl ⟨hLP, rfl⟩)
        · rw [List.mem_singleton.mp hq1]
          exact Or.inr (Or.inr ⟨j, hj, rfl, List.mem_cons_of_mem _ (List.mem_cons_of_mem _ List.mem_cons_self)⟩)
  · rw [cW_fst (x := x), cW_fst0, List.append_nil]
theorem c_addF (F : CallFix p m c cc nL s args Ts RX2) (hG : GoodIn Ts (wsV RX2 index RJx4a65c yJx4a65c_add_9ea2d wsJx4a65c_add_9ea2d)) (hK : va_K D vwCl (cT E tl) s) (hX : cX (eDf E) A s) (hP : va_P D vwCl (cW E x) H) (hD : va_D A (cW E x)) (hS : va_S A s.heap H locs) (hA : ∀ q : Nat, s.heap.size ≤ q → A q)
    {i j : Nat} (hi : i < 8) (hj : j < 6) (hLP : i ∉ eLP E) (h15 : x 15 i = nI 0) (hed : eEd E i = eDf E) (hR : 5 ≤ R.frames ∧ 130 ≤ R.locals) (hl : ls.size = nL) (hW : (rest.map fun v => v.category).sum ≤ 8) (hdg : decode cc pc = .ok (.invokevirtual index, 3)) (hf : cells + 1 ≤ R.cells ∧ slots + 10 ≤ R.slots)
    (kk : ∀ (r : Int32) (u : Nat) (H1 : Heap) (locs1 : List Loc), va_P D vwCl (cW (eSetP E (pcAdd (ePc E) i 0 j) (edAdd (eEd E) i u) (eLP E ++ [i])) (xLen x i 1)) H1 → va_D A (cW (eSetP E (pcAdd (ePc E) i 0 j) (edAdd (eEd E) i u) (eLP E ++ [i])) (xLen x i 1)) → va_S A s.heap H1 locs1 → W p l e R s m args below meth c H1 locs1 (cells + 1) (slots + 10) Q (F0 m (pc + 3) ls (.int r :: rest))) : W p l e R s m args below meth c H locs cells slots Q (F0 m pc ls (.ref (ePad E j) :: .ref (eLad E i) :: rest)) := by
  have nLP : eLad E i ≠ ePad E j := cW_ne hD (cW_L E x hi) (cW_P E x hj) (by omega)
  have hsub : ∀ q ∈ ([(eLad E i, lC (x 14 i) (eDf E) (nI 0)), (ePad E j, .inr (1, cP E x j))] : va_W), q ∈ cW E x := by
    intro q hq
    rcases List.mem_cons.mp hq with rfl | hq
    · rw [← h15, ← hed]; exact cW_mL E x hi
    · rw [List.mem_singleton.mp hq]; exact List.mem_of_getElem? (cW_P E x hj)
  refine f_calli (As := [.ref (ePad E j)]) (rest := rest) (w0' := fun u : Nat => cW (eSetP E (pcAdd (ePc E) i 0 j) (edAdd (eEd E) i u) (eLP E ++ [i])) (xLen x i 1)) F (c_Jx4a65c_add_9ea2d_f l D E tl (eLad E i) (ePad E j) (x 14 i) (cP E x j)) (cwV 1 F.2.2.2.2 hG rfl rfl rfl (by decide +kernel) ⟨hR.1, by have := hR.2; show 8 + (2 + 11) + 96 ≤ R.locals; omega⟩) (c_recvL hK hP hi) hK hX hP hD hS hA hsub (nd2 nLP) (fun r u _ hDu => ⟨?_, [u], ?_, Or.inr ⟨u, rfl, fun hmem => ?_⟩⟩) rfl hl rfl hW hdg ⟨hf.1, hf.2⟩ (fun r u H1 locs1 hw hP1 hD1 hS1 => kk r u H1 locs1 hP1 hD1 hS1)
  · refine resList hD hi (fun k j h1 h2 => xLen_o h1 h2) (fun i' h => xLen_n h) (fun i' h => if_neg h) (fun i' h => if_neg h) (fun i' h h2 => (List.mem_append.mp h).resolve_right (fun h3 => h2 (List.mem_singleton.mp h3))) ?_ ?_ ?_
    · rw [xLen_14, xLen_15, show edAdd (eEd E) i u i = u from if_pos rfl]
      exact List.mem_cons_self
    · have e9 : pRow (eSetP E (pcAdd (ePc E) i 0 j) (edAdd (eEd E) i u) (eLP E ++ [i])) (nI 1) i = va_up (fun _ => none) 0 (some (ePad E j)) := by
        funext k
        show (if k < (nI 1).toNatClampNeg then some (ePad E ((if i = i then (fun k => if k = 0 then j else ePc E i k) else ePc E i) k)) else none) = (if k = 0 then some (ePad E j) else none)
        rw [nI_clamp (by omega), if_pos rfl]
        show (if k < 1 then some (ePad E (if k = 0 then j else ePc E i k)) else none) = _
        by_cases h1 : k = 0
        · rw [if_pos (by omega), if_pos h1, if_pos h1]
        · rw [if_neg (by omega), if_neg h1]
      rw [xLen_15, e9, show edAdd (eEd E) i u i = u from if_pos rfl]
      exact List.mem_cons_of_mem _ (List.mem_cons_of_mem _ List.mem_cons_self)
    · intro q1 hq1
      rcases List.mem_cons.mp hq1 with rfl | hq1
      · exact Or.inl rfl
      · rw [List.mem_singleton.mp hq1]
        exact Or.inr (Or.inr ⟨j, hj, rfl, List.mem_cons_of_mem _ List.mem_cons_self⟩)
  · rw [cW_fst (x := x), cW_fst0, List.map_append, show (eLP E).map (edAdd (eEd E) i u) = (eLP E).map (eEd E) from List.map_congr_left (fun a ha => if_neg (fun h : a = i => hLP (by rw [← h]; exact ha))), List.append_assoc, show [i].map (edAdd (eEd E) i u) = [u] from by show [edAdd (eEd E) i u i] = [u]; rw [show edAdd (eEd E) i u i = u from if_pos rfl]]
  · obtain ⟨q, h1, h2⟩ := List.mem_map.mp hmem
    obtain ⟨a, ha⟩ := List.getElem?_of_mem h1
    have hlt : q.1 < H.size := (hP a q ha).lt
    have hu : va_A _ H.size u := hDu.2 2 (u, _) rfl
    rcases hu with ⟨b, e', hb⟩ | hge
    · match b, hb with
      | 0, hb => cases hb; exact absurd (hDu.1 0 2 _ _ rfl rfl rfl) (by decide)
      | 1, hb => cases hb; exact absurd (hDu.1 1 2 _ _ rfl rfl rfl) (by decide)
      | b + 2, hb => simp at hb
    · omega
theorem c_rem (F : CallFix p m c cc nL s args Ts RX2) (hG : GoodIn Ts (wsV RX2 index RJx4a65c yJx4a65c_remove_915e3 wsJx4a65c_remove_915e3)) (hK : va_K D vwCl (cT E tl) s) (hX : cX (eDf E) A s) (hP : va_P D vwCl (cW E x) H) (hD : va_D A (cW E x)) (hS : va_S A s.heap H locs) (hA : ∀ q : Nat, s.heap.size ≤ q → A q)
    {i k n0 : Nat} (hi : i < 8) (hLP : i ∈ eLP E) (h15 : x 15 i = nI n0) (hn0 : n0 ≤ 6) (hk : k < n0) (hpc : ∀ q, q < n0 → ePc E i q < 6) (hR : 3 ≤ R.frames ∧ 90 ≤ R.locals) (hl : ls.size = nL) (hW : (rest.map fun v => v.category).sum ≤ 8) (hdg : decode cc pc = .ok (.invokevirtual index, 3)) (hf : cells ≤ R.cells ∧ slots ≤ R.slots)
    (kk : ∀ (H1 : Heap) (locs1 : List Loc), va_P D vwCl (cW (eSetP E (pcDel (ePc E) i k) (eEd E) (eLP E)) (xLen x i (n0 - 1))) H1 → va_D A (cW (eSetP E (pcDel (ePc E) i k) (eEd E) (eLP E)) (xLen x i (n0 - 1))) → va_S A s.heap H1 locs1 → W p l e R s m args below meth c H1 locs1 cells slots Q (F0 m (pc + 3) ls (.ref (ePad E (ePc E i k)) :: rest))) : W p l e R s m args below meth c H locs cells slots Q (F0 m pc ls (.int (nI k) :: .ref (eLad E i) :: rest)) := by
  obtain ⟨kk0, hkk0⟩ := List.getElem?_of_mem hLP
  have hRr := cW_R E x hkk0
  have hat : ∀ (a : Nat) (q : Nat × va_E), ((eLad E i, lC (x 14 i) (eEd E i) (nI n0)) :: (eEd E i, lR (eB E) (pRow E (nI n0) i)) :: pT (ePad E) (cP E x))[a]? = some q → ∃ b, (cW E x)[b]? = some q ∧ ((a = 0 ∧ b = 17 + i) ∨ (a = 1 ∧ b = 33 + kk0) ∨ (∃ j, j < 6 ∧ a = 2 + j ∧ b = 3 + j)) := by
    intro a q ha
    match a, ha with
    | 0, ha => cases ha; exact ⟨17 + i, by rw [← h15]; exact cW_L E x hi, Or.inl ⟨rfl, rfl⟩⟩
    | 1, ha => cases ha; exact ⟨33 + kk0, by rw [← h15]; exact hRr, Or.inr (Or.inl ⟨rfl, rfl⟩)⟩
    | a + 2, ha =>
      have hlt : a < 6 := by
        have h9 := (List.getElem?_eq_some_iff.mp ha).1
        have h8 : (pT (ePad E) (cP E x)).length = 6 := rfl
        simp only [List.length_cons] at h9
        omega
      have h3 := pT_at (ePad E) (cP E x) (eLad E i, lC (x 14 i) (eEd E i) (nI n0)) (eEd E i, lR (eB E) (pRow E (nI n0) i)) hlt
      rw [Nat.add_comm] at h3
      obtain rfl : (ePad E a, .inr (1, cP E x a)) = q := Option.some.inj (h3.symm.trans ha)
      exact ⟨3 + a, cW_P E x hlt, Or.inr (Or.inr ⟨a, hlt, by omega, rfl⟩)⟩
  have hsub : ∀ q ∈ ((eLad E i, lC (x 14 i) (eEd E i) (nI n0)) :: (eEd E i, lR (eB E) (pRow E (nI n0) i)) :: pT (ePad E) (cP E x)), q ∈ cW E x := by
    intro q hq
    obtain ⟨a, ha⟩ := List.getElem?_of_mem hq
    obtain ⟨b, hb, -⟩ := hat a q ha
    exact List.mem_of_getElem? hb
  have hnd : ∀ (a b : Nat) (p q : Nat × va_E), ((eLad E i, lC (x 14 i) (eEd E i) (nI n0)) :: (eEd E i, lR (eB E) (pRow E (nI n0) i)) :: pT (ePad E) (cP E x))[a]? = some p → ((eLad E i, lC (x 14 i) (eEd E i) (nI n0)) :: (eEd E i, lR (eB E) (pRow E (nI n0) i)) :: pT (ePad E) (cP E x))[b]? = some q → p.1 = q.1 → a = b := by
    intro a b p q ha hb hpq
    obtain ⟨a', ha', h1⟩ := hat a p ha
    obtain ⟨b', hb', h2⟩ := hat b q hb
    have h3 := hD.1 a' b' p q ha' hb' hpq
    rcases h1 with ⟨h4, h5⟩ | ⟨h4, h5⟩ | ⟨j1, h6, h4, h5⟩ <;> rcases h2 with ⟨h7, h8⟩ | ⟨h7, h8⟩ | ⟨j2, h9, h7, h8⟩ <;> omega
  have hf9 : ∀ q y, pRow E (nI n0) i q = some y → ∃ j, j < 6 ∧ y = ePad E j := by
    intro q y hy
    unfold pRow at hy
    rw [nI_clamp (by omega)] at hy
    by_cases h : q < n0
    · rw [if_pos h] at hy
      exact ⟨ePc E i q, hpc q h, (Option.some.inj hy).symm⟩
    · rw [if_neg h] at hy; cases hy
  have hy9 : pRow E (nI n0) i k = some (ePad E (ePc E i k)) := by
    unfold pRow
    rw [nI_clamp (by omega), if_pos hk]
  refine f_callq (As := [.int (nI k)]) (rest := rest) (w0' := fun _ : Unit => cW (eSetP E (pcDel (ePc E) i k) (eEd E) (eLP E)) (xLen x i (n0 - 1))) F (c_Jx4a65c_remove_915e3_t l D E tl (eLad E i) (eEd E i) (x 14 i) n0 k (pRow E (nI n0) i) (ePad E) (cP E x) (ePad E (ePc E i k)) hk hn0 hf9 hy9) (cwV 1 F.2.2.2.2 hG rfl rfl rfl (by decide +kernel) ⟨hR.1, by have := hR.2; show 8 + (4 + 11) + 63 ≤ R.locals; omega⟩) (c_recvL hK hP hi) hK hX hP hD hS hA hsub hnd (fun r u _ _ => ⟨?_, [], ?_, Or.inl rfl⟩) rfl hl rfl hW hdg ⟨hf.1, hf.2⟩ (fun r u H1 locs1 hw hP1 hD1 hS1 => ?_)
  · refine resList hD hi (fun k j h1 h2 => xLen_o h1 h2) (fun i' h => xLen_n h) (fun i' h => if_neg h) (fun _ _ => rfl) (fun _ h _ => h) ?_ ?_ ?_
    · rw [xLen_14, xLen_15]
      exact List.mem_cons_self
    · have e9 : pRow (eSetP E (pcDel (ePc E) i k) (eEd E) (eLP E)) (nI (n0 - 1)) i = lDel (pRow E (nI n0) i) n0 k := by
        funext q
        show (if q < (nI (n0 - 1)).toNatClampNeg then some (ePad E ((if i = i then (fun q => if q < k then ePc E i q else ePc E i (q + 1)) else ePc E i) q)) else none) = (if q < k then (if q < (nI n0).toNatClampNeg then some (ePad E (ePc E i q)) else none) else if q + 1 < n0 then (if q + 1 < (nI n0).toNatClampNeg then some (ePad E (ePc E i (q + 1))) else none) else if q + 1 = n0 then none else (if q < (nI n0).toNatClampNeg then some (ePad E (ePc E i q)) else none))
        rw [nI_clamp (by omega), nI_clamp (by omega), if_pos rfl]
        show (if q < n0 - 1 then some (ePad E (if q < k then ePc E i q else ePc E i (q + 1))) else none) = _
        by_cases h1 : q < k
        · rw [if_pos (by omega), if_pos h1, if_pos h1, if_pos (by omega)]
        · rw [if_neg h1, if_neg h1]
          by_cases h2 : q + 1 < n0
          · rw [if_pos (by omega), if_pos h2, if_pos h2]
          · rw [if_neg (by omega), if_neg h2]
            by_cases h3 : q + 1 = n0
            · rw [if_pos h3]
            · rw [if_neg h3, if_neg (by omega)]
      rw [xLen_15, e9]
      exact List.mem_cons_of_mem _ List.mem_cons_self
    · intro q1 hq1
      rcases List.mem_cons.mp hq1 with rfl | hq1
      · exact Or.inl rfl
      · rcases List.mem_cons.mp hq1 with rfl | hq1
        · exact Or.inr (Or.inl ⟨hLP, rfl⟩)
        · obtain ⟨j, h1, rfl⟩ := List.mem_map.mp hq1
          exact Or.inr (Or.inr ⟨j, List.mem_range.mp h1, rfl, List.mem_cons_of_mem _ (List.mem_cons_of_mem _ hq1)⟩)
  · rw [cW_fst (x := x), cW_fst0, List.append_nil]
  · have hr : r = some (ePad E (ePc E i k)) := hw
    subst hr
    exact kk H1 locs1 hP1 hD1 hS1
end LROWS3

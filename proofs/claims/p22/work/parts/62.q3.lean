/-! the class's calls, over what holds between two steps -/
theorem cTOk_of {E : cE} {x y : T2} {q : Nat → List Nat} {m : Nat} (h : wR E x y q m) : cTOk x := fun i hi => by
  rcases (h.2.2.1.2 i hi).2.2.2.1 with c | c
  · exact Or.inl c.2
  · rcases (h.2.1.2.1 i hi).2 with d | ⟨t, k, -, k1, -, k2⟩
    · exact absurd d c.1
    · exact Or.inr ⟨k, k1, c.2.trans k2⟩
def pYes (E : cE) (x : T2) (v p k a : Nat) : Prop := k ≤ 6 ∧ a < k ∧ x 15 v = nI k ∧ (∀ t, t < k → ePc E v t < 6) ∧ v ∈ eLP E ∧ cIdx E v p k 0 = nI a ∧ ePc E v a = p ∧ ∀ t, t < k → t ≠ a → ePc E v t ≠ p
def pNo (E : cE) (x : T2) (v p k : Nat) : Prop := k ≤ 5 ∧ x 15 v = nI k ∧ (∀ t, t < k → ePc E v t < 6) ∧ (k = 0 ∨ v ∈ eLP E) ∧ (v ∈ eLP E ∨ (k = 0 ∧ v ∉ eLP E ∧ eEd E v = eDf E)) ∧ cIdx E v p k 0 = -1 ∧ ∀ t, t < k → ePc E v t ≠ p
theorem p_or {E : cE} {x : T2} {m n : Nat} {pr : Int32} (h : pI E x m n pr) {v p : Nat} (hv : v < 8) (hp : p < 6) : (∃ k a, pYes E x v p k a) ∨ ∃ k, pNo E x v p k := by
  obtain ⟨⟨y, q, hw, -, -⟩, -⟩ := h
  obtain ⟨k, k1, k2, k3, k4, k5, k6, k7⟩ := w_idx hw.2.2.2.1 hv hp
  rcases k7 with ⟨g1, g2, -, g3⟩ | ⟨a, a1, a2, a3, -⟩
  · exact Or.inr ⟨k, g1, k3, k4, k5, k6, g2, g3⟩
  · refine Or.inl ⟨k, a, k1, a1, k3, k4, k5.resolve_left (by omega), a3, a2, fun t ht hta e => ?_⟩
    obtain ⟨k', d1, d2, d3, d4, d5, -⟩ := hw.2.2.2.1 v hv
    have hkk : k' = k := nI_inj (by omega) (by omega) (d3.symm.trans k3)
    subst hkk
    rcases Nat.lt_or_gt_of_ne hta with c | c
    · exact d5 t a c a1 (e.trans a2.symm)
    · exact d5 a t c ht (a2.trans e.symm)
theorem p_7 {E : cE} {x y : T2} {q : Nat → List Nat} {m : Nat} (h : wR E x y q m) {v k : Nat} (hv : v < 8) (hk : k ≤ 6) (h15 : x 15 v = nI k) : y 7 v = nI k := by
  obtain ⟨k', d1, d2, d3, -⟩ := h.2.2.2.1 v hv
  have hkk : k' = k := nI_inj (by omega) (by omega) (d3.symm.trans h15)
  rw [d2, hkk]
theorem p_add {E : cE} {x : T2} {m n : Nat} {pr : Int32} (h : pI E x m n pr) {v p k : Nat} (hv : v < 8) (hp : p < 6) (hk : pNo E x v p k) {ed : Nat → Nat} {LP : List Nat} (hw : wNew E ed LP v) :
    pI (eSetP E (pcAdd (ePc E) v k p) ed LP) (xLen x v (k + 1)) m n pr ∧ ∃ a, pYes (eSetP E (pcAdd (ePc E) v k p) ed LP) (xLen x v (k + 1)) v p (k + 1) a := by
  obtain ⟨k1, k2, k3, k4, k5, k6, k7⟩ := hk
  have h1 : pI (eSetP E (pcAdd (ePc E) v k p) ed LP) (xLen x v (k + 1)) m n pr := by
    obtain ⟨⟨y, q, w1, w2, w3⟩, hm, hs, ht, hK, hc⟩ := h
    refine ⟨⟨_, q, w_plan w1 hv hp k1 (p_7 w1 hv (by omega) k2) k7 hw, ?_, fun p' hp' => ?_⟩, hm, fun w hw' => ?_, zT_c ht (fun w => xLen_o (by decide) (by decide)) (fun w => xLen_o (by decide) (by decide)), fun j hj => ?_, ?_⟩
    · rw [up2_k _ _ _ _ (by decide), up2_k _ _ _ _ (by decide), up2_k _ _ _ _ (by decide)]; exact w2
    · rw [up2_k _ _ _ _ (by decide), up2_k _ _ _ _ (by decide), up2_k _ _ _ _ (by decide)]; exact w3 p' hp'
    · rw [xLen_o (by decide) (by decide)]; exact hs w hw'
    · rw [xLen_o (by decide) (by decide), xLen_o (by decide) (by decide)]; exact hK j hj
    · exact (cdA_e (E := E) (x := x) (fun _ _ => rfl) (fun j => xLen_o (by decide) (by decide)) 6).trans hc
  refine ⟨h1, ?_⟩
  have e15 : xLen x v (k + 1) 15 v = nI (k + 1) := xLen_15
  rcases p_or h1 hv hp with ⟨k', a, g⟩ | ⟨k', g⟩
  · have : k' = k + 1 := nI_inj (by have := g.1; omega) (by omega) (g.2.2.1.symm.trans e15)
    subst this
    exact ⟨a, g⟩
  · have : k' = k + 1 := nI_inj (by have := g.1; omega) (by omega) (g.2.1.symm.trans e15)
    subst this
    refine absurd ?_ (g.2.2.2.2.2.2 k (Nat.lt_succ_self k))
    show pcAdd (ePc E) v k p v k = p
    unfold pcAdd
    rw [if_pos rfl, if_pos rfl]
theorem p_del {E : cE} {x : T2} {m n : Nat} {pr : Int32} (h : pI E x m n pr) {v p k a : Nat} (hv : v < 8) (hp : p < 6) (hk : pYes E x v p k a) :
    pI (eSetP E (pcDel (ePc E) v a) (eEd E) (eLP E)) (cDropX x v p k) m n pr ∧ pNo (eSetP E (pcDel (ePc E) v a) (eEd E) (eLP E)) (cDropX x v p k) v p (k - 1) ∧ (cDropX x v p k 6 v = x 6 v ∨ (x 6 v = nI 1 ∧ cDropX x v p k 6 v = nI 0)) ∧ ∀ w, cDropX x v p k 10 w = x 10 w := by
  obtain ⟨k1, k2, k3, k4, k5, k6, k7, k8⟩ := hk
  have e10 : ∀ f w, f ≠ 6 ∧ f ≠ 7 ∧ f ≠ 8 ∧ f ≠ 9 ∧ f ≠ 11 ∧ f ≠ 12 ∧ f ≠ 13 → cDropX x v p k f w = xLen x v (k - 1) f w := fun f w hf => by
    unfold cDropX
    split
    · exact cLeave_f2 _ _ _ _ hf
    · rfl
  have hz : zT x m → zT (cDropX x v p k) m := fun ht w hw => by
    have h0 : zT1 (xLen x v (k - 1)) m w := zT1_c (ht w hw) (xLen_o (by decide) (by decide)) (xLen_o (by decide) (by decide))
    unfold cDropX
    split
    · exact zT1_leave h0 v
    · exact h0
  have h1 : pI (eSetP E (pcDel (ePc E) v a) (eEd E) (eLP E)) (cDropX x v p k) m n pr := by
    obtain ⟨⟨y, q, w1, w2, w3⟩, hm, hs, ht, hK, hc⟩ := h
    obtain ⟨y', q', -, g2, g3⟩ := w_drop w1 hv hp k2 k1 (p_7 w1 hv k1 k3)
    refine ⟨⟨y', q', g2, ?_, fun p' hp' => ?_⟩, hm, fun w hw' => ?_, hz ht, fun j hj => ?_, ?_⟩
    · rw [g3 0 0 (by decide), up2_k _ _ _ _ (by decide)]; exact w2
    · rw [g3 1 p' (by decide), up2_k _ _ _ _ (by decide)]; exact w3 p' hp'
    · rw [e10 10 w (by decide), xLen_o (by decide) (by decide)]; exact hs w hw'
    · rw [e10 4 j (by decide), e10 5 j (by decide), xLen_o (by decide) (by decide), xLen_o (by decide) (by decide)]; exact hK j hj
    · exact (cdA_e (E := E) (x := x) (fun _ _ => rfl) (fun j => by rw [e10 4 j (by decide), xLen_o (by decide) (by decide)]) 6).trans hc
  have e15 : cDropX x v p k 15 v = nI (k - 1) := by
    rw [e10 15 v (by decide)]
    exact xLen_15
  refine ⟨h1, ?_, ?_, fun w => by rw [e10 10 w (by decide), xLen_o (by decide) (by decide)]⟩
  · rcases p_or h1 hv hp with ⟨k', b, g⟩ | ⟨k', g⟩
    · have : k' = k - 1 := nI_inj (by have := g.1; omega) (by omega) (g.2.2.1.symm.trans e15)
      subst this
      exfalso
      have hb := g.2.1
      have hg : pcDel (ePc E) v a v b = p := g.2.2.2.2.2.2.1
      unfold pcDel at hg
      rw [if_pos rfl] at hg
      by_cases hba : b < a
      · rw [if_pos hba] at hg
        exact k8 b (by omega) (by omega) hg
      · rw [if_neg hba] at hg
        exact k8 (b + 1) (by omega) (by omega) hg
    · have : k' = k - 1 := nI_inj (by have := g.1; omega) (by omega) (g.2.1.symm.trans e15)
      subst this
      exact g
  · unfold cDropX
    split
    · rename_i hc
      refine Or.inr ⟨?_, ?_⟩
      · have := cAt_y (x := xLen x v (k - 1)) (i := v) (st := nI 1) (j := p) (by rw [hc.1]; decide)
        rw [xLen_o (by decide) (by decide)] at this
        exact this.1
      · rw [cLeave_6, if_pos rfl]
    · exact Or.inl (xLen_o (by decide) (by decide))
/-! a turn -/
theorem ask_v {x : T2} {p m0 : Nat} : ∀ (n i : Nat) (r : Int32), cFreeR x p n (nI (aF m0 i)) r → ∃ j, j ≤ i + n ∧ r = nI (aF m0 j)
  | 0, i, r, h => ⟨i, by omega, h⟩
  | n + 1, i, r, h => by
    rcases h with ⟨-, h1⟩ | ⟨-, h1⟩
    · rw [aF_s] at h1
      obtain ⟨j, j1, j2⟩ := ask_v n (i + 1) r h1
      exact ⟨j, by omega, j2⟩
    · exact ⟨i, by omega, h1⟩
theorem p_ask {E : cE} {x : T2} {m n : Nat} {pr : Int32} (h : pI E x m n pr) {v p : Nat} (hv : v < 8) (hp : p < 6) (hno : x 11 v = -1) {r : Int32} (hr : cFreeR x p 8 ((x 0 0 / nI 5 + nI 1) * nI 5) r) :
    (∃ t, r = nI t ∧ m < t ∧ t % 5 = 0 ∧ t ≤ 2000) ∧ pI E (up2 (up2 x 11 v r) 12 v (nI p)) m n pr := by
  obtain ⟨⟨y, q, w1, w2, w3⟩, hm, hs, ht, hK, hc⟩ := h
  have hx0 : x 0 0 = nI m := w1.2.2.1.1.1.trans w2
  have hr2 := hr
  rw [hx0, aF_0 m (by omega)] at hr2
  obtain ⟨j, j1, j2⟩ := ask_v 8 0 r hr2
  have hj : m < aF m j ∧ aF m j % 5 = 0 ∧ aF m j ≤ 1300 := ⟨by unfold aF; omega, by unfold aF; omega, aF_lt hm (by omega)⟩
  have hy12 : y 12 v = -1 := (w1.2.2.1.2 v hv).2.2.1.symm.trans hno
  obtain ⟨n9, k, -, a2, a3⟩ := w_ask w1 w2 hm hm hv hp hy12
  have hrk : r = nI k := cFreeR_one 8 _ r _ hr a2
  rw [← hrk] at a3
  refine ⟨⟨aF m j, j2, hj.1, hj.2.1, by omega⟩, ⟨_, q, a3, ?_, fun p' hp' => ?_⟩, hm, fun w hw => ?_, fun w hw => ?_, fun i hi => ?_, ?_⟩
  · rw [up2_k _ _ _ _ (by decide), up2_k _ _ _ _ (by decide), up2_k _ _ _ _ (by decide)]; exact w2
  · rw [up2_k _ _ _ _ (by decide), up2_k _ _ _ _ (by decide), up2_k _ _ _ _ (by decide)]; exact w3 p' hp'
  · rw [up2_k _ _ _ _ (by decide), up2_k _ _ _ _ (by decide)]; exact hs w hw
  · by_cases hwv : w = v
    · subst hwv
      refine Or.inr ⟨aF m j, by omega, hj.2.1, by omega, ?_, Or.inl hj.1⟩
      rw [up2_k _ _ _ _ (by decide), up2_s]; exact j2
    · exact zT1_c (ht w hw) (by rw [up2_k _ _ _ _ (by decide), up2_n _ _ _ _ hwv]) (by rw [up2_k _ _ _ _ (by decide), up2_k _ _ _ _ (by decide)])
  · rw [up2_k _ _ _ _ (by decide), up2_k _ _ _ _ (by decide), up2_k _ _ _ _ (by decide), up2_k _ _ _ _ (by decide)]; exact hK i hi
  · exact (cdA_e (E := E) (x := x) (fun _ _ => rfl) (fun j => by rw [up2_k _ _ _ _ (by decide), up2_k _ _ _ _ (by decide)]) 6).trans hc
/-! opening and closing -/
theorem p_open {E : cE} {x : T2} {m n : Nat} {pr : Int32} (h : pI E x m n pr) (p : Nat) : pI E (up2 x 3 p (nI 1)) m n pr := by
  obtain ⟨⟨y, q, w1, w2, w3⟩, hm, hs, ht, hK, hc⟩ := h
  refine ⟨⟨_, q, w_openo w1 p, ?_, fun p' hp' => ?_⟩, hm, fun w hw => ?_, zT_c ht (fun w => up2_k _ _ _ _ (by decide)) (fun w => up2_k _ _ _ _ (by decide)), fun i hi => ?_, ?_⟩
  · rw [up2_k _ _ _ _ (by decide), up2_k _ _ _ _ (by decide)]; exact w2
  · rw [up2_k _ _ _ _ (by decide), up2_k _ _ _ _ (by decide)]; exact w3 p' hp'
  · rw [up2_k _ _ _ _ (by decide)]; exact hs w hw
  · rw [up2_k _ _ _ _ (by decide), up2_k _ _ _ _ (by decide)]; exact hK i hi
  · exact (cdA_e (E := E) (x := x) (fun _ _ => rfl) (fun j => up2_k _ _ _ _ (by decide)) 6).trans hc
theorem cCnt_c {x x1 : T2} {st : Int32} {p : Nat} (h : ∀ i, cAt x1 i st p = cAt x i st p) : ∀ n, cCnt x1 st p n = cCnt x st p n
  | 0 => rfl
  | n + 1 => by rw [cCnt, cCnt, cCnt_c h n, h n]
theorem cCnt_e {x x1 : T2} {st : Int32} {p : Nat} (h : ∀ i, x1 6 i = x 6 i ∧ x1 7 i = x 7 i) (n : Nat) : cCnt x1 st p n = cCnt x st p n :=
  cCnt_c (fun i => by unfold cAt; rw [(h i).1, (h i).2]) n
theorem emp_k {x : T2} {p f : Nat} (hf : kP f) (i : Nat) : ∀ n, cEmp x p n f i = x f i
  | 0 => rfl
  | n + 1 => by
    rw [cEmp]
    split
    · rw [cLeave_f2 _ _ _ _ hf]; exact emp_k hf i n
    · exact emp_k hf i n
theorem emp_T {x : T2} {p m : Nat} (h : zT x m) : ∀ n, zT (cEmp x p n) m
  | 0 => h
  | n + 1 => by
    rw [cEmp]
    split
    · exact fun v hv => zT1_leave (emp_T h n v hv) n
    · exact emp_T h n
theorem emp_2 {x : T2} {p : Nat} (i : Nat) : ∀ n, cAt (cEmp x p n) i (nI 2) p = cAt x i (nI 2) p
  | 0 => rfl
  | n + 1 => by
    rw [cEmp]
    split
    · rename_i hc
      refine Eq.trans ?_ (emp_2 i n)
      have h1 := cAt_y (x := cEmp x p n) (i := n) (st := nI 1) (j := p) (by rw [hc]; decide)
      by_cases hi : i = n
      · subst hi
        rw [cAt_0 (fun c => by rw [cLeave_6, if_pos rfl] at c; exact nI_02 c.1), cAt_0 (fun c => nI_12 (h1.1.symm.trans c.1))]
      · unfold cAt
        rw [cLeave_6, cLeave_7, if_neg hi, if_neg hi]
    · exact emp_2 i n
theorem p_close {E : cE} {x : T2} {m n : Nat} {pr : Int32} (h : pI E x m n pr) {p : Nat} (hp : p < 6) :
    pI E (cEmp (up2 x 3 p (nI 0)) p 8) m n pr ∧ cEmpN (up2 x 3 p (nI 0)) p 8 = cCnt x (nI 1) p 8 ∧ cCnt (cEmp (up2 x 3 p (nI 0)) p 8) (nI 1) p 8 = 0 ∧ cCnt (cEmp (up2 x 3 p (nI 0)) p 8) (nI 2) p 8 = cCnt x (nI 2) p 8 ∧ ∀ w, cEmp (up2 x 3 p (nI 0)) p 8 10 w = x 10 w := by
  obtain ⟨⟨y, q, w1, w2, w3⟩, hm, hs, ht, hK, hc⟩ := h
  have w9 := w_clo w1 p
  obtain ⟨y', -, g2, g3, g4⟩ := w_close hp w9
  have e10 : ∀ f i, kP f → f ≠ 3 → cEmp (up2 x 3 p (nI 0)) p 8 f i = x f i := fun f i hf h3 => by
    rw [emp_k hf i 8, up2_k _ _ _ _ h3]
  refine ⟨⟨⟨y', _, g2, ?_, fun p' hp' => ?_⟩, hm, fun w hw => ?_, emp_T (zT_c ht (fun w => up2_k _ _ _ _ (by decide)) (fun w => up2_k _ _ _ _ (by decide))) 8, fun i hi => ?_, ?_⟩, ?_, ?_, ?_, fun w => e10 10 w (by unfold kP; decide) (by decide)⟩
  · rw [g4 0 0 (by decide), up2_k _ _ _ _ (by decide), up2_k _ _ _ _ (by decide)]; exact w2
  · rw [g4 1 p' (by decide), up2_k _ _ _ _ (by decide), up2_k _ _ _ _ (by decide)]; exact w3 p' hp'
  · rw [e10 10 w (by unfold kP; decide) (by decide)]; exact hs w hw
  · rw [e10 4 i (by unfold kP; decide) (by decide), e10 5 i (by unfold kP; decide) (by decide)]; exact hK i hi
  · exact (cdA_e (E := E) (x := x) (fun _ _ => rfl) (fun j => e10 4 j (by unfold kP; decide) (by decide)) 6).trans hc
  · rw [g3, w_cnt w1 hp]
  · rw [w_cnt g2 hp]
    unfold qEmp
    rw [if_pos rfl]
    rfl
  · rw [cCnt_c (x := up2 x 3 p (nI 0)) (fun i => emp_2 i 8)]
    exact cCnt_e (fun i => ⟨up2_k _ _ _ _ (by decide), up2_k _ _ _ _ (by decide)⟩) 8
/-! room and time -/
theorem p_setp {E : cE} {x : T2} {m n : Nat} {pr : Int32} (h : pI E x m n pr) (p : Nat) {r : Nat} (hr : r < 9) (b : Int32) : pI E (up2 (up2 x 1 p (nI r)) 2 p b) m n pr := by
  obtain ⟨⟨y, q, w1, w2, w3⟩, hm, hs, ht, hK, hc⟩ := h
  refine ⟨⟨_, q, w_setp w1 p (nI r) b, ?_, fun p' hp' => ?_⟩, hm, fun w hw => ?_, zT_c ht (fun w => ?_) (fun w => ?_), fun i hi => ?_, ?_⟩
  · rw [up2_k _ _ _ _ (by decide), up2_k _ _ _ _ (by decide), up2_k _ _ _ _ (by decide)]; exact w2
  · rw [up2_k _ _ _ _ (by decide)]
    by_cases e : p' = p
    · subst e
      exact ⟨r, hr, up2_s _ _ _ _⟩
    · rw [up2_n _ _ _ _ e, up2_k _ _ _ _ (by decide)]; exact w3 p' hp'
  · rw [up2_k _ _ _ _ (by decide), up2_k _ _ _ _ (by decide)]; exact hs w hw
  · rw [up2_k _ _ _ _ (by decide), up2_k _ _ _ _ (by decide)]
  · rw [up2_k _ _ _ _ (by decide), up2_k _ _ _ _ (by decide)]
  · rw [up2_k _ _ _ _ (by decide), up2_k _ _ _ _ (by decide), up2_k _ _ _ _ (by decide), up2_k _ _ _ _ (by decide)]; exact hK i hi
  · exact (cdA_e (E := E) (x := x) (fun _ _ => rfl) (fun j => by rw [up2_k _ _ _ _ (by decide), up2_k _ _ _ _ (by decide)]) 6).trans hc
/-! cards -/
theorem p_want {E : cE} {x : T2} {m n : Nat} {pr : Int32} (h : pI E x m n pr) {p : Nat} (hp : p < 6) : pI E (up2 x 5 p (x 5 p + nI 1)) m (n + 1) pr := by
  obtain ⟨⟨y, q, w1, w2, w3⟩, hm, hs, ht, hK, hc⟩ := h
  refine ⟨⟨_, q, w_sende w1 hp, ?_, fun p' hp' => ?_⟩, hm, fun w hw => ?_, zT_c ht (fun w => up2_k _ _ _ _ (by decide)) (fun w => up2_k _ _ _ _ (by decide)), fun i hi => ?_, ?_⟩
  · rw [up2_k _ _ _ _ (by decide), up2_k _ _ _ _ (by decide)]; exact w2
  · rw [up2_k _ _ _ _ (by decide), up2_k _ _ _ _ (by decide)]; exact w3 p' hp'
  · rw [up2_k _ _ _ _ (by decide)]; exact hs w hw
  · obtain ⟨a, b, h1, h2, h3⟩ := hK i hi
    rw [up2_k _ _ _ _ (by decide)]
    by_cases e : i = p
    · subst e
      exact ⟨a, b + 1, h1, by rw [up2_s, h2, nI_add], by omega⟩
    · exact ⟨a, b, h1, by rw [up2_n _ _ _ _ e]; exact h2, by omega⟩
  · exact (cdA_e (E := E) (x := x) (fun _ _ => rfl) (fun j => up2_k _ _ _ _ (by decide)) 6).trans hc
theorem p_card {E : cE} {x : T2} {m n : Nat} {pr : Int32} (h : pI E x m n pr) {v p : Nat} (hv : v < 8) (hp : p < 6) (h4 : ¬ x 4 p = nI 0) : pI (eSetS E (up2 (eS E) v p (eS E v p + nI 1))) (up2 x 4 p (x 4 p - nI 1)) m n pr := by
  obtain ⟨⟨y, q, w1, w2, w3⟩, hm, hs, ht, hK, hc⟩ := h
  refine ⟨⟨_, q, w_card w1 hv hp, ?_, fun p' hp' => ?_⟩, hm, fun w hw => ?_, zT_c ht (fun w => up2_k _ _ _ _ (by decide)) (fun w => up2_k _ _ _ _ (by decide)), fun i hi => ?_, ?_⟩
  · rw [up2_k _ _ _ _ (by decide), up2_k _ _ _ _ (by decide), up2_k _ _ _ _ (by decide)]; exact w2
  · rw [up2_k _ _ _ _ (by decide), up2_k _ _ _ _ (by decide), up2_k _ _ _ _ (by decide)]; exact w3 p' hp'
  · rw [up2_k _ _ _ _ (by decide)]; exact hs w hw
  · obtain ⟨a, b, h1, h2, h3⟩ := hK i hi
    rw [up2_k x (k := 4) (k' := 5) p i _ (by decide)]
    by_cases e : i = p
    · subst e
      have ha : a ≠ 0 := fun e => h4 (by rw [h1, e])
      exact ⟨a - 1, b, by rw [up2_s, h1, nI_dec (by omega)], h2, by omega⟩
    · exact ⟨a, b, by rw [up2_n _ _ _ _ e]; exact h1, h2, h3⟩
  · rw [cdA_u hv]; exact hc
theorem p_rep {E : cE} {x : T2} {m n : Nat} {pr : Int32} (h : pI E x m n pr) (t : Int32) : pI E (cRepX x t 6) m n (pr + cRepV x t 6) := by
  obtain ⟨⟨y, q, w1, w2, w3⟩, hm, hs, ht, hK, hc⟩ := h
  obtain ⟨g1, -, g3⟩ := w_rep w1 t 6 (Nat.le_refl 6)
  refine ⟨⟨_, q, g1, ?_, fun p' hp' => ?_⟩, hm, fun w hw => ?_, zT_c ht (fun w => rpX_o (by decide) w 6) (fun w => rpX_o (by decide) w 6), rp_K hK, ?_⟩
  · rw [g3 0 0 (by decide)]; exact w2
  · rw [g3 1 p' (by decide)]; exact w3 p' hp'
  · rw [rpX_o (by decide)]; exact hs w hw
  · rw [rp_cd 6 (Nat.le_refl 6), hc, Int32.add_assoc]
/-! minutes -/
theorem p_adv {E : cE} {x : T2} {m n : Nat} {pr : Int32} (h : pI E x m n pr) {d : Nat} (hd : m + d ≤ 1200) : ∃ x', cMins E d x x' ∧ pI E x' (m + d) n pr ∧ zM x x' ∧ x' 0 0 = nI (m + d) := by
  obtain ⟨⟨y, q, w1, w2, w3⟩, hm, hs, ht, hK, hc⟩ := h
  obtain ⟨x', y', q', k1, k2, k3, k4, k5, k6, k7⟩ := z_mins d x y q m w1 w2 hd w3 hs ht
  refine ⟨x', k1, ⟨⟨y', q', k2, k3, k4⟩, hd, zM_S k5, k6, fun i hi => ?_, ?_⟩, k5, k2.2.2.1.1.1.trans k3⟩
  · rw [k7 4 i (Or.inl rfl), k7 5 i (Or.inr rfl)]; exact hK i hi
  · exact (cdA_e (E := E) (x := x) (fun _ _ => rfl) (fun j => k7 4 j (Or.inl rfl)) 6).trans hc

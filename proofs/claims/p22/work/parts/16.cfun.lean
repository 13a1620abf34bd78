/-! the class's steps as functions and relations of its table x -/
def cAt (x : Nat → Nat → Int32) (i : Nat) (st : Int32) (j : Nat) : Nat := if x 6 i = st ∧ x 7 i = nI j then 1 else 0
def cHas (x : Nat → Nat → Int32) (i j : Nat) : Nat := if (x 10 i &&& (nI 1 <<< (nI j &&& 31))) = nI 0 then 0 else 1
def cCnt (x : Nat → Nat → Int32) (st : Int32) (j : Nat) : Nat → Nat
  | 0 => 0
  | k + 1 => cCnt x st j k + cAt x k st j
theorem cCnt_le (x : Nat → Nat → Int32) (st : Int32) (j : Nat) : ∀ k, cCnt x st j k ≤ k := by
  intro k
  induction k with
  | zero => exact Nat.le_refl 0
  | succ k ih =>
    rw [cCnt]
    have : cAt x k st j ≤ 1 := by unfold cAt; split <;> omega
    omega
def cTk (x : Nat → Nat → Int32) (j : Nat) (f : Int32) : Prop := ∃ k, k < 8 ∧ x 12 k = nI j ∧ x 11 k = f
def cFreeR (x : Nat → Nat → Int32) (j : Nat) : Nat → Int32 → Int32 → Prop
  | 0, f, r => r = f
  | n + 1, f, r => (cTk x j f ∧ cFreeR x j n (f + nI 5) r) ∨ (¬ cTk x j f ∧ r = f)
def cIdle (x : Nat → Nat → Int32) (i : Nat) : Nat → Nat → Int32 := up2 (up2 (up2 (up2 x 6 i (nI 0)) 7 i (-1)) 8 i (-1)) 9 i (-1)
def cLose (x : Nat → Nat → Int32) (i : Nat) : Nat → Nat → Int32 := up2 (up2 x 11 i (-1)) 12 i (-1)
/-- those behind place x 8 i move up, as far as visitor k -/
def cUn (x : Nat → Nat → Int32) (i k : Nat) : Nat → Nat → Int32 := fun f n => if f = 8 then (if n < k ∧ x 6 n = nI 1 ∧ x 7 n = x 7 i ∧ x 8 i < x 8 n then x 8 n - nI 1 else x 8 n) else x f n
theorem cUn_0 (x : Nat → Nat → Int32) (i : Nat) : x = cUn x i 0 := by
  funext f n
  unfold cUn
  by_cases h : f = 8
  · subst h
    rw [if_pos rfl, if_neg (fun q => absurd q.1 (Nat.not_lt_zero n))]
  · rw [if_neg h]
theorem cUn_8i (x : Nat → Nat → Int32) (i k : Nat) : cUn x i k 8 i = x 8 i := by
  unfold cUn
  rw [if_pos rfl, if_neg (fun q => Int32.lt_irrefl q.2.2.2)]
theorem cUn_8k (x : Nat → Nat → Int32) (i k : Nat) : cUn x i k 8 k = x 8 k := by
  unfold cUn
  rw [if_pos rfl, if_neg (fun q => absurd q.1 (Nat.lt_irrefl k))]
theorem cUn_s (x : Nat → Nat → Int32) (i k : Nat) (h : x 6 k = nI 1 ∧ x 7 k = x 7 i ∧ x 8 i < x 8 k) : up2 (cUn x i k) 8 k (x 8 k - nI 1) = cUn x i (k + 1) := by
  funext f n
  unfold cUn up2
  by_cases hf : f = 8
  · subst hf
    simp only [if_true]
    by_cases hn : n = k
    · subst hn
      rw [if_pos rfl, if_pos ⟨Nat.lt_succ_self n, h⟩]
    · rw [if_neg hn]
      by_cases h1 : n < k ∧ x 6 n = nI 1 ∧ x 7 n = x 7 i ∧ x 8 i < x 8 n
      · rw [if_pos h1, if_pos ⟨by omega, h1.2⟩]
      · rw [if_neg h1, if_neg (fun q => h1 ⟨by omega, q.2⟩)]
  · simp [hf]
theorem cUn_n (x : Nat → Nat → Int32) (i k : Nat) (h : ¬ (x 6 k = nI 1 ∧ x 7 k = x 7 i ∧ x 8 i < x 8 k)) : cUn x i k = cUn x i (k + 1) := by
  funext f n
  unfold cUn
  by_cases hf : f = 8
  · subst hf
    simp only [if_true]
    by_cases h1 : n < k ∧ x 6 n = nI 1 ∧ x 7 n = x 7 i ∧ x 8 i < x 8 n
    · rw [if_pos h1, if_pos ⟨by omega, h1.2⟩]
    · rw [if_neg h1, if_neg]
      intro q
      by_cases hn : n = k
      · subst hn
        exact h q.2
      · exact h1 ⟨by omega, q.2⟩
  · simp [hf]
/-- from place pl on all move back, as far as visitor k -/
def cSh (x : Nat → Nat → Int32) (j : Nat) (pl : Int32) (k : Nat) : Nat → Nat → Int32 := fun f n => if f = 8 then (if n < k ∧ x 6 n = nI 1 ∧ x 7 n = nI j ∧ ¬ x 8 n < pl then x 8 n + nI 1 else x 8 n) else x f n
theorem cSh_0 (x : Nat → Nat → Int32) (j : Nat) (pl : Int32) : x = cSh x j pl 0 := by
  funext f n
  unfold cSh
  by_cases h : f = 8
  · subst h
    rw [if_pos rfl, if_neg (fun q => absurd q.1 (Nat.not_lt_zero n))]
  · rw [if_neg h]
theorem cSh_8k (x : Nat → Nat → Int32) (j : Nat) (pl : Int32) (k : Nat) : cSh x j pl k 8 k = x 8 k := by
  unfold cSh
  rw [if_pos rfl, if_neg (fun q => absurd q.1 (Nat.lt_irrefl k))]
theorem cSh_s (x : Nat → Nat → Int32) (j : Nat) (pl : Int32) (k : Nat) (h : x 6 k = nI 1 ∧ x 7 k = nI j ∧ ¬ x 8 k < pl) : up2 (cSh x j pl k) 8 k (x 8 k + nI 1) = cSh x j pl (k + 1) := by
  funext f n
  unfold cSh up2
  by_cases hf : f = 8
  · subst hf
    simp only [if_true]
    by_cases hn : n = k
    · subst hn
      rw [if_pos rfl, if_pos ⟨Nat.lt_succ_self n, h⟩]
    · rw [if_neg hn]
      by_cases h1 : n < k ∧ x 6 n = nI 1 ∧ x 7 n = nI j ∧ ¬ x 8 n < pl
      · rw [if_pos h1, if_pos ⟨by omega, h1.2⟩]
      · rw [if_neg h1, if_neg (fun q => h1 ⟨by omega, q.2⟩)]
  · simp [hf]
theorem cSh_n (x : Nat → Nat → Int32) (j : Nat) (pl : Int32) (k : Nat) (h : ¬ (x 6 k = nI 1 ∧ x 7 k = nI j ∧ ¬ x 8 k < pl)) : cSh x j pl k = cSh x j pl (k + 1) := by
  funext f n
  unfold cSh
  by_cases hf : f = 8
  · subst hf
    simp only [if_true]
    by_cases h1 : n < k ∧ x 6 n = nI 1 ∧ x 7 n = nI j ∧ ¬ x 8 n < pl
    · rw [if_pos h1, if_pos ⟨by omega, h1.2⟩]
    · rw [if_neg h1, if_neg]
      intro q
      by_cases hn : n = k
      · subst hn
        exact h q.2
      · exact h1 ⟨by omega, q.2⟩
  · simp [hf]
def cJoin (x : Nat → Nat → Int32) (i j : Nat) (pl : Int32) : Nat → Nat → Int32 := up2 (up2 (up2 (cSh x j pl 8) 6 i (nI 1)) 7 i (nI j)) 8 i pl
def cLeave (x : Nat → Nat → Int32) (i : Nat) : Nat → Nat → Int32 := cIdle (if x 13 i = nI 0 then cUn x i 8 else up2 (cLose (cUn x i 8) i) 13 i (nI 0)) i
def cBt (x : Nat → Nat → Int32) (j : Nat) : Nat → Nat
  | 0 => 0
  | k + 1 => cBt x j k + (if x 6 k = nI 1 ∧ x 7 k = nI j ∧ ¬ x 13 k = nI 0 then 1 else 0)
theorem cBt_le (x : Nat → Nat → Int32) (j : Nat) : ∀ k, cBt x j k ≤ k := by
  intro k
  induction k with
  | zero => exact Nat.le_refl 0
  | succ k ih =>
    rw [cBt]
    split <;> omega
def cFst (x : Nat → Nat → Int32) (j i : Nat) : Prop := x 6 i = nI 1 ∧ x 7 i = nI j ∧ x 8 i = nI 0
def cGo (x : Nat → Nat → Int32) (i j : Nat) : Nat → Nat → Int32 := up2 (up2 (up2 (cLeave x i) 6 i (nI 2)) 7 i (nI j)) 9 i (x 0 0 + x 2 j)
def cEmp (x : Nat → Nat → Int32) (j : Nat) : Nat → Nat → Nat → Int32
  | 0 => x
  | k + 1 => if cAt (cEmp x j k) k (nI 1) j = 1 then cLeave (cEmp x j k) k else cEmp x j k
def cEmpN (x : Nat → Nat → Int32) (j : Nat) : Nat → Nat
  | 0 => 0
  | k + 1 => cEmpN x j k + cAt (cEmp x j k) k (nI 1) j
theorem cAt_01 (x : Nat → Nat → Int32) (i : Nat) (st : Int32) (j : Nat) : cAt x i st j = 0 ∨ cAt x i st j = 1 := by
  unfold cAt
  split
  · exact Or.inr rfl
  · exact Or.inl rfl
theorem cAt_y {x : Nat → Nat → Int32} {i : Nat} {st : Int32} {j : Nat} (h : ¬ cAt x i st j = 0) : x 6 i = st ∧ x 7 i = nI j := by
  unfold cAt at h
  by_cases q : x 6 i = st ∧ x 7 i = nI j
  · exact q
  · rw [if_neg q] at h; exact absurd rfl h
theorem cAt_n {x : Nat → Nat → Int32} {i : Nat} {st : Int32} {j : Nat} (h : cAt x i st j = 0) : ¬ (x 6 i = st ∧ x 7 i = nI j) := by
  intro q
  unfold cAt at h
  rw [if_pos q] at h
  exact absurd h (by decide)
theorem cEmpN_le (x : Nat → Nat → Int32) (j : Nat) : ∀ k, cEmpN x j k ≤ k := by
  intro k
  induction k with
  | zero => exact Nat.le_refl 0
  | succ k ih =>
    rw [cEmpN]
    rcases cAt_01 (cEmp x j k) k (nI 1) j with h | h <;> omega
def cOut1 (z : Nat → Nat → Int32) (k : Nat) : Nat → Nat → Int32 := if z 6 k = nI 2 ∧ z 9 k ≤ z 0 0 then cIdle (up2 z 10 k (z 10 k ||| (nI 1 <<< (z 7 k &&& 31)))) k else z
def cOut (x : Nat → Nat → Int32) : Nat → Nat → Nat → Int32
  | 0 => x
  | k + 1 => cOut1 (cOut x k) k
theorem nI_nem1 {j : Nat} (h : j < 2 ^ 31) : ¬ nI j = -1 := by
  intro q
  have h1 : (nI j).toInt = (-1 : Int32).toInt := by rw [q]
  rw [nI_toInt h, show (-1 : Int32).toInt = -1 from by decide] at h1
  omega
theorem cPad_inj {A : Nat → Prop} {E : cE} {x : Nat → Nat → Int32} (hD : va_D A (cW E x)) {j k : Nat} (hj : j < 6) (hk : k < 6) (h : ePad E j = ePad E k) : j = k := by
  have := hD.1 _ _ _ _ (cW_P E x hj) (cW_P E x hk) h
  omega
theorem cTp_iff {A : Nat → Prop} {E : cE} {x : Nat → Nat → Int32} (hD : va_D A (cW E x)) {v : Int32} {j : Nat} (hj : j < 6) (hv : v = -1 ∨ ∃ k, k < 6 ∧ v = nI k) : tpO E v = some (ePad E j) ↔ v = nI j := by
  rcases hv with rfl | ⟨k, hk, rfl⟩
  · rw [tpO_n]
    constructor
    · intro h; cases h
    · intro h
      exact (nI_nem1 (by omega) h.symm).elim
  · rw [tpO_s E hk]
    constructor
    · intro h
      rw [cPad_inj hD hk hj (Option.some.inj h)]
    · intro h
      rw [(nI_eq (by omega) (by omega)).mp h]
def cTOk (x : Nat → Nat → Int32) : Prop := ∀ i, i < 8 → x 12 i = -1 ∨ ∃ k, k < 6 ∧ x 12 i = nI k

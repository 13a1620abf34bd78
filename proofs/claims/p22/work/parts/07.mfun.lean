/-! the reference's steps as functions of its table -/
def mGt (a b : Int32) : Int32 := if a = 0 then nI 1 else if b = 0 then nI 2 else nI 0
def mGr (a b : Int32) : Int32 := if a = 0 then nI 0 else if b = 0 then nI 0 else nI 1
def mLast (y : Nat → Nat → Int32) (p v : Nat) : Nat → Int32
  | 0 => -1
  | k + 1 => if y 4 (8 * p + k) = nI v then nI k else mLast y p v k
def mIns (y : Nat → Nat → Int32) (p : Nat) : Nat → Nat
  | 0 => 0
  | k + 1 => mIns y p k + (if y 8 k = nI 2 ∧ y 9 k = nI p then 1 else 0)
/-- the rows behind place a moved ahead, as far as k -/
def mLs (y : Nat → Nat → Int32) (p w a k : Nat) : Nat → Nat → Int32 := upA (up2 y 5 p (nI (w - 1))) 4 (fun j => if 8 * p + a ≤ j ∧ j < 8 * p + k then y 4 (j + 1) else y 4 j)
theorem mLs_0 (y : Nat → Nat → Int32) (p w a : Nat) : up2 y 5 p (nI (w - 1)) = mLs y p w a a := by
  funext f j
  unfold mLs upA up2
  by_cases h : f = 4
  · subst h
    rw [if_pos rfl, if_neg (by decide)]
    dsimp only
    rw [if_neg (show ¬ (8 * p + a ≤ j ∧ j < 8 * p + a) by omega)]
  · rw [if_neg h]
theorem mLs_5 (y : Nat → Nat → Int32) (p w a k : Nat) : mLs y p w a k 5 p = nI (w - 1) := by simp [mLs, upA, up2]
theorem mLs_s (y : Nat → Nat → Int32) (p w a k : Nat) (h : a ≤ k) : up2 (mLs y p w a k) 4 (8 * p + k) (mLs y p w a k 4 (8 * p + k + 1)) = mLs y p w a (k + 1) := by
  funext f j
  unfold mLs upA up2
  by_cases hf : f = 4
  · subst hf
    simp only [if_true]
    by_cases hj : j = 8 * p + k
    · subst hj
      rw [if_pos rfl, if_neg (by omega), if_pos (by omega)]
    · rw [if_neg hj]
      by_cases h1 : 8 * p + a ≤ j ∧ j < 8 * p + k
      · rw [if_pos h1, if_pos (by omega)]
      · rw [if_neg h1, if_neg (by omega)]
  · simp [hf]
def mLeave (y : Nat → Nat → Int32) (v p w a : Nat) : Nat → Nat → Int32 := up2 (up2 (mLs y p w a (w - 1)) 8 v (nI 0)) 9 v (-1)
def mLose (y : Nat → Nat → Int32) (v : Nat) : Nat → Nat → Int32 := up2 (up2 y 12 v (-1)) 14 v (nI 0)
/-- the rows from place a on moved behind, as far as place k -/
def mPs (y : Nat → Nat → Int32) (p w k : Nat) : Nat → Nat → Int32 := upA y 4 (fun j => if 8 * p + k < j ∧ j ≤ 8 * p + w then y 4 (j - 1) else y 4 j)
theorem mPs_0 (y : Nat → Nat → Int32) (p w : Nat) : y = mPs y p w w := by
  funext f j
  unfold mPs upA
  by_cases h : f = 4
  · subst h
    rw [if_pos rfl]
    dsimp only
    rw [if_neg (show ¬ (8 * p + w < j ∧ j ≤ 8 * p + w) by omega)]
  · rw [if_neg h]
theorem mPs_s (y : Nat → Nat → Int32) (p w k : Nat) (h : k + 1 ≤ w) : up2 (mPs y p w (k + 1)) 4 (8 * p + (k + 1)) (mPs y p w (k + 1) 4 (8 * p + (k + 1) - 1)) = mPs y p w k := by
  funext f j
  unfold mPs upA up2
  by_cases hf : f = 4
  · subst hf
    simp only [if_true]
    by_cases hj : j = 8 * p + (k + 1)
    · subst hj
      rw [if_pos rfl, if_neg (by omega), if_pos (by omega)]
    · rw [if_neg hj]
      by_cases h1 : 8 * p + (k + 1) < j ∧ j ≤ 8 * p + w
      · rw [if_pos h1, if_pos (by omega)]
      · rw [if_neg h1, if_neg (by omega)]
  · simp [hf]
def mPuts (y : Nat → Nat → Int32) (p at0 v w : Nat) : Nat → Nat → Int32 := up2 (up2 (up2 (up2 (mPs y p w at0) 4 (8 * p + at0) (nI v)) 5 p (nI (w + 1))) 8 v (nI 1)) 9 v (nI p)

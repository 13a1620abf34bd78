/-! the reference's steps that are told by relations: each says what must hold where it is used, and the table behind it -/
def mQ (y : Nat → Nat → Int32) (p w : Nat) : Prop := w ≤ 8 ∧ y 5 p = nI w ∧ (∀ k, k < w → ∃ v, v < 8 ∧ y 4 (8 * p + k) = nI v) ∧ (∀ i k, i < k → k < w → y 4 (8 * p + i) ≠ y 4 (8 * p + k))
theorem mLast_of {y : Nat → Nat → Int32} {p w a v : Nat} (h : ∀ i k, i < k → k < w → y 4 (8 * p + i) ≠ y 4 (8 * p + k)) (ha : y 4 (8 * p + a) = nI v) : ∀ k, a < k → k ≤ w → mLast y p v k = nI a := by
  intro k
  induction k with
  | zero => intro h1; omega
  | succ k ih =>
    intro h1 h2
    by_cases hk : y 4 (8 * p + k) = nI v
    · rw [mLast, if_pos hk]
      by_cases e : a = k
      · rw [e]
      · exact absurd (ha.trans hk.symm) (h a k (by omega) (by omega))
    · rw [mLast, if_neg hk]
      refine ih ?_ (by omega)
      rcases Nat.lt_or_ge a k with q | q
      · exact q
      · exact absurd (by rw [← show a = k by omega]; exact ha) hk
def mLeaveR (y : Nat → Nat → Int32) (v : Nat) (y' : Nat → Nat → Int32) : Prop := ∃ p w a, p < 6 ∧ 1 ≤ w ∧ w ≤ 8 ∧ a < w ∧ y 9 v = nI p ∧ y 5 p = nI w ∧ mLast y p v w = nI a ∧ y' = mLeave y v p w a
def mOffR (y : Nat → Nat → Int32) (v : Nat) (y' : Nat → Nat → Int32) : Prop := ∃ y1, mLeaveR y v y1 ∧ ((y1 14 v = nI 0 ∧ y' = y1) ∨ (y1 14 v = nI 1 ∧ y' = mLose y1 v))
/-- closing: all n that wait leave -/
def mDrain (p : Nat) : Nat → (Nat → Nat → Int32) → (Nat → Nat → Int32) → Prop
  | 0, y, y' => y 5 p = nI 0 ∧ y' = y
  | n + 1, y, y' => y 5 p = nI (n + 1) ∧ n + 1 ≤ 8 ∧ ∃ v y1, v < 8 ∧ y 4 (8 * p) = nI v ∧ mOffR y v y1 ∧ mDrain p n y1 y'
def mLastP (y : Nat → Nat → Int32) (v p : Nat) : Nat → Int32
  | 0 => -1
  | k + 1 => if y 6 (6 * v + k) = nI p then nI k else mLastP y v p k
/-- a plan's rows behind place a moved ahead, as far as k -/
def mDs (y : Nat → Nat → Int32) (v w a k : Nat) : Nat → Nat → Int32 := upA (up2 y 7 v (nI (w - 1))) 6 (fun j => if 6 * v + a ≤ j ∧ j < 6 * v + k then y 6 (j + 1) else y 6 j)
theorem mDs_0 (y : Nat → Nat → Int32) (v w a : Nat) : up2 y 7 v (nI (w - 1)) = mDs y v w a a := by
  funext f j
  unfold mDs upA up2
  by_cases h : f = 6
  · subst h
    rw [if_pos rfl, if_neg (by decide)]
    dsimp only
    rw [if_neg (show ¬ (6 * v + a ≤ j ∧ j < 6 * v + a) by omega)]
  · rw [if_neg h]
theorem mDs_7 (y : Nat → Nat → Int32) (v w a k : Nat) : mDs y v w a k 7 v = nI (w - 1) := by simp [mDs, upA, up2]
theorem mDs_s (y : Nat → Nat → Int32) (v w a k : Nat) (h : a ≤ k) : up2 (mDs y v w a k) 6 (6 * v + k) (mDs y v w a k 6 (6 * v + k + 1)) = mDs y v w a (k + 1) := by
  funext f j
  unfold mDs upA up2
  by_cases hf : f = 6
  · subst hf
    simp only [if_true]
    by_cases hj : j = 6 * v + k
    · subst hj
      rw [if_pos rfl, if_neg (by omega), if_pos (by omega)]
    · rw [if_neg hj]
      by_cases h1 : 6 * v + a ≤ j ∧ j < 6 * v + k
      · rw [if_pos h1, if_pos (by omega)]
      · rw [if_neg h1, if_neg (by omega)]
  · simp [hf]
def mDropR (y : Nat → Nat → Int32) (v p w : Nat) (y' : Nat → Nat → Int32) : Prop :=
  (y 8 v = nI 1 ∧ y 9 v = nI p ∧ y 14 v = nI 0 ∧ mLeaveR y v y') ∨ ((¬ y 8 v = nI 1 ∨ ¬ y 9 v = nI p ∨ ¬ y 14 v = nI 0) ∧ y' = y)
def mTaken (y : Nat → Nat → Int32) (p : Nat) (f : Int32) : Nat → Nat
  | 0 => 0
  | k + 1 => if mTaken y p f k = 1 then 1 else if y 12 k = f ∧ y 13 k = nI p then 1 else 0
theorem mTaken_01 (y : Nat → Nat → Int32) (p : Nat) (f : Int32) (k : Nat) : mTaken y p f k = 0 ∨ mTaken y p f k = 1 := by
  cases k with
  | zero => exact Or.inl rfl
  | succ k =>
    rw [mTaken]
    split
    · exact Or.inr rfl
    · split
      · exact Or.inr rfl
      · exact Or.inl rfl
def mAskR (y : Nat → Nat → Int32) (p : Nat) : Nat → Int32 → Int32 → Prop
  | 0, f, f' => mTaken y p f 8 = 0 ∧ f' = f
  | n + 1, f, f' => mTaken y p f 8 = 1 ∧ mAskR y p n (f + nI 5) f'
def mOut1 (z : Nat → Nat → Int32) (k : Nat) : Nat → Nat → Int32 := if z 8 k = nI 2 ∧ z 10 k ≤ z 0 0 then up2 (up2 (up2 z 11 k (z 11 k ||| (nI 1 <<< (z 9 k &&& 31)))) 8 k (nI 0)) 9 k (-1) else z
def mOut (y : Nat → Nat → Int32) : Nat → Nat → Nat → Int32
  | 0 => y
  | k + 1 => mOut1 (mOut y k) k
/-- the place behind those who wait by a turn: from a on, n of the queue left -/
def mAtR (y : Nat → Nat → Int32) (p : Nat) : Nat → Nat → Nat → Prop
  | 0, a, a' => a' = a
  | n + 1, a, a' => ∃ u, u < 8 ∧ y 4 (8 * p + a) = nI u ∧ ((y 14 u = nI 0 ∧ a' = a) ∨ (y 14 u = nI 1 ∧ mAtR y p n (a + 1) a'))
def mTTR (y : Nat → Nat → Int32) (k : Nat) (y' : Nat → Nat → Int32) : Prop :=
  ((¬ y 12 k = y 0 0 ∨ ¬ y 14 k = nI 0) ∧ y' = y) ∨
  (y 12 k = y 0 0 ∧ y 14 k = nI 0 ∧ ∃ p, p < 6 ∧ y 13 k = nI p ∧
    (((y 8 k = nI 2 ∨ ¬ y 3 p = nI 0) ∧ y' = mLose y k) ∨
     (¬ y 8 k = nI 2 ∧ y 3 p = nI 0 ∧ ∃ y1 w a, ((y 8 k = nI 1 ∧ mLeaveR y k y1) ∨ (¬ y 8 k = nI 1 ∧ y1 = y)) ∧ w ≤ 7 ∧ y1 5 p = nI w ∧ mAtR y1 p w 0 a ∧ a ≤ w ∧ y' = up2 (mPuts y1 p a k w) 14 k (nI 1))))
def mTTs : Nat → Nat → (Nat → Nat → Int32) → (Nat → Nat → Int32) → Prop
  | 0, _, y, y' => y' = y
  | n + 1, k, y, y' => ∃ y1, mTTR y k y1 ∧ mTTs n (k + 1) y1 y'
def mGoOn (v m : Nat) : Nat → Nat → (Nat → Nat → Int32) → (Nat → Nat → Int32) → Prop
  | 0, _, y, y' => y' = y
  | n + 1, k, y, y' => (¬ y 8 v = nI 0 ∧ y' = y) ∨ (y 8 v = nI 0 ∧ ∃ p, p < 6 ∧ y 6 (6 * v + k) = nI p ∧
      ((¬ y 3 p = nI 0 ∧ mGoOn v m n (k + 1) y y') ∨ (y 3 p = nI 0 ∧ ¬ (y 11 v >>> (nI p &&& 31)) &&& nI 1 = nI 0 ∧ mGoOn v m n (k + 1) y y') ∨
       (y 3 p = nI 0 ∧ (y 11 v >>> (nI p &&& 31)) &&& nI 1 = nI 0 ∧ ∃ w, w ≤ 7 ∧ y 5 p = nI w ∧ mGoOn v m n (k + 1) (mPuts y p w v w) y')))
def mGoOnR (y : Nat → Nat → Int32) (v : Nat) (y' : Nat → Nat → Int32) : Prop := ∃ m, m ≤ 6 ∧ y 7 v = nI m ∧ mGoOn v m m 0 y y'
def mGoOns : Nat → Nat → (Nat → Nat → Int32) → (Nat → Nat → Int32) → Prop
  | 0, _, y, y' => y' = y
  | n + 1, k, y, y' => ∃ y1, mGoOnR y k y1 ∧ mGoOns n (k + 1) y1 y'
def mEnter (y : Nat → Nat → Int32) (v p : Nat) : Nat → Nat → Int32 := up2 (up2 (up2 y 8 v (nI 2)) 9 v (nI p)) 10 v (y 0 0 + y 2 p)
def mGoIn (p : Nat) : Nat → (Nat → Nat → Int32) → (Nat → Nat → Int32) → Prop
  | 0, y, y' => (¬ y 3 p = nI 0 ∨ (y 3 p = nI 0 ∧ y 5 p = nI 0) ∨ (y 3 p = nI 0 ∧ (∃ w, w ≤ 8 ∧ y 5 p = nI w) ∧ y 1 p ≤ nI (mIns y p 8))) ∧ y' = y
  | n + 1, y, y' => y 3 p = nI 0 ∧ ¬ y 1 p ≤ nI (mIns y p 8) ∧ ∃ w v y1, w + 1 ≤ 8 ∧ y 5 p = nI (w + 1) ∧ v < 8 ∧ y 4 (8 * p) = nI v ∧ mOffR y v y1 ∧ mGoIn p n (mEnter y1 v p) y'
def mGoIns : Nat → Nat → (Nat → Nat → Int32) → (Nat → Nat → Int32) → Prop
  | 0, _, y, y' => y' = y
  | n + 1, k, y, y' => ∃ i y1, mGoIn k i y y1 ∧ mGoIns n (k + 1) y1 y'
def mMin (y y' : Nat → Nat → Int32) : Prop := ∃ y2 y3, mTTs 8 0 (mOut (up2 y 0 0 (y 0 0 + nI 1)) 8) y2 ∧ mGoOns 8 0 y2 y3 ∧ mGoIns 6 0 y3 y'
def mMins : Nat → (Nat → Nat → Int32) → (Nat → Nat → Int32) → Prop
  | 0, y, y' => y' = y
  | n + 1, y, y' => ∃ y1, mMin y y1 ∧ mMins n y1 y'
def mRepY (y : Nat → Nat → Int32) (t : Int32) : Nat → Nat → Nat → Int32
  | 0 => y
  | k + 1 => if mRepY y t k 16 k < t then mRepY y t k else up2 (up2 (mRepY y t k) 15 k (mRepY y t k 15 k + mRepY y t k 16 k)) 16 k (nI 0)
def mRepV (y : Nat → Nat → Int32) (t : Int32) : Nat → Int32
  | 0 => nI 0
  | k + 1 => if mRepY y t k 16 k < t then mRepV y t k else mRepV y t k + mRepY y t k 16 k
/-- room and time are in range, as both sides test it -/
def sOK (a b : Int32) : Prop := ¬ a < nI 1 ∧ ¬ nI 8 < a ∧ ¬ b < nI 1 ∧ ¬ nI 60 < b

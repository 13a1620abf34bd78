/-! the reference's constructor -/
theorem nm_eq {s : State} {c1 c2 : ClassId} {ty : FieldType} (h1 : va_RA s c1 ty) (h2 : va_RA s c2 ty) : c1 = c2 := by
  cases ty with
  | object C =>
    obtain ⟨-, -, -, -, -, h4⟩ := h1
    obtain ⟨-, -, -, -, -, h5⟩ := h2
    exact Option.some.inj (h4.symm.trans h5)
  | _ => exact Option.some.inj (Eq.trans (Eq.symm h1) h2)
theorem K_last {D : va_G} {cl : List vw_C} {tys : List (ClassId × FieldType)} {q : ClassId × FieldType} {s : State} (h : va_K D cl (tys ++ [q]) s) : va_RA s q.1 q.2 := (h.2 tys.length q (by rw [List.getElem?_append_right (Nat.le_refl _), Nat.sub_self]; rfl)).2
def mI1 (k : Nat) : Nat → Nat → Int32 := fun f i => if i < k then (if f = 1 then nI 2 else if f = 2 then nI 5 else if f = 15 then nI 10 else nI 0) else nI 0
def mI2 (k : Nat) : Nat → Nat → Int32 := fun f i => if i < k ∧ (f = 9 ∨ f = 12) then -1 else mI1 6 f i
theorem mI1_s (k : Nat) : up2 (up2 (up2 (mI1 k) 1 k (nI 2)) 2 k (nI 5)) 15 k (nI 10) = mI1 (k + 1) := by
  funext f i
  by_cases h2 : i = k
  · subst h2
    unfold up2 mI1
    rw [if_pos (Nat.lt_succ_self i)]
    by_cases h1 : f = 1
    · subst h1; simp
    · by_cases h4 : f = 2
      · subst h4; simp
      · by_cases h5 : f = 15
        · subst h5; simp
        · simp [h1, h4, h5]
  · have e : up2 (up2 (up2 (mI1 k) 1 k (nI 2)) 2 k (nI 5)) 15 k (nI 10) f i = mI1 k f i := by
      unfold up2
      simp [h2]
    rw [e]
    unfold mI1
    by_cases h3 : i < k
    · rw [if_pos h3, if_pos (show i < k + 1 by omega)]
    · rw [if_neg h3, if_neg (show ¬ i < k + 1 by omega)]
theorem mI1_0 : (fun _ _ => nI 0 : Nat → Nat → Int32) = mI1 0 := by
  funext f i
  unfold mI1
  rw [if_neg (Nat.not_lt_zero i)]
theorem mI2_0 : mI1 6 = mI2 0 := by
  funext f i
  unfold mI2
  rw [if_neg (fun q => absurd q.1 (Nat.not_lt_zero i))]
theorem mI2_s (k : Nat) : up2 (up2 (mI2 k) 9 k (-1)) 12 k (-1) = mI2 (k + 1) := by
  funext f i
  by_cases h2 : i = k
  · subst h2
    unfold up2 mI2
    by_cases h1 : f = 12
    · subst h1; simp
    · by_cases h4 : f = 9
      · subst h4; simp
      · simp [h1, h4]
  · have e : up2 (up2 (mI2 k) 9 k (-1)) 12 k (-1) f i = mI2 k f i := by
      unfold up2
      simp [h2]
    rw [e]
    unfold mI2
    by_cases h3 : i < k
    · by_cases h4 : f = 9 ∨ f = 12
      · rw [if_pos ⟨h3, h4⟩, if_pos (show i < k + 1 ∧ (f = 9 ∨ f = 12) from ⟨by omega, h4⟩)]
      · rw [if_neg (fun q => h4 q.2), if_neg (fun q => h4 q.2)]
    · rw [if_neg (fun q => h3 q.1), if_neg (show ¬ (i < k + 1 ∧ (f = 9 ∨ f = 12)) from fun q => absurd q.1 (by omega))]

/-- one bit, asked for in two ways -/
theorem bit_and (a c : BitVec 32) (p : Nat) (hp : p < 31) (hc : ∀ i, i < 32 → c.getLsbD i = decide (i = p)) : a &&& c = 0#32 ↔ a.getLsbD p = false := by
  constructor
  · intro h
    have h1 : (a &&& c).getLsbD p = false := by rw [h]; exact BitVec.getLsbD_zero
    rw [BitVec.getLsbD_and, hc p (by omega)] at h1
    simpa using h1
  · intro h
    refine BitVec.eq_of_getLsbD_eq (fun i hi => ?_)
    rw [BitVec.getLsbD_and, hc i hi, BitVec.getLsbD_zero]
    by_cases h2 : i = p
    · subst h2; simp [h]
    · simp [h2]
theorem bit_shr (a : BitVec 32) (p : Nat) (hp : p < 31) : a.sshiftRight p &&& 1#32 = 0#32 ↔ a.getLsbD p = false := by
  rw [bit_and _ _ 0 (by decide) (fun i hi => by rw [BitVec.getLsbD_one]; simp), BitVec.getLsbD_sshiftRight]
  simp
  omega

theorem i32_eq {a b : Int32} : a = b ↔ a.toBitVec = b.toBitVec := Int32.toBitVec_inj.symm
theorem bit_l : ∀ p, p < 6 → ∀ i, i < 32 → (nI 1 <<< (nI p &&& 31)).toBitVec.getLsbD i = decide (i = p) := by decide +kernel
theorem bit_s (a : Int32) : ∀ p, p < 6 → (a >>> (nI p &&& 31)).toBitVec = a.toBitVec.sshiftRight p := by
  intro p hp
  rcases (show p = 0 ∨ p = 1 ∨ p = 2 ∨ p = 3 ∨ p = 4 ∨ p = 5 by omega) with rfl | rfl | rfl | rfl | rfl | rfl <;> rfl
/-- the stamp's bit: the class's question and the reference's -/
theorem w_bit (a : Int32) {p : Nat} (hp : p < 6) : ((a >>> (nI p &&& 31)) &&& nI 1 = nI 0) ↔ (a &&& (nI 1 <<< (nI p &&& 31))) = nI 0 := by
  rw [i32_eq, i32_eq, Int32.toBitVec_and, Int32.toBitVec_and, bit_s a p hp]
  show a.toBitVec.sshiftRight p &&& 1#32 = 0#32 ↔ a.toBitVec &&& _ = 0#32
  rw [bit_shr _ _ (by omega), bit_and _ _ p (by omega) (bit_l p hp)]
theorem bit_01 (a : Int32) {p : Nat} (hp : p < 6) (h : ¬ (a >>> (nI p &&& 31)) &&& nI 1 = nI 0) : (a >>> (nI p &&& 31)) &&& nI 1 = nI 1 := by
  rw [i32_eq, Int32.toBitVec_and] at h ⊢
  refine BitVec.eq_of_getLsbD_eq (fun i hi => ?_)
  show (_ &&& 1#32).getLsbD i = (1#32).getLsbD i
  by_cases h0 : i = 0
  · subst h0
    cases hb : ((a >>> (nI p &&& 31)).toBitVec &&& 1#32).getLsbD 0 with
    | true => rfl
    | false =>
      refine absurd (BitVec.eq_of_getLsbD_eq (fun j hj => ?_)) h
      show ((a >>> (nI p &&& 31)).toBitVec &&& 1#32).getLsbD j = (0#32).getLsbD j
      by_cases h1 : j = 0
      · subst h1; rw [hb]; rfl
      · rw [BitVec.getLsbD_and, BitVec.getLsbD_one, BitVec.getLsbD_zero]; simp [h1]
  · rw [BitVec.getLsbD_and, BitVec.getLsbD_one]; simp [h0]

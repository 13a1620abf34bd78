/-- the n-th minute that is tried for a turn -/
def aF (m n : Nat) : Nat := (m / 5 + 1) * 5 + 5 * n
set_option maxRecDepth 100000 in
theorem aF_0 : ∀ m, m < 1201 → (nI m / nI 5 + nI 1) * nI 5 = nI (aF m 0) := by decide +kernel
theorem aF_s (m n : Nat) : nI (aF m n) + nI 5 = nI (aF m (n + 1)) := by
  rw [nI_add]
  congr 1
theorem aF_lt {m n : Nat} (hm : m ≤ 1200) (hn : n ≤ 8) : aF m n ≤ 1300 := by
  unfold aF
  omega
def aT (y : T2) (p : Nat) (f : Int32) : Prop := ∃ k, k < 8 ∧ y 12 k = f ∧ y 13 k = nI p
theorem mTaken_1 {y : T2} {p : Nat} {f : Int32} : ∀ n, (∃ k, k < n ∧ y 12 k = f ∧ y 13 k = nI p) → mTaken y p f n = 1
  | 0, ⟨k, hk, _⟩ => absurd hk (Nat.not_lt_zero k)
  | n + 1, ⟨k, hk, h1, h2⟩ => by
    rw [mTaken]
    by_cases h : mTaken y p f n = 1
    · rw [if_pos h]
    · rw [if_neg h]
      have : k = n := by
        rcases Nat.lt_or_ge k n with h9 | h9
        · exact absurd (mTaken_1 n ⟨k, h9, h1, h2⟩) h
        · omega
      subst this
      rw [if_pos ⟨h1, h2⟩]
theorem mTaken_0 {y : T2} {p : Nat} {f : Int32} : ∀ n, (¬ ∃ k, k < n ∧ y 12 k = f ∧ y 13 k = nI p) → mTaken y p f n = 0
  | 0, _ => rfl
  | n + 1, h => by
    rw [mTaken, mTaken_0 n (fun ⟨k, hk, h1⟩ => h ⟨k, by omega, h1⟩), if_neg (by decide), if_neg (fun c => h ⟨n, by omega, c⟩)]
theorem aT_list {y : T2} {p m : Nat} (hm : m ≤ 1200) : ∀ n, n ≤ 9 → (∀ i, i < n → aT y p (nI (aF m i))) → ∃ l : List Nat, l.Nodup ∧ l.length = n ∧ ∀ v ∈ l, v < 8 ∧ ∃ i, i < n ∧ y 12 v = nI (aF m i)
  | 0, _, _ => ⟨[], List.nodup_nil, rfl, fun v hv => nomatch hv⟩
  | n + 1, hn, h => by
    obtain ⟨l, l1, l2, l3⟩ := aT_list hm n (by omega) (fun i hi => h i (by omega))
    obtain ⟨k, k1, k2, -⟩ := h n (by omega)
    refine ⟨k :: l, List.nodup_cons.mpr ⟨fun hk => ?_, l1⟩, by rw [List.length_cons, l2], fun v hv => ?_⟩
    · obtain ⟨-, i, i1, i2⟩ := l3 k hk
      have := nI_inj (a := aF m i) (b := aF m n) (by unfold aF; omega) (by unfold aF; omega) (i2.symm.trans k2)
      unfold aF at this
      omega
    · rcases List.mem_cons.mp hv with rfl | hv
      · exact ⟨k1, n, by omega, k2⟩
      · obtain ⟨a1, i, i1, i2⟩ := l3 v hv
        exact ⟨a1, i, by omega, i2⟩
/-- one of nine minutes is free -/
theorem aT_free {y : T2} {p m : Nat} (hm : m ≤ 1200) : ∃ n, n ≤ 8 ∧ ¬ aT y p (nI (aF m n)) ∧ ∀ i, i < n → aT y p (nI (aF m i)) := by
  have key : ∀ n, n ≤ 9 → (∀ i, i < n → aT y p (nI (aF m i))) ∨ ∃ k, k < n ∧ ¬ aT y p (nI (aF m k)) ∧ ∀ i, i < k → aT y p (nI (aF m i)) := by
    intro n
    induction n with
    | zero => exact fun _ => Or.inl (fun i hi => absurd hi (Nat.not_lt_zero i))
    | succ n ih =>
      intro hn
      rcases ih (by omega) with h | ⟨k, k1, k2⟩
      · by_cases h2 : aT y p (nI (aF m n))
        · refine Or.inl (fun i hi => ?_)
          rcases Nat.lt_or_ge i n with h9 | h9
          · exact h i h9
          · rw [show i = n by omega]; exact h2
        · exact Or.inr ⟨n, by omega, h2, h⟩
      · exact Or.inr ⟨k, by omega, k2⟩
  rcases key 9 (Nat.le_refl 9) with h | ⟨k, k1, k2⟩
  · obtain ⟨l, l1, l2, l3⟩ := aT_list hm 9 (Nat.le_refl 9) h
    have := nodup_len 8 l l1 (fun v hv => (l3 v hv).1)
    omega
  · exact ⟨k, by omega, k2⟩

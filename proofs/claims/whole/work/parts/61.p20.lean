/-! what a minute leaves as it was: field 18 -/
theorem k18_leave {y y' : T2} {v : Nat} (h : mLeaveR y v y') (i : Nat) : y' 18 i = y 18 i := by
  obtain ⟨p, w, a, -, -, -, -, -, -, -, rfl⟩ := h
  exact mLeave_o _ _ _ _ _ _ _ (by decide)
theorem k18_off {y y' : T2} {v : Nat} (h : mOffR y v y') (i : Nat) : y' 18 i = y 18 i := by
  obtain ⟨y1, h1, ⟨-, rfl⟩ | ⟨-, rfl⟩⟩ := h
  · exact k18_leave h1 i
  · rw [mLose_o _ _ _ _ (by decide)]
    exact k18_leave h1 i
theorem k18_out (y : T2) (i : Nat) : ∀ n, mOut y n 18 i = y 18 i
  | 0 => rfl
  | n + 1 => by
    rw [mOut, mOut1]
    by_cases h : mOut y n 8 n = nI 2 ∧ mOut y n 10 n ≤ mOut y n 0 0
    · rw [if_pos h, up2_k _ _ _ _ (by decide), up2_k _ _ _ _ (by decide), up2_k _ _ _ _ (by decide)]
      exact k18_out y i n
    · rw [if_neg h]
      exact k18_out y i n
theorem k18_tt {y y' : T2} {k : Nat} (h : mTTR y k y') (i : Nat) : y' 18 i = y 18 i := by
  rcases h with ⟨-, rfl⟩ | ⟨-, -, p, -, -, ⟨-, rfl⟩ | ⟨-, -, y1, w, a, h1, -, -, -, -, rfl⟩⟩
  · rfl
  · exact mLose_o _ _ _ _ (by decide)
  · rw [up2_k _ _ _ _ (by decide), mPuts_o _ _ _ _ _ _ _ (by decide)]
    rcases h1 with ⟨-, h2⟩ | ⟨-, rfl⟩
    · exact k18_leave h2 i
    · rfl
theorem k18_tts (i : Nat) : ∀ (n k : Nat) (y y' : T2), mTTs n k y y' → y' 18 i = y 18 i
  | 0, _, _, _, h => by rw [show _ = _ from h]
  | n + 1, k, y, y', h => by
    obtain ⟨y1, h1, h2⟩ := h
    rw [k18_tts i n (k + 1) y1 y' h2, k18_tt h1 i]
theorem k18_goon {v m : Nat} (i : Nat) : ∀ (n k : Nat) (y y' : T2), mGoOn v m n k y y' → y' 18 i = y 18 i
  | 0, _, _, _, h => by rw [show _ = _ from h]
  | n + 1, k, y, y', h => by
    rcases h with ⟨-, rfl⟩ | ⟨-, p, -, -, ⟨-, h1⟩ | ⟨-, -, h1⟩ | ⟨-, -, w, -, -, h1⟩⟩
    · rfl
    · exact k18_goon i n (k + 1) y y' h1
    · exact k18_goon i n (k + 1) y y' h1
    · rw [k18_goon i n (k + 1) _ y' h1]
      exact mPuts_o _ _ _ _ _ _ _ (by decide)
theorem k18_goons (i : Nat) : ∀ (n k : Nat) (y y' : T2), mGoOns n k y y' → y' 18 i = y 18 i
  | 0, _, _, _, h => by rw [show _ = _ from h]
  | n + 1, k, y, y', h => by
    obtain ⟨y1, ⟨m, -, -, h1⟩, h2⟩ := h
    rw [k18_goons i n (k + 1) y1 y' h2, k18_goon i m 0 y y1 h1]
theorem k18_goin {p : Nat} (i : Nat) : ∀ (n : Nat) (y y' : T2), mGoIn p n y y' → y' 18 i = y 18 i
  | 0, _, _, h => by rw [h.2]
  | n + 1, y, y', h => by
    obtain ⟨-, -, w, v, y1, -, -, -, -, h1, h2⟩ := h
    rw [k18_goin i n _ y' h2]
    unfold mEnter
    rw [up2_k _ _ _ _ (by decide), up2_k _ _ _ _ (by decide), up2_k _ _ _ _ (by decide)]
    exact k18_off h1 i
theorem k18_goins (i : Nat) : ∀ (n k : Nat) (y y' : T2), mGoIns n k y y' → y' 18 i = y 18 i
  | 0, _, _, _, h => by rw [show _ = _ from h]
  | n + 1, k, y, y', h => by
    obtain ⟨j, y1, h1, h2⟩ := h
    rw [k18_goins i n (k + 1) y1 y' h2, k18_goin i j y y1 h1]
theorem k18_mins (i : Nat) : ∀ (n : Nat) (y y' : T2), mMins n y y' → y' 18 i = y 18 i
  | 0, _, _, h => by rw [show _ = _ from h]
  | n + 1, y, y', h => by
    obtain ⟨y1, ⟨y2, y3, h1, h2, h3⟩, h4⟩ := h
    rw [k18_mins i n y1 y' h4, k18_goins i 6 0 y3 y1 h3, k18_goons i 8 0 y2 y3 h2, k18_tts i 8 0 _ y2 h1, k18_out, up2_k _ _ _ _ (by decide)]
/-! the start -/
theorem w_start {E : cE} {o : Nat} {u : iU} : rI (iE E o u) iX (mI2 8) (fun _ => []) 0 := by
  have hz : ∀ f, f ≠ 1 → f ≠ 2 → f ≠ 9 → f ≠ 12 → f ≠ 15 → ∀ i, mI2 8 f i = nI 0 := fun f h1 h2 h3 h4 h5 i => by
    unfold mI2 mI1
    rw [if_neg (by omega)]
    by_cases h : i < 6
    · rw [if_pos h, if_neg h1, if_neg h2, if_neg h5]
    · rw [if_neg h]
  have h9 : ∀ i, i < 8 → mI2 8 9 i = -1 := fun i hi => by
    unfold mI2
    rw [if_pos ⟨hi, Or.inl rfl⟩]
  have h12 : ∀ i, i < 8 → mI2 8 12 i = -1 := fun i hi => by
    unfold mI2
    rw [if_pos ⟨hi, Or.inr rfl⟩]
  have h1 : ∀ j, j < 6 → mI2 8 1 j = nI 2 := fun j hj => by
    unfold mI2 mI1
    rw [if_neg (by omega), if_pos hj, if_pos rfl]
  have h2 : ∀ j, j < 6 → mI2 8 2 j = nI 5 := fun j hj => by
    unfold mI2 mI1
    rw [if_neg (by omega), if_pos hj, if_neg (by decide), if_pos rfl]
  have h15 : ∀ j, j < 6 → mI2 8 15 j = nI 10 := fun j hj => by
    unfold mI2 mI1
    rw [if_neg (by omega), if_pos hj, if_neg (by decide), if_neg (by decide), if_pos rfl]
  have z0 := hz 0 (by decide) (by decide) (by decide) (by decide) (by decide)
  have z3 := hz 3 (by decide) (by decide) (by decide) (by decide) (by decide)
  have z5 := hz 5 (by decide) (by decide) (by decide) (by decide) (by decide)
  have z7 := hz 7 (by decide) (by decide) (by decide) (by decide) (by decide)
  have z8 := hz 8 (by decide) (by decide) (by decide) (by decide) (by decide)
  have z10 := hz 10 (by decide) (by decide) (by decide) (by decide) (by decide)
  have z11 := hz 11 (by decide) (by decide) (by decide) (by decide) (by decide)
  have z14 := hz 14 (by decide) (by decide) (by decide) (by decide) (by decide)
  have z16 := hz 16 (by decide) (by decide) (by decide) (by decide) (by decide)
  have z17 := hz 17 (by decide) (by decide) (by decide) (by decide) (by decide)
  refine ⟨⟨⟨fun p hp => ⟨List.nodup_nil, z5 p, fun k v h => by cases h⟩, fun i hi => ⟨(z8 i).symm ▸ rfl, (h9 i hi).symm ▸ rfl⟩, fun p hp k v h => by cases h⟩,
    ⟨fun v hv => Or.inl ⟨z8 v, h9 v hv⟩, fun v hv => ⟨Or.inl (z14 v), Or.inl (h12 v hv)⟩, fun p hp => ⟨0, Nat.zero_le _, fun k v h => by cases h⟩⟩,
    ⟨⟨(z0 0).symm ▸ rfl, fun j hj => ⟨(h1 j hj).symm ▸ rfl, (h2 j hj).symm ▸ rfl, Or.inl ⟨rfl, z3 j⟩, (h15 j hj).symm ▸ rfl, (z16 j).symm ▸ rfl⟩⟩,
      fun i hi => ⟨fun c => absurd ((z8 i).symm.trans c) nI_02, (z11 i).symm ▸ rfl, (h12 i hi).symm ▸ rfl, Or.inl ⟨h12 i hi, rfl⟩, (z14 i).symm ▸ rfl, fun _ => rfl⟩⟩,
    fun v hv => ⟨0, Nat.zero_le _, z7 v, rfl, fun k hk => absurd hk (Nat.not_lt_zero k), fun i k _ hk => absurd hk (Nat.not_lt_zero k), Or.inr ⟨rfl, List.not_mem_nil, rfl⟩⟩,
    fun v j hv hj => (z17 _).symm ▸ rfl⟩, z0 0, by decide, fun p hp => ⟨2, by decide, h1 p hp⟩⟩

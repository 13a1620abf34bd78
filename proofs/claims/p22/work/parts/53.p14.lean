/-- a minute on both sides -/
theorem w_min {E : cE} {x y : T2} {q : Nat → List Nat} {m : Nat} (h : wR E x y q m) (hm : y 0 0 = nI m) (hm9 : m + 1 ≤ 1200) (hr : wRm y) : ∃ x' y' q', cMin E x x' ∧ mMin y y' ∧ wR E x' y' q' (m + 1) ∧ y' 0 0 = nI (m + 1) ∧ wRm y' := by
  obtain ⟨a1, a2⟩ := w_tick h hm
  have o0 : ∀ f i, f ≠ 0 → up2 y 0 0 (y 0 0 + nI 1) f i = y f i := fun f i hf => up2_k _ _ _ _ hf
  obtain ⟨b1, b2, b3⟩ := w_outs a1 8 (Nat.le_refl 8)
  obtain ⟨x2, y2, q2, c1, c2, c3, c4⟩ := w_tts hm9 8 0 _ _ q rfl b1 ((b2 0 0 (by omega)).trans a2) (fun v hv _ h14 h12 => by
    rw [(b3 v).2, o0 14 v (by omega)] at h14
    rw [(b3 v).1, o0 12 v (by omega)] at h12
    obtain ⟨t, t1, t2⟩ := ((h.2.1.2.1 v hv).1.resolve_left (fun c => nI_01 (c.symm.trans h14))).2.2
    have : t = m + 1 := nI_inj (by omega) (by omega) (t2.symm.trans h12)
    omega)
  obtain ⟨x3, y3, q3, d1, d2, d3, d4⟩ := w_goons 8 0 x2 y2 q2 rfl c3
  have hr3 : ∀ f i, 0 < f → f < 4 → y3 f i = y f i := fun f i h0 hf => by rw [d4 f i hf, c4 f i hf, b2 f i hf, o0 f i (by omega)]
  obtain ⟨x4, y4, q4, e1, e2, e3, e4⟩ := w_lets 6 0 x3 y3 q3 rfl d3 (fun p hp => by
    obtain ⟨r, r1, r2⟩ := hr p hp
    exact ⟨r, r1, by rw [hr3 1 p (by omega) (by omega)]; exact r2⟩)
  refine ⟨x4, y4, q4, ⟨x2, x3, c1, d1, e1⟩, ⟨y2, y3, c2, d2, e2⟩, e3, ?_, fun p hp => ?_⟩
  · rw [e4 0 0 (by omega), d4 0 0 (by omega), c4 0 0 (by omega), b2 0 0 (by omega), a2]
  · obtain ⟨r, r1, r2⟩ := hr p hp
    exact ⟨r, r1, by rw [e4 1 p (by omega), hr3 1 p (by omega) (by omega)]; exact r2⟩
theorem w_mins {E : cE} : ∀ (n : Nat) (x y : T2) (q : Nat → List Nat) (m : Nat), wR E x y q m → y 0 0 = nI m → m + n ≤ 1200 → wRm y → ∃ x' y' q', cMins E n x x' ∧ mMins n y y' ∧ wR E x' y' q' (m + n) ∧ y' 0 0 = nI (m + n) ∧ wRm y'
  | 0, x, y, q, m, h, hm, _, hr => ⟨x, y, q, rfl, rfl, h, hm, hr⟩
  | n + 1, x, y, q, m, h, hm, hn, hr => by
    obtain ⟨x1, y1, q1, a1, a2, a3, a4, a5⟩ := w_min h hm (by omega) hr
    obtain ⟨x2, y2, q2, b1, b2, b3, b4, b5⟩ := w_mins n x1 y1 q1 (m + 1) a3 a4 (by omega) a5
    have e : m + 1 + n = m + (n + 1) := by omega
    rw [e] at b3 b4
    exact ⟨x2, y2, q2, ⟨x1, a1, b1⟩, ⟨y1, a2, b2⟩, b3, b4, b5⟩

/-! what the law's cases share -/
theorem arg_nI {z : Int32} {n : Nat} (hn : n ≤ 100) : (∃ v, v < n ∧ z = nI v) ∨ ((z < nI 0 ∨ ¬ z < nI n) ∧ (z < 0 ∨ nI n ≤ z)) := by
  by_cases h0 : z.toInt < 0
  · have h1 : z < nI 0 := Int32.lt_iff_toInt_lt.mpr (by rw [nI_toInt (by decide)]; exact h0)
    exact Or.inr ⟨Or.inl h1, Or.inl h1⟩
  · by_cases h1 : z.toInt < n
    · exact Or.inl ⟨z.toInt.toNat, by omega, Int32.toInt_inj.mp (by rw [nI_toInt (by omega)]; omega)⟩
    · refine Or.inr ⟨Or.inr (fun c => h1 ?_), Or.inr (Int32.le_iff_toInt_le.mpr (by rw [nI_toInt (by omega)]; omega))⟩
      have h2 := Int32.lt_iff_toInt_lt.mp c
      rw [nI_toInt (by omega)] at h2
      exact h2
theorem sOK_r {a b : Int32} (h : sOK a b) : ∃ r, r < 9 ∧ a = nI r := by
  obtain ⟨h1, h2, -, -⟩ := h
  rcases arg_nI (z := a) (n := 9) (by decide) with c | ⟨c, -⟩
  · exact c
  · exfalso
    rcases c with c | c
    · exact h1 (Int32.lt_iff_toInt_lt.mpr (Int.lt_trans (Int32.lt_iff_toInt_lt.mp c) (by decide)))
    · refine h2 (Int32.lt_iff_toInt_lt.mpr ?_)
      rw [nI_toInt (by decide)]
      have h3 : ¬ a.toInt < (nI 9).toInt := fun d => c (Int32.lt_iff_toInt_lt.mpr d)
      rw [nI_toInt (by decide)] at h3
      omega
theorem rI_18 {E : cE} {x y : T2} {q : Nat → List Nat} {m : Nat} (h : rI E x y q m) (z : Int32) : rI E x (up2 y 18 0 z) q m :=
  ⟨w_same h.1 (fun f i hf => up2_k _ _ _ _ (by omega)) (fun _ _ _ => rfl), by rw [up2_k _ _ _ _ (by decide)]; exact h.2.1, h.2.2.1, fun p hp => by rw [up2_k _ _ _ _ (by decide)]; exact h.2.2.2 p hp⟩
theorem rI_s {E E1 : cE} {x y x1 y1 : T2} {q q1 : Nat → List Nat} {m : Nat} (h : rI E x y q m) (hR : wR E1 x1 y1 q1 m) (hy : ∀ f i, f < 2 → y1 f i = y f i) : rI E1 x1 y1 q1 m :=
  ⟨hR, by rw [hy 0 0 (by decide)]; exact h.2.1, h.2.2.1, fun p hp => by rw [hy 1 p (by decide)]; exact h.2.2.2 p hp⟩
theorem vp_updL_0 {f : Nat → Int64} {v : Int64} : vp_updL f 0 v 0 = v := if_pos rfl
theorem fin_ok {D : va_G} {lc : ClassId} {s : State} {E E1 : cE} {oo : Nat} {f : Nat → Int64} {x1 y1 : T2} {q1 : Nat → List Nat} {m1 : Nat} {k r c : Int32} (hKX : lwKX D lc s E1) (h1 : eI E1 = eI E) (h2 : eZ E1 = eZ E) (h3 : eO E1 = eO E) (hk : k = nI 0) (hc : c = r) (h18 : y1 18 0 = nI 0) (hR : rI E1 x1 y1 q1 m1) :
    ∃ (E2 : cE) (x2 : T2) (f2 : Nat → Int64) (q2 : Nat → List Nat) (m2 : Nat), [(oo, oC lc (vp_updL f 0 c.toInt64))] ++ cW E1 x1 = [(oo, oC lc f2)] ++ cW E2 x2 ∧ eI E2 = eI E ∧ eZ E2 = eZ E ∧ lwKX D lc s E2 ∧ eO E2 = eO E ∧ rI E2 x2 y1 q2 m2 ∧ y1 18 0 = k ∧ (k = nI 0 → f2 0 = r.toInt64) :=
  ⟨E1, x1, _, q1, m1, rfl, h1, h2, hKX, h3, hR, h18.trans hk.symm, fun _ => by rw [← hc]; exact vp_updL_0⟩
theorem fin_sL {D : va_G} {lc : ClassId} {s : State} {E E1 : cE} {oo : Nat} {f : Nat → Int64} {x1 y1 : T2} {q1 : Nat → List Nat} {m1 : Nat} {k r c : Int32} (hKX : lwKX D lc s E1) (h1 : eI E1 = eI E) (h2 : eZ E1 = eZ E) (h3 : eO E1 = eO E) (hk : k = nI 0) (hc : c = r) (h18 : y1 18 0 = nI 0) (hR : rI E1 x1 y1 q1 m1) :
    ∃ (E2 : cE) (x2 : T2) (f2 : Nat → Int64) (q2 : Nat → List Nat) (m2 : Nat), [(oo, oC lc (vp_updL f 0 (sL c)))] ++ cW E1 x1 = [(oo, oC lc f2)] ++ cW E2 x2 ∧ eI E2 = eI E ∧ eZ E2 = eZ E ∧ lwKX D lc s E2 ∧ eO E2 = eO E ∧ rI E2 x2 y1 q2 m2 ∧ y1 18 0 = k ∧ (k = nI 0 → f2 0 = sL r) :=
  ⟨E1, x1, _, q1, m1, rfl, h1, h2, hKX, h3, hR, h18.trans hk.symm, fun _ => by rw [← hc]; exact vp_updL_0⟩
theorem fin_v {D : va_G} {lc : ClassId} {s : State} {E E1 : cE} {oo : Nat} {f : Nat → Int64} {x1 y1 : T2} {q1 : Nat → List Nat} {m1 : Nat} {k : Int32} (hKX : lwKX D lc s E1) (h1 : eI E1 = eI E) (h2 : eZ E1 = eZ E) (h3 : eO E1 = eO E) (h18 : y1 18 0 = k) (hR : rI E1 x1 y1 q1 m1) :
    ∃ (E2 : cE) (x2 : T2) (f2 : Nat → Int64) (q2 : Nat → List Nat) (m2 : Nat), [(oo, oC lc f)] ++ cW E1 x1 = [(oo, oC lc f2)] ++ cW E2 x2 ∧ eI E2 = eI E ∧ eZ E2 = eZ E ∧ lwKX D lc s E2 ∧ eO E2 = eO E ∧ rI E2 x2 y1 q2 m2 ∧ y1 18 0 = k ∧ True :=
  ⟨E1, x1, _, q1, m1, rfl, h1, h2, hKX, h3, hR, h18, trivial⟩
/-- a refused call: the tables stay as they were -/
theorem fin_t {D : va_G} {lc : ClassId} {s : State} {E : cE} {oo : Nat} {f : Nat → Int64} {x y y1 : T2} {q : Nat → List Nat} {m t : Nat} {k : Int32} {v : Int64} (ht : t = 1 ∨ t = 2) (hKX : lwKX D lc s E) (hR : rI E x y q m) (hk : k = nI t) (hy : y1 = up2 y 18 0 (nI t)) :
    ∃ (E2 : cE) (x2 : T2) (f2 : Nat → Int64) (q2 : Nat → List Nat) (m2 : Nat), [(oo, oC lc f)] ++ cW E x = [(oo, oC lc f2)] ++ cW E2 x2 ∧ eI E2 = eI E ∧ eZ E2 = eZ E ∧ lwKX D lc s E2 ∧ eO E2 = eO E ∧ rI E2 x2 y1 q2 m2 ∧ y1 18 0 = k ∧ (k = nI 0 → f2 0 = v) :=
  ⟨E, x, f, q, m, rfl, rfl, rfl, hKX, rfl, by rw [hy]; exact rI_18 hR _, by rw [hy, hk]; exact up2_s _ _ _ _, fun c => by
    rw [hk] at c
    rcases ht with e | e
    · rw [e] at c; exact absurd c.symm nI_01
    · rw [e] at c; exact absurd c.symm nI_02⟩
theorem cW_fstx {E : cE} {x x' : T2} : (cW E x').map Prod.fst = (cW E x).map Prod.fst :=
  (cW_fst (E := E) (x := x) (x' := x') (pc' := ePc E) (ed' := eEd E) (LP' := eLP E)).trans cW_fst0.symm
theorem cF_fstS {E : cE} {x : T2} {g : Nat → Nat → Int32} : (cF (eSetS E g) x).map Prod.fst = (cF E x).map Prod.fst := by
  unfold cF
  simp only [List.map_append, List.map_map]
  rfl
theorem hm_x0 {E : cE} {x x' : T2} : ∃ new : List Nat, (cW E x').map Prod.fst = (cW E x).map Prod.fst ++ new ∧ new.length ≤ 1 := ⟨[], by rw [List.append_nil]; exact cW_fstx, Nat.zero_le _⟩
theorem hm_p {E : cE} {x x' : T2} {pc : Nat → Nat → Nat} : ∃ new : List Nat, (cW (eSetP E pc (eEd E) (eLP E)) x').map Prod.fst = (cW E x).map Prod.fst ++ new ∧ new.length ≤ 1 := ⟨[], by rw [List.append_nil]; exact cW_fst.trans cW_fst0.symm, Nat.zero_le _⟩
theorem hm_f {E : cE} {x x' : T2} {pc : Nat → Nat → Nat} {i u : Nat} (hi : i ∉ eLP E) : ∃ new : List Nat, (cW (eSetP E pc (edAdd (eEd E) i u) (eLP E ++ [i])) x').map Prod.fst = (cW E x).map Prod.fst ++ new ∧ new.length ≤ 1 := by
  refine ⟨[u], ?_, Nat.le_refl _⟩
  rw [cW_fst (E := E) (x := x), cW_fst0, List.map_append, List.append_assoc]
  congr 1
  have h1 : (eLP E).map (edAdd (eEd E) i u) = (eLP E).map (eEd E) := List.map_congr_left (fun a ha => (if_neg (fun e : a = i => hi (e ▸ ha)) : (if a = i then u else eEd E a) = eEd E a))
  rw [h1]
  show _ ++ [edAdd (eEd E) i u i] = _
  rw [show edAdd (eEd E) i u i = u from if_pos rfl]
theorem hm_s {E : cE} {x x' : T2} {g : Nat → Nat → Int32} : ∃ new : List Nat, (cW (eSetS E g) x').map Prod.fst = (cW E x).map Prod.fst ++ new ∧ new.length ≤ 1 := by
  refine ⟨[], ?_, Nat.zero_le _⟩
  rw [List.append_nil, cW_fstx (x := x), cW_fst0 (E := eSetS E g) (x := x), cW_fst0 (E := E) (x := x), cF_fstS]
  rfl
theorem hm_c {w w1 : va_W} {oo : Nat} {z z1 : va_E} (h : ∃ new : List Nat, w.map Prod.fst = w1.map Prod.fst ++ new ∧ new.length ≤ 1) : ∃ new : List Nat, ([(oo, z)] ++ w : va_W).map Prod.fst = ([(oo, z1)] ++ w1 : va_W).map Prod.fst ++ new ∧ new.length ≤ 1 := by
  obtain ⟨new, h1, h2⟩ := h
  refine ⟨new, ?_, h2⟩
  rw [List.map_append, h1]
  rfl
theorem hm_t {w : va_W} : ∃ new : List Nat, w.map Prod.fst = w.map Prod.fst ++ new ∧ new.length ≤ 1 := ⟨[], (List.append_nil _).symm, Nat.zero_le _⟩
theorem rng_nI {z : Int32} {a b : Nat} (hb : b ≤ 2000) (h1 : ¬ z < nI a) (h2 : ¬ nI b < z) (ha : a ≤ 2000 := by decide) : ∃ n, a ≤ n ∧ n ≤ b ∧ z = nI n := by
  have g1 : ¬ z.toInt < (nI a).toInt := fun d => h1 (Int32.lt_iff_toInt_lt.mpr d)
  have g2 : ¬ (nI b).toInt < z.toInt := fun d => h2 (Int32.lt_iff_toInt_lt.mpr d)
  rw [nI_toInt (by omega)] at g1 g2
  exact ⟨z.toInt.toNat, by omega, by omega, Int32.toInt_inj.mp (by rw [nI_toInt (by omega)]; omega)⟩
theorem cTOk_of {E : cE} {x y : T2} {q : Nat → List Nat} {m : Nat} (h : wR E x y q m) : cTOk x := fun i hi => by
  rcases (h.2.2.1.2 i hi).2.2.2.1 with c | c
  · exact Or.inl c.2
  · rcases (h.2.1.2.1 i hi).2 with d | ⟨t, k, -, k1, -, k2⟩
    · exact absurd d c.1
    · exact Or.inr ⟨k, k1, c.2.trans k2⟩

/-! the law of p22: numbers, and what the class's table holds of itself (stamps, turns, cards) from call to call -/
theorem nI_divN {a b : Nat} (ha : a < 2 ^ 31) (hb : 0 < b) (hb2 : b < 2 ^ 31) : nI a / nI b = nI (a / b) := by
  have hc : a / b ≤ a := Nat.div_le_self a b
  apply Int32.toInt_inj.mp
  rw [Int32.toInt_div_of_ne_right _ _ (nI_nem1 hb2), nI_toInt ha, nI_toInt hb2, nI_toInt (by omega)]
  rfl
theorem nI_modN {a b : Nat} (ha : a < 2 ^ 31) (hb : 0 < b) (hb2 : b < 2 ^ 31) : nI a % nI b = nI (a % b) := by
  have hc : a % b < b := Nat.mod_lt a hb
  apply Int32.toInt_inj.mp
  rw [Int32.toInt_mod, nI_toInt ha, nI_toInt hb2, nI_toInt (by omega)]
  rfl
/-- stamps: six bits -/
def zS (x : T2) : Prop := ∀ v, v < 8 → ∃ t, t < 64 ∧ x 10 v = nI t
/-- stamps stay -/
def zM (x x1 : T2) : Prop := ∀ v, v < 8 → ∃ s t, s < 64 ∧ t < 64 ∧ x 10 v = nI s ∧ x1 10 v = nI t ∧ s &&& t = s
def zT1 (x : T2) (m v : Nat) : Prop := x 11 v = -1 ∨ ∃ t, 0 < t ∧ t % 5 = 0 ∧ t ≤ 2000 ∧ x 11 v = nI t ∧ (m < t ∨ x 13 v = nI 1)
/-- turns: of fifth minutes, past only while one waits -/
def zT (x : T2) (m : Nat) : Prop := ∀ v, v < 8 → zT1 x m v
def zK (x : T2) (n : Nat) : Prop := ∀ j, j < 6 → ∃ a b, x 4 j = nI a ∧ x 5 j = nI b ∧ a + b ≤ 10 + n
/-- cards: those that a pavilion's visitors sent, and its stock -/
def cdV (E : cE) (j : Nat) : Nat → Int32
  | 0 => 0
  | k + 1 => cdV E j k + eS E k j
def cdA (E : cE) (x : T2) : Nat → Int32
  | 0 => 0
  | j + 1 => cdA E x j + cdV E j 8 + x 4 j
theorem zM_rf {x : T2} (h : zS x) : zM x x := fun v hv => by
  obtain ⟨t, ht, e⟩ := h v hv
  exact ⟨t, t, ht, ht, e, e, Nat.and_self t⟩
theorem zM_S {x x1 : T2} (h : zM x x1) : zS x1 := fun v hv => by
  obtain ⟨s, t, -, ht, -, e, -⟩ := h v hv
  exact ⟨t, ht, e⟩
theorem zM_S0 {x x1 : T2} (h : zM x x1) : zS x := fun v hv => by
  obtain ⟨s, t, hs, -, e, -, -⟩ := h v hv
  exact ⟨s, hs, e⟩
theorem zM_tr {x x1 x2 : T2} (h : zM x x1) (h1 : zM x1 x2) : zM x x2 := fun v hv => by
  obtain ⟨s, t, hs, ht, e1, e2, e3⟩ := h v hv
  obtain ⟨t', u, ht', hu, f1, f2, f3⟩ := h1 v hv
  have : t = t' := nI_inj (by omega) (by omega) (e2.symm.trans f1)
  subst this
  exact ⟨s, u, hs, hu, e1, f2, by rw [← e3, Nat.and_assoc, f3]⟩
theorem zM_eq {x x1 : T2} (h : zS x) (e : ∀ v, x1 10 v = x 10 v) : zM x x1 := fun v hv => by
  obtain ⟨t, ht, e1⟩ := h v hv
  exact ⟨t, t, ht, ht, e1, (e v).trans e1, Nat.and_self t⟩
theorem zM_t {x x1 x2 : T2} (h : zM x x1) (e : ∀ v, x2 10 v = x1 10 v) : zM x x2 := zM_tr h (zM_eq (zM_S h) e)
theorem zM_s {x x0 x1 : T2} (h : zM x x1) (e : ∀ v, x0 10 v = x 10 v) : zM x0 x1 := fun v hv => by
  obtain ⟨s, t, h1, h2, h3, h4, h5⟩ := h v hv
  exact ⟨s, t, h1, h2, (e v).trans h3, h4, h5⟩
set_option maxRecDepth 100000 in
theorem st_or : ∀ s, s < 64 → ∀ p, p < 6 → nI s ||| (nI 1 <<< (nI p &&& 31)) = nI (s ||| 2 ^ p) ∧ s ||| 2 ^ p < 64 ∧ s &&& (s ||| 2 ^ p) = s := by decide +kernel
set_option maxRecDepth 100000 in
theorem st_and : ∀ s, s < 64 → ∀ t, t < 64 → s &&& t = s → nI s &&& (nI t ^^^ -1) = nI 0 := by decide +kernel
theorem zM_had {x x1 : T2} (h : zM x x1) {v : Nat} (hv : v < 8) : x 10 v &&& (x1 10 v ^^^ -1) = nI 0 := by
  obtain ⟨s, t, hs, ht, e1, e2, e3⟩ := h v hv
  rw [e1, e2]
  exact st_and s hs t ht e3
theorem zT1_c {x x1 : T2} {m v : Nat} (h : zT1 x m v) (e1 : x1 11 v = x 11 v) (e2 : x1 13 v = x 13 v) : zT1 x1 m v := by
  unfold zT1
  rw [e1, e2]
  exact h
theorem zT_c {x x1 : T2} {m : Nat} (h : zT x m) (e1 : ∀ v, x1 11 v = x 11 v) (e2 : ∀ v, x1 13 v = x 13 v) : zT x1 m := fun v hv => zT1_c (h v hv) (e1 v) (e2 v)
theorem zT1_leave {x : T2} {m v : Nat} (h : zT1 x m v) (i : Nat) : zT1 (cLeave x i) m v := by
  unfold zT1
  rw [cLeave_11, cLeave_13]
  by_cases hv : v = i
  · by_cases h0 : x 13 i = nI 0
    · rw [if_neg (fun c => c.2 h0)]
      rcases h with h | ⟨t, t1, t2, t3, t4, t5⟩
      · exact Or.inl h
      · refine Or.inr ⟨t, t1, t2, t3, t4, Or.inl (t5.resolve_right (fun c => ?_))⟩
        rw [hv, h0] at c
        exact nI_01 c
    · rw [if_pos ⟨hv, h0⟩]
      exact Or.inl rfl
  · rw [if_neg (fun c => hv c.1), if_neg hv]
    exact h
/-! what the steps of a minute leave as it was -/
def kP (f : Nat) : Prop := f ≠ 6 ∧ f ≠ 7 ∧ f ≠ 8 ∧ f ≠ 9 ∧ f ≠ 11 ∧ f ≠ 12 ∧ f ≠ 13
theorem kp_tt {x x' : T2} {k f : Nat} (hf : kP f) (h : cTT x k x') (i : Nat) : x' f i = x f i := by
  obtain ⟨f6, f7, f8, f9, f11, f12, f13⟩ := hf
  rcases h with ⟨-, rfl⟩ | ⟨j, x1, -, -, -, -, h1, rfl⟩
  · exact cLose_k _ _ _ _ (Or.inl ⟨f11, f12⟩)
  · rw [up2_k _ _ _ _ f13, cJoin_o _ _ _ _ _ _ ⟨f6, f7, f8⟩]
    rcases h1 with ⟨-, rfl⟩ | ⟨-, rfl⟩
    · exact cLeave_f2 _ _ _ _ ⟨f6, f7, f8, f9, f11, f12, f13⟩
    · rfl
theorem kp_tts {f : Nat} (hf : kP f) (i : Nat) : ∀ (n k : Nat) (x x' : T2), cTTs n k x x' → x' f i = x f i
  | 0, _, _, _, h => by rw [show _ = _ from h]
  | n + 1, k, x, x', h => by
    obtain ⟨x1, h1, h2⟩ := h
    rw [kp_tts hf i n (k + 1) x1 x' h2]
    rcases h1 with ⟨-, rfl⟩ | ⟨-, h1⟩
    · rfl
    · exact kp_tt hf h1 i
theorem kp_fp {E : cE} {v f : Nat} (hf : f ≠ 6 ∧ f ≠ 7 ∧ f ≠ 8) (i : Nat) : ∀ (n k : Nat) (x x' : T2), cFP E v n k x x' → x' f i = x f i
  | 0, _, _, _, h => by rw [show _ = _ from h]
  | n + 1, k, x, x', h => by
    obtain ⟨-, ⟨-, h1⟩ | ⟨-, -, h1⟩ | ⟨-, -, rfl⟩⟩ := h
    · exact kp_fp hf i n (k + 1) x x' h1
    · exact kp_fp hf i n (k + 1) x x' h1
    · exact cJoin_o _ _ _ _ _ _ hf
theorem kp_fps {E : cE} {f : Nat} (hf : f ≠ 6 ∧ f ≠ 7 ∧ f ≠ 8) (i : Nat) : ∀ (n k : Nat) (x x' : T2), cFPs E n k x x' → x' f i = x f i
  | 0, _, _, _, h => by rw [show _ = _ from h]
  | n + 1, k, x, x', h => by
    obtain ⟨x1, h1, h2⟩ := h
    rw [kp_fps hf i n (k + 1) x1 x' h2]
    rcases h1 with ⟨-, rfl⟩ | ⟨-, q, -, -, -, h1⟩
    · rfl
    · exact kp_fp hf i q 0 x x1 h1
theorem kp_fill {j f : Nat} (hf : kP f) (i : Nat) : ∀ (n : Nat) (fr : Int32) (x x' : T2), cFillR j n fr x x' → x' f i = x f i
  | 0, _, _, _, h => by rw [h.2]
  | n + 1, fr, x, x', h => by
    obtain ⟨-, v, -, -, -, h1⟩ := h
    rw [kp_fill hf i n _ _ x' h1, cGo_o _ _ _ _ _ (Or.inl ⟨hf.1, hf.2.1, hf.2.2.2.1⟩)]
    exact cLeave_f2 _ _ _ _ hf
theorem kp_lets {f : Nat} (hf : kP f) (i : Nat) : ∀ (n k : Nat) (x x' : T2), cLets n k x x' → x' f i = x f i
  | 0, _, _, _, h => by rw [show _ = _ from h]
  | n + 1, k, x, x', h => by
    obtain ⟨x1, h1, h2⟩ := h
    rw [kp_lets hf i n (k + 1) x1 x' h2]
    rcases h1 with ⟨-, rfl⟩ | ⟨-, q, h1⟩
    · rfl
    · exact kp_fill hf i q _ x x1 h1
theorem kp_out {f : Nat} (hf : f ≠ 6 ∧ f ≠ 7 ∧ f ≠ 8 ∧ f ≠ 9 ∧ f ≠ 10) (x : T2) (i : Nat) : ∀ n, cOut x n f i = x f i
  | 0 => rfl
  | n + 1 => by
    rw [cOut, cOut1]
    split
    · rw [cIdle_o _ _ _ _ ⟨hf.1, hf.2.1, hf.2.2.1, hf.2.2.2.1⟩, up2_k _ _ _ _ hf.2.2.2.2]
      exact kp_out hf x i n
    · exact kp_out hf x i n
/-! turns over a minute -/
theorem zT_fill {j m : Nat} : ∀ (n : Nat) (fr : Int32) (x x' : T2), cFillR j n fr x x' → zT x m → zT x' m
  | 0, _, _, _, h, ht => by rw [h.2]; exact ht
  | n + 1, fr, x, x', h, ht => by
    obtain ⟨-, v, -, -, -, h1⟩ := h
    refine zT_fill n _ _ x' h1 (fun w hw => zT1_c (zT1_leave (ht w hw) v) ?_ ?_)
    · exact cGo_o _ _ _ _ _ (Or.inl (by decide))
    · exact cGo_o _ _ _ _ _ (Or.inl (by decide))
theorem zT_lets {m : Nat} : ∀ (n k : Nat) (x x' : T2), cLets n k x x' → zT x m → zT x' m
  | 0, _, _, _, h, ht => by rw [show _ = _ from h]; exact ht
  | n + 1, k, x, x', h, ht => by
    obtain ⟨x1, h1, h2⟩ := h
    refine zT_lets n (k + 1) x1 x' h2 ?_
    rcases h1 with ⟨-, rfl⟩ | ⟨-, q, h1⟩
    · exact ht
    · exact zT_fill q _ x x1 h1 ht
theorem zT_tt {x x' : T2} {m k : Nat} (h : cTT x k x') (h11 : ∃ t, 0 < t ∧ t % 5 = 0 ∧ t ≤ 2000 ∧ x 11 k = nI t) : zT1 x' m k ∧ ∀ v, v ≠ k → x' 11 v = x 11 v ∧ x' 13 v = x 13 v := by
  rcases h with ⟨-, rfl⟩ | ⟨j, x1, -, -, -, -, h1, rfl⟩
  · exact ⟨Or.inl (cLose_11 x k), fun v hv => ⟨cLose_k _ _ _ _ (Or.inr hv), cLose_k _ _ _ _ (Or.inr hv)⟩⟩
  · have e11 : ∀ v, up2 (cJoin x1 k j (nI (cBt x1 j 8))) 13 k (nI 1) 11 v = x1 11 v := fun v => by rw [up2_k _ _ _ _ (by decide), cJoin_o _ _ _ _ _ _ (by decide)]
    refine ⟨?_, fun v hv => ?_⟩
    · unfold zT1
      rw [e11, up2_s]
      obtain ⟨t, t1, t2, t3, t4⟩ := h11
      rcases h1 with ⟨-, rfl⟩ | ⟨-, rfl⟩
      · rw [cLeave_11]
        by_cases c : k = k ∧ ¬ x 13 k = nI 0
        · rw [if_pos c]; exact Or.inl rfl
        · rw [if_neg c]; exact Or.inr ⟨t, t1, t2, t3, t4, Or.inr rfl⟩
      · exact Or.inr ⟨t, t1, t2, t3, t4, Or.inr rfl⟩
    · rw [e11, up2_n _ _ _ _ hv, cJoin_o _ _ _ _ _ _ (by decide)]
      rcases h1 with ⟨-, rfl⟩ | ⟨-, rfl⟩
      · rw [cLeave_11, cLeave_13, if_neg (fun c => hv c.1), if_neg hv]
        exact ⟨rfl, rfl⟩
      · exact ⟨rfl, rfl⟩
theorem zT_tts {m : Nat} : ∀ (n k : Nat) (x x' : T2), k + n = 8 → cTTs n k x x' → x 0 0 = nI (m + 1) → m + 1 < 2 ^ 31 → (∀ v, v < k → zT1 x (m + 1) v) → (∀ v, k ≤ v → v < 8 → zT1 x m v) → zT x' (m + 1)
  | 0, k, x, x', hk, h, h0, hm, ha, hb => by
    rw [show _ = _ from h]
    exact fun v hv => ha v (by omega)
  | n + 1, k, x, x', hk, h, h0, hm, ha, hb => by
    obtain ⟨x1, h1, h2⟩ := h
    have hk0 := hb k (Nat.le_refl k) (by omega)
    rcases h1 with ⟨hne, rfl⟩ | ⟨he, h1⟩
    · refine zT_tts n (k + 1) x1 x' (by omega) h2 h0 hm (fun v hv => ?_) (fun v hv hv8 => hb v (by omega) hv8)
      by_cases hvk : v = k
      · subst hvk
        rcases hk0 with c | ⟨t, t1, t2, t3, t4, t5⟩
        · exact Or.inl c
        · refine Or.inr ⟨t, t1, t2, t3, t4, t5.imp (fun c => ?_) id⟩
          have : t ≠ m + 1 := fun e => hne (by rw [t4, e]; exact h0.symm)
          omega
      · exact ha v (by omega)
    · have h11 : ∃ t, 0 < t ∧ t % 5 = 0 ∧ t ≤ 2000 ∧ x 11 k = nI t := by
        rcases hk0 with c | ⟨t, t1, t2, t3, t4, t5⟩
        · rw [he, h0] at c
          exact absurd c (nI_nem1 hm)
        · exact ⟨t, t1, t2, t3, t4⟩
      obtain ⟨g1, g2⟩ := zT_tt (m := m + 1) h1 h11
      refine zT_tts n (k + 1) x1 x' (by omega) h2 ((kp_tt (by unfold kP; decide) h1 0).trans h0) hm (fun v hv => ?_) (fun v hv hv8 => ?_)
      · by_cases hvk : v = k
        · subst hvk; exact g1
        · exact zT1_c (ha v (by omega)) (g2 v hvk).1 (g2 v hvk).2
      · exact zT1_c (hb v (by omega) hv8) (g2 v (by omega)).1 (g2 v (by omega)).2
/-- the visits that end: stamps -/
theorem zM_out {E : cE} {x y : T2} {q : Nat → List Nat} {m : Nat} (h : wR E x y q m) (hs : zS x) : ∀ n, n ≤ 8 → zM x (cOut x n)
  | 0, _ => zM_rf hs
  | n + 1, hn => by
    have ih := zM_out h hs n (by omega)
    have hw := (w_outs h n (by omega)).1
    refine zM_tr ih ?_
    rw [cOut, cOut1]
    by_cases hc : cOut x n 6 n = nI 2 ∧ cOut x n 9 n ≤ cOut x n 0 0
    · rw [if_pos hc]
      have h7 : ∃ p, p < 6 ∧ cOut x n 7 n = nI p := by
        have hC := hw.1.2.1 n (by omega)
        rcases hw.2.1.1 n (by omega) with ⟨c, -⟩ | ⟨c, -⟩ | ⟨c, p, p1, p2⟩
        · exact absurd (c.symm.trans (hC.1.symm.trans hc.1)) nI_02
        · exact absurd (c.symm.trans (hC.1.symm.trans hc.1)) nI_12
        · exact ⟨p, p1, hC.2.trans p2⟩
      obtain ⟨p, p1, p2⟩ := h7
      intro v hv
      obtain ⟨s, s1, s2⟩ := zM_S ih v hv
      rw [cIdle_o _ _ _ _ (by decide)]
      by_cases hvn : v = n
      · subst hvn
        obtain ⟨o1, o2, o3⟩ := st_or s s1 p p1
        exact ⟨s, s ||| 2 ^ p, s1, o2, s2, by rw [up2_s, s2, p2]; exact o1, o3⟩
      · exact ⟨s, s, s1, s1, s2, by rw [up2_n _ _ _ _ hvn]; exact s2, Nat.and_self s⟩
    · rw [if_neg hc]
      exact zM_rf (zM_S ih)
theorem z_min {E : cE} {x y x' : T2} {q : Nat → List Nat} {m : Nat} (h : wR E x y q m) (hm : y 0 0 = nI m) (hm9 : m + 1 ≤ 1200) (hs : zS x) (ht : zT x m) (hc : cMin E x x') : zM x x' ∧ zT x' (m + 1) ∧ (∀ f i, f = 4 ∨ f = 5 → x' f i = x f i) := by
  obtain ⟨x2, x3, h1, h2, h3⟩ := hc
  obtain ⟨g1, g2⟩ := w_tick h hm
  have hx0 : x 0 0 = nI m := h.2.2.1.1.1.trans hm
  have hs1 : zS (up2 x 0 0 (x 0 0 + nI 1)) := fun v hv => by
    rw [up2_k _ _ _ _ (by decide)]
    exact hs v hv
  have hM := zM_out g1 hs1 8 (Nat.le_refl 8)
  have e10 : ∀ v, x' 10 v = cOut (up2 x 0 0 (x 0 0 + nI 1)) 8 10 v := fun v => by
    rw [kp_lets (by unfold kP; decide) v 6 0 x3 x' h3, kp_fps (by decide) v 8 0 x2 x3 h2, kp_tts (by unfold kP; decide) v 8 0 _ x2 h1]
  refine ⟨zM_s (zM_t hM e10) (fun v => by rw [up2_k _ _ _ _ (by decide)]), ?_, fun f i hf => ?_⟩
  · have e0 : cOut (up2 x 0 0 (x 0 0 + nI 1)) 8 0 0 = nI (m + 1) := by
      rw [kp_out (by decide), up2_s, hx0, nI_add]
    have hT2 := zT_tts (m := m) 8 0 _ x2 rfl h1 e0 (by omega) (fun v hv => absurd hv (Nat.not_lt_zero v)) (fun v _ hv => zT1_c (ht v hv) (by rw [kp_out (by decide), up2_k _ _ _ _ (by decide)]) (by rw [kp_out (by decide), up2_k _ _ _ _ (by decide)]))
    exact zT_lets 6 0 x3 x' h3 (zT_c hT2 (fun v => kp_fps (by decide) v 8 0 x2 x3 h2) (fun v => kp_fps (by decide) v 8 0 x2 x3 h2))
  · have hk : kP f ∧ (f ≠ 6 ∧ f ≠ 7 ∧ f ≠ 8 ∧ f ≠ 9 ∧ f ≠ 10) ∧ 0 ≠ f := by rcases hf with rfl | rfl <;> (unfold kP; decide)
    rw [kp_lets hk.1 i 6 0 x3 x' h3, kp_fps ⟨hk.1.1, hk.1.2.1, hk.1.2.2.1⟩ i 8 0 x2 x3 h2, kp_tts hk.1 i 8 0 _ x2 h1, kp_out hk.2.1, up2_k _ _ _ _ (fun e => hk.2.2 e.symm)]
/-- minutes pass: the reference's road beside the class's, and what the class's table holds of itself -/
theorem z_mins {E : cE} : ∀ (n : Nat) (x y : T2) (q : Nat → List Nat) (m : Nat), wR E x y q m → y 0 0 = nI m → m + n ≤ 1200 → wRm y → zS x → zT x m → ∃ x' y' q', cMins E n x x' ∧ wR E x' y' q' (m + n) ∧ y' 0 0 = nI (m + n) ∧ wRm y' ∧ zM x x' ∧ zT x' (m + n) ∧ (∀ f i, f = 4 ∨ f = 5 → x' f i = x f i)
  | 0, x, y, q, m, h, h0, _, hr, hs, ht => ⟨x, y, q, rfl, h, h0, hr, zM_rf hs, ht, fun _ _ _ => rfl⟩
  | n + 1, x, y, q, m, h, h0, hm, hr, hs, ht => by
    obtain ⟨x1, y1, q1, c1, -, w1, w2, w3⟩ := w_min h h0 (by omega) hr
    obtain ⟨g1, g2, g3⟩ := z_min h h0 (by omega) hs ht c1
    obtain ⟨x', y', q', k1, k2, k3, k4, k5, k6, k7⟩ := z_mins n x1 y1 q1 (m + 1) w1 w2 (by omega) w3 (zM_S g1) g2
    rw [show m + 1 + n = m + (n + 1) by omega] at k2 k3 k6
    exact ⟨x', y', q', ⟨x1, c1, k1⟩, k2, k3, k4, zM_tr g1 k5, k6, fun f i hf => (k7 f i hf).trans (g3 f i hf)⟩

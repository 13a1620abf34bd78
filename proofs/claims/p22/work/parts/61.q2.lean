/-! what the law's 'fits' looks at -/
def plc (x : T2) (p : Nat) : Nat → Int32
  | 0 => nI 0
  | k + 1 => plc x p k ||| (if x 7 k = nI p ∧ x 6 k = nI 1 then nI 1 <<< (x 8 k &&& 31) else nI 0)
set_option maxRecDepth 100000 in
theorem or_bit : ∀ i, i < 8 → ∀ a, a < 256 → nI a ||| (nI 1 <<< (nI i &&& 31)) = nI (a ||| 2 ^ i) ∧ a ||| 2 ^ i < 256 := by decide +kernel
theorem or_len : ∀ n, n < 9 → nI (2 ^ n - 1) = (nI 1 <<< (nI n &&& 31)) - nI 1 := by decide +kernel
/-- who waits at p among the first k, by places, as bits -/
theorem plc_bits {E : cE} {x y : T2} {q : Nat → List Nat} {m : Nat} (h : wR E x y q m) {p : Nat} (hp : p < 6) : ∀ k, k ≤ 8 → ∃ a, a < 256 ∧ plc x p k = nI a ∧ ∀ i, a.testBit i = true ↔ ∃ v, v < k ∧ (q p)[i]? = some v
  | 0, _ => ⟨0, by decide, rfl, fun i => by simp⟩
  | k + 1, hk => by
    obtain ⟨a, a1, a2, a3⟩ := plc_bits h hp k (by omega)
    have hC := h.1.2.1 k (by omega)
    have hmem := wQ_mem h.1.1 h.2.1.1 hp k
    rw [plc]
    by_cases hc : x 7 k = nI p ∧ x 6 k = nI 1
    · have hq : k ∈ q p := hmem.mpr ⟨by omega, hC.1.symm.trans hc.2, hC.2.symm.trans hc.1⟩
      obtain ⟨i, hi⟩ := List.getElem?_of_mem hq
      have hlen := wQ_len h.1.1 hp
      have hil : i < (q p).length := (List.getElem?_eq_some_iff.mp hi).1
      have h8 := h.1.2.2 p hp i k hi
      obtain ⟨b1, b2⟩ := or_bit i (by omega) a a1
      rw [if_pos hc, a2, h8, b1]
      refine ⟨a ||| 2 ^ i, b2, rfl, fun j => ?_⟩
      rw [Nat.testBit_or, Nat.testBit_two_pow, Bool.or_eq_true, decide_eq_true_eq, a3 j]
      constructor
      · rintro (⟨v, v1, v2⟩ | e)
        · exact ⟨v, by omega, v2⟩
        · exact ⟨k, by omega, e ▸ hi⟩
      · rintro ⟨v, v1, v2⟩
        by_cases e : v = k
        · subst e
          exact Or.inr (nodup_ix (h.1.1 p hp).1 hi v2)
        · exact Or.inl ⟨v, by omega, v2⟩
    · rw [if_neg hc, a2, show nI a ||| nI 0 = nI a from Int32.or_zero]
      refine ⟨a, a1, rfl, fun j => ?_⟩
      rw [a3 j]
      constructor
      · rintro ⟨v, v1, v2⟩
        exact ⟨v, by omega, v2⟩
      · rintro ⟨v, v1, v2⟩
        refine ⟨v, ?_, v2⟩
        have : v ≠ k := fun e => hc (by
          subst e
          have := (wQ_mem h.1.1 h.2.1.1 hp v).mp (List.mem_of_getElem? v2)
          exact ⟨hC.2.trans this.2.2, hC.1.trans this.2.1⟩)
        omega
/-- the places of those who wait are 0 to their number - 1 -/
theorem plc_all {E : cE} {x y : T2} {q : Nat → List Nat} {m : Nat} (h : wR E x y q m) {p : Nat} (hp : p < 6) : plc x p 8 = (nI 1 <<< (nI (cCnt x (nI 1) p 8) &&& 31)) - nI 1 := by
  obtain ⟨a, -, a2, a3⟩ := plc_bits h hp 8 (Nat.le_refl 8)
  have hlen := wQ_len h.1.1 hp
  have ha : a = 2 ^ (q p).length - 1 := by
    refine Nat.eq_of_testBit_eq (fun i => ?_)
    rw [Nat.testBit_two_pow_sub_one, Bool.eq_iff_iff, a3 i, decide_eq_true_eq]
    constructor
    · rintro ⟨v, -, hv⟩
      exact (List.getElem?_eq_some_iff.mp hv).1
    · intro hi
      obtain ⟨v, hv⟩ : ∃ v, (q p)[i]? = some v := ⟨(q p)[i], List.getElem?_eq_getElem hi⟩
      exact ⟨v, ((h.1.1 p hp).2.2 i v hv).1, hv⟩
  rw [a2, ha, w_cnt h hp]
  exact or_len _ (by omega)
/-- a visitor: idle; waiting somewhere at a place; or inside somewhere -/
theorem v_cases {E : cE} {x y : T2} {q : Nat → List Nat} {m : Nat} (h : wR E x y q m) {v : Nat} (hv : v < 8) : (x 6 v = nI 0 ∧ x 7 v = -1 ∧ x 8 v = -1) ∨ (x 6 v = nI 1 ∧ (∃ p, p < 6 ∧ x 7 v = nI p) ∧ ∃ k, k < 8 ∧ x 8 v = nI k) ∨ (x 6 v = nI 2 ∧ (∃ p, p < 6 ∧ x 7 v = nI p) ∧ x 8 v = -1) := by
  have hC := h.1.2.1 v hv
  have hG := (h.2.2.1.2 v hv).2.2.2.2.2
  rcases h.2.1.1 v hv with ⟨g1, g2⟩ | ⟨g1, p, g2, g3, g4⟩ | ⟨g1, p, g2, g3⟩
  · exact Or.inl ⟨hC.1.trans g1, hC.2.trans g2, hG (fun c => nI_01 (g1.symm.trans c))⟩
  · obtain ⟨k, hk⟩ := List.getElem?_of_mem g4
    have := wQ_len h.1.1 g2
    have hkl : k < (q p).length := (List.getElem?_eq_some_iff.mp hk).1
    exact Or.inr (Or.inl ⟨hC.1.trans g1, ⟨p, g2, hC.2.trans g3⟩, k, by omega, h.1.2.2 p g2 k v hk⟩)
  · exact Or.inr (Or.inr ⟨hC.1.trans g1, ⟨p, g2, hC.2.trans g3⟩, hG (fun c => nI_12 (c.symm.trans g1))⟩)
/-- who waits by a turn waits -/
theorem t_wait {E : cE} {x y : T2} {q : Nat → List Nat} {m : Nat} (h : wR E x y q m) {v : Nat} (hv : v < 8) (h13 : x 13 v = nI 1) : x 6 v = nI 1 := by
  have hC := h.1.2.1 v hv
  have hG := (h.2.2.1.2 v hv).2.2.2.2.1
  rcases (h.2.1.2.1 v hv).1 with c | c
  · exact absurd (c.symm.trans (hG.symm.trans h13)) nI_01
  · exact hC.1.trans c.2.1
/-- what holds between two steps of the law: at minute m, n cards more than at first at most, pr printed -/
def pI (E : cE) (x : T2) (m n : Nat) (pr : Int32) : Prop := (∃ y q, wR E x y q m ∧ y 0 0 = nI m ∧ wRm y) ∧ m ≤ 1200 ∧ zS x ∧ zT x m ∧ zK x n ∧ cdA E x 6 = nI 60 + pr
theorem zK_le {x : T2} {n n1 : Nat} (h : zK x n) (hn : n ≤ n1) : zK x n1 := fun j hj => by
  obtain ⟨a, b, h1, h2, h3⟩ := h j hj
  exact ⟨a, b, h1, h2, by omega⟩
theorem pI_le {E : cE} {x : T2} {m n n1 : Nat} {pr : Int32} (h : pI E x m n pr) (hn : n ≤ n1) : pI E x m n1 pr := ⟨h.1, h.2.1, h.2.2.1, h.2.2.2.1, zK_le h.2.2.2.2.1 hn, h.2.2.2.2.2⟩
theorem cdV_e {E E1 : cE} {j : Nat} (h : ∀ k, k < 8 → eS E1 k j = eS E k j) : ∀ n, n ≤ 8 → cdV E1 j n = cdV E j n
  | 0, _ => rfl
  | n + 1, hn => by rw [cdV, cdV, cdV_e h n (by omega), h n (by omega)]
theorem cdA_e {E E1 : cE} {x x1 : T2} (h : ∀ k j, eS E1 k j = eS E k j) (hx : ∀ j, x1 4 j = x 4 j) : ∀ n, cdA E1 x1 n = cdA E x n
  | 0 => rfl
  | n + 1 => by rw [cdA, cdA, cdA_e h hx n, cdV_e (fun k _ => h k n) 8 (Nat.le_refl 8), hx]
/-- one card from a stock into a visitor's hand -/
theorem cdV_u {E : cE} {v p : Nat} {z : Int32} (j : Nat) : ∀ n, cdV (eSetS E (up2 (eS E) v p (eS E v p + z))) j n = cdV E j n + (if j = p ∧ v < n then z else 0)
  | 0 => by
    rw [if_neg (fun c => absurd c.2 (Nat.not_lt_zero v))]
    rfl
  | n + 1 => by
    rw [cdV, cdV, cdV_u j n]
    have hS : eS (eSetS E (up2 (eS E) v p (eS E v p + z))) n j = up2 (eS E) v p (eS E v p + z) n j := rfl
    rw [hS]
    by_cases hj : j = p
    · subst hj
      by_cases hn : n = v
      · subst hn
        rw [up2_s, if_neg (fun c => absurd c.2 (Nat.lt_irrefl n)), if_pos ⟨rfl, Nat.lt_succ_self n⟩, Int32.add_zero]
        ac_rfl
      · rw [up2_k _ _ _ _ hn]
        by_cases hv : v < n
        · rw [if_pos ⟨rfl, hv⟩, if_pos ⟨rfl, by omega⟩]
          ac_rfl
        · rw [if_neg (fun c => hv c.2), if_neg (fun c => hv (by omega)), Int32.add_zero, Int32.add_zero]
    · rw [if_neg (fun c => hj c.1), if_neg (fun c => hj c.1), Int32.add_zero, Int32.add_zero]
      by_cases hn : n = v
      · subst hn
        rw [up2_n _ _ _ _ hj]
      · rw [up2_k _ _ _ _ hn]
theorem cd_cancel (a b c z : Int32) : a + (b + z) + (c - z) = a + b + c := by
  rw [Int32.sub_eq_add_neg]
  have h : z + -z = 0 := Int32.add_right_neg z
  calc a + (b + z) + (c + -z) = a + b + c + (z + -z) := by ac_rfl
    _ = a + b + c := by rw [h, Int32.add_zero]
theorem cdA_u {E : cE} {x : T2} {v p : Nat} (hv : v < 8) : ∀ n, cdA (eSetS E (up2 (eS E) v p (eS E v p + nI 1))) (up2 x 4 p (x 4 p - nI 1)) n = cdA E x n
  | 0 => rfl
  | n + 1 => by
    rw [cdA, cdA, cdA_u hv n, cdV_u]
    by_cases hn : n = p
    · subst hn
      rw [if_pos ⟨rfl, hv⟩, up2_s]
      exact cd_cancel _ _ _ _
    · rw [if_neg (fun c => hn c.1), up2_n _ _ _ _ hn, Int32.add_zero]
/-! cards printed again -/
def rpQ (x : T2) (t : Int32) (n j : Nat) : Prop := j < n ∧ ¬ x 5 j < t
theorem rpX_c {x : T2} {t : Int32} : ∀ n j, (rpQ x t n j → cRepX x t n 5 j = nI 0 ∧ cRepX x t n 4 j = x 4 j + x 5 j) ∧ (¬ rpQ x t n j → cRepX x t n 5 j = x 5 j ∧ cRepX x t n 4 j = x 4 j)
  | 0, j => ⟨fun c => absurd c.1 (Nat.not_lt_zero j), fun _ => ⟨rfl, rfl⟩⟩
  | n + 1, j => by
    obtain ⟨i1, i2⟩ := rpX_c (x := x) (t := t) n j
    obtain ⟨-, m2⟩ := rpX_c (x := x) (t := t) n n
    obtain ⟨m3, m4⟩ := m2 (fun c => absurd c.1 (Nat.lt_irrefl n))
    rw [cRepX]
    by_cases hc : cRepX x t n 5 n < t
    · rw [if_pos hc]
      rw [m3] at hc
      have e : rpQ x t (n + 1) j ↔ rpQ x t n j := by
        unfold rpQ
        constructor
        · rintro ⟨c1, c2⟩
          refine ⟨?_, c2⟩
          have : j ≠ n := fun e => c2 (e ▸ hc)
          omega
        · rintro ⟨c1, c2⟩
          exact ⟨by omega, c2⟩
      rw [e]
      exact ⟨i1, i2⟩
    · rw [if_neg hc]
      rw [m3] at hc
      by_cases hj : j = n
      · subst hj
        refine ⟨fun _ => ⟨up2_s _ _ _ _, ?_⟩, fun c => absurd ⟨Nat.lt_succ_self j, hc⟩ c⟩
        rw [up2_k _ _ _ _ (by decide), up2_s, m3, m4]
      · have e : rpQ x t (n + 1) j ↔ rpQ x t n j := by
          unfold rpQ
          constructor
          · rintro ⟨c1, c2⟩
            exact ⟨by omega, c2⟩
          · rintro ⟨c1, c2⟩
            exact ⟨by omega, c2⟩
        rw [up2_n _ _ _ _ hj, up2_k _ _ _ _ (by decide), up2_k _ _ _ _ (by decide), up2_n _ _ _ _ hj, e]
        exact ⟨i1, i2⟩
theorem rpX_o {x : T2} {t : Int32} {f : Nat} (hf : f ≠ 4 ∧ f ≠ 5) (i : Nat) : ∀ n, cRepX x t n f i = x f i
  | 0 => rfl
  | n + 1 => by
    rw [cRepX]
    split
    · exact rpX_o hf i n
    · rw [up2_k _ _ _ _ hf.2, up2_k _ _ _ _ hf.1]
      exact rpX_o hf i n
theorem rpV_s {x : T2} {t : Int32} (n : Nat) : cRepV x t (n + 1) = cRepV x t n + (if x 5 n < t then 0 else x 5 n) := by
  obtain ⟨-, m2⟩ := rpX_c (x := x) (t := t) n n
  obtain ⟨m3, -⟩ := m2 (fun c => absurd c.1 (Nat.lt_irrefl n))
  rw [cRepV, m3]
  split
  · rw [Int32.add_zero]
  · rfl
theorem rp_cd {E : cE} {x : T2} {t : Int32} : ∀ n, n ≤ 6 → cdA E (cRepX x t 6) n = cdA E x n + cRepV x t n
  | 0, _ => rfl
  | n + 1, hn => by
    obtain ⟨i1, i2⟩ := rpX_c (x := x) (t := t) 6 n
    rw [cdA, cdA, rp_cd n (by omega), rpV_s]
    by_cases hc : x 5 n < t
    · rw [if_pos hc, (i2 (fun c => c.2 hc)).2, Int32.add_zero]
      ac_rfl
    · rw [if_neg hc, (i1 ⟨by omega, hc⟩).2]
      ac_rfl
theorem rp_val {x : T2} {t : Int32} {n0 : Nat} (hK : zK x n0) : ∀ n, n ≤ 6 → ∃ w, w ≤ n * (10 + n0) ∧ cRepV x t n = nI w
  | 0, _ => ⟨0, by omega, rfl⟩
  | n + 1, hn => by
    obtain ⟨w, w1, w2⟩ := rp_val (t := t) hK n (by omega)
    obtain ⟨a, b, -, h2, h3⟩ := hK n (by omega)
    have e : (n + 1) * (10 + n0) = n * (10 + n0) + (10 + n0) := Nat.succ_mul n (10 + n0)
    rw [rpV_s, w2]
    by_cases hc : x 5 n < t
    · rw [if_pos hc, Int32.add_zero]
      exact ⟨w, by omega, rfl⟩
    · rw [if_neg hc, h2, nI_add]
      exact ⟨w + b, by omega, rfl⟩
theorem rp_two {x : T2} {t : Nat} (ht : 1 ≤ t) (ht2 : t ≤ 1000) : ∀ n, n ≤ 6 → cRepV (cRepX x (nI t) 6) (nI t) n = nI 0
  | 0, _ => rfl
  | n + 1, hn => by
    obtain ⟨i1, i2⟩ := rpX_c (x := x) (t := nI t) 6 n
    rw [rpV_s, rp_two ht ht2 n (by omega)]
    by_cases hc : x 5 n < nI t
    · rw [(i2 (fun c => c.2 hc)).1, if_pos hc]
      rfl
    · rw [(i1 ⟨by omega, hc⟩).1, if_pos (nI_lt (by omega) (by omega))]
      rfl
theorem rp_K {x : T2} {t : Int32} {n0 : Nat} (hK : zK x n0) : zK (cRepX x t 6) n0 := fun j hj => by
  obtain ⟨i1, i2⟩ := rpX_c (x := x) (t := t) 6 j
  obtain ⟨a, b, h1, h2, h3⟩ := hK j hj
  by_cases hc : x 5 j < t
  · obtain ⟨g1, g2⟩ := i2 (fun c => c.2 hc)
    exact ⟨a, b, g2.trans h1, g1.trans h2, h3⟩
  · obtain ⟨g1, g2⟩ := i1 ⟨hj, hc⟩
    exact ⟨a + b, 0, by rw [g2, h1, h2, nI_add], g1, by omega⟩

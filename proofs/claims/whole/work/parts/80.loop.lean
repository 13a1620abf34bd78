theorem nI_sub4 {L : Nat} (hL : L ≤ 2048) : (nI L - nI 4).toInt = (L : Int) - 4 := by
  rcases Nat.lt_or_ge L 4 with h | h
  · rcases (show L = 0 ∨ L = 1 ∨ L = 2 ∨ L = 3 by omega) with rfl | rfl | rfl | rfl <;> decide
  · have e : nI L - nI 4 = nI (L - 4) := by
      obtain ⟨k, rfl⟩ : ∃ k, L = k + 4 := ⟨L - 4, by omega⟩
      rw [show k + 4 - 4 = k by omega, ← nI_add]
      exact Int32.add_sub_cancel _ _
    rw [e, nI_toInt (by omega)]
    omega
set_option maxHeartbeats 4000000 in
set_option maxRecDepth 100000 in
theorem law_loop {p : Program} {e : Env} {s : State} {m : MethodId} {below : List Frame} {meth : Method} {c : Code} {b L : Nat} {xs : Nat → Int32} {D : va_G} {ou : Nat × (Nat → Nat)} {oo : Nat} {lc : ClassId} {o : Nat} (l : Launch) (hL : L ≤ 2048) (C0 : lw_At p s m meth c b L xs) (hN : jNc s) (hl0 : l.stackTraces = false) :
    ∀ (n i : Nat), i ≤ L → L + 1 ≤ i + n → ∀ (E : cE) (x y : T2) (q : Nat → List Nat) (mm : Nat) (f : Nat → Int64) (cells slots : Nat) (ls : Array Slot) (H : Heap) (locs : List Loc), cells + n ≤ 601024 → slots + 10 * n ≤ 7293034 → lwKX D lc s E → eO E = o → rI E x y q mm → va_P D vwCl (lwG ou E y oo lc f x) H → va_D (fun q : Nat => s.heap.size ≤ q) (lwG ou E y oo lc f x) → va_S (fun q : Nat => s.heap.size ≤ q) s.heap H locs → lv_has ls 7 [(0, .ref b), (1, .ref o), (2, .ref ou.1), (3, .ref oo), (4, .int (nI i))] →
      W p l e room_1 s m #[Value.ref b] below meth c H locs cells slots (lw_Z below #[Value.ref b] s) (F0 m 23 ls []) := by
  intro n
  induction n with
  | zero =>
    intro i h1 h2
    exact absurd h2 (by omega)
  | succ n ih =>
    intro i hi hin E x y q mm f cells slots ls H locs hcl hsl hKX hO hR hP hD hS hl
    have C1 := C0
    obtain ⟨hx, hb, hr, hml, hown, hts, hX, hbl, hlocks, hgv⟩ := C1
    have hbA : ¬ (fun q : Nat => s.heap.size ≤ q) b := Nat.not_le.mpr hbl
    refine lv_iload hx hb dL_law_23 (lv_at hl 4 rfl) ?_
    refine lv_aload_n hx hb dL_law_25 rfl (lv_at hl 0 rfl) ?_
    refine va_slen hx hb hX hbl hbA hS dL_law_26 ?_
    refine lv_iconst (v := nI 4) hx hb dL_law_27 (by decide) ?_
    refine lv_isub hx hb dL_law_28 ?_
    have hsub := nI_sub4 hL
    refine lv_icmp_gt (tgt := 1254) hx hb dL_law_29 (by decide) (fun c1 => ?_) (fun c1 => ?_)
    · refine lv_iconst (v := 1) hx hb dL_law_1254 (by decide) ?_
      refine va_forget (fun q hq => hS.2.2 q hq) ?_
      refine W.widen (k := 601024) (n := 7293034) (by omega) (by omega) ?_
      exact lw_ret hx hb hr hlocks dL_law_1255
    · have hi4 : i + 4 ≤ L := by
        rcases Nat.lt_or_ge L (i + 4) with h | h
        · refine absurd (Int32.lt_iff_toInt_lt.mpr ?_) c1
          rw [show Int32.ofNat L = nI L from rfl, hsub, nI_toInt (by omega)]
          omega
        · exact h
      refine lv_aload_n hx hb dL_law_32 rfl (lv_at hl 0 rfl) ?_
      refine lv_iload hx hb dL_law_33 (lv_at hl 4 rfl) ?_
      refine w_sld hx hb hX hbl hbA hS (by omega) hL dL_law_35 ?_
      refine lv_bipush (v := nI 31) hx hb dL_law_36 (by decide) ?_
      refine lv_iand hx hb dL_law_38 ?_
      subst hO
      have hn : lwN p l e s m b below meth c D ou oo lc (eO E) (nI i) cells slots := by
        intro E1 x1 y1 q1 m1 f1 ls H locs hKX1 hO1 hR1 hP hD hS hl
        refine lv_iinc (k := 4) (v := nI (i + 4)) (lv' := [(4, .int (nI (i + 4))), (0, .ref b), (1, .ref (eO E)), (2, .ref ou.1), (3, .ref oo)]) hx hb dL_law_1248 hl rfl (nI_add i 4) (by decide) rfl (fun ls hl => ?_)
        refine lv_goto (tgt := 23) hx hb dL_law_1251 (by decide) ?_
        exact ih (i + 4) hi4 (by omega) E1 x1 y1 q1 m1 f1 (cells + 1) (slots + 10) _ _ _ (by omega) (by omega) hKX1 hO1 hR1 hP hD hS (lv_sub hl [1, 2, 3, 4, 0] rfl)
      have g1 : cells + 1 ≤ 601024 := by omega
      have g2 : slots + 10 ≤ 7293034 := by omega
      rcases arg_nI (z := xs i &&& nI 31) (n := 19) (by decide) with ⟨k, hk, hz⟩ | ⟨hz, -⟩
      · refine q_top (x' := nI k) hz ?_
        rcases (show k = 0 ∨ k = 1 ∨ k = 2 ∨ k = 3 ∨ k = 4 ∨ k = 5 ∨ k = 6 ∨ k = 7 ∨ k = 8 ∨ k = 9 ∨ k = 10 ∨ k = 11 ∨ k = 12 ∨ k = 13 ∨ k = 14 ∨ k = 15 ∨ k = 16 ∨ k = 17 ∨ k = 18 by omega) with rfl | rfl | rfl | rfl | rfl | rfl | rfl | rfl | rfl | rfl | rfl | rfl | rfl | rfl | rfl | rfl | rfl | rfl | rfl
        · refine lv_tableIn (off := 89) (tgt := 128) hx hb dL_law_39 (by decide) (by decide) (by decide) (by decide) ?_
          exact cs_setPavilion l hL C0 hN hKX hi4 g1 g2 hl0 hR hn hP hD hS hl
        · refine lv_tableIn (off := 149) (tgt := 188) hx hb dL_law_39 (by decide) (by decide) (by decide) (by decide) ?_
          exact cs_open l hL C0 hN hKX hi4 g1 g2 hl0 hR hn hP hD hS hl
        · refine lv_tableIn (off := 233) (tgt := 272) hx hb dL_law_39 (by decide) (by decide) (by decide) (by decide) ?_
          exact cs_plan l hL C0 hN hKX hi4 g1 g2 hl0 hR hn hP hD hS hl
        · refine lv_tableIn (off := 301) (tgt := 340) hx hb dL_law_39 (by decide) (by decide) (by decide) (by decide) ?_
          exact cs_drop l hL C0 hN hKX hi4 g1 g2 hl0 hR hn hP hD hS hl
        · refine lv_tableIn (off := 369) (tgt := 408) hx hb dL_law_39 (by decide) (by decide) (by decide) (by decide) ?_
          exact cs_ask l hL C0 hN hKX hi4 g1 g2 hl0 hR hn hP hD hS hl
        · refine lv_tableIn (off := 437) (tgt := 476) hx hb dL_law_39 (by decide) (by decide) (by decide) (by decide) ?_
          exact cs_advance l hL C0 hN hKX hi4 g1 g2 hl0 hR hn hP hD hS hl
        · refine lv_tableIn (off := 493) (tgt := 532) hx hb dL_law_39 (by decide) (by decide) (by decide) (by decide) ?_
          exact cs_send l hL C0 hN hKX hi4 g1 g2 hl0 hR hn hP hD hS hl
        · refine lv_tableIn (off := 568) (tgt := 607) hx hb dL_law_39 (by decide) (by decide) (by decide) (by decide) ?_
          exact cs_reprint l hL C0 hN hKX hi4 g1 g2 hl0 hR hn hP hD hS hl
        · refine lv_tableIn (off := 624) (tgt := 663) hx hb dL_law_39 (by decide) (by decide) (by decide) (by decide) ?_
          exact cs_minute l hL C0 hN hKX hi4 g1 g2 hl0 hR hn hP hD hS hl
        · refine lv_tableIn (off := 637) (tgt := 676) hx hb dL_law_39 (by decide) (by decide) (by decide) (by decide) ?_
          exact cs_stateOf l hL C0 hN hKX hi4 g1 g2 hl0 hR hn hP hD hS hl
        · refine lv_tableIn (off := 693) (tgt := 732) hx hb dL_law_39 (by decide) (by decide) (by decide) (by decide) ?_
          exact cs_whereIs l hL C0 hN hKX hi4 g1 g2 hl0 hR hn hP hD hS hl
        · refine lv_tableIn (off := 749) (tgt := 788) hx hb dL_law_39 (by decide) (by decide) (by decide) (by decide) ?_
          exact cs_placeOf l hL C0 hN hKX hi4 g1 g2 hl0 hR hn hP hD hS hl
        · refine lv_tableIn (off := 805) (tgt := 844) hx hb dL_law_39 (by decide) (by decide) (by decide) (by decide) ?_
          exact cs_turnOf l hL C0 hN hKX hi4 g1 g2 hl0 hR hn hP hD hS hl
        · refine lv_tableIn (off := 861) (tgt := 900) hx hb dL_law_39 (by decide) (by decide) (by decide) (by decide) ?_
          exact cs_stamps l hL C0 hN hKX hi4 g1 g2 hl0 hR hn hP hD hS hl
        · refine lv_tableIn (off := 917) (tgt := 956) hx hb dL_law_39 (by decide) (by decide) (by decide) (by decide) ?_
          exact cs_queue l hL C0 hN hKX hi4 g1 g2 hl0 hR hn hP hD hS hl
        · refine lv_tableIn (off := 973) (tgt := 1012) hx hb dL_law_39 (by decide) (by decide) (by decide) (by decide) ?_
          exact cs_inside l hL C0 hN hKX hi4 g1 g2 hl0 hR hn hP hD hS hl
        · refine lv_tableIn (off := 1029) (tgt := 1068) hx hb dL_law_39 (by decide) (by decide) (by decide) (by decide) ?_
          exact cs_stock l hL C0 hN hKX hi4 g1 g2 hl0 hR hn hP hD hS hl
        · refine lv_tableIn (off := 1085) (tgt := 1124) hx hb dL_law_39 (by decide) (by decide) (by decide) (by decide) ?_
          exact cs_demand l hL C0 hN hKX hi4 g1 g2 hl0 hR hn hP hD hS hl
        · refine lv_tableIn (off := 1141) (tgt := 1180) hx hb dL_law_39 (by decide) (by decide) (by decide) (by decide) ?_
          exact cs_sent l hL C0 hN hKX hi4 g1 g2 hl0 hR hn hP hD hS hl
      · refine lv_tableOut (tgt := 1248) hx hb dL_law_39 ?_ (by decide) ?_
        · rcases hz with h | h
          · exact Or.inl (by have h1 := Int32.lt_iff_toInt_lt.mp h; rw [nI_toInt (by decide)] at h1; exact h1)
          · refine Or.inr ?_
            have h1 : ¬ (xs i &&& nI 31).toInt < (nI 19).toInt := fun d => h (Int32.lt_iff_toInt_lt.mpr d)
            rw [nI_toInt (by decide)] at h1
            omega
        · refine W.widen (k := cells + 1) (n := slots + 10) (by omega) (by omega) ?_
          exact hn E x y q mm f _ _ _ hKX rfl hR hP hD hS hl

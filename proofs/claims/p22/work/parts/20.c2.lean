set_option maxHeartbeats 4000000 in
set_option maxRecDepth 100000 in
theorem c_X2_countByTurn (l : Launch) (D : va_G) (E : cE) (tl : gTy) (x : Nat → Nat → Int32) (j : Nat) (hj : j < 6)  : hI l yX2_countByTurn wsX2_countByTurn ({ frames := 1, cells := 0, slots := 0, locals := 23 } : Room) D E tl (cW E x) [.ref (eO E), .ref (ePad E j)] (fun (r : Int32) (u : Nat → Nat → Int32) => r = nI (cBt x j 8) ∧ u = x) (cW E) 0 0 := by
  refine hM.start (cc := cX2_countByTurn) (maxL := 7) (ret := (some .int)) (own := RX2) rfl (by decide) rfl (Nat.le_of_ble_eq_true rfl) ?_
  intro pr e s m args below meth c A ls H locs hx hb hml hr hts hown hlocks hname hA hK hX hP hD hS hl
  replace hl : lv_has ls 7 [(0, .ref (eO E)), (1, .ref (ePad E j))] := hl
  have hinO : ∀ w ∈ wsX20, w ∈ wsX2_countByTurn := by decide +kernel
  have hinV : ∀ w ∈ wsX10, w ∈ wsX2_countByTurn := by decide +kernel
  have k17 := hts (.fieldLink RX2 17 "FairFolio" "visitors" "[LFairFolio$Visitor;") (by decide +kernel)
  have k91 := va_Nw.use (A := args) rfl (hX.1 (.fieldLinkNest RX2 91 "FairFolio$Visitor" "waitsByTurn" "Z" "FairFolio") (by decide +kernel))
  refine lv_iconst (v := nI 0) hx hb dX2_countByTurn_0 (by decide) ?_
  refine lv_istore_n (lv' := [(2, .int (nI 0)), (0, .ref (eO E)), (1, .ref (ePad E j))]) hx hb dX2_countByTurn_1 rfl hl (by decide) rfl (fun ls hl => ?_)
  refine lv_aload_n hx hb dX2_countByTurn_2 rfl (lv_at hl 1 rfl) ?_
  refine c_getO hx hb hts hinO hown hK hP 1 (by decide) k17 rfl rfl dX2_countByTurn_3 ?_
  refine lv_astore_n (lv' := [(3, .ref (eVa E)), (2, .int (nI 0)), (0, .ref (eO E)), (1, .ref (ePad E j))]) hx hb dX2_countByTurn_6 rfl hl (by decide) rfl (fun ls hl => ?_)
  refine lv_aload_n hx hb dX2_countByTurn_7 rfl (lv_at hl 0 rfl) ?_
  refine c_vlen hx hb hK hP dX2_countByTurn_8 ?_
  refine lv_istore (lv' := [(4, .int (nI 8)), (3, .ref (eVa E)), (2, .int (nI 0)), (0, .ref (eO E)), (1, .ref (ePad E j))]) hx hb dX2_countByTurn_9 hl (by decide) rfl (fun ls hl => ?_)
  refine lv_iconst (v := nI 0) hx hb dX2_countByTurn_11 (by decide) ?_
  refine lv_istore (lv' := [(5, .int (nI 0)), (4, .int (nI 8)), (3, .ref (eVa E)), (2, .int (nI 0)), (0, .ref (eO E)), (1, .ref (ePad E j))]) hx hb dX2_countByTurn_12 hl (by decide) rfl (fun ls hl => ?_)
  obtain ⟨k, hk⟩ : ∃ k : Nat, k = 0 := ⟨_, rfl⟩
  obtain ⟨nn, hn⟩ : ∃ nn : Nat, nn = 8 := ⟨_, rfl⟩
  replace hl : lv_has ls 7 [(5, .int (nI k)), (4, .int (nI 8)), (3, .ref (eVa E)), (2, .int (nI (cBt x j k))), (0, .ref (eO E)), (1, .ref (ePad E j))] := by rw [hk]; exact hl
  replace hn : k + nn = 8 := by omega
  clear hk
  induction nn generalizing k H locs ls with
  | zero =>
    obtain rfl : k = 8 := by omega
    refine lv_iload hx hb dX2_countByTurn_14 (lv_at hl 0 rfl) ?_
    refine lv_iload hx hb dX2_countByTurn_16 (lv_at hl 1 rfl) ?_
    refine q_icmp_ge (tgt := 55) hx hb (by omega) (by omega) dX2_countByTurn_18 (by decide) (fun c1 => ?_) (fun c1 => absurd c1 (by omega))
    refine lv_iload_n hx hb dX2_countByTurn_55 rfl (lv_at hl 3 rfl) ?_
    exact W.iret hx hb hr (fun t ht hW => ⟨⟨_, x, rfl, ⟨rfl, rfl⟩, by rw [ht]; exact hP, va_K.moved hW.alike hK, hD⟩, hS.F ht⟩) hS.2.2 dX2_countByTurn_56
  | succ nn ih =>
    refine lv_iload hx hb dX2_countByTurn_14 (lv_at hl 0 rfl) ?_
    refine lv_iload hx hb dX2_countByTurn_16 (lv_at hl 1 rfl) ?_
    refine q_icmp_ge (tgt := 55) hx hb (by omega) (by omega) dX2_countByTurn_18 (by decide) (fun c1 => absurd c1 (by omega)) (fun c1 => ?_)
    refine lv_aload_n hx hb dX2_countByTurn_21 rfl (lv_at hl 2 rfl) ?_
    refine lv_iload hx hb dX2_countByTurn_22 (lv_at hl 0 rfl) ?_
    refine c_vald hx hb hK hP (by omega) dX2_countByTurn_24 ?_
    refine lv_astore (lv' := [(6, .ref (eVad E k)), (5, .int (nI k)), (4, .int (nI 8)), (3, .ref (eVa E)), (2, .int (nI (cBt x j k))), (0, .ref (eO E)), (1, .ref (ePad E j))]) hx hb dX2_countByTurn_25 hl (by decide) rfl (fun ls hl => ?_)
    refine lv_aload_n hx hb dX2_countByTurn_27 rfl (lv_at hl 5 rfl) ?_
    refine lv_aload hx hb dX2_countByTurn_28 (lv_at hl 0 rfl) ?_
    refine lv_iconst (v := nI 1) hx hb dX2_countByTurn_30 (by decide) ?_
    refine lv_aload_n hx hb dX2_countByTurn_31 rfl (lv_at hl 6 rfl) ?_
    refine h_calli (As := [.ref (eVad E k), .int (nI 1), .ref (ePad E j)]) (rest := []) ⟨hx, hb, hml, hown, hts⟩ (c_X2_isAt l D E tl x k j (nI 1) (by omega) hj) (cwV 3 hts gX2_countByTurn_X2_isAt rfl rfl rfl (by decide +kernel) ⟨Nat.le_of_ble_eq_true rfl, Nat.le_of_ble_eq_true rfl⟩) (c_recv hK hP) hK hX hP hD hS hA rfl hl.1 rfl (Nat.le_of_ble_eq_true rfl) dX2_countByTurn_32 ⟨Nat.le_of_ble_eq_true rfl, Nat.le_of_ble_eq_true rfl⟩ (fun r_3 u_2 H locs hw hP hD hS => ?_)
    obtain ⟨hr_3, hu_2⟩ := hw
    rw [hu_2] at hP hD
    refine q_top (x' := (nI (cAt x k (nI 1) j))) hr_3 ?_
    refine q_if_eq (tgt := 49) hx hb (by have := cAt_01 x k (nI 1) j; omega) dX2_countByTurn_35 (by decide) (fun c2 => ?_) (fun c2 => ?_)
    · replace hl : lv_has ls 7 [(6, .ref (eVad E k)), (5, .int (nI k)), (4, .int (nI 8)), (3, .ref (eVa E)), (2, .int (nI (cBt x j (k + 1)))), (0, .ref (eO E)), (1, .ref (ePad E j))] := by rw [show cBt x j (k + 1) = cBt x j k by rw [cBt, if_neg (fun q => cAt_n c2 ⟨q.1, q.2.1⟩)]; rfl]; exact hl
      refine q_inc (k := 1) (lv' := [(5, .int (nI (k + 1))), (6, .ref (eVad E k)), (4, .int (nI 8)), (3, .ref (eVa E)), (2, .int (nI (cBt x j (k + 1)))), (0, .ref (eO E)), (1, .ref (ePad E j))]) hx hb dX2_countByTurn_49 hl rfl (by decide) rfl (fun ls hl => ?_)
      refine lv_goto (tgt := 14) hx hb dX2_countByTurn_52 (by decide) ?_
      replace hl : lv_has ls 7 [(5, .int (nI (k + 1))), (4, .int (nI 8)), (3, .ref (eVa E)), (2, .int (nI (cBt x j (k + 1)))), (0, .ref (eO E)), (1, .ref (ePad E j))] := lv_sub hl [0, 2, 3, 4, 5, 6] rfl
      exact ih (k := k + 1) (H := H) (locs := locs) (ls := ls) (hP := hP) (hS := hS) (hl := hl) (hn := by omega)
    · refine lv_aload hx hb dX2_countByTurn_38 (lv_at hl 0 rfl) ?_
      refine c_getV hx hb hts hinV hown hK hP (by omega) 9 (by decide) k91 rfl rfl dX2_countByTurn_40 ?_
      refine lv_if_eq (tgt := 49) hx hb dX2_countByTurn_43 (by decide) (fun c3 => ?_) (fun c3 => ?_)
      · replace c3 : (x 13 k) = nI 0 := c3
        replace hl : lv_has ls 7 [(6, .ref (eVad E k)), (5, .int (nI k)), (4, .int (nI 8)), (3, .ref (eVa E)), (2, .int (nI (cBt x j (k + 1)))), (0, .ref (eO E)), (1, .ref (ePad E j))] := by rw [show cBt x j (k + 1) = cBt x j k by rw [cBt, if_neg (fun q => q.2.2 c3)]; rfl]; exact hl
        refine q_inc (k := 1) (lv' := [(5, .int (nI (k + 1))), (6, .ref (eVad E k)), (4, .int (nI 8)), (3, .ref (eVa E)), (2, .int (nI (cBt x j (k + 1)))), (0, .ref (eO E)), (1, .ref (ePad E j))]) hx hb dX2_countByTurn_49 hl rfl (by decide) rfl (fun ls hl => ?_)
        refine lv_goto (tgt := 14) hx hb dX2_countByTurn_52 (by decide) ?_
        replace hl : lv_has ls 7 [(5, .int (nI (k + 1))), (4, .int (nI 8)), (3, .ref (eVa E)), (2, .int (nI (cBt x j (k + 1)))), (0, .ref (eO E)), (1, .ref (ePad E j))] := lv_sub hl [0, 2, 3, 4, 5, 6] rfl
        exact ih (k := k + 1) (H := H) (locs := locs) (ls := ls) (hP := hP) (hS := hS) (hl := hl) (hn := by omega)
      · replace c3 : ¬ (x 13 k) = nI 0 := c3
        refine q_inc (k := 4) (lv' := [(2, .int (nI (cBt x j k + 1))), (6, .ref (eVad E k)), (5, .int (nI k)), (4, .int (nI 8)), (3, .ref (eVa E)), (0, .ref (eO E)), (1, .ref (ePad E j))]) hx hb dX2_countByTurn_46 hl rfl (by decide) rfl (fun ls hl => ?_)
        replace hl : lv_has ls 7 [(2, .int (nI (cBt x j (k + 1)))), (6, .ref (eVad E k)), (5, .int (nI k)), (4, .int (nI 8)), (3, .ref (eVa E)), (0, .ref (eO E)), (1, .ref (ePad E j))] := by rw [show cBt x j (k + 1) = cBt x j k + 1 by rw [cBt, if_pos ⟨(cAt_y c2).1, (cAt_y c2).2, c3⟩]]; exact hl
        refine q_inc (k := 2) (lv' := [(5, .int (nI (k + 1))), (2, .int (nI (cBt x j (k + 1)))), (6, .ref (eVad E k)), (4, .int (nI 8)), (3, .ref (eVa E)), (0, .ref (eO E)), (1, .ref (ePad E j))]) hx hb dX2_countByTurn_49 hl rfl (by decide) rfl (fun ls hl => ?_)
        refine lv_goto (tgt := 14) hx hb dX2_countByTurn_52 (by decide) ?_
        replace hl : lv_has ls 7 [(5, .int (nI (k + 1))), (4, .int (nI 8)), (3, .ref (eVa E)), (2, .int (nI (cBt x j (k + 1)))), (0, .ref (eO E)), (1, .ref (ePad E j))] := lv_sub hl [0, 3, 4, 1, 5, 6] rfl
        exact ih (k := k + 1) (H := H) (locs := locs) (ls := ls) (hP := hP) (hS := hS) (hl := hl) (hn := by omega)

set_option maxHeartbeats 4000000 in
set_option maxRecDepth 100000 in
theorem c_X2_firstInQueue (l : Launch) (D : va_G) (E : cE) (tl : gTy) (x : Nat → Nat → Int32) (j : Nat) (hj : j < 6)  : hQ l yX2_firstInQueue wsX2_firstInQueue ({ frames := 1, cells := 0, slots := 0, locals := 23 } : Room) D E tl (cW E x) [.ref (eO E), .ref (ePad E j)] (fun (r : Option Nat) (u : Nat → Nat → Int32) => ((r = none ∧ ∀ k, k < 8 → ¬ cFst x j k) ∨ (∃ k, k < 8 ∧ r = some (eVad E k) ∧ cFst x j k)) ∧ u = x) (cW E) 0 0 := by
  refine hM.start (cc := cX2_firstInQueue) (maxL := 6) (ret := (some (.object "FairFolio$Visitor"))) (own := RX2) rfl (by decide) rfl (Nat.le_of_ble_eq_true rfl) ?_
  intro pr e s m args below meth c A ls H locs hx hb hml hr hts hown hlocks hname hA hK hX hP hD hS hl
  replace hl : lv_has ls 6 [(0, .ref (eO E)), (1, .ref (ePad E j))] := hl
  have hinO : ∀ w ∈ wsX20, w ∈ wsX2_firstInQueue := by decide +kernel
  have hinV : ∀ w ∈ wsX10, w ∈ wsX2_firstInQueue := by decide +kernel
  have k17 := hts (.fieldLink RX2 17 "FairFolio" "visitors" "[LFairFolio$Visitor;") (by decide +kernel)
  have k144 := va_Nw.use (A := args) rfl (hX.1 (.fieldLinkNest RX2 144 "FairFolio$Visitor" "place" "I" "FairFolio") (by decide +kernel))
  refine lv_aload_n hx hb dX2_firstInQueue_0 rfl (lv_at hl 0 rfl) ?_
  refine c_getO hx hb hts hinO hown hK hP 1 (by decide) k17 rfl rfl dX2_firstInQueue_1 ?_
  refine lv_astore_n (lv' := [(2, .ref (eVa E)), (0, .ref (eO E)), (1, .ref (ePad E j))]) hx hb dX2_firstInQueue_4 rfl hl (by decide) rfl (fun ls hl => ?_)
  refine lv_aload_n hx hb dX2_firstInQueue_5 rfl (lv_at hl 0 rfl) ?_
  refine c_vlen hx hb hK hP dX2_firstInQueue_6 ?_
  refine lv_istore_n (lv' := [(3, .int (nI 8)), (2, .ref (eVa E)), (0, .ref (eO E)), (1, .ref (ePad E j))]) hx hb dX2_firstInQueue_7 rfl hl (by decide) rfl (fun ls hl => ?_)
  refine lv_iconst (v := nI 0) hx hb dX2_firstInQueue_8 (by decide) ?_
  refine lv_istore (lv' := [(4, .int (nI 0)), (3, .int (nI 8)), (2, .ref (eVa E)), (0, .ref (eO E)), (1, .ref (ePad E j))]) hx hb dX2_firstInQueue_9 hl (by decide) rfl (fun ls hl => ?_)
  obtain ⟨k, hk⟩ : ∃ k : Nat, k = 0 := ⟨_, rfl⟩
  obtain ⟨nn, hn⟩ : ∃ nn : Nat, nn = 8 := ⟨_, rfl⟩
  replace hl : lv_has ls 6 [(4, .int (nI k)), (3, .int (nI 8)), (2, .ref (eVa E)), (0, .ref (eO E)), (1, .ref (ePad E j))] := by rw [hk]; exact hl
  have hno : ∀ q, q < k → ¬ cFst x j q := fun q hq => absurd hq (by omega)
  replace hn : k + nn = 8 := by omega
  clear hk
  induction nn generalizing k H locs ls with
  | zero =>
    obtain rfl : k = 8 := by omega
    refine lv_iload hx hb dX2_firstInQueue_11 (lv_at hl 0 rfl) ?_
    refine lv_iload_n hx hb dX2_firstInQueue_13 rfl (lv_at hl 1 rfl) ?_
    refine q_icmp_ge (tgt := 51) hx hb (by omega) (by omega) dX2_firstInQueue_14 (by decide) (fun c1 => ?_) (fun c1 => absurd c1 (by omega))
    refine lv_null hx hb dX2_firstInQueue_51 ?_
    exact W.aret (v := va_rf none) hx hb hr (Or.inl ⟨_, rfl⟩) (va_rf_or _) (fun t ht hW => ⟨⟨none, x, rfl, ⟨Or.inl ⟨rfl, hno⟩, rfl⟩, by rw [ht]; exact hP, va_K.moved hW.alike hK, hD⟩, hS.F ht⟩) hS.2.2 dX2_firstInQueue_52
  | succ nn ih =>
    refine lv_iload hx hb dX2_firstInQueue_11 (lv_at hl 0 rfl) ?_
    refine lv_iload_n hx hb dX2_firstInQueue_13 rfl (lv_at hl 1 rfl) ?_
    refine q_icmp_ge (tgt := 51) hx hb (by omega) (by omega) dX2_firstInQueue_14 (by decide) (fun c1 => absurd c1 (by omega)) (fun c1 => ?_)
    refine lv_aload_n hx hb dX2_firstInQueue_17 rfl (lv_at hl 2 rfl) ?_
    refine lv_iload hx hb dX2_firstInQueue_18 (lv_at hl 0 rfl) ?_
    refine c_vald hx hb hK hP (by omega) dX2_firstInQueue_20 ?_
    refine lv_astore (lv' := [(5, .ref (eVad E k)), (4, .int (nI k)), (3, .int (nI 8)), (2, .ref (eVa E)), (0, .ref (eO E)), (1, .ref (ePad E j))]) hx hb dX2_firstInQueue_21 hl (by decide) rfl (fun ls hl => ?_)
    refine lv_aload_n hx hb dX2_firstInQueue_23 rfl (lv_at hl 4 rfl) ?_
    refine lv_aload hx hb dX2_firstInQueue_24 (lv_at hl 0 rfl) ?_
    refine lv_iconst (v := nI 1) hx hb dX2_firstInQueue_26 (by decide) ?_
    refine lv_aload_n hx hb dX2_firstInQueue_27 rfl (lv_at hl 5 rfl) ?_
    refine h_calli (As := [.ref (eVad E k), .int (nI 1), .ref (ePad E j)]) (rest := []) ⟨hx, hb, hml, hown, hts⟩ (c_X2_isAt l D E tl x k j (nI 1) (by omega) hj) (cwV 3 hts gX2_firstInQueue_X2_isAt rfl rfl rfl (by decide +kernel) ⟨Nat.le_of_ble_eq_true rfl, Nat.le_of_ble_eq_true rfl⟩) (c_recv hK hP) hK hX hP hD hS hA rfl hl.1 rfl (Nat.le_of_ble_eq_true rfl) dX2_firstInQueue_28 ⟨Nat.le_of_ble_eq_true rfl, Nat.le_of_ble_eq_true rfl⟩ (fun r_3 u_2 H locs hw hP hD hS => ?_)
    obtain ⟨hr_3, hu_2⟩ := hw
    rw [hu_2] at hP hD
    refine q_top (x' := (nI (cAt x k (nI 1) j))) hr_3 ?_
    refine q_if_eq (tgt := 45) hx hb (by have := cAt_01 x k (nI 1) j; omega) dX2_firstInQueue_31 (by decide) (fun c2 => ?_) (fun c2 => ?_)
    · have hno2 : ∀ q, q < k + 1 → ¬ cFst x j q := fun q hq => (Nat.lt_succ_iff_lt_or_eq.mp hq).elim (hno q) (fun e h9 => by subst e; exact cAt_n c2 ⟨h9.1, h9.2.1⟩)
      refine q_inc (k := 1) (lv' := [(4, .int (nI (k + 1))), (5, .ref (eVad E k)), (3, .int (nI 8)), (2, .ref (eVa E)), (0, .ref (eO E)), (1, .ref (ePad E j))]) hx hb dX2_firstInQueue_45 hl rfl (by decide) rfl (fun ls hl => ?_)
      refine lv_goto (tgt := 11) hx hb dX2_firstInQueue_48 (by decide) ?_
      replace hl : lv_has ls 6 [(4, .int (nI (k + 1))), (3, .int (nI 8)), (2, .ref (eVa E)), (0, .ref (eO E)), (1, .ref (ePad E j))] := lv_sub hl [0, 2, 3, 4, 5] rfl
      exact ih (k := k + 1) (H := H) (locs := locs) (ls := ls) (hP := hP) (hS := hS) (hl := hl) (hn := by omega) (hno := hno2)
    · refine lv_aload hx hb dX2_firstInQueue_34 (lv_at hl 0 rfl) ?_
      refine c_getV hx hb hts hinV hown hK hP (by omega) 4 (by decide) k144 rfl rfl dX2_firstInQueue_36 ?_
      refine lv_if_ne (tgt := 45) hx hb dX2_firstInQueue_39 (by decide) (fun c3 => ?_) (fun c3 => ?_)
      · replace c3 : ¬ (x 8 k) = nI 0 := c3
        have hno2 : ∀ q, q < k + 1 → ¬ cFst x j q := fun q hq => (Nat.lt_succ_iff_lt_or_eq.mp hq).elim (hno q) (fun e h9 => by subst e; exact c3 h9.2.2)
        refine q_inc (k := 1) (lv' := [(4, .int (nI (k + 1))), (5, .ref (eVad E k)), (3, .int (nI 8)), (2, .ref (eVa E)), (0, .ref (eO E)), (1, .ref (ePad E j))]) hx hb dX2_firstInQueue_45 hl rfl (by decide) rfl (fun ls hl => ?_)
        refine lv_goto (tgt := 11) hx hb dX2_firstInQueue_48 (by decide) ?_
        replace hl : lv_has ls 6 [(4, .int (nI (k + 1))), (3, .int (nI 8)), (2, .ref (eVa E)), (0, .ref (eO E)), (1, .ref (ePad E j))] := lv_sub hl [0, 2, 3, 4, 5] rfl
        exact ih (k := k + 1) (H := H) (locs := locs) (ls := ls) (hP := hP) (hS := hS) (hl := hl) (hn := by omega) (hno := hno2)
      · replace c3 : (x 8 k) = nI 0 := c3
        refine lv_aload hx hb dX2_firstInQueue_42 (lv_at hl 0 rfl) ?_
        exact W.aret (v := va_rf (some (eVad E k))) hx hb hr (Or.inl ⟨_, rfl⟩) (va_rf_or _) (fun t ht hW => ⟨⟨(some (eVad E k)), x, rfl, ⟨Or.inr ⟨k, by omega, rfl, (cAt_y c2).1, (cAt_y c2).2, c3⟩, rfl⟩, by rw [ht]; exact hP, va_K.moved hW.alike hK, hD⟩, hS.F ht⟩) hS.2.2 dX2_firstInQueue_44

set_option maxHeartbeats 4000000 in
set_option maxRecDepth 100000 in
theorem c_X2_joinQueue (l : Launch) (D : va_G) (E : cE) (tl : gTy) (x : Nat → Nat → Int32) (i j : Nat) (pl : Int32) (hi : i < 8) (hj : j < 6)  : hV l yX2_joinQueue wsX2_joinQueue ({ frames := 1, cells := 0, slots := 0, locals := 23 } : Room) D E tl (cW E x) [.ref (eO E), .ref (eVad E i), .ref (ePad E j), .int pl] (fun u : Nat → Nat → Int32 => u = cJoin x i j pl) (cW E) 0 0 := by
  refine hM.start (cc := cX2_joinQueue) (maxL := 8) (ret := none) (own := RX2) rfl (by decide) rfl (Nat.le_of_ble_eq_true rfl) ?_
  intro pr e s m args below meth c A ls H locs hx hb hml hr hts hown hlocks hname hA hK hX hP hD hS hl
  replace hl : lv_has ls 8 [(0, .ref (eO E)), (1, .ref (eVad E i)), (2, .ref (ePad E j)), (3, .int pl)] := hl
  have hinO : ∀ w ∈ wsX20, w ∈ wsX2_joinQueue := by decide +kernel
  have hinP : ∀ w ∈ wsX00, w ∈ wsX2_joinQueue := by decide +kernel
  have hinV : ∀ w ∈ wsX10, w ∈ wsX2_joinQueue := by decide +kernel
  have k17 := hts (.fieldLink RX2 17 "FairFolio" "visitors" "[LFairFolio$Visitor;") (by decide +kernel)
  have k138 := va_Nw.use (A := args) rfl (hX.1 (.fieldLinkNest RX2 138 "FairFolio$Visitor" "state" "I" "FairFolio") (by decide +kernel))
  have k133 := va_Nw.use (A := args) rfl (hX.1 (.fieldLinkNest RX2 133 "FairFolio$Pavilion" "number" "I" "FairFolio") (by decide +kernel))
  have k141 := va_Nw.use (A := args) rfl (hX.1 (.fieldLinkNest RX2 141 "FairFolio$Visitor" "where" "I" "FairFolio") (by decide +kernel))
  have k144 := va_Nw.use (A := args) rfl (hX.1 (.fieldLinkNest RX2 144 "FairFolio$Visitor" "place" "I" "FairFolio") (by decide +kernel))
  refine lv_aload_n hx hb dX2_joinQueue_0 rfl (lv_at hl 0 rfl) ?_
  refine c_getO hx hb hts hinO hown hK hP 1 (by decide) k17 rfl rfl dX2_joinQueue_1 ?_
  refine lv_astore (lv' := [(4, .ref (eVa E)), (0, .ref (eO E)), (1, .ref (eVad E i)), (2, .ref (ePad E j)), (3, .int pl)]) hx hb dX2_joinQueue_4 hl (by decide) rfl (fun ls hl => ?_)
  refine lv_aload hx hb dX2_joinQueue_6 (lv_at hl 0 rfl) ?_
  refine c_vlen hx hb hK hP dX2_joinQueue_8 ?_
  refine lv_istore (lv' := [(5, .int (nI 8)), (4, .ref (eVa E)), (0, .ref (eO E)), (1, .ref (eVad E i)), (2, .ref (ePad E j)), (3, .int pl)]) hx hb dX2_joinQueue_9 hl (by decide) rfl (fun ls hl => ?_)
  refine lv_iconst (v := nI 0) hx hb dX2_joinQueue_11 (by decide) ?_
  refine lv_istore (lv' := [(6, .int (nI 0)), (5, .int (nI 8)), (4, .ref (eVa E)), (0, .ref (eO E)), (1, .ref (eVad E i)), (2, .ref (ePad E j)), (3, .int pl)]) hx hb dX2_joinQueue_12 hl (by decide) rfl (fun ls hl => ?_)
  rw [cSh_0 x j pl] at hP hD
  obtain ⟨k, hk⟩ : ∃ k : Nat, k = 0 := ⟨_, rfl⟩
  obtain ⟨nn, hn⟩ : ∃ nn : Nat, nn = 8 := ⟨_, rfl⟩
  replace hl : lv_has ls 8 [(6, .int (nI k)), (5, .int (nI 8)), (4, .ref (eVa E)), (0, .ref (eO E)), (1, .ref (eVad E i)), (2, .ref (ePad E j)), (3, .int pl)] := by rw [hk]; exact hl
  replace hP : va_P D vwCl (cW E (cSh x j pl k)) H := by rw [hk]; exact hP
  replace hD : va_D A (cW E (cSh x j pl k)) := by rw [hk]; exact hD
  replace hn : k + nn = 8 := by omega
  clear hk
  induction nn generalizing k H locs ls with
  | zero =>
    obtain rfl : k = 8 := by omega
    refine lv_iload hx hb dX2_joinQueue_14 (lv_at hl 0 rfl) ?_
    refine lv_iload hx hb dX2_joinQueue_16 (lv_at hl 1 rfl) ?_
    refine q_icmp_ge (tgt := 65) hx hb (by omega) (by omega) dX2_joinQueue_18 (by decide) (fun c1 => ?_) (fun c1 => absurd c1 (by omega))
    refine lv_aload_n hx hb dX2_joinQueue_65 rfl (lv_at hl 4 rfl) ?_
    refine lv_iconst (v := nI 1) hx hb dX2_joinQueue_66 (by decide) ?_
    refine c_putV hx hb hts hinV hown hK hP hD hS (i := i) (by omega) 2 6 (by decide) (cW_setV6 E (cSh x j pl 8) _ (by omega)) k138 rfl rfl (ty := .int) (by decide +kernel) rfl rfl dX2_joinQueue_67 (fun H locs hP hD hS => ?_)
    refine lv_aload_n hx hb dX2_joinQueue_70 rfl (lv_at hl 4 rfl) ?_
    refine lv_aload_n hx hb dX2_joinQueue_71 rfl (lv_at hl 5 rfl) ?_
    refine c_getP hx hb hts hinP hown hK hP (by omega) 0 (by decide) k133 rfl rfl dX2_joinQueue_72 ?_
    refine c_putV hx hb hts hinV hown hK hP hD hS (i := i) (by omega) 3 7 (by decide) (cW_setV7 E (up2 (cSh x j pl 8) 6 i (nI 1)) _ (by omega)) k141 rfl rfl (ty := .int) (by decide +kernel) rfl rfl dX2_joinQueue_75 (fun H locs hP hD hS => ?_)
    refine lv_aload_n hx hb dX2_joinQueue_78 rfl (lv_at hl 4 rfl) ?_
    refine lv_iload_n hx hb dX2_joinQueue_79 rfl (lv_at hl 6 rfl) ?_
    refine c_putV hx hb hts hinV hown hK hP hD hS (i := i) (by omega) 4 8 (by decide) (cW_setV8 E (up2 (up2 (cSh x j pl 8) 6 i (nI 1)) 7 i (nI j)) _ (by omega)) k144 rfl rfl (ty := .int) (by decide +kernel) rfl rfl dX2_joinQueue_80 (fun H locs hP hD hS => ?_)
    exact W.vret hx hb hr (fun t ht hW => ⟨⟨up2 (up2 (up2 (cSh x j pl 8) 6 i (nI 1)) 7 i (nI j)) 8 i pl, rfl, rfl, by rw [ht]; exact hP, va_K.moved hW.alike hK, hD⟩, hS.F ht⟩) hS.2.2 dX2_joinQueue_83
  | succ nn ih =>
    refine lv_iload hx hb dX2_joinQueue_14 (lv_at hl 0 rfl) ?_
    refine lv_iload hx hb dX2_joinQueue_16 (lv_at hl 1 rfl) ?_
    refine q_icmp_ge (tgt := 65) hx hb (by omega) (by omega) dX2_joinQueue_18 (by decide) (fun c1 => absurd c1 (by omega)) (fun c1 => ?_)
    refine lv_aload hx hb dX2_joinQueue_21 (lv_at hl 2 rfl) ?_
    refine lv_iload hx hb dX2_joinQueue_23 (lv_at hl 0 rfl) ?_
    refine c_vald hx hb hK hP (by omega) dX2_joinQueue_25 ?_
    refine lv_astore (lv' := [(7, .ref (eVad E k)), (6, .int (nI k)), (5, .int (nI 8)), (4, .ref (eVa E)), (0, .ref (eO E)), (1, .ref (eVad E i)), (2, .ref (ePad E j)), (3, .int pl)]) hx hb dX2_joinQueue_26 hl (by decide) rfl (fun ls hl => ?_)
    refine lv_aload_n hx hb dX2_joinQueue_28 rfl (lv_at hl 4 rfl) ?_
    refine lv_aload hx hb dX2_joinQueue_29 (lv_at hl 0 rfl) ?_
    refine lv_iconst (v := nI 1) hx hb dX2_joinQueue_31 (by decide) ?_
    refine lv_aload_n hx hb dX2_joinQueue_32 rfl (lv_at hl 6 rfl) ?_
    refine h_calli (As := [.ref (eVad E k), .int (nI 1), .ref (ePad E j)]) (rest := []) ⟨hx, hb, hml, hown, hts⟩ (c_X2_isAt l D E tl (cSh x j pl k) k j (nI 1) (by omega) hj) (cwV 3 hts gX2_joinQueue_X2_isAt rfl rfl rfl (by decide +kernel) ⟨Nat.le_of_ble_eq_true rfl, Nat.le_of_ble_eq_true rfl⟩) (c_recv hK hP) hK hX hP hD hS hA rfl hl.1 rfl (Nat.le_of_ble_eq_true rfl) dX2_joinQueue_33 ⟨Nat.le_of_ble_eq_true rfl, Nat.le_of_ble_eq_true rfl⟩ (fun r_3 u_2 H locs hw hP hD hS => ?_)
    obtain ⟨hr_3, hu_2⟩ := hw
    rw [hu_2] at hP hD
    refine q_top (x' := (nI (cAt x k (nI 1) j))) hr_3 ?_
    refine q_if_eq (tgt := 59) hx hb (by have := cAt_01 x k (nI 1) j; omega) dX2_joinQueue_36 (by decide) (fun c2 => ?_) (fun c2 => ?_)
    · have ey : cSh x j pl k = cSh x j pl (k + 1) := (cSh_n x j pl k (fun q => cAt_n c2 ⟨q.1, q.2.1⟩))
      rw [ey] at hP hD
      clear ey
      refine q_inc (k := 1) (lv' := [(6, .int (nI (k + 1))), (7, .ref (eVad E k)), (5, .int (nI 8)), (4, .ref (eVa E)), (0, .ref (eO E)), (1, .ref (eVad E i)), (2, .ref (ePad E j)), (3, .int pl)]) hx hb dX2_joinQueue_59 hl rfl (by decide) rfl (fun ls hl => ?_)
      refine lv_goto (tgt := 14) hx hb dX2_joinQueue_62 (by decide) ?_
      replace hl : lv_has ls 8 [(6, .int (nI (k + 1))), (5, .int (nI 8)), (4, .ref (eVa E)), (0, .ref (eO E)), (1, .ref (eVad E i)), (2, .ref (ePad E j)), (3, .int pl)] := lv_sub hl [0, 2, 3, 4, 5, 6, 7] rfl
      exact ih (k := k + 1) (H := H) (locs := locs) (ls := ls) (hP := hP) (hD := hD) (hS := hS) (hl := hl) (hn := by omega)
    · refine lv_aload hx hb dX2_joinQueue_39 (lv_at hl 0 rfl) ?_
      refine c_getV hx hb hts hinV hown hK hP (by omega) 4 (by decide) k144 rfl rfl dX2_joinQueue_41 ?_
      refine q_top (x' := (x 8 k)) (cSh_8k x j pl k) ?_
      refine lv_iload_n hx hb dX2_joinQueue_44 rfl (lv_at hl 7 rfl) ?_
      refine lv_icmp_lt (tgt := 59) hx hb dX2_joinQueue_45 (by decide) (fun c3 => ?_) (fun c3 => ?_)
      · have ey : cSh x j pl k = cSh x j pl (k + 1) := (cSh_n x j pl k (fun q => q.2.2 c3))
        rw [ey] at hP hD
        clear ey
        refine q_inc (k := 1) (lv' := [(6, .int (nI (k + 1))), (7, .ref (eVad E k)), (5, .int (nI 8)), (4, .ref (eVa E)), (0, .ref (eO E)), (1, .ref (eVad E i)), (2, .ref (ePad E j)), (3, .int pl)]) hx hb dX2_joinQueue_59 hl rfl (by decide) rfl (fun ls hl => ?_)
        refine lv_goto (tgt := 14) hx hb dX2_joinQueue_62 (by decide) ?_
        replace hl : lv_has ls 8 [(6, .int (nI (k + 1))), (5, .int (nI 8)), (4, .ref (eVa E)), (0, .ref (eO E)), (1, .ref (eVad E i)), (2, .ref (ePad E j)), (3, .int pl)] := lv_sub hl [0, 2, 3, 4, 5, 6, 7] rfl
        exact ih (k := k + 1) (H := H) (locs := locs) (ls := ls) (hP := hP) (hD := hD) (hS := hS) (hl := hl) (hn := by omega)
      · refine lv_aload hx hb dX2_joinQueue_48 (lv_at hl 0 rfl) ?_
        refine lv_dup hx hb dX2_joinQueue_50 rfl ?_
        refine c_getV hx hb hts hinV hown hK hP (by omega) 4 (by decide) k144 rfl rfl dX2_joinQueue_51 ?_
        refine q_top (x' := (x 8 k)) (cSh_8k x j pl k) ?_
        refine lv_iconst (v := nI 1) hx hb dX2_joinQueue_54 (by decide) ?_
        refine lv_iadd hx hb dX2_joinQueue_55 ?_
        refine c_putV hx hb hts hinV hown hK hP hD hS (i := k) (by omega) 4 8 (by decide) (cW_setV8 E (cSh x j pl k) _ (by omega)) k144 rfl rfl (ty := .int) (by decide +kernel) rfl rfl dX2_joinQueue_56 (fun H locs hP hD hS => ?_)
        have ey : up2 (cSh x j pl k) 8 k ((x 8 k) + (nI 1)) = cSh x j pl (k + 1) := (cSh_s x j pl k ⟨(cAt_y c2).1, (cAt_y c2).2, c3⟩)
        rw [ey] at hP hD
        clear ey
        refine q_inc (k := 1) (lv' := [(6, .int (nI (k + 1))), (7, .ref (eVad E k)), (5, .int (nI 8)), (4, .ref (eVa E)), (0, .ref (eO E)), (1, .ref (eVad E i)), (2, .ref (ePad E j)), (3, .int pl)]) hx hb dX2_joinQueue_59 hl rfl (by decide) rfl (fun ls hl => ?_)
        refine lv_goto (tgt := 14) hx hb dX2_joinQueue_62 (by decide) ?_
        replace hl : lv_has ls 8 [(6, .int (nI (k + 1))), (5, .int (nI 8)), (4, .ref (eVa E)), (0, .ref (eO E)), (1, .ref (eVad E i)), (2, .ref (ePad E j)), (3, .int pl)] := lv_sub hl [0, 2, 3, 4, 5, 6, 7] rfl
        exact ih (k := k + 1) (H := H) (locs := locs) (ls := ls) (hP := hP) (hD := hD) (hS := hS) (hl := hl) (hn := by omega)

set_option maxHeartbeats 4000000 in
set_option maxRecDepth 100000 in
theorem c_X2_leaveQueue (l : Launch) (D : va_G) (E : cE) (tl : gTy) (x : Nat → Nat → Int32) (i : Nat) (hi : i < 8)  : hV l yX2_leaveQueue wsX2_leaveQueue ({ frames := 1, cells := 0, slots := 0, locals := 21 } : Room) D E tl (cW E x) [.ref (eO E), .ref (eVad E i)] (fun u : Nat → Nat → Int32 => u = cLeave x i) (cW E) 0 0 := by
  refine hM.start (cc := cX2_leaveQueue) (maxL := 6) (ret := none) (own := RX2) rfl (by decide) rfl (Nat.le_of_ble_eq_true rfl) ?_
  intro pr e s m args below meth c A ls H locs hx hb hml hr hts hown hlocks hname hA hK hX hP hD hS hl
  replace hl : lv_has ls 6 [(0, .ref (eO E)), (1, .ref (eVad E i))] := hl
  have hinO : ∀ w ∈ wsX20, w ∈ wsX2_leaveQueue := by decide +kernel
  have hinV : ∀ w ∈ wsX10, w ∈ wsX2_leaveQueue := by decide +kernel
  have k17 := hts (.fieldLink RX2 17 "FairFolio" "visitors" "[LFairFolio$Visitor;") (by decide +kernel)
  have k91 := va_Nw.use (A := args) rfl (hX.1 (.fieldLinkNest RX2 91 "FairFolio$Visitor" "waitsByTurn" "Z" "FairFolio") (by decide +kernel))
  have k138 := va_Nw.use (A := args) rfl (hX.1 (.fieldLinkNest RX2 138 "FairFolio$Visitor" "state" "I" "FairFolio") (by decide +kernel))
  have k141 := va_Nw.use (A := args) rfl (hX.1 (.fieldLinkNest RX2 141 "FairFolio$Visitor" "where" "I" "FairFolio") (by decide +kernel))
  have k144 := va_Nw.use (A := args) rfl (hX.1 (.fieldLinkNest RX2 144 "FairFolio$Visitor" "place" "I" "FairFolio") (by decide +kernel))
  refine lv_aload_n hx hb dX2_leaveQueue_0 rfl (lv_at hl 0 rfl) ?_
  refine c_getO hx hb hts hinO hown hK hP 1 (by decide) k17 rfl rfl dX2_leaveQueue_1 ?_
  refine lv_astore_n (lv' := [(2, .ref (eVa E)), (0, .ref (eO E)), (1, .ref (eVad E i))]) hx hb dX2_leaveQueue_4 rfl hl (by decide) rfl (fun ls hl => ?_)
  refine lv_aload_n hx hb dX2_leaveQueue_5 rfl (lv_at hl 0 rfl) ?_
  refine c_vlen hx hb hK hP dX2_leaveQueue_6 ?_
  refine lv_istore_n (lv' := [(3, .int (nI 8)), (2, .ref (eVa E)), (0, .ref (eO E)), (1, .ref (eVad E i))]) hx hb dX2_leaveQueue_7 rfl hl (by decide) rfl (fun ls hl => ?_)
  refine lv_iconst (v := nI 0) hx hb dX2_leaveQueue_8 (by decide) ?_
  refine lv_istore (lv' := [(4, .int (nI 0)), (3, .int (nI 8)), (2, .ref (eVa E)), (0, .ref (eO E)), (1, .ref (eVad E i))]) hx hb dX2_leaveQueue_9 hl (by decide) rfl (fun ls hl => ?_)
  rw [cUn_0 x i] at hP hD
  obtain ⟨k, hk⟩ : ∃ k : Nat, k = 0 := ⟨_, rfl⟩
  obtain ⟨nn, hn⟩ : ∃ nn : Nat, nn = 8 := ⟨_, rfl⟩
  replace hl : lv_has ls 6 [(4, .int (nI k)), (3, .int (nI 8)), (2, .ref (eVa E)), (0, .ref (eO E)), (1, .ref (eVad E i))] := by rw [hk]; exact hl
  replace hP : va_P D vwCl (cW E (cUn x i k)) H := by rw [hk]; exact hP
  replace hD : va_D A (cW E (cUn x i k)) := by rw [hk]; exact hD
  replace hn : k + nn = 8 := by omega
  clear hk
  induction nn generalizing k H locs ls with
  | zero =>
    obtain rfl : k = 8 := by omega
    refine lv_iload hx hb dX2_leaveQueue_11 (lv_at hl 0 rfl) ?_
    refine lv_iload_n hx hb dX2_leaveQueue_13 rfl (lv_at hl 1 rfl) ?_
    refine q_icmp_ge (tgt := 73) hx hb (by omega) (by omega) dX2_leaveQueue_14 (by decide) (fun c1 => ?_) (fun c1 => absurd c1 (by omega))
    refine lv_aload_n hx hb dX2_leaveQueue_73 rfl (lv_at hl 4 rfl) ?_
    refine c_getV hx hb hts hinV hown hK hP (by omega) 9 (by decide) k91 rfl rfl dX2_leaveQueue_74 ?_
    refine lv_if_eq (tgt := 90) hx hb dX2_leaveQueue_77 (by decide) (fun c3 => ?_) (fun c3 => ?_)
    · replace c3 : ((cUn x i 8) 13 i) = nI 0 := c3
      refine lv_aload_n hx hb dX2_leaveQueue_90 rfl (lv_at hl 3 rfl) ?_
      refine lv_aload_n hx hb dX2_leaveQueue_91 rfl (lv_at hl 4 rfl) ?_
      refine h_callv (As := [.ref (eVad E i)]) (rest := []) ⟨hx, hb, hml, hown, hts⟩ (c_X2_becomeIdle l D E tl (cUn x i 8) i hi) (cwV 1 hts gX2_leaveQueue_X2_becomeIdle rfl rfl rfl (by decide +kernel) ⟨Nat.le_of_ble_eq_true rfl, Nat.le_of_ble_eq_true rfl⟩) (c_recv hK hP) hK hX hP hD hS hA rfl hl.1 rfl (Nat.le_of_ble_eq_true rfl) dX2_leaveQueue_92 ⟨Nat.le_of_ble_eq_true rfl, Nat.le_of_ble_eq_true rfl⟩ (fun u_2 H locs hw hP hD hS => ?_)
      rw [hw] at hP hD
      exact W.vret hx hb hr (fun t ht hW => ⟨⟨cIdle (cUn x i 8) i, rfl, (by rw [cLeave, if_pos (show x 13 i = nI 0 from c3)]), by rw [ht]; exact hP, va_K.moved hW.alike hK, hD⟩, hS.F ht⟩) hS.2.2 dX2_leaveQueue_95
    · replace c3 : ¬ ((cUn x i 8) 13 i) = nI 0 := c3
      refine lv_aload_n hx hb dX2_leaveQueue_80 rfl (lv_at hl 3 rfl) ?_
      refine lv_aload_n hx hb dX2_leaveQueue_81 rfl (lv_at hl 4 rfl) ?_
      refine h_callv (As := [.ref (eVad E i)]) (rest := []) ⟨hx, hb, hml, hown, hts⟩ (c_X2_loseTurn l D E tl (cUn x i 8) i hi) (cwV 1 hts gX2_leaveQueue_X2_loseTurn rfl rfl rfl (by decide +kernel) ⟨Nat.le_of_ble_eq_true rfl, Nat.le_of_ble_eq_true rfl⟩) (c_recv hK hP) hK hX hP hD hS hA rfl hl.1 rfl (Nat.le_of_ble_eq_true rfl) dX2_leaveQueue_82 ⟨Nat.le_of_ble_eq_true rfl, Nat.le_of_ble_eq_true rfl⟩ (fun u_5 H locs hw hP hD hS => ?_)
      rw [hw] at hP hD
      refine lv_aload_n hx hb dX2_leaveQueue_85 rfl (lv_at hl 4 rfl) ?_
      refine lv_iconst (v := nI 0) hx hb dX2_leaveQueue_86 (by decide) ?_
      refine c_putV hx hb hts hinV hown hK hP hD hS (i := i) (by omega) 9 13 (by decide) (cW_setV13 E (cLose (cUn x i 8) i) _ (by omega)) k91 rfl rfl (ty := .boolean) (by decide +kernel) rfl rfl dX2_leaveQueue_87 (fun H locs hP hD hS => ?_)
      refine lv_aload_n hx hb dX2_leaveQueue_90 rfl (lv_at hl 3 rfl) ?_
      refine lv_aload_n hx hb dX2_leaveQueue_91 rfl (lv_at hl 4 rfl) ?_
      refine h_callv (As := [.ref (eVad E i)]) (rest := []) ⟨hx, hb, hml, hown, hts⟩ (c_X2_becomeIdle l D E tl (up2 (cLose (cUn x i 8) i) 13 i (nI 0)) i hi) (cwV 1 hts gX2_leaveQueue_X2_becomeIdle rfl rfl rfl (by decide +kernel) ⟨Nat.le_of_ble_eq_true rfl, Nat.le_of_ble_eq_true rfl⟩) (c_recv hK hP) hK hX hP hD hS hA rfl hl.1 rfl (Nat.le_of_ble_eq_true rfl) dX2_leaveQueue_92 ⟨Nat.le_of_ble_eq_true rfl, Nat.le_of_ble_eq_true rfl⟩ (fun u_8 H locs hw hP hD hS => ?_)
      rw [hw] at hP hD
      exact W.vret hx hb hr (fun t ht hW => ⟨⟨cIdle (up2 (cLose (cUn x i 8) i) 13 i (nI 0)) i, rfl, (by rw [cLeave, if_neg (show ¬ x 13 i = nI 0 from c3)]), by rw [ht]; exact hP, va_K.moved hW.alike hK, hD⟩, hS.F ht⟩) hS.2.2 dX2_leaveQueue_95
  | succ nn ih =>
    refine lv_iload hx hb dX2_leaveQueue_11 (lv_at hl 0 rfl) ?_
    refine lv_iload_n hx hb dX2_leaveQueue_13 rfl (lv_at hl 1 rfl) ?_
    refine q_icmp_ge (tgt := 73) hx hb (by omega) (by omega) dX2_leaveQueue_14 (by decide) (fun c1 => absurd c1 (by omega)) (fun c1 => ?_)
    refine lv_aload_n hx hb dX2_leaveQueue_17 rfl (lv_at hl 2 rfl) ?_
    refine lv_iload hx hb dX2_leaveQueue_18 (lv_at hl 0 rfl) ?_
    refine c_vald hx hb hK hP (by omega) dX2_leaveQueue_20 ?_
    refine lv_astore (lv' := [(5, .ref (eVad E k)), (4, .int (nI k)), (3, .int (nI 8)), (2, .ref (eVa E)), (0, .ref (eO E)), (1, .ref (eVad E i))]) hx hb dX2_leaveQueue_21 hl (by decide) rfl (fun ls hl => ?_)
    refine lv_aload hx hb dX2_leaveQueue_23 (lv_at hl 0 rfl) ?_
    refine c_getV hx hb hts hinV hown hK hP (by omega) 2 (by decide) k138 rfl rfl dX2_leaveQueue_25 ?_
    refine lv_iconst (v := nI 1) hx hb dX2_leaveQueue_28 (by decide) ?_
    refine lv_icmp_ne (tgt := 67) hx hb dX2_leaveQueue_29 (by decide) (fun c2 => ?_) (fun c2 => ?_)
    · have ey : cUn x i k = cUn x i (k + 1) := (cUn_n x i k (fun q => c2 q.1))
      rw [ey] at hP hD
      clear ey
      refine q_inc (k := 1) (lv' := [(4, .int (nI (k + 1))), (5, .ref (eVad E k)), (3, .int (nI 8)), (2, .ref (eVa E)), (0, .ref (eO E)), (1, .ref (eVad E i))]) hx hb dX2_leaveQueue_67 hl rfl (by decide) rfl (fun ls hl => ?_)
      refine lv_goto (tgt := 11) hx hb dX2_leaveQueue_70 (by decide) ?_
      replace hl : lv_has ls 6 [(4, .int (nI (k + 1))), (3, .int (nI 8)), (2, .ref (eVa E)), (0, .ref (eO E)), (1, .ref (eVad E i))] := lv_sub hl [0, 2, 3, 4, 5] rfl
      exact ih (k := k + 1) (H := H) (locs := locs) (ls := ls) (hP := hP) (hD := hD) (hS := hS) (hl := hl) (hn := by omega)
    · refine lv_aload hx hb dX2_leaveQueue_32 (lv_at hl 0 rfl) ?_
      refine c_getV hx hb hts hinV hown hK hP (by omega) 3 (by decide) k141 rfl rfl dX2_leaveQueue_34 ?_
      refine lv_aload_n hx hb dX2_leaveQueue_37 rfl (lv_at hl 5 rfl) ?_
      refine c_getV hx hb hts hinV hown hK hP (by omega) 3 (by decide) k141 rfl rfl dX2_leaveQueue_38 ?_
      refine lv_icmp_ne (tgt := 67) hx hb dX2_leaveQueue_41 (by decide) (fun c3 => ?_) (fun c3 => ?_)
      · have ey : cUn x i k = cUn x i (k + 1) := (cUn_n x i k (fun q => c3 q.2.1))
        rw [ey] at hP hD
        clear ey
        refine q_inc (k := 1) (lv' := [(4, .int (nI (k + 1))), (5, .ref (eVad E k)), (3, .int (nI 8)), (2, .ref (eVa E)), (0, .ref (eO E)), (1, .ref (eVad E i))]) hx hb dX2_leaveQueue_67 hl rfl (by decide) rfl (fun ls hl => ?_)
        refine lv_goto (tgt := 11) hx hb dX2_leaveQueue_70 (by decide) ?_
        replace hl : lv_has ls 6 [(4, .int (nI (k + 1))), (3, .int (nI 8)), (2, .ref (eVa E)), (0, .ref (eO E)), (1, .ref (eVad E i))] := lv_sub hl [0, 2, 3, 4, 5] rfl
        exact ih (k := k + 1) (H := H) (locs := locs) (ls := ls) (hP := hP) (hD := hD) (hS := hS) (hl := hl) (hn := by omega)
      · refine lv_aload hx hb dX2_leaveQueue_44 (lv_at hl 0 rfl) ?_
        refine c_getV hx hb hts hinV hown hK hP (by omega) 4 (by decide) k144 rfl rfl dX2_leaveQueue_46 ?_
        refine q_top (x' := (x 8 k)) (cUn_8k x i k) ?_
        refine lv_aload_n hx hb dX2_leaveQueue_49 rfl (lv_at hl 5 rfl) ?_
        refine c_getV hx hb hts hinV hown hK hP (by omega) 4 (by decide) k144 rfl rfl dX2_leaveQueue_50 ?_
        refine q_top (x' := (x 8 i)) (cUn_8i x i k) ?_
        refine lv_icmp_le (tgt := 67) hx hb dX2_leaveQueue_53 (by decide) (fun c4 => ?_) (fun c4 => ?_)
        · have ey : cUn x i k = cUn x i (k + 1) := (cUn_n x i k (fun q => absurd q.2.2 (Int32.not_lt.mpr c4)))
          rw [ey] at hP hD
          clear ey
          refine q_inc (k := 1) (lv' := [(4, .int (nI (k + 1))), (5, .ref (eVad E k)), (3, .int (nI 8)), (2, .ref (eVa E)), (0, .ref (eO E)), (1, .ref (eVad E i))]) hx hb dX2_leaveQueue_67 hl rfl (by decide) rfl (fun ls hl => ?_)
          refine lv_goto (tgt := 11) hx hb dX2_leaveQueue_70 (by decide) ?_
          replace hl : lv_has ls 6 [(4, .int (nI (k + 1))), (3, .int (nI 8)), (2, .ref (eVa E)), (0, .ref (eO E)), (1, .ref (eVad E i))] := lv_sub hl [0, 2, 3, 4, 5] rfl
          exact ih (k := k + 1) (H := H) (locs := locs) (ls := ls) (hP := hP) (hD := hD) (hS := hS) (hl := hl) (hn := by omega)
        · refine lv_aload hx hb dX2_leaveQueue_56 (lv_at hl 0 rfl) ?_
          refine lv_dup hx hb dX2_leaveQueue_58 rfl ?_
          refine c_getV hx hb hts hinV hown hK hP (by omega) 4 (by decide) k144 rfl rfl dX2_leaveQueue_59 ?_
          refine q_top (x' := (x 8 k)) (cUn_8k x i k) ?_
          refine lv_iconst (v := nI 1) hx hb dX2_leaveQueue_62 (by decide) ?_
          refine lv_isub hx hb dX2_leaveQueue_63 ?_
          refine c_putV hx hb hts hinV hown hK hP hD hS (i := k) (by omega) 4 8 (by decide) (cW_setV8 E (cUn x i k) _ (by omega)) k144 rfl rfl (ty := .int) (by decide +kernel) rfl rfl dX2_leaveQueue_64 (fun H locs hP hD hS => ?_)
          have ey : up2 (cUn x i k) 8 k ((x 8 k) - (nI 1)) = cUn x i (k + 1) := (cUn_s x i k ⟨c2, c3, Int32.not_le.mp c4⟩)
          rw [ey] at hP hD
          clear ey
          refine q_inc (k := 1) (lv' := [(4, .int (nI (k + 1))), (5, .ref (eVad E k)), (3, .int (nI 8)), (2, .ref (eVa E)), (0, .ref (eO E)), (1, .ref (eVad E i))]) hx hb dX2_leaveQueue_67 hl rfl (by decide) rfl (fun ls hl => ?_)
          refine lv_goto (tgt := 11) hx hb dX2_leaveQueue_70 (by decide) ?_
          replace hl : lv_has ls 6 [(4, .int (nI (k + 1))), (3, .int (nI 8)), (2, .ref (eVa E)), (0, .ref (eO E)), (1, .ref (eVad E i))] := lv_sub hl [0, 2, 3, 4, 5] rfl
          exact ih (k := k + 1) (H := H) (locs := locs) (ls := ls) (hP := hP) (hD := hD) (hS := hS) (hl := hl) (hn := by omega)

set_option maxHeartbeats 4000000 in
set_option maxRecDepth 100000 in
theorem c_X2_goInside (l : Launch) (D : va_G) (E : cE) (tl : gTy) (x : Nat → Nat → Int32) (i j : Nat) (hi : i < 8) (hj : j < 6)  : hV l yX2_goInside wsX2_goInside ({ frames := 2, cells := 0, slots := 0, locals := 46 } : Room) D E tl (cW E x) [.ref (eO E), .ref (eVad E i), .ref (ePad E j)] (fun u : Nat → Nat → Int32 => u = cGo x i j) (cW E) 0 0 := by
  refine hM.start (cc := cX2_goInside) (maxL := 3) (ret := none) (own := RX2) rfl (by decide) rfl (Nat.le_of_ble_eq_true rfl) ?_
  intro pr e s m args below meth c A ls H locs hx hb hml hr hts hown hlocks hname hA hK hX hP hD hS hl
  replace hl : lv_has ls 3 [(0, .ref (eO E)), (1, .ref (eVad E i)), (2, .ref (ePad E j))] := hl
  have hinO : ∀ w ∈ wsX20, w ∈ wsX2_goInside := by decide +kernel
  have hinP : ∀ w ∈ wsX00, w ∈ wsX2_goInside := by decide +kernel
  have hinV : ∀ w ∈ wsX10, w ∈ wsX2_goInside := by decide +kernel
  have k138 := va_Nw.use (A := args) rfl (hX.1 (.fieldLinkNest RX2 138 "FairFolio$Visitor" "state" "I" "FairFolio") (by decide +kernel))
  have k133 := va_Nw.use (A := args) rfl (hX.1 (.fieldLinkNest RX2 133 "FairFolio$Pavilion" "number" "I" "FairFolio") (by decide +kernel))
  have k141 := va_Nw.use (A := args) rfl (hX.1 (.fieldLinkNest RX2 141 "FairFolio$Visitor" "where" "I" "FairFolio") (by decide +kernel))
  have k21 := hts (.fieldLink RX2 21 "FairFolio" "now" "I") (by decide +kernel)
  have k43 := va_Nw.use (A := args) rfl (hX.1 (.fieldLinkNest RX2 43 "FairFolio$Pavilion" "time" "I" "FairFolio") (by decide +kernel))
  have k180 := va_Nw.use (A := args) rfl (hX.1 (.fieldLinkNest RX2 180 "FairFolio$Visitor" "visitEnd" "I" "FairFolio") (by decide +kernel))
  refine lv_aload_n hx hb dX2_goInside_0 rfl (lv_at hl 0 rfl) ?_
  refine lv_aload_n hx hb dX2_goInside_1 rfl (lv_at hl 1 rfl) ?_
  refine h_callv (As := [.ref (eVad E i)]) (rest := []) ⟨hx, hb, hml, hown, hts⟩ (c_X2_leaveQueue l D E tl x i hi) (cwV 1 hts gX2_goInside_X2_leaveQueue rfl rfl rfl (by decide +kernel) ⟨Nat.le_of_ble_eq_true rfl, Nat.le_of_ble_eq_true rfl⟩) (c_recv hK hP) hK hX hP hD hS hA rfl hl.1 rfl (Nat.le_of_ble_eq_true rfl) dX2_goInside_2 ⟨Nat.le_of_ble_eq_true rfl, Nat.le_of_ble_eq_true rfl⟩ (fun u_2 H locs hw hP hD hS => ?_)
  rw [hw] at hP hD
  refine lv_aload_n hx hb dX2_goInside_5 rfl (lv_at hl 1 rfl) ?_
  refine lv_iconst (v := nI 2) hx hb dX2_goInside_6 (by decide) ?_
  refine c_putV hx hb hts hinV hown hK hP hD hS (i := i) (by omega) 2 6 (by decide) (cW_setV6 E (cLeave x i) _ (by omega)) k138 rfl rfl (ty := .int) (by decide +kernel) rfl rfl dX2_goInside_7 (fun H locs hP hD hS => ?_)
  refine lv_aload_n hx hb dX2_goInside_10 rfl (lv_at hl 1 rfl) ?_
  refine lv_aload_n hx hb dX2_goInside_11 rfl (lv_at hl 2 rfl) ?_
  refine c_getP hx hb hts hinP hown hK hP (by omega) 0 (by decide) k133 rfl rfl dX2_goInside_12 ?_
  refine c_putV hx hb hts hinV hown hK hP hD hS (i := i) (by omega) 3 7 (by decide) (cW_setV7 E (up2 (cLeave x i) 6 i (nI 2)) _ (by omega)) k141 rfl rfl (ty := .int) (by decide +kernel) rfl rfl dX2_goInside_15 (fun H locs hP hD hS => ?_)
  refine lv_aload_n hx hb dX2_goInside_18 rfl (lv_at hl 1 rfl) ?_
  refine lv_aload_n hx hb dX2_goInside_19 rfl (lv_at hl 0 rfl) ?_
  refine c_getO hx hb hts hinO hown hK hP 2 (by decide) k21 rfl rfl dX2_goInside_20 ?_
  refine q_top (x' := (x 0 0)) (cLeave_f x i 0 0 (by decide)) ?_
  refine lv_aload_n hx hb dX2_goInside_23 rfl (lv_at hl 2 rfl) ?_
  refine c_getP hx hb hts hinP hown hK hP (by omega) 2 (by decide) k43 rfl rfl dX2_goInside_24 ?_
  refine q_top (x' := (x 2 j)) (cLeave_f x i 2 j (by decide)) ?_
  refine lv_iadd hx hb dX2_goInside_27 ?_
  refine c_putV hx hb hts hinV hown hK hP hD hS (i := i) (by omega) 5 9 (by decide) (cW_setV9 E (up2 (up2 (cLeave x i) 6 i (nI 2)) 7 i (nI j)) _ (by omega)) k180 rfl rfl (ty := .int) (by decide +kernel) rfl rfl dX2_goInside_28 (fun H locs hP hD hS => ?_)
  exact W.vret hx hb hr (fun t ht hW => ⟨⟨up2 (up2 (up2 (cLeave x i) 6 i (nI 2)) 7 i (nI j)) 9 i ((x 0 0) + (x 2 j)), rfl, rfl, by rw [ht]; exact hP, va_K.moved hW.alike hK, hD⟩, hS.F ht⟩) hS.2.2 dX2_goInside_31

set_option maxHeartbeats 4000000 in
set_option maxRecDepth 100000 in
theorem c_X2_emptyQueue (l : Launch) (D : va_G) (E : cE) (tl : gTy) (x : Nat → Nat → Int32) (j : Nat) (hj : j < 6)  : hI l yX2_emptyQueue wsX2_emptyQueue ({ frames := 2, cells := 0, slots := 0, locals := 46 } : Room) D E tl (cW E x) [.ref (eO E), .ref (ePad E j)] (fun (r : Int32) (u : Nat → Nat → Int32) => r = nI (cEmpN x j 8) ∧ u = cEmp x j 8) (cW E) 0 0 := by
  refine hM.start (cc := cX2_emptyQueue) (maxL := 7) (ret := (some .int)) (own := RX2) rfl (by decide) rfl (Nat.le_of_ble_eq_true rfl) ?_
  intro pr e s m args below meth c A ls H locs hx hb hml hr hts hown hlocks hname hA hK hX hP hD hS hl
  replace hl : lv_has ls 7 [(0, .ref (eO E)), (1, .ref (ePad E j))] := hl
  have hinO : ∀ w ∈ wsX20, w ∈ wsX2_emptyQueue := by decide +kernel
  have k17 := hts (.fieldLink RX2 17 "FairFolio" "visitors" "[LFairFolio$Visitor;") (by decide +kernel)
  refine lv_iconst (v := nI 0) hx hb dX2_emptyQueue_0 (by decide) ?_
  refine lv_istore_n (lv' := [(2, .int (nI 0)), (0, .ref (eO E)), (1, .ref (ePad E j))]) hx hb dX2_emptyQueue_1 rfl hl (by decide) rfl (fun ls hl => ?_)
  refine lv_aload_n hx hb dX2_emptyQueue_2 rfl (lv_at hl 1 rfl) ?_
  refine c_getO hx hb hts hinO hown hK hP 1 (by decide) k17 rfl rfl dX2_emptyQueue_3 ?_
  refine lv_astore_n (lv' := [(3, .ref (eVa E)), (2, .int (nI 0)), (0, .ref (eO E)), (1, .ref (ePad E j))]) hx hb dX2_emptyQueue_6 rfl hl (by decide) rfl (fun ls hl => ?_)
  refine lv_aload_n hx hb dX2_emptyQueue_7 rfl (lv_at hl 0 rfl) ?_
  refine c_vlen hx hb hK hP dX2_emptyQueue_8 ?_
  refine lv_istore (lv' := [(4, .int (nI 8)), (3, .ref (eVa E)), (2, .int (nI 0)), (0, .ref (eO E)), (1, .ref (ePad E j))]) hx hb dX2_emptyQueue_9 hl (by decide) rfl (fun ls hl => ?_)
  refine lv_iconst (v := nI 0) hx hb dX2_emptyQueue_11 (by decide) ?_
  refine lv_istore (lv' := [(5, .int (nI 0)), (4, .int (nI 8)), (3, .ref (eVa E)), (2, .int (nI 0)), (0, .ref (eO E)), (1, .ref (ePad E j))]) hx hb dX2_emptyQueue_12 hl (by decide) rfl (fun ls hl => ?_)
  obtain ⟨k, hk⟩ : ∃ k : Nat, k = 0 := ⟨_, rfl⟩
  obtain ⟨nn, hn⟩ : ∃ nn : Nat, nn = 8 := ⟨_, rfl⟩
  replace hl : lv_has ls 7 [(5, .int (nI k)), (4, .int (nI 8)), (3, .ref (eVa E)), (2, .int (nI (cEmpN x j k))), (0, .ref (eO E)), (1, .ref (ePad E j))] := by rw [hk]; exact hl
  replace hP : va_P D vwCl (cW E (cEmp x j k)) H := by rw [hk]; exact hP
  replace hD : va_D A (cW E (cEmp x j k)) := by rw [hk]; exact hD
  replace hn : k + nn = 8 := by omega
  clear hk
  induction nn generalizing k H locs ls with
  | zero =>
    obtain rfl : k = 8 := by omega
    refine lv_iload hx hb dX2_emptyQueue_14 (lv_at hl 0 rfl) ?_
    refine lv_iload hx hb dX2_emptyQueue_16 (lv_at hl 1 rfl) ?_
    refine q_icmp_ge (tgt := 53) hx hb (by omega) (by omega) dX2_emptyQueue_18 (by decide) (fun c1 => ?_) (fun c1 => absurd c1 (by omega))
    refine lv_iload_n hx hb dX2_emptyQueue_53 rfl (lv_at hl 3 rfl) ?_
    exact W.iret hx hb hr (fun t ht hW => ⟨⟨_, cEmp x j 8, rfl, ⟨rfl, rfl⟩, by rw [ht]; exact hP, va_K.moved hW.alike hK, hD⟩, hS.F ht⟩) hS.2.2 dX2_emptyQueue_54
  | succ nn ih =>
    refine lv_iload hx hb dX2_emptyQueue_14 (lv_at hl 0 rfl) ?_
    refine lv_iload hx hb dX2_emptyQueue_16 (lv_at hl 1 rfl) ?_
    refine q_icmp_ge (tgt := 53) hx hb (by omega) (by omega) dX2_emptyQueue_18 (by decide) (fun c1 => absurd c1 (by omega)) (fun c1 => ?_)
    refine lv_aload_n hx hb dX2_emptyQueue_21 rfl (lv_at hl 2 rfl) ?_
    refine lv_iload hx hb dX2_emptyQueue_22 (lv_at hl 0 rfl) ?_
    refine c_vald hx hb hK hP (by omega) dX2_emptyQueue_24 ?_
    refine lv_astore (lv' := [(6, .ref (eVad E k)), (5, .int (nI k)), (4, .int (nI 8)), (3, .ref (eVa E)), (2, .int (nI (cEmpN x j k))), (0, .ref (eO E)), (1, .ref (ePad E j))]) hx hb dX2_emptyQueue_25 hl (by decide) rfl (fun ls hl => ?_)
    refine lv_aload_n hx hb dX2_emptyQueue_27 rfl (lv_at hl 5 rfl) ?_
    refine lv_aload hx hb dX2_emptyQueue_28 (lv_at hl 0 rfl) ?_
    refine lv_iconst (v := nI 1) hx hb dX2_emptyQueue_30 (by decide) ?_
    refine lv_aload_n hx hb dX2_emptyQueue_31 rfl (lv_at hl 6 rfl) ?_
    refine h_calli (As := [.ref (eVad E k), .int (nI 1), .ref (ePad E j)]) (rest := []) ⟨hx, hb, hml, hown, hts⟩ (c_X2_isAt l D E tl (cEmp x j k) k j (nI 1) (by omega) hj) (cwV 3 hts gX2_emptyQueue_X2_isAt rfl rfl rfl (by decide +kernel) ⟨Nat.le_of_ble_eq_true rfl, Nat.le_of_ble_eq_true rfl⟩) (c_recv hK hP) hK hX hP hD hS hA rfl hl.1 rfl (Nat.le_of_ble_eq_true rfl) dX2_emptyQueue_32 ⟨Nat.le_of_ble_eq_true rfl, Nat.le_of_ble_eq_true rfl⟩ (fun r_3 u_2 H locs hw hP hD hS => ?_)
    obtain ⟨hr_3, hu_2⟩ := hw
    rw [hu_2] at hP hD
    refine q_top (x' := (nI (cAt (cEmp x j k) k (nI 1) j))) hr_3 ?_
    refine q_if_eq (tgt := 47) hx hb (by have := cAt_01 (cEmp x j k) k (nI 1) j; omega) dX2_emptyQueue_35 (by decide) (fun c2 => ?_) (fun c2 => ?_)
    · have ey : cEmp x j k = cEmp x j (k + 1) := (by rw [cEmp, if_neg (by rw [c2]; decide)])
      rw [ey] at hP hD
      clear ey
      replace hl : lv_has ls 7 [(6, .ref (eVad E k)), (5, .int (nI k)), (4, .int (nI 8)), (3, .ref (eVa E)), (2, .int (nI (cEmpN x j (k + 1)))), (0, .ref (eO E)), (1, .ref (ePad E j))] := by rw [show cEmpN x j (k + 1) = cEmpN x j k by rw [cEmpN, c2]; rfl]; exact hl
      refine q_inc (k := 1) (lv' := [(5, .int (nI (k + 1))), (6, .ref (eVad E k)), (4, .int (nI 8)), (3, .ref (eVa E)), (2, .int (nI (cEmpN x j (k + 1)))), (0, .ref (eO E)), (1, .ref (ePad E j))]) hx hb dX2_emptyQueue_47 hl rfl (by decide) rfl (fun ls hl => ?_)
      refine lv_goto (tgt := 14) hx hb dX2_emptyQueue_50 (by decide) ?_
      replace hl : lv_has ls 7 [(5, .int (nI (k + 1))), (4, .int (nI 8)), (3, .ref (eVa E)), (2, .int (nI (cEmpN x j (k + 1)))), (0, .ref (eO E)), (1, .ref (ePad E j))] := lv_sub hl [0, 2, 3, 4, 5, 6] rfl
      exact ih (k := k + 1) (H := H) (locs := locs) (ls := ls) (hP := hP) (hD := hD) (hS := hS) (hl := hl) (hn := by omega)
    · replace c2 : cAt (cEmp x j k) k (nI 1) j = 1 := (cAt_01 _ k (nI 1) j).resolve_left c2
      refine lv_aload_n hx hb dX2_emptyQueue_38 rfl (lv_at hl 5 rfl) ?_
      refine lv_aload hx hb dX2_emptyQueue_39 (lv_at hl 0 rfl) ?_
      refine h_callv (As := [.ref (eVad E k)]) (rest := []) ⟨hx, hb, hml, hown, hts⟩ (c_X2_leaveQueue l D E tl (cEmp x j k) k (by omega)) (cwV 1 hts gX2_emptyQueue_X2_leaveQueue rfl rfl rfl (by decide +kernel) ⟨Nat.le_of_ble_eq_true rfl, Nat.le_of_ble_eq_true rfl⟩) (c_recv hK hP) hK hX hP hD hS hA rfl hl.1 rfl (Nat.le_of_ble_eq_true rfl) dX2_emptyQueue_41 ⟨Nat.le_of_ble_eq_true rfl, Nat.le_of_ble_eq_true rfl⟩ (fun u_5 H locs hw hP hD hS => ?_)
      rw [hw] at hP hD
      have ey : cLeave (cEmp x j k) k = cEmp x j (k + 1) := (by rw [cEmp, if_pos c2])
      rw [ey] at hP hD
      clear ey
      refine q_inc (k := 4) (lv' := [(2, .int (nI (cEmpN x j k + 1))), (6, .ref (eVad E k)), (5, .int (nI k)), (4, .int (nI 8)), (3, .ref (eVa E)), (0, .ref (eO E)), (1, .ref (ePad E j))]) hx hb dX2_emptyQueue_44 hl rfl (by decide) rfl (fun ls hl => ?_)
      replace hl : lv_has ls 7 [(2, .int (nI (cEmpN x j (k + 1)))), (6, .ref (eVad E k)), (5, .int (nI k)), (4, .int (nI 8)), (3, .ref (eVa E)), (0, .ref (eO E)), (1, .ref (ePad E j))] := by rw [show cEmpN x j (k + 1) = cEmpN x j k + 1 by rw [cEmpN, c2]]; exact hl
      refine q_inc (k := 2) (lv' := [(5, .int (nI (k + 1))), (2, .int (nI (cEmpN x j (k + 1)))), (6, .ref (eVad E k)), (4, .int (nI 8)), (3, .ref (eVa E)), (0, .ref (eO E)), (1, .ref (ePad E j))]) hx hb dX2_emptyQueue_47 hl rfl (by decide) rfl (fun ls hl => ?_)
      refine lv_goto (tgt := 14) hx hb dX2_emptyQueue_50 (by decide) ?_
      replace hl : lv_has ls 7 [(5, .int (nI (k + 1))), (4, .int (nI 8)), (3, .ref (eVa E)), (2, .int (nI (cEmpN x j (k + 1)))), (0, .ref (eO E)), (1, .ref (ePad E j))] := lv_sub hl [0, 3, 4, 1, 5, 6] rfl
      exact ih (k := k + 1) (H := H) (locs := locs) (ls := ls) (hP := hP) (hD := hD) (hS := hS) (hl := hl) (hn := by omega)

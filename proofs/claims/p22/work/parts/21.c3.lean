set_option maxHeartbeats 4000000 in
set_option maxRecDepth 100000 in
theorem c_X2_fillRoom (l : Launch) (D : va_G) (E : cE) (tl : gTy) (x : Nat → Nat → Int32) (j n0 : Nat) (x1 : Nat → Nat → Int32) (hj : j < 6) (hf : cFillR j n0 (x 1 j - nI (cCnt x (nI 2) j 8)) x x1)  : hV l yX2_fillRoom wsX2_fillRoom ({ frames := 3, cells := 0, slots := 0, locals := 68 } : Room) D E tl (cW E x) [.ref (eO E), .ref (ePad E j)] (fun u : Nat → Nat → Int32 => u = x1) (cW E) 0 0 := by
  refine hM.start (cc := cX2_fillRoom) (maxL := 4) (ret := none) (own := RX2) rfl (by decide) rfl (Nat.le_of_ble_eq_true rfl) ?_
  intro pr e s m args below meth c A ls H locs hx hb hml hr hts hown hlocks hname hA hK hX hP hD hS hl
  replace hl : lv_has ls 4 [(0, .ref (eO E)), (1, .ref (ePad E j))] := hl
  have hinP : ∀ w ∈ wsX00, w ∈ wsX2_fillRoom := by decide +kernel
  have k40 := va_Nw.use (A := args) rfl (hX.1 (.fieldLinkNest RX2 40 "FairFolio$Pavilion" "room" "I" "FairFolio") (by decide +kernel))
  refine lv_aload_n hx hb dX2_fillRoom_0 rfl (lv_at hl 1 rfl) ?_
  refine c_getP hx hb hts hinP hown hK hP (by omega) 1 (by decide) k40 rfl rfl dX2_fillRoom_1 ?_
  refine lv_aload_n hx hb dX2_fillRoom_4 rfl (lv_at hl 0 rfl) ?_
  refine lv_iconst (v := nI 2) hx hb dX2_fillRoom_5 (by decide) ?_
  refine lv_aload_n hx hb dX2_fillRoom_6 rfl (lv_at hl 1 rfl) ?_
  refine h_calli (As := [.int (nI 2), .ref (ePad E j)]) (rest := [.int (x 1 j)]) ⟨hx, hb, hml, hown, hts⟩ (c_X2_countAt l D E tl x j (nI 2) hj) (cwV 2 hts gX2_fillRoom_X2_countAt rfl rfl rfl (by decide +kernel) ⟨Nat.le_of_ble_eq_true rfl, Nat.le_of_ble_eq_true rfl⟩) (c_recv hK hP) hK hX hP hD hS hA rfl hl.1 rfl (Nat.le_of_ble_eq_true rfl) dX2_fillRoom_7 ⟨Nat.le_of_ble_eq_true rfl, Nat.le_of_ble_eq_true rfl⟩ (fun r_3 u_2 H locs hw hP hD hS => ?_)
  obtain ⟨hr_3, hu_2⟩ := hw
  rw [hu_2] at hP hD
  refine q_top (x' := (nI (cCnt x (nI 2) j 8))) hr_3 ?_
  refine lv_isub hx hb dX2_fillRoom_10 ?_
  refine lv_istore_n (lv' := [(2, .int ((x 1 j) - (nI (cCnt x (nI 2) j 8)))), (0, .ref (eO E)), (1, .ref (ePad E j))]) hx hb dX2_fillRoom_11 rfl hl (by decide) rfl (fun ls hl => ?_)
  obtain ⟨z, hz⟩ : ∃ z, z = x := ⟨_, rfl⟩
  generalize x 1 j - nI (cCnt x (nI 2) j 8) = fr at hf hl
  rw [← hz] at hP hD hf
  clear hz
  induction n0 generalizing z fr H locs ls with
  | zero =>
    obtain ⟨hst, rfl⟩ := hf
    refine lv_iload_n hx hb dX2_fillRoom_12 rfl (lv_at hl 0 rfl) ?_
    refine lv_if_le (tgt := 39) hx hb dX2_fillRoom_13 (by decide) (fun c1 => ?_) (fun c1 => ?_)
    · exact W.vret hx hb hr (fun t ht hW => ⟨⟨x1, rfl, rfl, by rw [ht]; exact hP, va_K.moved hW.alike hK, hD⟩, hS.F ht⟩) hS.2.2 dX2_fillRoom_39
    · refine lv_aload_n hx hb dX2_fillRoom_16 rfl (lv_at hl 1 rfl) ?_
      refine lv_aload_n hx hb dX2_fillRoom_17 rfl (lv_at hl 2 rfl) ?_
      refine h_callq (As := [.ref (ePad E j)]) (rest := []) ⟨hx, hb, hml, hown, hts⟩ (c_X2_firstInQueue l D E tl x1 j hj) (cwV 1 hts gX2_fillRoom_X2_firstInQueue rfl rfl rfl (by decide +kernel) ⟨Nat.le_of_ble_eq_true rfl, Nat.le_of_ble_eq_true rfl⟩) (c_recv hK hP) hK hX hP hD hS hA rfl hl.1 rfl (Nat.le_of_ble_eq_true rfl) dX2_fillRoom_18 ⟨Nat.le_of_ble_eq_true rfl, Nat.le_of_ble_eq_true rfl⟩ (fun r_6 u_5 H locs hw hP hD hS => ?_)
      obtain ⟨hr_6, hu_5⟩ := hw
      rw [hu_5] at hP hD
      rcases hr_6 with ⟨rfl, hno⟩ | ⟨q, hq, rfl, hf2⟩
      · refine lv_astore_nN (lv' := [(3, .null), (2, .int fr), (0, .ref (eO E)), (1, .ref (ePad E j))]) hx hb dX2_fillRoom_21 rfl hl (by decide) rfl (fun ls hl => ?_)
        refine lv_aload_nN hx hb dX2_fillRoom_22 rfl (lv_at hl 0 rfl) ?_
        refine lv_ifnonnullN hx hb dX2_fillRoom_23 ?_
        exact W.vret hx hb hr (fun t ht hW => ⟨⟨x1, rfl, rfl, by rw [ht]; exact hP, va_K.moved hW.alike hK, hD⟩, hS.F ht⟩) hS.2.2 dX2_fillRoom_26
      · exact absurd hf2 (hst.resolve_left c1 q hq)
  | succ nn ih =>
    obtain ⟨hfr, i, hi, hfi, hun, hf⟩ := hf
    refine lv_iload_n hx hb dX2_fillRoom_12 rfl (lv_at hl 0 rfl) ?_
    refine lv_if_le (tgt := 39) hx hb dX2_fillRoom_13 (by decide) (fun c1 => absurd c1 hfr) (fun c1 => ?_)
    refine lv_aload_n hx hb dX2_fillRoom_16 rfl (lv_at hl 1 rfl) ?_
    refine lv_aload_n hx hb dX2_fillRoom_17 rfl (lv_at hl 2 rfl) ?_
    refine h_callq (As := [.ref (ePad E j)]) (rest := []) ⟨hx, hb, hml, hown, hts⟩ (c_X2_firstInQueue l D E tl z j hj) (cwV 1 hts gX2_fillRoom_X2_firstInQueue rfl rfl rfl (by decide +kernel) ⟨Nat.le_of_ble_eq_true rfl, Nat.le_of_ble_eq_true rfl⟩) (c_recv hK hP) hK hX hP hD hS hA rfl hl.1 rfl (Nat.le_of_ble_eq_true rfl) dX2_fillRoom_18 ⟨Nat.le_of_ble_eq_true rfl, Nat.le_of_ble_eq_true rfl⟩ (fun r_9 u_8 H locs hw hP hD hS => ?_)
    obtain ⟨hr_9, hu_8⟩ := hw
    rw [hu_8] at hP hD
    rcases hr_9 with ⟨rfl, hno⟩ | ⟨q, hq, rfl, hf2⟩
    · exact absurd hfi (hno i hi)
    · obtain rfl := hun q hq hf2
      refine lv_astore_n (lv' := [(3, .ref (eVad E q)), (2, .int fr), (0, .ref (eO E)), (1, .ref (ePad E j))]) hx hb dX2_fillRoom_21 rfl hl (by decide) rfl (fun ls hl => ?_)
      refine lv_aload_n hx hb dX2_fillRoom_22 rfl (lv_at hl 0 rfl) ?_
      refine lv_ifnonnull (tgt := 27) hx hb dX2_fillRoom_23 (by decide) ?_
      refine lv_aload_n hx hb dX2_fillRoom_27 rfl (lv_at hl 2 rfl) ?_
      refine lv_aload_n hx hb dX2_fillRoom_28 rfl (lv_at hl 0 rfl) ?_
      refine lv_aload_n hx hb dX2_fillRoom_29 rfl (lv_at hl 3 rfl) ?_
      refine h_callv (As := [.ref (eVad E q), .ref (ePad E j)]) (rest := []) ⟨hx, hb, hml, hown, hts⟩ (c_X2_goInside l D E tl z q j hq hj) (cwV 2 hts gX2_fillRoom_X2_goInside rfl rfl rfl (by decide +kernel) ⟨Nat.le_of_ble_eq_true rfl, Nat.le_of_ble_eq_true rfl⟩) (c_recv hK hP) hK hX hP hD hS hA rfl hl.1 rfl (Nat.le_of_ble_eq_true rfl) dX2_fillRoom_30 ⟨Nat.le_of_ble_eq_true rfl, Nat.le_of_ble_eq_true rfl⟩ (fun u_11 H locs hw hP hD hS => ?_)
      rw [hw] at hP hD
      refine lv_iinc (k := 1) (v := (fr + (-1))) (lv' := [(2, .int (fr + (-1))), (3, .ref (eVad E q)), (0, .ref (eO E)), (1, .ref (ePad E j))]) hx hb dX2_fillRoom_33 hl rfl rfl (by decide) rfl (fun ls hl => ?_)
      refine lv_goto (tgt := 12) hx hb dX2_fillRoom_36 (by decide) ?_
      replace hl : lv_has ls 4 [(2, .int (fr + (-1))), (0, .ref (eO E)), (1, .ref (ePad E j))] := lv_sub hl [0, 2, 3] rfl
      exact ih (z := cGo z q j) (fr := fr + (-1)) (H := H) (locs := locs) (ls := ls) (hP := hP) (hD := hD) (hS := hS) (hl := hl) (hf := hf)

set_option maxHeartbeats 4000000 in
set_option maxRecDepth 100000 in
theorem c_X2_letIn (l : Launch) (D : va_G) (E : cE) (tl : gTy) (x : Nat → Nat → Int32) (x1 : Nat → Nat → Int32) (hlt : cLets 6 0 x x1)  : hV l yX2_letIn wsX2_letIn ({ frames := 4, cells := 0, slots := 0, locals := 91 } : Room) D E tl (cW E x) [.ref (eO E)] (fun u : Nat → Nat → Int32 => u = x1) (cW E) 0 0 := by
  refine hM.start (cc := cX2_letIn) (maxL := 5) (ret := none) (own := RX2) rfl (by decide) rfl (Nat.le_of_ble_eq_true rfl) ?_
  intro pr e s m args below meth c A ls H locs hx hb hml hr hts hown hlocks hname hA hK hX hP hD hS hl
  replace hl : lv_has ls 5 [(0, .ref (eO E))] := hl
  have hinO : ∀ w ∈ wsX20, w ∈ wsX2_letIn := by decide +kernel
  have hinP : ∀ w ∈ wsX00, w ∈ wsX2_letIn := by decide +kernel
  have k11 := hts (.fieldLink RX2 11 "FairFolio" "pavilions" "[LFairFolio$Pavilion;") (by decide +kernel)
  have k46 := va_Nw.use (A := args) rfl (hX.1 (.fieldLinkNest RX2 46 "FairFolio$Pavilion" "isOpen" "Z" "FairFolio") (by decide +kernel))
  refine lv_aload_n hx hb dX2_letIn_0 rfl (lv_at hl 0 rfl) ?_
  refine c_getO hx hb hts hinO hown hK hP 0 (by decide) k11 rfl rfl dX2_letIn_1 ?_
  refine lv_astore_n (lv' := [(1, .ref (ePa E)), (0, .ref (eO E))]) hx hb dX2_letIn_4 rfl hl (by decide) rfl (fun ls hl => ?_)
  refine lv_aload_n hx hb dX2_letIn_5 rfl (lv_at hl 0 rfl) ?_
  refine c_plen hx hb hK hP dX2_letIn_6 ?_
  refine lv_istore_n (lv' := [(2, .int (nI 6)), (1, .ref (ePa E)), (0, .ref (eO E))]) hx hb dX2_letIn_7 rfl hl (by decide) rfl (fun ls hl => ?_)
  refine lv_iconst (v := nI 0) hx hb dX2_letIn_8 (by decide) ?_
  refine lv_istore_n (lv' := [(3, .int (nI 0)), (2, .int (nI 6)), (1, .ref (ePa E)), (0, .ref (eO E))]) hx hb dX2_letIn_9 rfl hl (by decide) rfl (fun ls hl => ?_)
  obtain ⟨z, hz⟩ : ∃ z, z = x := ⟨_, rfl⟩
  rw [← hz] at hP hD hlt
  clear hz
  obtain ⟨k, hk⟩ : ∃ k : Nat, k = 0 := ⟨_, rfl⟩
  obtain ⟨nn, hn⟩ : ∃ nn : Nat, nn = 6 := ⟨_, rfl⟩
  replace hl : lv_has ls 5 [(3, .int (nI k)), (2, .int (nI 6)), (1, .ref (ePa E)), (0, .ref (eO E))] := by rw [hk]; exact hl
  rw [← hk, ← hn] at hlt
  replace hn : k + nn = 6 := by omega
  clear hk
  induction nn generalizing z k H locs ls with
  | zero =>
    obtain rfl := hlt
    obtain rfl : k = 6 := by omega
    refine lv_iload_n hx hb dX2_letIn_10 rfl (lv_at hl 0 rfl) ?_
    refine lv_iload_n hx hb dX2_letIn_11 rfl (lv_at hl 1 rfl) ?_
    refine q_icmp_ge (tgt := 40) hx hb (by omega) (by omega) dX2_letIn_12 (by decide) (fun c1 => ?_) (fun c1 => absurd c1 (by omega))
    exact W.vret hx hb hr (fun t ht hW => ⟨⟨x1, rfl, rfl, by rw [ht]; exact hP, va_K.moved hW.alike hK, hD⟩, hS.F ht⟩) hS.2.2 dX2_letIn_40
  | succ nn ih =>
    obtain ⟨z1, hs, hlt⟩ := hlt
    refine lv_iload_n hx hb dX2_letIn_10 rfl (lv_at hl 0 rfl) ?_
    refine lv_iload_n hx hb dX2_letIn_11 rfl (lv_at hl 1 rfl) ?_
    refine q_icmp_ge (tgt := 40) hx hb (by omega) (by omega) dX2_letIn_12 (by decide) (fun c1 => absurd c1 (by omega)) (fun c1 => ?_)
    refine lv_aload_n hx hb dX2_letIn_15 rfl (lv_at hl 2 rfl) ?_
    refine lv_iload_n hx hb dX2_letIn_16 rfl (lv_at hl 0 rfl) ?_
    refine c_pald hx hb hK hP (by omega) dX2_letIn_17 ?_
    refine lv_astore (lv' := [(4, .ref (ePad E k)), (3, .int (nI k)), (2, .int (nI 6)), (1, .ref (ePa E)), (0, .ref (eO E))]) hx hb dX2_letIn_18 hl (by decide) rfl (fun ls hl => ?_)
    refine lv_aload hx hb dX2_letIn_20 (lv_at hl 0 rfl) ?_
    refine c_getP hx hb hts hinP hown hK hP (by omega) 3 (by decide) k46 rfl rfl dX2_letIn_22 ?_
    rcases hs with ⟨h3, hs⟩ | ⟨h3, hs⟩
    · obtain rfl := hs
      refine lv_if_eq (tgt := 34) hx hb dX2_letIn_25 (by decide) (fun c2 => ?_) (fun c2 => absurd h3 c2)
      replace c2 : (z1 3 k) = nI 0 := c2
      refine q_inc (k := 1) (lv' := [(3, .int (nI (k + 1))), (4, .ref (ePad E k)), (2, .int (nI 6)), (1, .ref (ePa E)), (0, .ref (eO E))]) hx hb dX2_letIn_34 hl rfl (by decide) rfl (fun ls hl => ?_)
      refine lv_goto (tgt := 10) hx hb dX2_letIn_37 (by decide) ?_
      replace hl : lv_has ls 5 [(3, .int (nI (k + 1))), (2, .int (nI 6)), (1, .ref (ePa E)), (0, .ref (eO E))] := lv_sub hl [0, 2, 3, 4] rfl
      exact ih (k := k + 1) (H := H) (locs := locs) (ls := ls) (hP := hP) (hD := hD) (hS := hS) (hl := hl) (hn := by omega) (hlt := hlt)
    · obtain ⟨q, hs⟩ := hs
      refine lv_if_eq (tgt := 34) hx hb dX2_letIn_25 (by decide) (fun c2 => absurd c2 h3) (fun c2 => ?_)
      replace c2 : ¬ (z 3 k) = nI 0 := c2
      refine lv_aload_n hx hb dX2_letIn_28 rfl (lv_at hl 4 rfl) ?_
      refine lv_aload hx hb dX2_letIn_29 (lv_at hl 0 rfl) ?_
      refine h_callv (As := [.ref (ePad E k)]) (rest := []) ⟨hx, hb, hml, hown, hts⟩ (c_X2_fillRoom l D E tl z k q z1 (by omega) hs) (cwV 1 hts gX2_letIn_X2_fillRoom rfl rfl rfl (by decide +kernel) ⟨Nat.le_of_ble_eq_true rfl, Nat.le_of_ble_eq_true rfl⟩) (c_recv hK hP) hK hX hP hD hS hA rfl hl.1 rfl (Nat.le_of_ble_eq_true rfl) dX2_letIn_31 ⟨Nat.le_of_ble_eq_true rfl, Nat.le_of_ble_eq_true rfl⟩ (fun u_2 H locs hw hP hD hS => ?_)
      rw [hw] at hP hD
      refine q_inc (k := 1) (lv' := [(3, .int (nI (k + 1))), (4, .ref (ePad E k)), (2, .int (nI 6)), (1, .ref (ePa E)), (0, .ref (eO E))]) hx hb dX2_letIn_34 hl rfl (by decide) rfl (fun ls hl => ?_)
      refine lv_goto (tgt := 10) hx hb dX2_letIn_37 (by decide) ?_
      replace hl : lv_has ls 5 [(3, .int (nI (k + 1))), (2, .int (nI 6)), (1, .ref (ePa E)), (0, .ref (eO E))] := lv_sub hl [0, 2, 3, 4] rfl
      exact ih (k := k + 1) (H := H) (locs := locs) (ls := ls) (hP := hP) (hD := hD) (hS := hS) (hl := hl) (hn := by omega) (z := z1) (hlt := hlt)

set_option maxHeartbeats 4000000 in
set_option maxRecDepth 100000 in
theorem c_X2_endVisits (l : Launch) (D : va_G) (E : cE) (tl : gTy) (x : Nat → Nat → Int32)   : hV l yX2_endVisits wsX2_endVisits ({ frames := 1, cells := 0, slots := 0, locals := 21 } : Room) D E tl (cW E x) [.ref (eO E)] (fun u : Nat → Nat → Int32 => u = cOut x 8) (cW E) 0 0 := by
  refine hM.start (cc := cX2_endVisits) (maxL := 5) (ret := none) (own := RX2) rfl (by decide) rfl (Nat.le_of_ble_eq_true rfl) ?_
  intro pr e s m args below meth c A ls H locs hx hb hml hr hts hown hlocks hname hA hK hX hP hD hS hl
  replace hl : lv_has ls 5 [(0, .ref (eO E))] := hl
  have hinO : ∀ w ∈ wsX20, w ∈ wsX2_endVisits := by decide +kernel
  have hinV : ∀ w ∈ wsX10, w ∈ wsX2_endVisits := by decide +kernel
  have k17 := hts (.fieldLink RX2 17 "FairFolio" "visitors" "[LFairFolio$Visitor;") (by decide +kernel)
  have k138 := va_Nw.use (A := args) rfl (hX.1 (.fieldLinkNest RX2 138 "FairFolio$Visitor" "state" "I" "FairFolio") (by decide +kernel))
  have k180 := va_Nw.use (A := args) rfl (hX.1 (.fieldLinkNest RX2 180 "FairFolio$Visitor" "visitEnd" "I" "FairFolio") (by decide +kernel))
  have k21 := hts (.fieldLink RX2 21 "FairFolio" "now" "I") (by decide +kernel)
  have k147 := va_Nw.use (A := args) rfl (hX.1 (.fieldLinkNest RX2 147 "FairFolio$Visitor" "stamps" "I" "FairFolio") (by decide +kernel))
  have k141 := va_Nw.use (A := args) rfl (hX.1 (.fieldLinkNest RX2 141 "FairFolio$Visitor" "where" "I" "FairFolio") (by decide +kernel))
  refine lv_aload_n hx hb dX2_endVisits_0 rfl (lv_at hl 0 rfl) ?_
  refine c_getO hx hb hts hinO hown hK hP 1 (by decide) k17 rfl rfl dX2_endVisits_1 ?_
  refine lv_astore_n (lv' := [(1, .ref (eVa E)), (0, .ref (eO E))]) hx hb dX2_endVisits_4 rfl hl (by decide) rfl (fun ls hl => ?_)
  refine lv_aload_n hx hb dX2_endVisits_5 rfl (lv_at hl 0 rfl) ?_
  refine c_vlen hx hb hK hP dX2_endVisits_6 ?_
  refine lv_istore_n (lv' := [(2, .int (nI 8)), (1, .ref (eVa E)), (0, .ref (eO E))]) hx hb dX2_endVisits_7 rfl hl (by decide) rfl (fun ls hl => ?_)
  refine lv_iconst (v := nI 0) hx hb dX2_endVisits_8 (by decide) ?_
  refine lv_istore_n (lv' := [(3, .int (nI 0)), (2, .int (nI 8)), (1, .ref (eVa E)), (0, .ref (eO E))]) hx hb dX2_endVisits_9 rfl hl (by decide) rfl (fun ls hl => ?_)
  obtain ⟨k, hk⟩ : ∃ k : Nat, k = 0 := ⟨_, rfl⟩
  obtain ⟨nn, hn⟩ : ∃ nn : Nat, nn = 8 := ⟨_, rfl⟩
  replace hl : lv_has ls 5 [(3, .int (nI k)), (2, .int (nI 8)), (1, .ref (eVa E)), (0, .ref (eO E))] := by rw [hk]; exact hl
  replace hP : va_P D vwCl (cW E (cOut x k)) H := by rw [hk]; exact hP
  replace hD : va_D A (cW E (cOut x k)) := by rw [hk]; exact hD
  replace hn : k + nn = 8 := by omega
  clear hk
  induction nn generalizing k H locs ls with
  | zero =>
    obtain rfl : k = 8 := by omega
    refine lv_iload_n hx hb dX2_endVisits_10 rfl (lv_at hl 0 rfl) ?_
    refine lv_iload_n hx hb dX2_endVisits_11 rfl (lv_at hl 1 rfl) ?_
    refine q_icmp_ge (tgt := 70) hx hb (by omega) (by omega) dX2_endVisits_12 (by decide) (fun c1 => ?_) (fun c1 => absurd c1 (by omega))
    exact W.vret hx hb hr (fun t ht hW => ⟨⟨cOut x 8, rfl, rfl, by rw [ht]; exact hP, va_K.moved hW.alike hK, hD⟩, hS.F ht⟩) hS.2.2 dX2_endVisits_70
  | succ nn ih =>
    refine lv_iload_n hx hb dX2_endVisits_10 rfl (lv_at hl 0 rfl) ?_
    refine lv_iload_n hx hb dX2_endVisits_11 rfl (lv_at hl 1 rfl) ?_
    refine q_icmp_ge (tgt := 70) hx hb (by omega) (by omega) dX2_endVisits_12 (by decide) (fun c1 => absurd c1 (by omega)) (fun c1 => ?_)
    refine lv_aload_n hx hb dX2_endVisits_15 rfl (lv_at hl 2 rfl) ?_
    refine lv_iload_n hx hb dX2_endVisits_16 rfl (lv_at hl 0 rfl) ?_
    refine c_vald hx hb hK hP (by omega) dX2_endVisits_17 ?_
    refine lv_astore (lv' := [(4, .ref (eVad E k)), (3, .int (nI k)), (2, .int (nI 8)), (1, .ref (eVa E)), (0, .ref (eO E))]) hx hb dX2_endVisits_18 hl (by decide) rfl (fun ls hl => ?_)
    refine lv_aload hx hb dX2_endVisits_20 (lv_at hl 0 rfl) ?_
    refine c_getV hx hb hts hinV hown hK hP (by omega) 2 (by decide) k138 rfl rfl dX2_endVisits_22 ?_
    refine lv_iconst (v := nI 2) hx hb dX2_endVisits_25 (by decide) ?_
    refine lv_icmp_ne (tgt := 64) hx hb dX2_endVisits_26 (by decide) (fun c2 => ?_) (fun c2 => ?_)
    · have ey : cOut x k = cOut x (k + 1) := (by rw [cOut, cOut1, if_neg (fun q => c2 q.1)])
      rw [ey] at hP hD
      clear ey
      refine q_inc (k := 1) (lv' := [(3, .int (nI (k + 1))), (4, .ref (eVad E k)), (2, .int (nI 8)), (1, .ref (eVa E)), (0, .ref (eO E))]) hx hb dX2_endVisits_64 hl rfl (by decide) rfl (fun ls hl => ?_)
      refine lv_goto (tgt := 10) hx hb dX2_endVisits_67 (by decide) ?_
      replace hl : lv_has ls 5 [(3, .int (nI (k + 1))), (2, .int (nI 8)), (1, .ref (eVa E)), (0, .ref (eO E))] := lv_sub hl [0, 2, 3, 4] rfl
      exact ih (k := k + 1) (H := H) (locs := locs) (ls := ls) (hP := hP) (hD := hD) (hS := hS) (hl := hl) (hn := by omega)
    · refine lv_aload hx hb dX2_endVisits_29 (lv_at hl 0 rfl) ?_
      refine c_getV hx hb hts hinV hown hK hP (by omega) 5 (by decide) k180 rfl rfl dX2_endVisits_31 ?_
      refine lv_aload_n hx hb dX2_endVisits_34 rfl (lv_at hl 4 rfl) ?_
      refine c_getO hx hb hts hinO hown hK hP 2 (by decide) k21 rfl rfl dX2_endVisits_35 ?_
      refine lv_icmp_gt (tgt := 64) hx hb dX2_endVisits_38 (by decide) (fun c3 => ?_) (fun c3 => ?_)
      · have ey : cOut x k = cOut x (k + 1) := (by rw [cOut, cOut1, if_neg (fun q => absurd q.2 (Int32.not_le.mpr c3))])
        rw [ey] at hP hD
        clear ey
        refine q_inc (k := 1) (lv' := [(3, .int (nI (k + 1))), (4, .ref (eVad E k)), (2, .int (nI 8)), (1, .ref (eVa E)), (0, .ref (eO E))]) hx hb dX2_endVisits_64 hl rfl (by decide) rfl (fun ls hl => ?_)
        refine lv_goto (tgt := 10) hx hb dX2_endVisits_67 (by decide) ?_
        replace hl : lv_has ls 5 [(3, .int (nI (k + 1))), (2, .int (nI 8)), (1, .ref (eVa E)), (0, .ref (eO E))] := lv_sub hl [0, 2, 3, 4] rfl
        exact ih (k := k + 1) (H := H) (locs := locs) (ls := ls) (hP := hP) (hD := hD) (hS := hS) (hl := hl) (hn := by omega)
      · refine lv_aload hx hb dX2_endVisits_41 (lv_at hl 0 rfl) ?_
        refine lv_dup hx hb dX2_endVisits_43 rfl ?_
        refine c_getV hx hb hts hinV hown hK hP (by omega) 6 (by decide) k147 rfl rfl dX2_endVisits_44 ?_
        refine lv_iconst (v := nI 1) hx hb dX2_endVisits_47 (by decide) ?_
        refine lv_aload hx hb dX2_endVisits_48 (lv_at hl 0 rfl) ?_
        refine c_getV hx hb hts hinV hown hK hP (by omega) 3 (by decide) k141 rfl rfl dX2_endVisits_50 ?_
        refine lv_ishl hx hb dX2_endVisits_53 ?_
        refine lv_ior hx hb dX2_endVisits_54 ?_
        refine c_putV hx hb hts hinV hown hK hP hD hS (i := k) (by omega) 6 10 (by decide) (cW_setV10 E (cOut x k) _ (by omega)) k147 rfl rfl (ty := .int) (by decide +kernel) rfl rfl dX2_endVisits_55 (fun H locs hP hD hS => ?_)
        refine lv_aload_n hx hb dX2_endVisits_58 rfl (lv_at hl 4 rfl) ?_
        refine lv_aload hx hb dX2_endVisits_59 (lv_at hl 0 rfl) ?_
        refine h_callv (As := [.ref (eVad E k)]) (rest := []) ⟨hx, hb, hml, hown, hts⟩ (c_X2_becomeIdle l D E tl (up2 (cOut x k) 10 k (((cOut x k) 10 k) ||| ((nI 1) <<< (((cOut x k) 7 k) &&& 31)))) k (by omega)) (cwV 1 hts gX2_endVisits_X2_becomeIdle rfl rfl rfl (by decide +kernel) ⟨Nat.le_of_ble_eq_true rfl, Nat.le_of_ble_eq_true rfl⟩) (c_recv hK hP) hK hX hP hD hS hA rfl hl.1 rfl (Nat.le_of_ble_eq_true rfl) dX2_endVisits_61 ⟨Nat.le_of_ble_eq_true rfl, Nat.le_of_ble_eq_true rfl⟩ (fun u_2 H locs hw hP hD hS => ?_)
        rw [hw] at hP hD
        have ey : cIdle (up2 (cOut x k) 10 k (((cOut x k) 10 k) ||| ((nI 1) <<< (((cOut x k) 7 k) &&& 31)))) k = cOut x (k + 1) := (by rw [cOut, cOut1, if_pos ⟨c2, Int32.not_lt.mp c3⟩])
        rw [ey] at hP hD
        clear ey
        refine q_inc (k := 1) (lv' := [(3, .int (nI (k + 1))), (4, .ref (eVad E k)), (2, .int (nI 8)), (1, .ref (eVa E)), (0, .ref (eO E))]) hx hb dX2_endVisits_64 hl rfl (by decide) rfl (fun ls hl => ?_)
        refine lv_goto (tgt := 10) hx hb dX2_endVisits_67 (by decide) ?_
        replace hl : lv_has ls 5 [(3, .int (nI (k + 1))), (2, .int (nI 8)), (1, .ref (eVa E)), (0, .ref (eO E))] := lv_sub hl [0, 2, 3, 4] rfl
        exact ih (k := k + 1) (H := H) (locs := locs) (ls := ls) (hP := hP) (hD := hD) (hS := hS) (hl := hl) (hn := by omega)

set_option maxHeartbeats 4000000 in
set_option maxRecDepth 100000 in
theorem c_X2_takeTurn (l : Launch) (D : va_G) (E : cE) (tl : gTy) (x : Nat → Nat → Int32) (i : Nat) (x1 : Nat → Nat → Int32) (hi : i < 8) (ht : cTT x i x1)  : hV l yX2_takeTurn wsX2_takeTurn ({ frames := 2, cells := 0, slots := 0, locals := 50 } : Room) D E tl (cW E x) [.ref (eO E), .ref (eVad E i)] (fun u : Nat → Nat → Int32 => u = x1) (cW E) 0 0 := by
  refine hM.start (cc := cX2_takeTurn) (maxL := 3) (ret := none) (own := RX2) rfl (by decide) rfl (Nat.le_of_ble_eq_true rfl) ?_
  intro pr e s m args below meth c A ls H locs hx hb hml hr hts hown hlocks hname hA hK hX hP hD hS hl
  replace hl : lv_has ls 3 [(0, .ref (eO E)), (1, .ref (eVad E i))] := hl
  have hinP : ∀ w ∈ wsX00, w ∈ wsX2_takeTurn := by decide +kernel
  have hinV : ∀ w ∈ wsX10, w ∈ wsX2_takeTurn := by decide +kernel
  have k106 := va_Nw.use (A := args) rfl (hX.1 (.fieldLinkNest RX2 106 "FairFolio$Visitor" "turnPavilion" "LFairFolio$Pavilion;" "FairFolio") (by decide +kernel))
  have k138 := va_Nw.use (A := args) rfl (hX.1 (.fieldLinkNest RX2 138 "FairFolio$Visitor" "state" "I" "FairFolio") (by decide +kernel))
  have k46 := va_Nw.use (A := args) rfl (hX.1 (.fieldLinkNest RX2 46 "FairFolio$Pavilion" "isOpen" "Z" "FairFolio") (by decide +kernel))
  have k91 := va_Nw.use (A := args) rfl (hX.1 (.fieldLinkNest RX2 91 "FairFolio$Visitor" "waitsByTurn" "Z" "FairFolio") (by decide +kernel))
  rcases ht with ⟨h12 | ⟨j, hj, h12, hl1⟩, hs⟩ | ⟨j, x2, hj, h12, h6, h3, he, hs⟩
  · obtain rfl := hs
    refine lv_aload_n hx hb dX2_takeTurn_0 rfl (lv_at hl 1 rfl) ?_
    refine c_getV hx hb hts hinV hown hK hP (by omega) 8 (by decide) k106 rfl rfl dX2_takeTurn_1 ?_
    refine q_topv (v' := .null) (by rw [h12]; rfl) ?_
    refine lv_astore_nN (lv' := [(2, .null), (0, .ref (eO E)), (1, .ref (eVad E i))]) hx hb dX2_takeTurn_4 rfl hl (by decide) rfl (fun ls hl => ?_)
    refine lv_aload_n hx hb dX2_takeTurn_5 rfl (lv_at hl 2 rfl) ?_
    refine c_getV hx hb hts hinV hown hK hP (by omega) 2 (by decide) k138 rfl rfl dX2_takeTurn_6 ?_
    refine lv_iconst (v := nI 2) hx hb dX2_takeTurn_9 (by decide) ?_
    refine lv_icmp_eq (tgt := 24) hx hb dX2_takeTurn_10 (by decide) (fun c1 => ?_) (fun c1 => ?_)
    · refine lv_aload_n hx hb dX2_takeTurn_24 rfl (lv_at hl 1 rfl) ?_
      refine lv_aload_n hx hb dX2_takeTurn_25 rfl (lv_at hl 2 rfl) ?_
      refine h_callv (As := [.ref (eVad E i)]) (rest := []) ⟨hx, hb, hml, hown, hts⟩ (c_X2_loseTurn l D E tl x i hi) (cwV 1 hts gX2_takeTurn_X2_loseTurn rfl rfl rfl (by decide +kernel) ⟨Nat.le_of_ble_eq_true rfl, Nat.le_of_ble_eq_true rfl⟩) (c_recv hK hP) hK hX hP hD hS hA rfl hl.1 rfl (Nat.le_of_ble_eq_true rfl) dX2_takeTurn_26 ⟨Nat.le_of_ble_eq_true rfl, Nat.le_of_ble_eq_true rfl⟩ (fun u_2 H locs hw hP hD hS => ?_)
      rw [hw] at hP hD
      exact W.vret hx hb hr (fun t ht hW => ⟨⟨cLose x i, rfl, rfl, by rw [ht]; exact hP, va_K.moved hW.alike hK, hD⟩, hS.F ht⟩) hS.2.2 dX2_takeTurn_29
    · refine lv_aload_nN hx hb dX2_takeTurn_13 rfl (lv_at hl 0 rfl) ?_
      refine lv_ifnullN (tgt := 24) hx hb dX2_takeTurn_14 (by decide) ?_
      refine lv_aload_n hx hb dX2_takeTurn_24 rfl (lv_at hl 1 rfl) ?_
      refine lv_aload_n hx hb dX2_takeTurn_25 rfl (lv_at hl 2 rfl) ?_
      refine h_callv (As := [.ref (eVad E i)]) (rest := []) ⟨hx, hb, hml, hown, hts⟩ (c_X2_loseTurn l D E tl x i hi) (cwV 1 hts gX2_takeTurn_X2_loseTurn rfl rfl rfl (by decide +kernel) ⟨Nat.le_of_ble_eq_true rfl, Nat.le_of_ble_eq_true rfl⟩) (c_recv hK hP) hK hX hP hD hS hA rfl hl.1 rfl (Nat.le_of_ble_eq_true rfl) dX2_takeTurn_26 ⟨Nat.le_of_ble_eq_true rfl, Nat.le_of_ble_eq_true rfl⟩ (fun u_5 H locs hw hP hD hS => ?_)
      rw [hw] at hP hD
      exact W.vret hx hb hr (fun t ht hW => ⟨⟨cLose x i, rfl, rfl, by rw [ht]; exact hP, va_K.moved hW.alike hK, hD⟩, hS.F ht⟩) hS.2.2 dX2_takeTurn_29
  · obtain rfl := hs
    refine lv_aload_n hx hb dX2_takeTurn_0 rfl (lv_at hl 1 rfl) ?_
    refine c_getV hx hb hts hinV hown hK hP (by omega) 8 (by decide) k106 rfl rfl dX2_takeTurn_1 ?_
    refine q_topv (v' := .ref (ePad E j)) (by rw [h12, tpO_s E hj]; rfl) ?_
    refine lv_astore_n (lv' := [(2, .ref (ePad E j)), (0, .ref (eO E)), (1, .ref (eVad E i))]) hx hb dX2_takeTurn_4 rfl hl (by decide) rfl (fun ls hl => ?_)
    refine lv_aload_n hx hb dX2_takeTurn_5 rfl (lv_at hl 2 rfl) ?_
    refine c_getV hx hb hts hinV hown hK hP (by omega) 2 (by decide) k138 rfl rfl dX2_takeTurn_6 ?_
    refine lv_iconst (v := nI 2) hx hb dX2_takeTurn_9 (by decide) ?_
    refine lv_icmp_eq (tgt := 24) hx hb dX2_takeTurn_10 (by decide) (fun c1 => ?_) (fun c1 => ?_)
    · refine lv_aload_n hx hb dX2_takeTurn_24 rfl (lv_at hl 1 rfl) ?_
      refine lv_aload_n hx hb dX2_takeTurn_25 rfl (lv_at hl 2 rfl) ?_
      refine h_callv (As := [.ref (eVad E i)]) (rest := []) ⟨hx, hb, hml, hown, hts⟩ (c_X2_loseTurn l D E tl x i hi) (cwV 1 hts gX2_takeTurn_X2_loseTurn rfl rfl rfl (by decide +kernel) ⟨Nat.le_of_ble_eq_true rfl, Nat.le_of_ble_eq_true rfl⟩) (c_recv hK hP) hK hX hP hD hS hA rfl hl.1 rfl (Nat.le_of_ble_eq_true rfl) dX2_takeTurn_26 ⟨Nat.le_of_ble_eq_true rfl, Nat.le_of_ble_eq_true rfl⟩ (fun u_8 H locs hw hP hD hS => ?_)
      rw [hw] at hP hD
      exact W.vret hx hb hr (fun t ht hW => ⟨⟨cLose x i, rfl, rfl, by rw [ht]; exact hP, va_K.moved hW.alike hK, hD⟩, hS.F ht⟩) hS.2.2 dX2_takeTurn_29
    · refine lv_aload_n hx hb dX2_takeTurn_13 rfl (lv_at hl 0 rfl) ?_
      refine lv_ifnull hx hb dX2_takeTurn_14 ?_
      refine lv_aload_n hx hb dX2_takeTurn_17 rfl (lv_at hl 0 rfl) ?_
      refine c_getP hx hb hts hinP hown hK hP (by omega) 3 (by decide) k46 rfl rfl dX2_takeTurn_18 ?_
      refine lv_if_ne (tgt := 30) hx hb dX2_takeTurn_21 (by decide) (fun c2 => hl1.elim (fun q => absurd q c1) (fun q => absurd q c2)) (fun c2 => ?_)
      replace c2 : (x 3 j) = nI 0 := c2
      refine lv_aload_n hx hb dX2_takeTurn_24 rfl (lv_at hl 1 rfl) ?_
      refine lv_aload_n hx hb dX2_takeTurn_25 rfl (lv_at hl 2 rfl) ?_
      refine h_callv (As := [.ref (eVad E i)]) (rest := []) ⟨hx, hb, hml, hown, hts⟩ (c_X2_loseTurn l D E tl x i hi) (cwV 1 hts gX2_takeTurn_X2_loseTurn rfl rfl rfl (by decide +kernel) ⟨Nat.le_of_ble_eq_true rfl, Nat.le_of_ble_eq_true rfl⟩) (c_recv hK hP) hK hX hP hD hS hA rfl hl.1 rfl (Nat.le_of_ble_eq_true rfl) dX2_takeTurn_26 ⟨Nat.le_of_ble_eq_true rfl, Nat.le_of_ble_eq_true rfl⟩ (fun u_11 H locs hw hP hD hS => ?_)
      rw [hw] at hP hD
      exact W.vret hx hb hr (fun t ht hW => ⟨⟨cLose x i, rfl, rfl, by rw [ht]; exact hP, va_K.moved hW.alike hK, hD⟩, hS.F ht⟩) hS.2.2 dX2_takeTurn_29
  · obtain rfl := hs
    refine lv_aload_n hx hb dX2_takeTurn_0 rfl (lv_at hl 1 rfl) ?_
    refine c_getV hx hb hts hinV hown hK hP (by omega) 8 (by decide) k106 rfl rfl dX2_takeTurn_1 ?_
    refine q_topv (v' := .ref (ePad E j)) (by rw [h12, tpO_s E hj]; rfl) ?_
    refine lv_astore_n (lv' := [(2, .ref (ePad E j)), (0, .ref (eO E)), (1, .ref (eVad E i))]) hx hb dX2_takeTurn_4 rfl hl (by decide) rfl (fun ls hl => ?_)
    refine lv_aload_n hx hb dX2_takeTurn_5 rfl (lv_at hl 2 rfl) ?_
    refine c_getV hx hb hts hinV hown hK hP (by omega) 2 (by decide) k138 rfl rfl dX2_takeTurn_6 ?_
    refine lv_iconst (v := nI 2) hx hb dX2_takeTurn_9 (by decide) ?_
    refine lv_icmp_eq (tgt := 24) hx hb dX2_takeTurn_10 (by decide) (fun c1 => absurd c1 h6) (fun c1 => ?_)
    refine lv_aload_n hx hb dX2_takeTurn_13 rfl (lv_at hl 0 rfl) ?_
    refine lv_ifnull hx hb dX2_takeTurn_14 ?_
    refine lv_aload_n hx hb dX2_takeTurn_17 rfl (lv_at hl 0 rfl) ?_
    refine c_getP hx hb hts hinP hown hK hP (by omega) 3 (by decide) k46 rfl rfl dX2_takeTurn_18 ?_
    refine lv_if_ne (tgt := 30) hx hb dX2_takeTurn_21 (by decide) (fun c2 => ?_) (fun c2 => absurd c2 h3)
    replace c2 : ¬ (x 3 j) = nI 0 := c2
    refine lv_aload_n hx hb dX2_takeTurn_30 rfl (lv_at hl 2 rfl) ?_
    refine c_getV hx hb hts hinV hown hK hP (by omega) 2 (by decide) k138 rfl rfl dX2_takeTurn_31 ?_
    refine lv_iconst (v := nI 1) hx hb dX2_takeTurn_34 (by decide) ?_
    rcases he with ⟨h61, he⟩ | ⟨h61, he⟩
    · obtain rfl := he
      refine lv_icmp_ne (tgt := 43) hx hb dX2_takeTurn_35 (by decide) (fun c3 => absurd h61 c3) (fun c3 => ?_)
      refine lv_aload_n hx hb dX2_takeTurn_38 rfl (lv_at hl 1 rfl) ?_
      refine lv_aload_n hx hb dX2_takeTurn_39 rfl (lv_at hl 2 rfl) ?_
      refine h_callv (As := [.ref (eVad E i)]) (rest := []) ⟨hx, hb, hml, hown, hts⟩ (c_X2_leaveQueue l D E tl x i hi) (cwV 1 hts gX2_takeTurn_X2_leaveQueue rfl rfl rfl (by decide +kernel) ⟨Nat.le_of_ble_eq_true rfl, Nat.le_of_ble_eq_true rfl⟩) (c_recv hK hP) hK hX hP hD hS hA rfl hl.1 rfl (Nat.le_of_ble_eq_true rfl) dX2_takeTurn_40 ⟨Nat.le_of_ble_eq_true rfl, Nat.le_of_ble_eq_true rfl⟩ (fun u_14 H locs hw hP hD hS => ?_)
      rw [hw] at hP hD
      refine lv_aload_n hx hb dX2_takeTurn_43 rfl (lv_at hl 1 rfl) ?_
      refine lv_aload_n hx hb dX2_takeTurn_44 rfl (lv_at hl 2 rfl) ?_
      refine lv_aload_n hx hb dX2_takeTurn_45 rfl (lv_at hl 0 rfl) ?_
      refine lv_aload_n hx hb dX2_takeTurn_46 rfl (lv_at hl 1 rfl) ?_
      refine lv_aload_n hx hb dX2_takeTurn_47 rfl (lv_at hl 0 rfl) ?_
      refine h_calli (As := [.ref (ePad E j)]) (rest := [.ref (ePad E j), .ref (eVad E i), .ref (eO E)]) ⟨hx, hb, hml, hown, hts⟩ (c_X2_countByTurn l D E tl (cLeave x i) j hj) (cwV 1 hts gX2_takeTurn_X2_countByTurn rfl rfl rfl (by decide +kernel) ⟨Nat.le_of_ble_eq_true rfl, Nat.le_of_ble_eq_true rfl⟩) (c_recv hK hP) hK hX hP hD hS hA rfl hl.1 rfl (Nat.le_of_ble_eq_true rfl) dX2_takeTurn_48 ⟨Nat.le_of_ble_eq_true rfl, Nat.le_of_ble_eq_true rfl⟩ (fun r_18 u_17 H locs hw hP hD hS => ?_)
      obtain ⟨hr_18, hu_17⟩ := hw
      rw [hu_17] at hP hD
      refine q_top (x' := (nI (cBt (cLeave x i) j 8))) hr_18 ?_
      refine h_callv (As := [.ref (eVad E i), .ref (ePad E j), .int (nI (cBt (cLeave x i) j 8))]) (rest := []) ⟨hx, hb, hml, hown, hts⟩ (c_X2_joinQueue l D E tl (cLeave x i) i j (nI (cBt (cLeave x i) j 8)) hi hj) (cwV 3 hts gX2_takeTurn_X2_joinQueue rfl rfl rfl (by decide +kernel) ⟨Nat.le_of_ble_eq_true rfl, Nat.le_of_ble_eq_true rfl⟩) (c_recv hK hP) hK hX hP hD hS hA rfl hl.1 rfl (Nat.le_of_ble_eq_true rfl) dX2_takeTurn_51 ⟨Nat.le_of_ble_eq_true rfl, Nat.le_of_ble_eq_true rfl⟩ (fun u_20 H locs hw hP hD hS => ?_)
      rw [hw] at hP hD
      refine lv_aload_n hx hb dX2_takeTurn_54 rfl (lv_at hl 2 rfl) ?_
      refine lv_iconst (v := nI 1) hx hb dX2_takeTurn_55 (by decide) ?_
      refine c_putV hx hb hts hinV hown hK hP hD hS (i := i) (by omega) 9 13 (by decide) (cW_setV13 E (cJoin (cLeave x i) i j (nI (cBt (cLeave x i) j 8))) _ (by omega)) k91 rfl rfl (ty := .boolean) (by decide +kernel) rfl rfl dX2_takeTurn_56 (fun H locs hP hD hS => ?_)
      exact W.vret hx hb hr (fun t ht hW => ⟨⟨up2 (cJoin (cLeave x i) i j (nI (cBt (cLeave x i) j 8))) 13 i (nI 1), rfl, rfl, by rw [ht]; exact hP, va_K.moved hW.alike hK, hD⟩, hS.F ht⟩) hS.2.2 dX2_takeTurn_59
    · obtain rfl := he
      refine lv_icmp_ne (tgt := 43) hx hb dX2_takeTurn_35 (by decide) (fun c3 => ?_) (fun c3 => absurd c3 h61)
      refine lv_aload_n hx hb dX2_takeTurn_43 rfl (lv_at hl 1 rfl) ?_
      refine lv_aload_n hx hb dX2_takeTurn_44 rfl (lv_at hl 2 rfl) ?_
      refine lv_aload_n hx hb dX2_takeTurn_45 rfl (lv_at hl 0 rfl) ?_
      refine lv_aload_n hx hb dX2_takeTurn_46 rfl (lv_at hl 1 rfl) ?_
      refine lv_aload_n hx hb dX2_takeTurn_47 rfl (lv_at hl 0 rfl) ?_
      refine h_calli (As := [.ref (ePad E j)]) (rest := [.ref (ePad E j), .ref (eVad E i), .ref (eO E)]) ⟨hx, hb, hml, hown, hts⟩ (c_X2_countByTurn l D E tl x2 j hj) (cwV 1 hts gX2_takeTurn_X2_countByTurn rfl rfl rfl (by decide +kernel) ⟨Nat.le_of_ble_eq_true rfl, Nat.le_of_ble_eq_true rfl⟩) (c_recv hK hP) hK hX hP hD hS hA rfl hl.1 rfl (Nat.le_of_ble_eq_true rfl) dX2_takeTurn_48 ⟨Nat.le_of_ble_eq_true rfl, Nat.le_of_ble_eq_true rfl⟩ (fun r_24 u_23 H locs hw hP hD hS => ?_)
      obtain ⟨hr_24, hu_23⟩ := hw
      rw [hu_23] at hP hD
      refine q_top (x' := (nI (cBt x2 j 8))) hr_24 ?_
      refine h_callv (As := [.ref (eVad E i), .ref (ePad E j), .int (nI (cBt x2 j 8))]) (rest := []) ⟨hx, hb, hml, hown, hts⟩ (c_X2_joinQueue l D E tl x2 i j (nI (cBt x2 j 8)) hi hj) (cwV 3 hts gX2_takeTurn_X2_joinQueue rfl rfl rfl (by decide +kernel) ⟨Nat.le_of_ble_eq_true rfl, Nat.le_of_ble_eq_true rfl⟩) (c_recv hK hP) hK hX hP hD hS hA rfl hl.1 rfl (Nat.le_of_ble_eq_true rfl) dX2_takeTurn_51 ⟨Nat.le_of_ble_eq_true rfl, Nat.le_of_ble_eq_true rfl⟩ (fun u_26 H locs hw hP hD hS => ?_)
      rw [hw] at hP hD
      refine lv_aload_n hx hb dX2_takeTurn_54 rfl (lv_at hl 2 rfl) ?_
      refine lv_iconst (v := nI 1) hx hb dX2_takeTurn_55 (by decide) ?_
      refine c_putV hx hb hts hinV hown hK hP hD hS (i := i) (by omega) 9 13 (by decide) (cW_setV13 E (cJoin x2 i j (nI (cBt x2 j 8))) _ (by omega)) k91 rfl rfl (ty := .boolean) (by decide +kernel) rfl rfl dX2_takeTurn_56 (fun H locs hP hD hS => ?_)
      exact W.vret hx hb hr (fun t ht hW => ⟨⟨up2 (cJoin x2 i j (nI (cBt x2 j 8))) 13 i (nI 1), rfl, rfl, by rw [ht]; exact hP, va_K.moved hW.alike hK, hD⟩, hS.F ht⟩) hS.2.2 dX2_takeTurn_59

set_option maxHeartbeats 4000000 in
set_option maxRecDepth 100000 in
theorem c_X2_takeTurns (l : Launch) (D : va_G) (E : cE) (tl : gTy) (x : Nat → Nat → Int32) (x1 : Nat → Nat → Int32) (hlt : cTTs 8 0 x x1)  : hV l yX2_takeTurns wsX2_takeTurns ({ frames := 3, cells := 0, slots := 0, locals := 72 } : Room) D E tl (cW E x) [.ref (eO E)] (fun u : Nat → Nat → Int32 => u = x1) (cW E) 0 0 := by
  refine hM.start (cc := cX2_takeTurns) (maxL := 5) (ret := none) (own := RX2) rfl (by decide) rfl (Nat.le_of_ble_eq_true rfl) ?_
  intro pr e s m args below meth c A ls H locs hx hb hml hr hts hown hlocks hname hA hK hX hP hD hS hl
  replace hl : lv_has ls 5 [(0, .ref (eO E))] := hl
  have hinO : ∀ w ∈ wsX20, w ∈ wsX2_takeTurns := by decide +kernel
  have hinV : ∀ w ∈ wsX10, w ∈ wsX2_takeTurns := by decide +kernel
  have k17 := hts (.fieldLink RX2 17 "FairFolio" "visitors" "[LFairFolio$Visitor;") (by decide +kernel)
  have k98 := va_Nw.use (A := args) rfl (hX.1 (.fieldLinkNest RX2 98 "FairFolio$Visitor" "turnMinute" "I" "FairFolio") (by decide +kernel))
  have k21 := hts (.fieldLink RX2 21 "FairFolio" "now" "I") (by decide +kernel)
  refine lv_aload_n hx hb dX2_takeTurns_0 rfl (lv_at hl 0 rfl) ?_
  refine c_getO hx hb hts hinO hown hK hP 1 (by decide) k17 rfl rfl dX2_takeTurns_1 ?_
  refine lv_astore_n (lv' := [(1, .ref (eVa E)), (0, .ref (eO E))]) hx hb dX2_takeTurns_4 rfl hl (by decide) rfl (fun ls hl => ?_)
  refine lv_aload_n hx hb dX2_takeTurns_5 rfl (lv_at hl 0 rfl) ?_
  refine c_vlen hx hb hK hP dX2_takeTurns_6 ?_
  refine lv_istore_n (lv' := [(2, .int (nI 8)), (1, .ref (eVa E)), (0, .ref (eO E))]) hx hb dX2_takeTurns_7 rfl hl (by decide) rfl (fun ls hl => ?_)
  refine lv_iconst (v := nI 0) hx hb dX2_takeTurns_8 (by decide) ?_
  refine lv_istore_n (lv' := [(3, .int (nI 0)), (2, .int (nI 8)), (1, .ref (eVa E)), (0, .ref (eO E))]) hx hb dX2_takeTurns_9 rfl hl (by decide) rfl (fun ls hl => ?_)
  obtain ⟨z, hz⟩ : ∃ z, z = x := ⟨_, rfl⟩
  rw [← hz] at hP hD hlt
  clear hz
  obtain ⟨k, hk⟩ : ∃ k : Nat, k = 0 := ⟨_, rfl⟩
  obtain ⟨nn, hn⟩ : ∃ nn : Nat, nn = 8 := ⟨_, rfl⟩
  replace hl : lv_has ls 5 [(3, .int (nI k)), (2, .int (nI 8)), (1, .ref (eVa E)), (0, .ref (eO E))] := by rw [hk]; exact hl
  rw [← hk, ← hn] at hlt
  replace hn : k + nn = 8 := by omega
  clear hk
  induction nn generalizing z k H locs ls with
  | zero =>
    obtain rfl := hlt
    obtain rfl : k = 8 := by omega
    refine lv_iload_n hx hb dX2_takeTurns_10 rfl (lv_at hl 0 rfl) ?_
    refine lv_iload_n hx hb dX2_takeTurns_11 rfl (lv_at hl 1 rfl) ?_
    refine q_icmp_ge (tgt := 44) hx hb (by omega) (by omega) dX2_takeTurns_12 (by decide) (fun c1 => ?_) (fun c1 => absurd c1 (by omega))
    exact W.vret hx hb hr (fun t ht hW => ⟨⟨x1, rfl, rfl, by rw [ht]; exact hP, va_K.moved hW.alike hK, hD⟩, hS.F ht⟩) hS.2.2 dX2_takeTurns_44
  | succ nn ih =>
    obtain ⟨z1, hs, hlt⟩ := hlt
    refine lv_iload_n hx hb dX2_takeTurns_10 rfl (lv_at hl 0 rfl) ?_
    refine lv_iload_n hx hb dX2_takeTurns_11 rfl (lv_at hl 1 rfl) ?_
    refine q_icmp_ge (tgt := 44) hx hb (by omega) (by omega) dX2_takeTurns_12 (by decide) (fun c1 => absurd c1 (by omega)) (fun c1 => ?_)
    refine lv_aload_n hx hb dX2_takeTurns_15 rfl (lv_at hl 2 rfl) ?_
    refine lv_iload_n hx hb dX2_takeTurns_16 rfl (lv_at hl 0 rfl) ?_
    refine c_vald hx hb hK hP (by omega) dX2_takeTurns_17 ?_
    refine lv_astore (lv' := [(4, .ref (eVad E k)), (3, .int (nI k)), (2, .int (nI 8)), (1, .ref (eVa E)), (0, .ref (eO E))]) hx hb dX2_takeTurns_18 hl (by decide) rfl (fun ls hl => ?_)
    refine lv_aload hx hb dX2_takeTurns_20 (lv_at hl 0 rfl) ?_
    refine c_getV hx hb hts hinV hown hK hP (by omega) 7 (by decide) k98 rfl rfl dX2_takeTurns_22 ?_
    refine lv_aload_n hx hb dX2_takeTurns_25 rfl (lv_at hl 4 rfl) ?_
    refine c_getO hx hb hts hinO hown hK hP 2 (by decide) k21 rfl rfl dX2_takeTurns_26 ?_
    rcases hs with ⟨h3, hs⟩ | ⟨h3, hs⟩
    · obtain rfl := hs
      refine lv_icmp_ne (tgt := 38) hx hb dX2_takeTurns_29 (by decide) (fun c2 => ?_) (fun c2 => absurd c2 h3)
      refine q_inc (k := 1) (lv' := [(3, .int (nI (k + 1))), (4, .ref (eVad E k)), (2, .int (nI 8)), (1, .ref (eVa E)), (0, .ref (eO E))]) hx hb dX2_takeTurns_38 hl rfl (by decide) rfl (fun ls hl => ?_)
      refine lv_goto (tgt := 10) hx hb dX2_takeTurns_41 (by decide) ?_
      replace hl : lv_has ls 5 [(3, .int (nI (k + 1))), (2, .int (nI 8)), (1, .ref (eVa E)), (0, .ref (eO E))] := lv_sub hl [0, 2, 3, 4] rfl
      exact ih (k := k + 1) (H := H) (locs := locs) (ls := ls) (hP := hP) (hD := hD) (hS := hS) (hl := hl) (hn := by omega) (hlt := hlt)
    · refine lv_icmp_ne (tgt := 38) hx hb dX2_takeTurns_29 (by decide) (fun c2 => absurd h3 c2) (fun c2 => ?_)
      refine lv_aload_n hx hb dX2_takeTurns_32 rfl (lv_at hl 4 rfl) ?_
      refine lv_aload hx hb dX2_takeTurns_33 (lv_at hl 0 rfl) ?_
      refine h_callv (As := [.ref (eVad E k)]) (rest := []) ⟨hx, hb, hml, hown, hts⟩ (c_X2_takeTurn l D E tl z k z1 (by omega) hs) (cwV 1 hts gX2_takeTurns_X2_takeTurn rfl rfl rfl (by decide +kernel) ⟨Nat.le_of_ble_eq_true rfl, Nat.le_of_ble_eq_true rfl⟩) (c_recv hK hP) hK hX hP hD hS hA rfl hl.1 rfl (Nat.le_of_ble_eq_true rfl) dX2_takeTurns_35 ⟨Nat.le_of_ble_eq_true rfl, Nat.le_of_ble_eq_true rfl⟩ (fun u_2 H locs hw hP hD hS => ?_)
      rw [hw] at hP hD
      refine q_inc (k := 1) (lv' := [(3, .int (nI (k + 1))), (4, .ref (eVad E k)), (2, .int (nI 8)), (1, .ref (eVa E)), (0, .ref (eO E))]) hx hb dX2_takeTurns_38 hl rfl (by decide) rfl (fun ls hl => ?_)
      refine lv_goto (tgt := 10) hx hb dX2_takeTurns_41 (by decide) ?_
      replace hl : lv_has ls 5 [(3, .int (nI (k + 1))), (2, .int (nI 8)), (1, .ref (eVa E)), (0, .ref (eO E))] := lv_sub hl [0, 2, 3, 4] rfl
      exact ih (k := k + 1) (H := H) (locs := locs) (ls := ls) (hP := hP) (hD := hD) (hS := hS) (hl := hl) (hn := by omega) (z := z1) (hlt := hlt)

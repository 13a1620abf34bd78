set_option maxHeartbeats 4000000 in
set_option maxRecDepth 100000 in
theorem c_X2_isAt (l : Launch) (D : va_G) (E : cE) (tl : gTy) (x : Nat → Nat → Int32) (i j : Nat) (st : Int32) (hi : i < 8) (hj : j < 6)  : hI l yX2_isAt wsX2_isAt ({ frames := 0, cells := 0, slots := 0, locals := 0 } : Room) D E tl (cW E x) [.ref (eO E), .ref (eVad E i), .int st, .ref (ePad E j)] (fun (r : Int32) (u : Nat → Nat → Int32) => r = nI (cAt x i st j) ∧ u = x) (cW E) 0 0 := by
  refine hM.start (cc := cX2_isAt) (maxL := 4) (ret := (some .boolean)) (own := RX2) rfl (by decide) rfl (Nat.le_of_ble_eq_true rfl) ?_
  intro pr e s m args below meth c A ls H locs hx hb hml hr hts hown hlocks hname hA hK hX hP hD hS hl
  replace hl : lv_has ls 4 [(0, .ref (eO E)), (1, .ref (eVad E i)), (2, .int st), (3, .ref (ePad E j))] := hl
  have hinP : ∀ w ∈ wsX00, w ∈ wsX2_isAt := by decide +kernel
  have hinV : ∀ w ∈ wsX10, w ∈ wsX2_isAt := by decide +kernel
  have k138 := va_Nw.use (A := args) rfl (hX.1 (.fieldLinkNest RX2 138 "FairFolio$Visitor" "state" "I" "FairFolio") (by decide +kernel))
  have k141 := va_Nw.use (A := args) rfl (hX.1 (.fieldLinkNest RX2 141 "FairFolio$Visitor" "where" "I" "FairFolio") (by decide +kernel))
  have k133 := va_Nw.use (A := args) rfl (hX.1 (.fieldLinkNest RX2 133 "FairFolio$Pavilion" "number" "I" "FairFolio") (by decide +kernel))
  refine lv_aload_n hx hb dX2_isAt_0 rfl (lv_at hl 1 rfl) ?_
  refine c_getV hx hb hts hinV hown hK hP (by omega) 2 (by decide) k138 rfl rfl dX2_isAt_1 ?_
  refine lv_iload_n hx hb dX2_isAt_4 rfl (lv_at hl 2 rfl) ?_
  refine lv_icmp_ne (tgt := 23) hx hb dX2_isAt_5 (by decide) (fun c1 => ?_) (fun c1 => ?_)
  · refine lv_iconst (v := nI 0) hx hb dX2_isAt_23 (by decide) ?_
    refine q_top (x' := (nI (cAt x i st j))) (by rw [cAt, if_neg (fun q => c1 q.1)]) ?_
    exact W.zret (ty := .boolean) hx hb hr (by rw [cAt, if_neg (fun q => c1 q.1)]; decide) (fun t ht hW => ⟨⟨_, x, rfl, ⟨rfl, rfl⟩, by rw [ht]; exact hP, va_K.moved hW.alike hK, hD⟩, hS.F ht⟩) hS.2.2 dX2_isAt_24
  · refine lv_aload_n hx hb dX2_isAt_8 rfl (lv_at hl 1 rfl) ?_
    refine c_getV hx hb hts hinV hown hK hP (by omega) 3 (by decide) k141 rfl rfl dX2_isAt_9 ?_
    refine lv_aload_n hx hb dX2_isAt_12 rfl (lv_at hl 3 rfl) ?_
    refine c_getP hx hb hts hinP hown hK hP (by omega) 0 (by decide) k133 rfl rfl dX2_isAt_13 ?_
    refine lv_icmp_ne (tgt := 23) hx hb dX2_isAt_16 (by decide) (fun c2 => ?_) (fun c2 => ?_)
    · refine lv_iconst (v := nI 0) hx hb dX2_isAt_23 (by decide) ?_
      refine q_top (x' := (nI (cAt x i st j))) (by rw [cAt, if_neg (fun q => c2 q.2)]) ?_
      exact W.zret (ty := .boolean) hx hb hr (by rw [cAt, if_neg (fun q => c2 q.2)]; decide) (fun t ht hW => ⟨⟨_, x, rfl, ⟨rfl, rfl⟩, by rw [ht]; exact hP, va_K.moved hW.alike hK, hD⟩, hS.F ht⟩) hS.2.2 dX2_isAt_24
    · refine lv_iconst (v := nI 1) hx hb dX2_isAt_19 (by decide) ?_
      refine lv_goto (tgt := 24) hx hb dX2_isAt_20 (by decide) ?_
      refine q_top (x' := (nI (cAt x i st j))) (by rw [cAt, if_pos ⟨c1, c2⟩]) ?_
      exact W.zret (ty := .boolean) hx hb hr (by rw [cAt, if_pos ⟨c1, c2⟩]; decide) (fun t ht hW => ⟨⟨_, x, rfl, ⟨rfl, rfl⟩, by rw [ht]; exact hP, va_K.moved hW.alike hK, hD⟩, hS.F ht⟩) hS.2.2 dX2_isAt_24

set_option maxHeartbeats 4000000 in
set_option maxRecDepth 100000 in
theorem c_X2_hasStamp (l : Launch) (D : va_G) (E : cE) (tl : gTy) (x : Nat → Nat → Int32) (i j : Nat) (hi : i < 8) (hj : j < 6)  : hI l yX2_hasStamp wsX2_hasStamp ({ frames := 0, cells := 0, slots := 0, locals := 0 } : Room) D E tl (cW E x) [.ref (eO E), .ref (eVad E i), .ref (ePad E j)] (fun (r : Int32) (u : Nat → Nat → Int32) => r = nI (cHas x i j) ∧ u = x) (cW E) 0 0 := by
  refine hM.start (cc := cX2_hasStamp) (maxL := 3) (ret := (some .boolean)) (own := RX2) rfl (by decide) rfl (Nat.le_of_ble_eq_true rfl) ?_
  intro pr e s m args below meth c A ls H locs hx hb hml hr hts hown hlocks hname hA hK hX hP hD hS hl
  replace hl : lv_has ls 3 [(0, .ref (eO E)), (1, .ref (eVad E i)), (2, .ref (ePad E j))] := hl
  have hinP : ∀ w ∈ wsX00, w ∈ wsX2_hasStamp := by decide +kernel
  have hinV : ∀ w ∈ wsX10, w ∈ wsX2_hasStamp := by decide +kernel
  have k147 := va_Nw.use (A := args) rfl (hX.1 (.fieldLinkNest RX2 147 "FairFolio$Visitor" "stamps" "I" "FairFolio") (by decide +kernel))
  have k133 := va_Nw.use (A := args) rfl (hX.1 (.fieldLinkNest RX2 133 "FairFolio$Pavilion" "number" "I" "FairFolio") (by decide +kernel))
  refine lv_aload_n hx hb dX2_hasStamp_0 rfl (lv_at hl 1 rfl) ?_
  refine c_getV hx hb hts hinV hown hK hP (by omega) 6 (by decide) k147 rfl rfl dX2_hasStamp_1 ?_
  refine lv_iconst (v := nI 1) hx hb dX2_hasStamp_4 (by decide) ?_
  refine lv_aload_n hx hb dX2_hasStamp_5 rfl (lv_at hl 2 rfl) ?_
  refine c_getP hx hb hts hinP hown hK hP (by omega) 0 (by decide) k133 rfl rfl dX2_hasStamp_6 ?_
  refine lv_ishl hx hb dX2_hasStamp_9 ?_
  refine lv_iand hx hb dX2_hasStamp_10 ?_
  refine lv_if_eq (tgt := 18) hx hb dX2_hasStamp_11 (by decide) (fun c1 => ?_) (fun c1 => ?_)
  · replace c1 : ((x 10 i) &&& ((nI 1) <<< ((nI j) &&& 31))) = nI 0 := c1
    refine lv_iconst (v := nI 0) hx hb dX2_hasStamp_18 (by decide) ?_
    refine q_top (x' := (nI (cHas x i j))) (by rw [cHas, if_pos c1]) ?_
    exact W.zret (ty := .boolean) hx hb hr (by rw [cHas, if_pos c1]; decide) (fun t ht hW => ⟨⟨_, x, rfl, ⟨rfl, rfl⟩, by rw [ht]; exact hP, va_K.moved hW.alike hK, hD⟩, hS.F ht⟩) hS.2.2 dX2_hasStamp_19
  · replace c1 : ¬ ((x 10 i) &&& ((nI 1) <<< ((nI j) &&& 31))) = nI 0 := c1
    refine lv_iconst (v := nI 1) hx hb dX2_hasStamp_14 (by decide) ?_
    refine lv_goto (tgt := 19) hx hb dX2_hasStamp_15 (by decide) ?_
    refine q_top (x' := (nI (cHas x i j))) (by rw [cHas, if_neg c1]) ?_
    exact W.zret (ty := .boolean) hx hb hr (by rw [cHas, if_neg c1]; decide) (fun t ht hW => ⟨⟨_, x, rfl, ⟨rfl, rfl⟩, by rw [ht]; exact hP, va_K.moved hW.alike hK, hD⟩, hS.F ht⟩) hS.2.2 dX2_hasStamp_19

set_option maxHeartbeats 4000000 in
set_option maxRecDepth 100000 in
theorem c_X2_countAt (l : Launch) (D : va_G) (E : cE) (tl : gTy) (x : Nat → Nat → Int32) (j : Nat) (st : Int32) (hj : j < 6)  : hI l yX2_countAt wsX2_countAt ({ frames := 1, cells := 0, slots := 0, locals := 23 } : Room) D E tl (cW E x) [.ref (eO E), .int st, .ref (ePad E j)] (fun (r : Int32) (u : Nat → Nat → Int32) => r = nI (cCnt x st j 8) ∧ u = x) (cW E) 0 0 := by
  refine hM.start (cc := cX2_countAt) (maxL := 8) (ret := (some .int)) (own := RX2) rfl (by decide) rfl (Nat.le_of_ble_eq_true rfl) ?_
  intro pr e s m args below meth c A ls H locs hx hb hml hr hts hown hlocks hname hA hK hX hP hD hS hl
  replace hl : lv_has ls 8 [(0, .ref (eO E)), (1, .int st), (2, .ref (ePad E j))] := hl
  have hinO : ∀ w ∈ wsX20, w ∈ wsX2_countAt := by decide +kernel
  have k17 := hts (.fieldLink RX2 17 "FairFolio" "visitors" "[LFairFolio$Visitor;") (by decide +kernel)
  refine lv_iconst (v := nI 0) hx hb dX2_countAt_0 (by decide) ?_
  refine lv_istore_n (lv' := [(3, .int (nI 0)), (0, .ref (eO E)), (1, .int st), (2, .ref (ePad E j))]) hx hb dX2_countAt_1 rfl hl (by decide) rfl (fun ls hl => ?_)
  refine lv_aload_n hx hb dX2_countAt_2 rfl (lv_at hl 1 rfl) ?_
  refine c_getO hx hb hts hinO hown hK hP 1 (by decide) k17 rfl rfl dX2_countAt_3 ?_
  refine lv_astore (lv' := [(4, .ref (eVa E)), (3, .int (nI 0)), (0, .ref (eO E)), (1, .int st), (2, .ref (ePad E j))]) hx hb dX2_countAt_6 hl (by decide) rfl (fun ls hl => ?_)
  refine lv_aload hx hb dX2_countAt_8 (lv_at hl 0 rfl) ?_
  refine c_vlen hx hb hK hP dX2_countAt_10 ?_
  refine lv_istore (lv' := [(5, .int (nI 8)), (4, .ref (eVa E)), (3, .int (nI 0)), (0, .ref (eO E)), (1, .int st), (2, .ref (ePad E j))]) hx hb dX2_countAt_11 hl (by decide) rfl (fun ls hl => ?_)
  refine lv_iconst (v := nI 0) hx hb dX2_countAt_13 (by decide) ?_
  refine lv_istore (lv' := [(6, .int (nI 0)), (5, .int (nI 8)), (4, .ref (eVa E)), (3, .int (nI 0)), (0, .ref (eO E)), (1, .int st), (2, .ref (ePad E j))]) hx hb dX2_countAt_14 hl (by decide) rfl (fun ls hl => ?_)
  obtain ⟨k, hk⟩ : ∃ k : Nat, k = 0 := ⟨_, rfl⟩
  obtain ⟨nn, hn⟩ : ∃ nn : Nat, nn = 8 := ⟨_, rfl⟩
  replace hl : lv_has ls 8 [(6, .int (nI k)), (5, .int (nI 8)), (4, .ref (eVa E)), (3, .int (nI (cCnt x st j k))), (0, .ref (eO E)), (1, .int st), (2, .ref (ePad E j))] := by rw [hk]; exact hl
  replace hn : k + nn = 8 := by omega
  clear hk
  induction nn generalizing k H locs ls with
  | zero =>
    obtain rfl : k = 8 := by omega
    refine lv_iload hx hb dX2_countAt_16 (lv_at hl 0 rfl) ?_
    refine lv_iload hx hb dX2_countAt_18 (lv_at hl 1 rfl) ?_
    refine q_icmp_ge (tgt := 50) hx hb (by omega) (by omega) dX2_countAt_20 (by decide) (fun c1 => ?_) (fun c1 => absurd c1 (by omega))
    refine lv_iload_n hx hb dX2_countAt_50 rfl (lv_at hl 3 rfl) ?_
    exact W.iret hx hb hr (fun t ht hW => ⟨⟨_, x, rfl, ⟨rfl, rfl⟩, by rw [ht]; exact hP, va_K.moved hW.alike hK, hD⟩, hS.F ht⟩) hS.2.2 dX2_countAt_51
  | succ nn ih =>
    refine lv_iload hx hb dX2_countAt_16 (lv_at hl 0 rfl) ?_
    refine lv_iload hx hb dX2_countAt_18 (lv_at hl 1 rfl) ?_
    refine q_icmp_ge (tgt := 50) hx hb (by omega) (by omega) dX2_countAt_20 (by decide) (fun c1 => absurd c1 (by omega)) (fun c1 => ?_)
    refine lv_aload hx hb dX2_countAt_23 (lv_at hl 2 rfl) ?_
    refine lv_iload hx hb dX2_countAt_25 (lv_at hl 0 rfl) ?_
    refine c_vald hx hb hK hP (by omega) dX2_countAt_27 ?_
    refine lv_astore (lv' := [(7, .ref (eVad E k)), (6, .int (nI k)), (5, .int (nI 8)), (4, .ref (eVa E)), (3, .int (nI (cCnt x st j k))), (0, .ref (eO E)), (1, .int st), (2, .ref (ePad E j))]) hx hb dX2_countAt_28 hl (by decide) rfl (fun ls hl => ?_)
    refine lv_aload_n hx hb dX2_countAt_30 rfl (lv_at hl 5 rfl) ?_
    refine lv_aload hx hb dX2_countAt_31 (lv_at hl 0 rfl) ?_
    refine lv_iload_n hx hb dX2_countAt_33 rfl (lv_at hl 6 rfl) ?_
    refine lv_aload_n hx hb dX2_countAt_34 rfl (lv_at hl 7 rfl) ?_
    refine h_calli (As := [.ref (eVad E k), .int st, .ref (ePad E j)]) (rest := []) ⟨hx, hb, hml, hown, hts⟩ (c_X2_isAt l D E tl x k j st (by omega) hj) (cwV 3 hts gX2_countAt_X2_isAt rfl rfl rfl (by decide +kernel) ⟨Nat.le_of_ble_eq_true rfl, Nat.le_of_ble_eq_true rfl⟩) (c_recv hK hP) hK hX hP hD hS hA rfl hl.1 rfl (Nat.le_of_ble_eq_true rfl) dX2_countAt_35 ⟨Nat.le_of_ble_eq_true rfl, Nat.le_of_ble_eq_true rfl⟩ (fun r_3 u_2 H locs hw hP hD hS => ?_)
    obtain ⟨hr_3, hu_2⟩ := hw
    rw [hu_2] at hP hD
    refine q_top (x' := (nI (cAt x k st j))) hr_3 ?_
    refine q_if_eq (tgt := 44) hx hb (by have := cAt_01 x k st j; omega) dX2_countAt_38 (by decide) (fun c2 => ?_) (fun c2 => ?_)
    · replace hl : lv_has ls 8 [(7, .ref (eVad E k)), (6, .int (nI k)), (5, .int (nI 8)), (4, .ref (eVa E)), (3, .int (nI (cCnt x st j (k + 1)))), (0, .ref (eO E)), (1, .int st), (2, .ref (ePad E j))] := by rw [show cCnt x st j (k + 1) = cCnt x st j k by rw [cCnt, c2]; rfl]; exact hl
      refine q_inc (k := 1) (lv' := [(6, .int (nI (k + 1))), (7, .ref (eVad E k)), (5, .int (nI 8)), (4, .ref (eVa E)), (3, .int (nI (cCnt x st j (k + 1)))), (0, .ref (eO E)), (1, .int st), (2, .ref (ePad E j))]) hx hb dX2_countAt_44 hl rfl (by decide) rfl (fun ls hl => ?_)
      refine lv_goto (tgt := 16) hx hb dX2_countAt_47 (by decide) ?_
      replace hl : lv_has ls 8 [(6, .int (nI (k + 1))), (5, .int (nI 8)), (4, .ref (eVa E)), (3, .int (nI (cCnt x st j (k + 1)))), (0, .ref (eO E)), (1, .int st), (2, .ref (ePad E j))] := lv_sub hl [0, 2, 3, 4, 5, 6, 7] rfl
      exact ih (k := k + 1) (H := H) (locs := locs) (ls := ls) (hP := hP) (hS := hS) (hl := hl) (hn := by omega)
    · refine q_inc (k := 4) (lv' := [(3, .int (nI (cCnt x st j k + 1))), (7, .ref (eVad E k)), (6, .int (nI k)), (5, .int (nI 8)), (4, .ref (eVa E)), (0, .ref (eO E)), (1, .int st), (2, .ref (ePad E j))]) hx hb dX2_countAt_41 hl rfl (by decide) rfl (fun ls hl => ?_)
      replace hl : lv_has ls 8 [(3, .int (nI (cCnt x st j (k + 1)))), (7, .ref (eVad E k)), (6, .int (nI k)), (5, .int (nI 8)), (4, .ref (eVa E)), (0, .ref (eO E)), (1, .int st), (2, .ref (ePad E j))] := by rw [show cCnt x st j (k + 1) = cCnt x st j k + 1 by rw [cCnt, (cAt_01 x k st j).resolve_left c2]]; exact hl
      refine q_inc (k := 2) (lv' := [(6, .int (nI (k + 1))), (3, .int (nI (cCnt x st j (k + 1)))), (7, .ref (eVad E k)), (5, .int (nI 8)), (4, .ref (eVa E)), (0, .ref (eO E)), (1, .int st), (2, .ref (ePad E j))]) hx hb dX2_countAt_44 hl rfl (by decide) rfl (fun ls hl => ?_)
      refine lv_goto (tgt := 16) hx hb dX2_countAt_47 (by decide) ?_
      replace hl : lv_has ls 8 [(6, .int (nI (k + 1))), (5, .int (nI 8)), (4, .ref (eVa E)), (3, .int (nI (cCnt x st j (k + 1)))), (0, .ref (eO E)), (1, .int st), (2, .ref (ePad E j))] := lv_sub hl [0, 3, 4, 1, 5, 6, 7] rfl
      exact ih (k := k + 1) (H := H) (locs := locs) (ls := ls) (hP := hP) (hS := hS) (hl := hl) (hn := by omega)

set_option maxHeartbeats 4000000 in
set_option maxRecDepth 100000 in
theorem c_X2_isTurnTaken (l : Launch) (D : va_G) (E : cE) (tl : gTy) (x : Nat → Nat → Int32) (j : Nat) (f : Int32) (hj : j < 6) (hok : cTOk x)  : hI l yX2_isTurnTaken wsX2_isTurnTaken ({ frames := 0, cells := 0, slots := 0, locals := 0 } : Room) D E tl (cW E x) [.ref (eO E), .ref (ePad E j), .int f] (fun (r : Int32) (u : Nat → Nat → Int32) => ((r = nI 1 ∧ cTk x j f) ∨ (r = nI 0 ∧ ¬ cTk x j f)) ∧ u = x) (cW E) 0 0 := by
  refine hM.start (cc := cX2_isTurnTaken) (maxL := 7) (ret := (some .boolean)) (own := RX2) rfl (by decide) rfl (Nat.le_of_ble_eq_true rfl) ?_
  intro pr e s m args below meth c A ls H locs hx hb hml hr hts hown hlocks hname hA hK hX hP hD hS hl
  replace hl : lv_has ls 7 [(0, .ref (eO E)), (1, .ref (ePad E j)), (2, .int f)] := hl
  have hinO : ∀ w ∈ wsX20, w ∈ wsX2_isTurnTaken := by decide +kernel
  have hinV : ∀ w ∈ wsX10, w ∈ wsX2_isTurnTaken := by decide +kernel
  have k17 := hts (.fieldLink RX2 17 "FairFolio" "visitors" "[LFairFolio$Visitor;") (by decide +kernel)
  have k106 := va_Nw.use (A := args) rfl (hX.1 (.fieldLinkNest RX2 106 "FairFolio$Visitor" "turnPavilion" "LFairFolio$Pavilion;" "FairFolio") (by decide +kernel))
  have k98 := va_Nw.use (A := args) rfl (hX.1 (.fieldLinkNest RX2 98 "FairFolio$Visitor" "turnMinute" "I" "FairFolio") (by decide +kernel))
  refine lv_aload_n hx hb dX2_isTurnTaken_0 rfl (lv_at hl 0 rfl) ?_
  refine c_getO hx hb hts hinO hown hK hP 1 (by decide) k17 rfl rfl dX2_isTurnTaken_1 ?_
  refine lv_astore_n (lv' := [(3, .ref (eVa E)), (0, .ref (eO E)), (1, .ref (ePad E j)), (2, .int f)]) hx hb dX2_isTurnTaken_4 rfl hl (by decide) rfl (fun ls hl => ?_)
  refine lv_aload_n hx hb dX2_isTurnTaken_5 rfl (lv_at hl 0 rfl) ?_
  refine c_vlen hx hb hK hP dX2_isTurnTaken_6 ?_
  refine lv_istore (lv' := [(4, .int (nI 8)), (3, .ref (eVa E)), (0, .ref (eO E)), (1, .ref (ePad E j)), (2, .int f)]) hx hb dX2_isTurnTaken_7 hl (by decide) rfl (fun ls hl => ?_)
  refine lv_iconst (v := nI 0) hx hb dX2_isTurnTaken_9 (by decide) ?_
  refine lv_istore (lv' := [(5, .int (nI 0)), (4, .int (nI 8)), (3, .ref (eVa E)), (0, .ref (eO E)), (1, .ref (ePad E j)), (2, .int f)]) hx hb dX2_isTurnTaken_10 hl (by decide) rfl (fun ls hl => ?_)
  obtain ⟨k, hk⟩ : ∃ k : Nat, k = 0 := ⟨_, rfl⟩
  obtain ⟨nn, hn⟩ : ∃ nn : Nat, nn = 8 := ⟨_, rfl⟩
  replace hl : lv_has ls 7 [(5, .int (nI k)), (4, .int (nI 8)), (3, .ref (eVa E)), (0, .ref (eO E)), (1, .ref (ePad E j)), (2, .int f)] := by rw [hk]; exact hl
  have hno : ∀ q, q < k → ¬ (x 12 q = nI j ∧ x 11 q = f) := fun q hq => absurd hq (by omega)
  replace hn : k + nn = 8 := by omega
  clear hk
  induction nn generalizing k H locs ls with
  | zero =>
    obtain rfl : k = 8 := by omega
    refine lv_iload hx hb dX2_isTurnTaken_12 (lv_at hl 0 rfl) ?_
    refine lv_iload hx hb dX2_isTurnTaken_14 (lv_at hl 1 rfl) ?_
    refine q_icmp_ge (tgt := 51) hx hb (by omega) (by omega) dX2_isTurnTaken_16 (by decide) (fun c1 => ?_) (fun c1 => absurd c1 (by omega))
    refine lv_iconst (v := nI 0) hx hb dX2_isTurnTaken_51 (by decide) ?_
    exact W.zret (ty := .boolean) hx hb hr (by decide) (fun t ht hW => ⟨⟨_, x, rfl, ⟨Or.inr ⟨rfl, fun ⟨q, hq, h9⟩ => hno q hq h9⟩, rfl⟩, by rw [ht]; exact hP, va_K.moved hW.alike hK, hD⟩, hS.F ht⟩) hS.2.2 dX2_isTurnTaken_52
  | succ nn ih =>
    refine lv_iload hx hb dX2_isTurnTaken_12 (lv_at hl 0 rfl) ?_
    refine lv_iload hx hb dX2_isTurnTaken_14 (lv_at hl 1 rfl) ?_
    refine q_icmp_ge (tgt := 51) hx hb (by omega) (by omega) dX2_isTurnTaken_16 (by decide) (fun c1 => absurd c1 (by omega)) (fun c1 => ?_)
    refine lv_aload_n hx hb dX2_isTurnTaken_19 rfl (lv_at hl 2 rfl) ?_
    refine lv_iload hx hb dX2_isTurnTaken_20 (lv_at hl 0 rfl) ?_
    refine c_vald hx hb hK hP (by omega) dX2_isTurnTaken_22 ?_
    refine lv_astore (lv' := [(6, .ref (eVad E k)), (5, .int (nI k)), (4, .int (nI 8)), (3, .ref (eVa E)), (0, .ref (eO E)), (1, .ref (ePad E j)), (2, .int f)]) hx hb dX2_isTurnTaken_23 hl (by decide) rfl (fun ls hl => ?_)
    refine lv_aload hx hb dX2_isTurnTaken_25 (lv_at hl 0 rfl) ?_
    refine c_getV hx hb hts hinV hown hK hP (by omega) 8 (by decide) k106 rfl rfl dX2_isTurnTaken_27 ?_
    refine lv_aload_n hx hb dX2_isTurnTaken_30 rfl (lv_at hl 5 rfl) ?_
    refine lv_acmp_ne (rx := tpO E (x 12 k)) (ry := some (ePad E j)) (tgt := 45) hx hb dX2_isTurnTaken_31 (by decide) (fun c2 => ?_) (fun c2 => ?_)
    · have hno2 : ∀ q, q < k + 1 → ¬ (x 12 q = nI j ∧ x 11 q = f) := fun q hq => (Nat.lt_succ_iff_lt_or_eq.mp hq).elim (hno q) (fun e h9 => by subst e; exact c2 ((cTp_iff hD hj (hok _ (by omega))).mpr h9.1))
      refine q_inc (k := 1) (lv' := [(5, .int (nI (k + 1))), (6, .ref (eVad E k)), (4, .int (nI 8)), (3, .ref (eVa E)), (0, .ref (eO E)), (1, .ref (ePad E j)), (2, .int f)]) hx hb dX2_isTurnTaken_45 hl rfl (by decide) rfl (fun ls hl => ?_)
      refine lv_goto (tgt := 12) hx hb dX2_isTurnTaken_48 (by decide) ?_
      replace hl : lv_has ls 7 [(5, .int (nI (k + 1))), (4, .int (nI 8)), (3, .ref (eVa E)), (0, .ref (eO E)), (1, .ref (ePad E j)), (2, .int f)] := lv_sub hl [0, 2, 3, 4, 5, 6] rfl
      exact ih (k := k + 1) (H := H) (locs := locs) (ls := ls) (hP := hP) (hS := hS) (hl := hl) (hn := by omega) (hno := hno2)
    · refine lv_aload hx hb dX2_isTurnTaken_34 (lv_at hl 0 rfl) ?_
      refine c_getV hx hb hts hinV hown hK hP (by omega) 7 (by decide) k98 rfl rfl dX2_isTurnTaken_36 ?_
      refine lv_iload_n hx hb dX2_isTurnTaken_39 rfl (lv_at hl 6 rfl) ?_
      refine lv_icmp_ne (tgt := 45) hx hb dX2_isTurnTaken_40 (by decide) (fun c3 => ?_) (fun c3 => ?_)
      · have hno2 : ∀ q, q < k + 1 → ¬ (x 12 q = nI j ∧ x 11 q = f) := fun q hq => (Nat.lt_succ_iff_lt_or_eq.mp hq).elim (hno q) (fun e h9 => by subst e; exact c3 h9.2)
        refine q_inc (k := 1) (lv' := [(5, .int (nI (k + 1))), (6, .ref (eVad E k)), (4, .int (nI 8)), (3, .ref (eVa E)), (0, .ref (eO E)), (1, .ref (ePad E j)), (2, .int f)]) hx hb dX2_isTurnTaken_45 hl rfl (by decide) rfl (fun ls hl => ?_)
        refine lv_goto (tgt := 12) hx hb dX2_isTurnTaken_48 (by decide) ?_
        replace hl : lv_has ls 7 [(5, .int (nI (k + 1))), (4, .int (nI 8)), (3, .ref (eVa E)), (0, .ref (eO E)), (1, .ref (ePad E j)), (2, .int f)] := lv_sub hl [0, 2, 3, 4, 5, 6] rfl
        exact ih (k := k + 1) (H := H) (locs := locs) (ls := ls) (hP := hP) (hS := hS) (hl := hl) (hn := by omega) (hno := hno2)
      · refine lv_iconst (v := nI 1) hx hb dX2_isTurnTaken_43 (by decide) ?_
        exact W.zret (ty := .boolean) hx hb hr (by decide) (fun t ht hW => ⟨⟨_, x, rfl, ⟨Or.inl ⟨rfl, k, by omega, (cTp_iff hD hj (hok k (by omega))).mp c2, c3⟩, rfl⟩, by rw [ht]; exact hP, va_K.moved hW.alike hK, hD⟩, hS.F ht⟩) hS.2.2 dX2_isTurnTaken_44

set_option maxHeartbeats 4000000 in
set_option maxRecDepth 100000 in
theorem c_X2_becomeIdle (l : Launch) (D : va_G) (E : cE) (tl : gTy) (x : Nat → Nat → Int32) (i : Nat) (hi : i < 8)  : hV l yX2_becomeIdle wsX2_becomeIdle ({ frames := 0, cells := 0, slots := 0, locals := 0 } : Room) D E tl (cW E x) [.ref (eO E), .ref (eVad E i)] (fun u : Nat → Nat → Int32 => u = cIdle x i) (cW E) 0 0 := by
  refine hM.start (cc := cX2_becomeIdle) (maxL := 2) (ret := none) (own := RX2) rfl (by decide) rfl (Nat.le_of_ble_eq_true rfl) ?_
  intro pr e s m args below meth c A ls H locs hx hb hml hr hts hown hlocks hname hA hK hX hP hD hS hl
  replace hl : lv_has ls 2 [(0, .ref (eO E)), (1, .ref (eVad E i))] := hl
  have hinV : ∀ w ∈ wsX10, w ∈ wsX2_becomeIdle := by decide +kernel
  have k138 := va_Nw.use (A := args) rfl (hX.1 (.fieldLinkNest RX2 138 "FairFolio$Visitor" "state" "I" "FairFolio") (by decide +kernel))
  have k141 := va_Nw.use (A := args) rfl (hX.1 (.fieldLinkNest RX2 141 "FairFolio$Visitor" "where" "I" "FairFolio") (by decide +kernel))
  have k144 := va_Nw.use (A := args) rfl (hX.1 (.fieldLinkNest RX2 144 "FairFolio$Visitor" "place" "I" "FairFolio") (by decide +kernel))
  have k180 := va_Nw.use (A := args) rfl (hX.1 (.fieldLinkNest RX2 180 "FairFolio$Visitor" "visitEnd" "I" "FairFolio") (by decide +kernel))
  refine lv_aload_n hx hb dX2_becomeIdle_0 rfl (lv_at hl 1 rfl) ?_
  refine lv_iconst (v := nI 0) hx hb dX2_becomeIdle_1 (by decide) ?_
  refine c_putV hx hb hts hinV hown hK hP hD hS (i := i) (by omega) 2 6 (by decide) (cW_setV6 E x _ (by omega)) k138 rfl rfl (ty := .int) (by decide +kernel) rfl rfl dX2_becomeIdle_2 (fun H locs hP hD hS => ?_)
  refine lv_aload_n hx hb dX2_becomeIdle_5 rfl (lv_at hl 1 rfl) ?_
  refine lv_iconst (v := -1) hx hb dX2_becomeIdle_6 (by decide) ?_
  refine c_putV hx hb hts hinV hown hK hP hD hS (i := i) (by omega) 3 7 (by decide) (cW_setV7 E (up2 x 6 i (nI 0)) _ (by omega)) k141 rfl rfl (ty := .int) (by decide +kernel) rfl rfl dX2_becomeIdle_7 (fun H locs hP hD hS => ?_)
  refine lv_aload_n hx hb dX2_becomeIdle_10 rfl (lv_at hl 1 rfl) ?_
  refine lv_iconst (v := -1) hx hb dX2_becomeIdle_11 (by decide) ?_
  refine c_putV hx hb hts hinV hown hK hP hD hS (i := i) (by omega) 4 8 (by decide) (cW_setV8 E (up2 (up2 x 6 i (nI 0)) 7 i (-1)) _ (by omega)) k144 rfl rfl (ty := .int) (by decide +kernel) rfl rfl dX2_becomeIdle_12 (fun H locs hP hD hS => ?_)
  refine lv_aload_n hx hb dX2_becomeIdle_15 rfl (lv_at hl 1 rfl) ?_
  refine lv_iconst (v := -1) hx hb dX2_becomeIdle_16 (by decide) ?_
  refine c_putV hx hb hts hinV hown hK hP hD hS (i := i) (by omega) 5 9 (by decide) (cW_setV9 E (up2 (up2 (up2 x 6 i (nI 0)) 7 i (-1)) 8 i (-1)) _ (by omega)) k180 rfl rfl (ty := .int) (by decide +kernel) rfl rfl dX2_becomeIdle_17 (fun H locs hP hD hS => ?_)
  exact W.vret hx hb hr (fun t ht hW => ⟨⟨up2 (up2 (up2 (up2 x 6 i (nI 0)) 7 i (-1)) 8 i (-1)) 9 i (-1), rfl, rfl, by rw [ht]; exact hP, va_K.moved hW.alike hK, hD⟩, hS.F ht⟩) hS.2.2 dX2_becomeIdle_20

set_option maxHeartbeats 4000000 in
set_option maxRecDepth 100000 in
theorem c_X2_loseTurn (l : Launch) (D : va_G) (E : cE) (tl : gTy) (x : Nat → Nat → Int32) (i : Nat) (hi : i < 8)  : hV l yX2_loseTurn wsX2_loseTurn ({ frames := 0, cells := 0, slots := 0, locals := 0 } : Room) D E tl (cW E x) [.ref (eO E), .ref (eVad E i)] (fun u : Nat → Nat → Int32 => u = cLose x i) (cW E) 0 0 := by
  refine hM.start (cc := cX2_loseTurn) (maxL := 2) (ret := none) (own := RX2) rfl (by decide) rfl (Nat.le_of_ble_eq_true rfl) ?_
  intro pr e s m args below meth c A ls H locs hx hb hml hr hts hown hlocks hname hA hK hX hP hD hS hl
  replace hl : lv_has ls 2 [(0, .ref (eO E)), (1, .ref (eVad E i))] := hl
  have hinV : ∀ w ∈ wsX10, w ∈ wsX2_loseTurn := by decide +kernel
  have k98 := va_Nw.use (A := args) rfl (hX.1 (.fieldLinkNest RX2 98 "FairFolio$Visitor" "turnMinute" "I" "FairFolio") (by decide +kernel))
  have k106 := va_Nw.use (A := args) rfl (hX.1 (.fieldLinkNest RX2 106 "FairFolio$Visitor" "turnPavilion" "LFairFolio$Pavilion;" "FairFolio") (by decide +kernel))
  refine lv_aload_n hx hb dX2_loseTurn_0 rfl (lv_at hl 1 rfl) ?_
  refine lv_iconst (v := -1) hx hb dX2_loseTurn_1 (by decide) ?_
  refine c_putV hx hb hts hinV hown hK hP hD hS (i := i) (by omega) 7 11 (by decide) (cW_setV11 E x _ (by omega)) k98 rfl rfl (ty := .int) (by decide +kernel) rfl rfl dX2_loseTurn_2 (fun H locs hP hD hS => ?_)
  refine lv_aload_n hx hb dX2_loseTurn_5 rfl (lv_at hl 1 rfl) ?_
  refine lv_null hx hb dX2_loseTurn_6 ?_
  refine c_putVT hx hb hts hinV hown hK hP hD hS (i := i) (by omega) (-1) rfl k106 dX2_loseTurn_7 (fun H locs hP hD hS => ?_)
  exact W.vret hx hb hr (fun t ht hW => ⟨⟨up2 (up2 x 11 i (-1)) 12 i (-1), rfl, rfl, by rw [ht]; exact hP, va_K.moved hW.alike hK, hD⟩, hS.F ht⟩) hS.2.2 dX2_loseTurn_10

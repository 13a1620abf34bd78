theorem cW_setS (E : cE) (x : Nat → Nat → Int32) (v : Int32) {i j : Nat} (h : i < 8) : (cW E x).set (25 + i) (eSad E i, .inl (eI E, 6, .inl (upd (eS E i) j v))) = cW (eSetS E (up2 (eS E) i j v)) x := by
  have e : ∀ g : Nat → Int32, g = upd (eS E i) j v → ∀ k : Nat, (if k = i then g else eS E k) = up2 (eS E) i j v k := by
    intro g hg k
    by_cases hk : k = i
    · subst hk
      rw [if_pos rfl, hg]
      funext q
      show (if q = j then v else eS E k q) = (if k = k then (if q = j then v else eS E k q) else eS E k q)
      rw [if_pos rfl]
    · rw [if_neg hk]
      funext q
      show eS E k q = (if k = i then _ else _)
      rw [if_neg hk]
  rw [show eSetS E (up2 (eS E) i j v) = eSetS E (fun k => if k = i then upd (eS E i) j v else eS E k) from congrArg (eSetS E) (funext fun k => (e _ rfl k).symm)]
  generalize upd (eS E i) j v = g
  exact lt8 (P := fun i => (cW E x).set (25 + i) (eSad E i, .inl (eI E, 6, .inl g)) = cW (eSetS E (fun k => if k = i then g else eS E k)) x) rfl rfl rfl rfl rfl rfl rfl rfl h

set_option maxHeartbeats 4000000 in
set_option maxRecDepth 100000 in
theorem c_X2_sent (l : Launch) (D : va_G) (E : cE) (tl : gTy) (x : Nat → Nat → Int32) (i j : Nat) (hi : i < 8) (hj : j < 6)  : hI l yX2_sent wsX2_sent ({ frames := 1, cells := 0, slots := 0, locals := 21 } : Room) D E tl (cW E x) [.ref (eO E), .int (nI i), .int (nI j)] (fun (r : Int32) (u : Nat → Nat → Int32) => r = eS E i j ∧ u = x) (cW E) 0 0 := by
  refine hM.start (cc := cX2_sent) (maxL := 5) (ret := (some .int)) (own := RX2) rfl (by decide) rfl (Nat.le_of_ble_eq_true rfl) ?_
  intro pr e s m args below meth c A ls H locs hx hb hml hr hts hown hlocks hname hA hK hX hP hD hS hl
  replace hl : lv_has ls 5 [(0, .ref (eO E)), (1, .int (nI i)), (2, .int (nI j))] := hl
  have hinP : ∀ w ∈ wsX00, w ∈ wsX2_sent := by decide +kernel
  have hinV : ∀ w ∈ wsX10, w ∈ wsX2_sent := by decide +kernel
  have k129 := va_Nw.use (A := args) rfl (hX.1 (.fieldLinkNest RX2 129 "FairFolio$Visitor" "sent" "[I" "FairFolio") (by decide +kernel))
  have k133 := va_Nw.use (A := args) rfl (hX.1 (.fieldLinkNest RX2 133 "FairFolio$Pavilion" "number" "I" "FairFolio") (by decide +kernel))
  refine lv_aload_n hx hb dX2_sent_0 rfl (lv_at hl 0 rfl) ?_
  refine lv_iload_n hx hb dX2_sent_1 rfl (lv_at hl 1 rfl) ?_
  refine h_callq (As := [.int (nI i)]) (rest := []) ⟨hx, hb, hml, hown, hts⟩ (c_X2_visitorAt l D E tl x i hi) (cwV 1 hts gX2_sent_X2_visitorAt rfl rfl rfl (by decide +kernel) ⟨Nat.le_of_ble_eq_true rfl, Nat.le_of_ble_eq_true rfl⟩) (c_recv hK hP) hK hX hP hD hS hA rfl hl.1 rfl (Nat.le_of_ble_eq_true rfl) dX2_sent_2 ⟨Nat.le_of_ble_eq_true rfl, Nat.le_of_ble_eq_true rfl⟩ (fun r_3 u_2 H locs hw hP hD hS => ?_)
  obtain ⟨hr_3, hu_2⟩ := hw
  rw [hu_2] at hP hD
  refine q_topv (v' := .ref (eVad E i)) (by rw [hr_3]; rfl) ?_
  refine lv_astore_n (lv' := [(3, .ref (eVad E i)), (0, .ref (eO E)), (1, .int (nI i)), (2, .int (nI j))]) hx hb dX2_sent_5 rfl hl (by decide) rfl (fun ls hl => ?_)
  refine lv_aload_n hx hb dX2_sent_6 rfl (lv_at hl 1 rfl) ?_
  refine lv_iload_n hx hb dX2_sent_7 rfl (lv_at hl 3 rfl) ?_
  refine h_callq (As := [.int (nI j)]) (rest := []) ⟨hx, hb, hml, hown, hts⟩ (c_X2_pavilionAt l D E tl x j hj) (cwV 1 hts gX2_sent_X2_pavilionAt rfl rfl rfl (by decide +kernel) ⟨Nat.le_of_ble_eq_true rfl, Nat.le_of_ble_eq_true rfl⟩) (c_recv hK hP) hK hX hP hD hS hA rfl hl.1 rfl (Nat.le_of_ble_eq_true rfl) dX2_sent_8 ⟨Nat.le_of_ble_eq_true rfl, Nat.le_of_ble_eq_true rfl⟩ (fun r_6 u_5 H locs hw hP hD hS => ?_)
  obtain ⟨hr_6, hu_5⟩ := hw
  rw [hu_5] at hP hD
  refine q_topv (v' := .ref (ePad E j)) (by rw [hr_6]; rfl) ?_
  refine lv_astore (lv' := [(4, .ref (ePad E j)), (3, .ref (eVad E i)), (0, .ref (eO E)), (1, .int (nI i)), (2, .int (nI j))]) hx hb dX2_sent_11 hl (by decide) rfl (fun ls hl => ?_)
  refine lv_aload_n hx hb dX2_sent_13 rfl (lv_at hl 1 rfl) ?_
  refine c_getV hx hb hts hinV hown hK hP (by omega) 1 (by decide) k129 rfl rfl dX2_sent_14 ?_
  refine lv_aload hx hb dX2_sent_17 (lv_at hl 0 rfl) ?_
  refine c_getP hx hb hts hinP hown hK hP (by omega) 0 (by decide) k133 rfl rfl dX2_sent_19 ?_
  refine q_ild hx hb hK hP (25 + i) 0 (cW_S E x hi) rfl j rfl hj (by decide) dX2_sent_22 ?_
  exact W.iret hx hb hr (fun t ht hW => ⟨⟨_, x, rfl, ⟨rfl, rfl⟩, by rw [ht]; exact hP, va_K.moved hW.alike hK, hD⟩, hS.F ht⟩) hS.2.2 dX2_sent_23

set_option maxHeartbeats 4000000 in
set_option maxRecDepth 100000 in
theorem c_X2_send_e (l : Launch) (D : va_G) (E : cE) (tl : gTy) (x : Nat → Nat → Int32) (i j : Nat) (hi : i < 8) (hj : j < 6) (hst : cHas x i j = 1) (h4 : x 4 j = nI 0)  : hI l yX2_send wsX2_send ({ frames := 1, cells := 0, slots := 0, locals := 22 } : Room) D E tl (cW E x) [.ref (eO E), .int (nI i), .int (nI j)] (fun (r : Int32) (u : Nat → Nat → Int32) => r = nI 0 ∧ u = up2 x 5 j (x 5 j + nI 1)) (cW E) 0 0 := by
  refine hM.start (cc := cX2_send) (maxL := 5) (ret := (some .boolean)) (own := RX2) rfl (by decide) rfl (Nat.le_of_ble_eq_true rfl) ?_
  intro pr e s m args below meth c A ls H locs hx hb hml hr hts hown hlocks hname hA hK hX hP hD hS hl
  replace hl : lv_has ls 5 [(0, .ref (eO E)), (1, .int (nI i)), (2, .int (nI j))] := hl
  have hinP : ∀ w ∈ wsX00, w ∈ wsX2_send := by decide +kernel
  have k123 := va_Nw.use (A := args) rfl (hX.1 (.fieldLinkNest RX2 123 "FairFolio$Pavilion" "stock" "I" "FairFolio") (by decide +kernel))
  have k126 := va_Nw.use (A := args) rfl (hX.1 (.fieldLinkNest RX2 126 "FairFolio$Pavilion" "demand" "I" "FairFolio") (by decide +kernel))
  refine lv_aload_n hx hb dX2_send_0 rfl (lv_at hl 0 rfl) ?_
  refine lv_iload_n hx hb dX2_send_1 rfl (lv_at hl 1 rfl) ?_
  refine h_callq (As := [.int (nI i)]) (rest := []) ⟨hx, hb, hml, hown, hts⟩ (c_X2_visitorAt l D E tl x i hi) (cwV 1 hts gX2_send_X2_visitorAt rfl rfl rfl (by decide +kernel) ⟨Nat.le_of_ble_eq_true rfl, Nat.le_of_ble_eq_true rfl⟩) (c_recv hK hP) hK hX hP hD hS hA rfl hl.1 rfl (Nat.le_of_ble_eq_true rfl) dX2_send_2 ⟨Nat.le_of_ble_eq_true rfl, Nat.le_of_ble_eq_true rfl⟩ (fun r_3 u_2 H locs hw hP hD hS => ?_)
  obtain ⟨hr_3, hu_2⟩ := hw
  rw [hu_2] at hP hD
  refine q_topv (v' := .ref (eVad E i)) (by rw [hr_3]; rfl) ?_
  refine lv_astore_n (lv' := [(3, .ref (eVad E i)), (0, .ref (eO E)), (1, .int (nI i)), (2, .int (nI j))]) hx hb dX2_send_5 rfl hl (by decide) rfl (fun ls hl => ?_)
  refine lv_aload_n hx hb dX2_send_6 rfl (lv_at hl 1 rfl) ?_
  refine lv_iload_n hx hb dX2_send_7 rfl (lv_at hl 3 rfl) ?_
  refine h_callq (As := [.int (nI j)]) (rest := []) ⟨hx, hb, hml, hown, hts⟩ (c_X2_pavilionAt l D E tl x j hj) (cwV 1 hts gX2_send_X2_pavilionAt rfl rfl rfl (by decide +kernel) ⟨Nat.le_of_ble_eq_true rfl, Nat.le_of_ble_eq_true rfl⟩) (c_recv hK hP) hK hX hP hD hS hA rfl hl.1 rfl (Nat.le_of_ble_eq_true rfl) dX2_send_8 ⟨Nat.le_of_ble_eq_true rfl, Nat.le_of_ble_eq_true rfl⟩ (fun r_6 u_5 H locs hw hP hD hS => ?_)
  obtain ⟨hr_6, hu_5⟩ := hw
  rw [hu_5] at hP hD
  refine q_topv (v' := .ref (ePad E j)) (by rw [hr_6]; rfl) ?_
  refine lv_astore (lv' := [(4, .ref (ePad E j)), (3, .ref (eVad E i)), (0, .ref (eO E)), (1, .int (nI i)), (2, .int (nI j))]) hx hb dX2_send_11 hl (by decide) rfl (fun ls hl => ?_)
  refine lv_aload_n hx hb dX2_send_13 rfl (lv_at hl 2 rfl) ?_
  refine lv_aload_n hx hb dX2_send_14 rfl (lv_at hl 1 rfl) ?_
  refine lv_aload hx hb dX2_send_15 (lv_at hl 0 rfl) ?_
  refine h_calli (As := [.ref (eVad E i), .ref (ePad E j)]) (rest := []) ⟨hx, hb, hml, hown, hts⟩ (c_X2_hasStamp l D E tl x i j hi hj) (cwV 2 hts gX2_send_X2_hasStamp rfl rfl rfl (by decide +kernel) ⟨Nat.le_of_ble_eq_true rfl, Nat.le_of_ble_eq_true rfl⟩) (c_recv hK hP) hK hX hP hD hS hA rfl hl.1 rfl (Nat.le_of_ble_eq_true rfl) dX2_send_17 ⟨Nat.le_of_ble_eq_true rfl, Nat.le_of_ble_eq_true rfl⟩ (fun r_9 u_8 H locs hw hP hD hS => ?_)
  obtain ⟨hr_9, hu_8⟩ := hw
  rw [hu_8] at hP hD
  refine q_top (x' := (nI 1)) (hr_9.trans (by rw [hst])) ?_
  refine q_if_ne (tgt := 33) hx hb (by omega) dX2_send_20 (by decide) (fun c_10 => ?_) (fun c_10 => absurd c_10 (by decide))
  refine lv_aload hx hb dX2_send_33 (lv_at hl 0 rfl) ?_
  refine c_getP hx hb hts hinP hown hK hP (by omega) 4 (by decide) k123 rfl rfl dX2_send_35 ?_
  refine lv_if_ne (tgt := 54) hx hb dX2_send_38 (by decide) (fun c8 => absurd h4 c8) (fun c8 => ?_)
  replace c8 : (x 4 j) = nI 0 := c8
  refine lv_aload hx hb dX2_send_41 (lv_at hl 0 rfl) ?_
  refine lv_dup hx hb dX2_send_43 rfl ?_
  refine c_getP hx hb hts hinP hown hK hP (by omega) 5 (by decide) k126 rfl rfl dX2_send_44 ?_
  refine lv_iconst (v := nI 1) hx hb dX2_send_47 (by decide) ?_
  refine lv_iadd hx hb dX2_send_48 ?_
  refine c_putP hx hb hts hinP hown hK hP hD hS (j := j) (by omega) 5 5 (by decide) (cW_setP5 E x _ (by omega)) k126 rfl rfl (ty := .int) (by decide +kernel) rfl rfl dX2_send_49 (fun H locs hP hD hS => ?_)
  refine lv_iconst (v := nI 0) hx hb dX2_send_52 (by decide) ?_
  exact W.zret (ty := .boolean) hx hb hr (by decide) (fun t ht hW => ⟨⟨_, up2 x 5 j ((x 5 j) + (nI 1)), rfl, ⟨rfl, rfl⟩, by rw [ht]; exact hP, va_K.moved hW.alike hK, hD⟩, hS.F ht⟩) hS.2.2 dX2_send_53

set_option maxHeartbeats 4000000 in
set_option maxRecDepth 100000 in
theorem c_X2_send_s (l : Launch) (D : va_G) (E : cE) (tl : gTy) (x : Nat → Nat → Int32) (i j : Nat) (hi : i < 8) (hj : j < 6) (hst : cHas x i j = 1) (h4 : ¬ x 4 j = nI 0)  : hI l yX2_send wsX2_send ({ frames := 1, cells := 0, slots := 0, locals := 22 } : Room) D E tl (cW E x) [.ref (eO E), .int (nI i), .int (nI j)] (fun (r : Int32) (u : Unit) => r = nI 1) (fun _ : Unit => cW (eSetS E (up2 (eS E) i j (eS E i j + nI 1))) (up2 x 4 j (x 4 j - nI 1))) 0 0 := by
  refine hM.start (cc := cX2_send) (maxL := 5) (ret := (some .boolean)) (own := RX2) rfl (by decide) rfl (Nat.le_of_ble_eq_true rfl) ?_
  intro pr e s m args below meth c A ls H locs hx hb hml hr hts hown hlocks hname hA hK hX hP hD hS hl
  replace hl : lv_has ls 5 [(0, .ref (eO E)), (1, .int (nI i)), (2, .int (nI j))] := hl
  have hinP : ∀ w ∈ wsX00, w ∈ wsX2_send := by decide +kernel
  have hinV : ∀ w ∈ wsX10, w ∈ wsX2_send := by decide +kernel
  have k123 := va_Nw.use (A := args) rfl (hX.1 (.fieldLinkNest RX2 123 "FairFolio$Pavilion" "stock" "I" "FairFolio") (by decide +kernel))
  have k129 := va_Nw.use (A := args) rfl (hX.1 (.fieldLinkNest RX2 129 "FairFolio$Visitor" "sent" "[I" "FairFolio") (by decide +kernel))
  have k133 := va_Nw.use (A := args) rfl (hX.1 (.fieldLinkNest RX2 133 "FairFolio$Pavilion" "number" "I" "FairFolio") (by decide +kernel))
  refine lv_aload_n hx hb dX2_send_0 rfl (lv_at hl 0 rfl) ?_
  refine lv_iload_n hx hb dX2_send_1 rfl (lv_at hl 1 rfl) ?_
  refine h_callq (As := [.int (nI i)]) (rest := []) ⟨hx, hb, hml, hown, hts⟩ (c_X2_visitorAt l D E tl x i hi) (cwV 1 hts gX2_send_X2_visitorAt rfl rfl rfl (by decide +kernel) ⟨Nat.le_of_ble_eq_true rfl, Nat.le_of_ble_eq_true rfl⟩) (c_recv hK hP) hK hX hP hD hS hA rfl hl.1 rfl (Nat.le_of_ble_eq_true rfl) dX2_send_2 ⟨Nat.le_of_ble_eq_true rfl, Nat.le_of_ble_eq_true rfl⟩ (fun r_3 u_2 H locs hw hP hD hS => ?_)
  obtain ⟨hr_3, hu_2⟩ := hw
  rw [hu_2] at hP hD
  refine q_topv (v' := .ref (eVad E i)) (by rw [hr_3]; rfl) ?_
  refine lv_astore_n (lv' := [(3, .ref (eVad E i)), (0, .ref (eO E)), (1, .int (nI i)), (2, .int (nI j))]) hx hb dX2_send_5 rfl hl (by decide) rfl (fun ls hl => ?_)
  refine lv_aload_n hx hb dX2_send_6 rfl (lv_at hl 1 rfl) ?_
  refine lv_iload_n hx hb dX2_send_7 rfl (lv_at hl 3 rfl) ?_
  refine h_callq (As := [.int (nI j)]) (rest := []) ⟨hx, hb, hml, hown, hts⟩ (c_X2_pavilionAt l D E tl x j hj) (cwV 1 hts gX2_send_X2_pavilionAt rfl rfl rfl (by decide +kernel) ⟨Nat.le_of_ble_eq_true rfl, Nat.le_of_ble_eq_true rfl⟩) (c_recv hK hP) hK hX hP hD hS hA rfl hl.1 rfl (Nat.le_of_ble_eq_true rfl) dX2_send_8 ⟨Nat.le_of_ble_eq_true rfl, Nat.le_of_ble_eq_true rfl⟩ (fun r_6 u_5 H locs hw hP hD hS => ?_)
  obtain ⟨hr_6, hu_5⟩ := hw
  rw [hu_5] at hP hD
  refine q_topv (v' := .ref (ePad E j)) (by rw [hr_6]; rfl) ?_
  refine lv_astore (lv' := [(4, .ref (ePad E j)), (3, .ref (eVad E i)), (0, .ref (eO E)), (1, .int (nI i)), (2, .int (nI j))]) hx hb dX2_send_11 hl (by decide) rfl (fun ls hl => ?_)
  refine lv_aload_n hx hb dX2_send_13 rfl (lv_at hl 2 rfl) ?_
  refine lv_aload_n hx hb dX2_send_14 rfl (lv_at hl 1 rfl) ?_
  refine lv_aload hx hb dX2_send_15 (lv_at hl 0 rfl) ?_
  refine h_calli (As := [.ref (eVad E i), .ref (ePad E j)]) (rest := []) ⟨hx, hb, hml, hown, hts⟩ (c_X2_hasStamp l D E tl x i j hi hj) (cwV 2 hts gX2_send_X2_hasStamp rfl rfl rfl (by decide +kernel) ⟨Nat.le_of_ble_eq_true rfl, Nat.le_of_ble_eq_true rfl⟩) (c_recv hK hP) hK hX hP hD hS hA rfl hl.1 rfl (Nat.le_of_ble_eq_true rfl) dX2_send_17 ⟨Nat.le_of_ble_eq_true rfl, Nat.le_of_ble_eq_true rfl⟩ (fun r_9 u_8 H locs hw hP hD hS => ?_)
  obtain ⟨hr_9, hu_8⟩ := hw
  rw [hu_8] at hP hD
  refine q_top (x' := (nI 1)) (hr_9.trans (by rw [hst])) ?_
  refine q_if_ne (tgt := 33) hx hb (by omega) dX2_send_20 (by decide) (fun c_10 => ?_) (fun c_10 => absurd c_10 (by decide))
  refine lv_aload hx hb dX2_send_33 (lv_at hl 0 rfl) ?_
  refine c_getP hx hb hts hinP hown hK hP (by omega) 4 (by decide) k123 rfl rfl dX2_send_35 ?_
  refine lv_if_ne (tgt := 54) hx hb dX2_send_38 (by decide) (fun c8 => ?_) (fun c8 => absurd c8 h4)
  replace c8 : ¬ (x 4 j) = nI 0 := c8
  refine lv_aload hx hb dX2_send_54 (lv_at hl 0 rfl) ?_
  refine lv_dup hx hb dX2_send_56 rfl ?_
  refine c_getP hx hb hts hinP hown hK hP (by omega) 4 (by decide) k123 rfl rfl dX2_send_57 ?_
  refine lv_iconst (v := nI 1) hx hb dX2_send_60 (by decide) ?_
  refine lv_isub hx hb dX2_send_61 ?_
  refine c_putP hx hb hts hinP hown hK hP hD hS (j := j) (by omega) 4 4 (by decide) (cW_setP4 E x _ (by omega)) k123 rfl rfl (ty := .int) (by decide +kernel) rfl rfl dX2_send_62 (fun H locs hP hD hS => ?_)
  refine lv_aload_n hx hb dX2_send_65 rfl (lv_at hl 1 rfl) ?_
  refine c_getV hx hb hts hinV hown hK hP (by omega) 1 (by decide) k129 rfl rfl dX2_send_66 ?_
  refine lv_aload hx hb dX2_send_69 (lv_at hl 0 rfl) ?_
  refine c_getP hx hb hts hinP hown hK hP (by omega) 0 (by decide) k133 rfl rfl dX2_send_71 ?_
  refine lv_dup2_11 hx hb dX2_send_74 rfl rfl ?_
  refine q_ild hx hb hK hP (25 + i) 0 (cW_S E (up2 x 4 j (x 4 j - nI 1)) hi) rfl j rfl hj (by decide) dX2_send_75 ?_
  refine lv_iconst (v := nI 1) hx hb dX2_send_76 (by decide) ?_
  refine lv_iadd hx hb dX2_send_77 ?_
  refine q_ist hx hb hK hP hD hS (25 + i) 0 (cW_S E (up2 x 4 j (x 4 j - nI 1)) hi) rfl j rfl hj (by decide) dX2_send_78 (fun H locs hP hD hS => ?_)
  rw [cW_setS E (up2 x 4 j (x 4 j - nI 1)) _ hi] at hP hD
  refine lv_iconst (v := nI 1) hx hb dX2_send_79 (by decide) ?_
  exact W.zret (ty := .boolean) hx hb hr (by decide) (fun t ht hW => ⟨⟨_, (), rfl, rfl, by rw [ht]; exact hP, va_K.moved hW.alike hK, hD⟩, hS.F ht⟩) hS.2.2 dX2_send_80

set_option maxHeartbeats 4000000 in
set_option maxRecDepth 100000 in
theorem c_X2_plan_m (l : Launch) (D : va_G) (E : cE) (tl : gTy) (x : Nat → Nat → Int32) (i j n0 : Nat) (hi : i < 8) (hj : j < 6) (hn0 : n0 < 6) (h15 : x 15 i = nI n0) (hLP : i ∈ eLP E) (hpc : ∀ k, k < n0 → ePc E i k < 6) (hix : cIdx E i j n0 0 = -1)  : hI l yX2_plan wsX2_plan ({ frames := 5, cells := 0, slots := 0, locals := 130 } : Room) D E tl (cW E x) [.ref (eO E), .int (nI i), .int (nI j)] (fun (r : Int32) (u : Unit) => r = nI (n0 + 1)) (fun _ : Unit => cW (eSetP E (pcAdd (ePc E) i n0 j) (eEd E) (eLP E)) (xLen x i (n0 + 1))) 0 0 := by
  refine hM.start (cc := cX2_plan) (maxL := 5) (ret := (some .int)) (own := RX2) rfl (by decide) rfl (Nat.le_of_ble_eq_true rfl) ?_
  intro pr e s m args below meth c A ls H locs hx hb hml hr hts hown hlocks hname hA hK hX hP hD hS hl
  replace hl : lv_has ls 5 [(0, .ref (eO E)), (1, .int (nI i)), (2, .int (nI j))] := hl
  have hinV : ∀ w ∈ wsX10, w ∈ wsX2_plan := by decide +kernel
  have k67 := va_Nw.use (A := args) rfl (hX.1 (.fieldLinkNest RX2 67 "FairFolio$Visitor" "plan" "Ljava/util/ArrayList;" "FairFolio") (by decide +kernel))
  refine lv_aload_n hx hb dX2_plan_0 rfl (lv_at hl 0 rfl) ?_
  refine lv_iload_n hx hb dX2_plan_1 rfl (lv_at hl 1 rfl) ?_
  refine h_callq (As := [.int (nI i)]) (rest := []) ⟨hx, hb, hml, hown, hts⟩ (c_X2_visitorAt l D E tl x i hi) (cwV 1 hts gX2_plan_X2_visitorAt rfl rfl rfl (by decide +kernel) ⟨Nat.le_of_ble_eq_true rfl, Nat.le_of_ble_eq_true rfl⟩) (c_recv hK hP) hK hX hP hD hS hA rfl hl.1 rfl (Nat.le_of_ble_eq_true rfl) dX2_plan_2 ⟨Nat.le_of_ble_eq_true rfl, Nat.le_of_ble_eq_true rfl⟩ (fun r_3 u_2 H locs hw hP hD hS => ?_)
  obtain ⟨hr_3, hu_2⟩ := hw
  rw [hu_2] at hP hD
  refine q_topv (v' := .ref (eVad E i)) (by rw [hr_3]; rfl) ?_
  refine lv_astore_n (lv' := [(3, .ref (eVad E i)), (0, .ref (eO E)), (1, .int (nI i)), (2, .int (nI j))]) hx hb dX2_plan_5 rfl hl (by decide) rfl (fun ls hl => ?_)
  refine lv_aload_n hx hb dX2_plan_6 rfl (lv_at hl 1 rfl) ?_
  refine lv_iload_n hx hb dX2_plan_7 rfl (lv_at hl 3 rfl) ?_
  refine h_callq (As := [.int (nI j)]) (rest := []) ⟨hx, hb, hml, hown, hts⟩ (c_X2_pavilionAt l D E tl x j hj) (cwV 1 hts gX2_plan_X2_pavilionAt rfl rfl rfl (by decide +kernel) ⟨Nat.le_of_ble_eq_true rfl, Nat.le_of_ble_eq_true rfl⟩) (c_recv hK hP) hK hX hP hD hS hA rfl hl.1 rfl (Nat.le_of_ble_eq_true rfl) dX2_plan_8 ⟨Nat.le_of_ble_eq_true rfl, Nat.le_of_ble_eq_true rfl⟩ (fun r_6 u_5 H locs hw hP hD hS => ?_)
  obtain ⟨hr_6, hu_5⟩ := hw
  rw [hu_5] at hP hD
  refine q_topv (v' := .ref (ePad E j)) (by rw [hr_6]; rfl) ?_
  refine lv_astore (lv' := [(4, .ref (ePad E j)), (3, .ref (eVad E i)), (0, .ref (eO E)), (1, .int (nI i)), (2, .int (nI j))]) hx hb dX2_plan_11 hl (by decide) rfl (fun ls hl => ?_)
  refine lv_aload_n hx hb dX2_plan_13 rfl (lv_at hl 2 rfl) ?_
  refine lv_aload_n hx hb dX2_plan_14 rfl (lv_at hl 1 rfl) ?_
  refine lv_aload hx hb dX2_plan_15 (lv_at hl 0 rfl) ?_
  refine h_calli (As := [.ref (eVad E i), .ref (ePad E j)]) (rest := []) ⟨hx, hb, hml, hown, hts⟩ (c_X2_indexInPlan l D E tl x i j n0 hi hj (by omega) h15 (Or.inr hLP) hpc) (cwV 2 hts gX2_plan_X2_indexInPlan rfl rfl rfl (by decide +kernel) ⟨Nat.le_of_ble_eq_true rfl, Nat.le_of_ble_eq_true rfl⟩) (c_recv hK hP) hK hX hP hD hS hA rfl hl.1 rfl (Nat.le_of_ble_eq_true rfl) dX2_plan_17 ⟨Nat.le_of_ble_eq_true rfl, Nat.le_of_ble_eq_true rfl⟩ (fun r_9 u_8 H locs hw hP hD hS => ?_)
  obtain ⟨hr_9, hu_8⟩ := hw
  rw [hu_8] at hP hD
  refine q_top (x' := (-1)) (hr_9.trans hix) ?_
  refine lv_iconst (v := -1) hx hb dX2_plan_20 (by decide) ?_
  refine lv_icmp_eq (tgt := 34) hx hb dX2_plan_21 (by decide) (fun c8 => ?_) (fun c8 => absurd rfl c8)
  refine lv_aload_n hx hb dX2_plan_34 rfl (lv_at hl 1 rfl) ?_
  refine c_getV hx hb hts hinV hown hK hP (by omega) 0 (by decide) k67 rfl rfl dX2_plan_35 ?_
  refine lv_aload hx hb dX2_plan_38 (lv_at hl 0 rfl) ?_
  refine c_addM ⟨hx, hb, hml, hown, hts⟩ gX2_plan_Jx4a65c_add_9ea2d hK hX hP hD hS hA (i := i) (j := j) hi hj hLP h15 hn0 ⟨Nat.le_of_ble_eq_true rfl, Nat.le_of_ble_eq_true rfl⟩ hl.1 (Nat.le_of_ble_eq_true rfl) dX2_plan_40 ⟨Nat.le_of_ble_eq_true rfl, Nat.le_of_ble_eq_true rfl⟩ (fun r9 H locs hP hD hS => ?_)
  replace hK : va_K D vwCl (cT (eSetP E (pcAdd (ePc E) i n0 j) (eEd E) (eLP E)) tl) s := hK
  replace hX : cX (eDf (eSetP E (pcAdd (ePc E) i n0 j) (eEd E) (eLP E))) A s := hX
  replace hl : lv_has ls 5 [(4, .ref (ePad (eSetP E (pcAdd (ePc E) i n0 j) (eEd E) (eLP E)) j)), (3, .ref (eVad (eSetP E (pcAdd (ePc E) i n0 j) (eEd E) (eLP E)) i)), (0, .ref (eO (eSetP E (pcAdd (ePc E) i n0 j) (eEd E) (eLP E)))), (1, .int (nI i)), (2, .int (nI j))] := hl
  refine lv_pop hx hb dX2_plan_43 rfl ?_
  refine lv_aload_n hx hb dX2_plan_44 rfl (lv_at hl 1 rfl) ?_
  refine c_getV hx hb hts hinV hown hK hP (by omega) 0 (by decide) k67 rfl rfl dX2_plan_45 ?_
  refine c_size (E := (eSetP E (pcAdd (ePc E) i n0 j) (eEd E) (eLP E))) ⟨hx, hb, hml, hown, hts⟩ gX2_plan_Jx4a65c_size_8abf5 hK hX hP hD hS hA (i := i) (by omega) ⟨Nat.le_of_ble_eq_true rfl, Nat.le_of_ble_eq_true rfl⟩ hl.1 (Nat.le_of_ble_eq_true rfl) dX2_plan_48 ⟨Nat.le_of_ble_eq_true rfl, Nat.le_of_ble_eq_true rfl⟩ (fun H locs hP hD hS => ?_)
  refine q_top (x' := (nI (n0 + 1))) xLen_15 ?_
  exact W.iret hx hb hr (fun t ht hW => ⟨⟨_, (), rfl, rfl, by rw [ht]; exact hP, va_K.moved hW.alike hK, hD⟩, hS.F ht⟩) hS.2.2 dX2_plan_51

set_option maxHeartbeats 4000000 in
set_option maxRecDepth 100000 in
theorem c_X2_plan_f (l : Launch) (D : va_G) (E : cE) (tl : gTy) (x : Nat → Nat → Int32) (i j : Nat) (hi : i < 8) (hj : j < 6) (h15 : x 15 i = nI 0) (hLP : i ∉ eLP E) (hed : eEd E i = eDf E)  : hI l yX2_plan wsX2_plan ({ frames := 5, cells := 1, slots := 10, locals := 130 } : Room) D E tl (cW E x) [.ref (eO E), .int (nI i), .int (nI j)] (fun (r : Int32) (u : Nat) => r = nI 1) (fun u : Nat => cW (eSetP E (pcAdd (ePc E) i 0 j) (edAdd (eEd E) i u) (eLP E ++ [i])) (xLen x i 1)) 1 10 := by
  refine hM.start (cc := cX2_plan) (maxL := 5) (ret := (some .int)) (own := RX2) rfl (by decide) rfl (Nat.le_of_ble_eq_true rfl) ?_
  intro pr e s m args below meth c A ls H locs hx hb hml hr hts hown hlocks hname hA hK hX hP hD hS hl
  replace hl : lv_has ls 5 [(0, .ref (eO E)), (1, .int (nI i)), (2, .int (nI j))] := hl
  have hinV : ∀ w ∈ wsX10, w ∈ wsX2_plan := by decide +kernel
  have k67 := va_Nw.use (A := args) rfl (hX.1 (.fieldLinkNest RX2 67 "FairFolio$Visitor" "plan" "Ljava/util/ArrayList;" "FairFolio") (by decide +kernel))
  refine lv_aload_n hx hb dX2_plan_0 rfl (lv_at hl 0 rfl) ?_
  refine lv_iload_n hx hb dX2_plan_1 rfl (lv_at hl 1 rfl) ?_
  refine h_callq (As := [.int (nI i)]) (rest := []) ⟨hx, hb, hml, hown, hts⟩ (c_X2_visitorAt l D E tl x i hi) (cwV 1 hts gX2_plan_X2_visitorAt rfl rfl rfl (by decide +kernel) ⟨Nat.le_of_ble_eq_true rfl, Nat.le_of_ble_eq_true rfl⟩) (c_recv hK hP) hK hX hP hD hS hA rfl hl.1 rfl (Nat.le_of_ble_eq_true rfl) dX2_plan_2 ⟨Nat.le_of_ble_eq_true rfl, Nat.le_of_ble_eq_true rfl⟩ (fun r_3 u_2 H locs hw hP hD hS => ?_)
  obtain ⟨hr_3, hu_2⟩ := hw
  rw [hu_2] at hP hD
  refine q_topv (v' := .ref (eVad E i)) (by rw [hr_3]; rfl) ?_
  refine lv_astore_n (lv' := [(3, .ref (eVad E i)), (0, .ref (eO E)), (1, .int (nI i)), (2, .int (nI j))]) hx hb dX2_plan_5 rfl hl (by decide) rfl (fun ls hl => ?_)
  refine lv_aload_n hx hb dX2_plan_6 rfl (lv_at hl 1 rfl) ?_
  refine lv_iload_n hx hb dX2_plan_7 rfl (lv_at hl 3 rfl) ?_
  refine h_callq (As := [.int (nI j)]) (rest := []) ⟨hx, hb, hml, hown, hts⟩ (c_X2_pavilionAt l D E tl x j hj) (cwV 1 hts gX2_plan_X2_pavilionAt rfl rfl rfl (by decide +kernel) ⟨Nat.le_of_ble_eq_true rfl, Nat.le_of_ble_eq_true rfl⟩) (c_recv hK hP) hK hX hP hD hS hA rfl hl.1 rfl (Nat.le_of_ble_eq_true rfl) dX2_plan_8 ⟨Nat.le_of_ble_eq_true rfl, Nat.le_of_ble_eq_true rfl⟩ (fun r_6 u_5 H locs hw hP hD hS => ?_)
  obtain ⟨hr_6, hu_5⟩ := hw
  rw [hu_5] at hP hD
  refine q_topv (v' := .ref (ePad E j)) (by rw [hr_6]; rfl) ?_
  refine lv_astore (lv' := [(4, .ref (ePad E j)), (3, .ref (eVad E i)), (0, .ref (eO E)), (1, .int (nI i)), (2, .int (nI j))]) hx hb dX2_plan_11 hl (by decide) rfl (fun ls hl => ?_)
  refine lv_aload_n hx hb dX2_plan_13 rfl (lv_at hl 2 rfl) ?_
  refine lv_aload_n hx hb dX2_plan_14 rfl (lv_at hl 1 rfl) ?_
  refine lv_aload hx hb dX2_plan_15 (lv_at hl 0 rfl) ?_
  refine h_calli (As := [.ref (eVad E i), .ref (ePad E j)]) (rest := []) ⟨hx, hb, hml, hown, hts⟩ (c_X2_indexInPlan l D E tl x i j 0 hi hj (by omega) h15 (Or.inl rfl) (fun k h => absurd h (by omega))) (cwV 2 hts gX2_plan_X2_indexInPlan rfl rfl rfl (by decide +kernel) ⟨Nat.le_of_ble_eq_true rfl, Nat.le_of_ble_eq_true rfl⟩) (c_recv hK hP) hK hX hP hD hS hA rfl hl.1 rfl (Nat.le_of_ble_eq_true rfl) dX2_plan_17 ⟨Nat.le_of_ble_eq_true rfl, Nat.le_of_ble_eq_true rfl⟩ (fun r_9 u_8 H locs hw hP hD hS => ?_)
  obtain ⟨hr_9, hu_8⟩ := hw
  rw [hu_8] at hP hD
  refine q_top (x' := (-1)) hr_9 ?_
  refine lv_iconst (v := -1) hx hb dX2_plan_20 (by decide) ?_
  refine lv_icmp_eq (tgt := 34) hx hb dX2_plan_21 (by decide) (fun c8 => ?_) (fun c8 => absurd rfl c8)
  refine lv_aload_n hx hb dX2_plan_34 rfl (lv_at hl 1 rfl) ?_
  refine c_getV hx hb hts hinV hown hK hP (by omega) 0 (by decide) k67 rfl rfl dX2_plan_35 ?_
  refine lv_aload hx hb dX2_plan_38 (lv_at hl 0 rfl) ?_
  refine c_addF ⟨hx, hb, hml, hown, hts⟩ gX2_plan_Jx4a65c_add_9ea2d hK hX hP hD hS hA (i := i) (j := j) hi hj hLP h15 hed ⟨Nat.le_of_ble_eq_true rfl, Nat.le_of_ble_eq_true rfl⟩ hl.1 (Nat.le_of_ble_eq_true rfl) dX2_plan_40 ⟨Nat.le_of_ble_eq_true rfl, Nat.le_of_ble_eq_true rfl⟩ (fun r9 u H locs hP hD hS => ?_)
  replace hK : va_K D vwCl (cT (eSetP E (pcAdd (ePc E) i 0 j) (edAdd (eEd E) i u) (eLP E ++ [i])) tl) s := hK
  replace hX : cX (eDf (eSetP E (pcAdd (ePc E) i 0 j) (edAdd (eEd E) i u) (eLP E ++ [i]))) A s := hX
  replace hl : lv_has ls 5 [(4, .ref (ePad (eSetP E (pcAdd (ePc E) i 0 j) (edAdd (eEd E) i u) (eLP E ++ [i])) j)), (3, .ref (eVad (eSetP E (pcAdd (ePc E) i 0 j) (edAdd (eEd E) i u) (eLP E ++ [i])) i)), (0, .ref (eO (eSetP E (pcAdd (ePc E) i 0 j) (edAdd (eEd E) i u) (eLP E ++ [i])))), (1, .int (nI i)), (2, .int (nI j))] := hl
  refine lv_pop hx hb dX2_plan_43 rfl ?_
  refine lv_aload_n hx hb dX2_plan_44 rfl (lv_at hl 1 rfl) ?_
  refine c_getV hx hb hts hinV hown hK hP (by omega) 0 (by decide) k67 rfl rfl dX2_plan_45 ?_
  refine c_size (E := (eSetP E (pcAdd (ePc E) i 0 j) (edAdd (eEd E) i u) (eLP E ++ [i]))) ⟨hx, hb, hml, hown, hts⟩ gX2_plan_Jx4a65c_size_8abf5 hK hX hP hD hS hA (i := i) (by omega) ⟨Nat.le_of_ble_eq_true rfl, Nat.le_of_ble_eq_true rfl⟩ hl.1 (Nat.le_of_ble_eq_true rfl) dX2_plan_48 ⟨Nat.le_of_ble_eq_true rfl, Nat.le_of_ble_eq_true rfl⟩ (fun H locs hP hD hS => ?_)
  refine q_top (x' := (nI 1)) xLen_15 ?_
  exact W.iret hx hb hr (fun t ht hW => ⟨⟨_, u, rfl, rfl, by rw [ht]; exact hP, va_K.moved hW.alike hK, hD⟩, hS.F ht⟩) hS.2.2 dX2_plan_51

def cDropX (x : Nat → Nat → Int32) (i j n0 : Nat) : Nat → Nat → Int32 := if cAt (xLen x i (n0 - 1)) i (nI 1) j = 1 ∧ xLen x i (n0 - 1) 13 i = nI 0 then cLeave (xLen x i (n0 - 1)) i else xLen x i (n0 - 1)
theorem cDropX_15 {x : Nat → Nat → Int32} {i j n0 : Nat} : cDropX x i j n0 15 i = nI (n0 - 1) := by
  unfold cDropX
  by_cases h : cAt (xLen x i (n0 - 1)) i (nI 1) j = 1 ∧ xLen x i (n0 - 1) 13 i = nI 0
  · rw [if_pos h]
    rw [cLeave_f _ _ _ _ (by decide)]
    exact xLen_15
  · rw [if_neg h]
    exact xLen_15

set_option maxHeartbeats 4000000 in
set_option maxRecDepth 100000 in
theorem c_X2_drop (l : Launch) (D : va_G) (E : cE) (tl : gTy) (x : Nat → Nat → Int32) (i j n0 k : Nat) (hi : i < 8) (hj : j < 6) (hn0 : n0 ≤ 6) (h15 : x 15 i = nI n0) (hLP : i ∈ eLP E) (hpc : ∀ k, k < n0 → ePc E i k < 6) (hk : k < n0) (hix : cIdx E i j n0 0 = nI k)  : hI l yX2_drop wsX2_drop ({ frames := 4, cells := 0, slots := 0, locals := 90 } : Room) D E tl (cW E x) [.ref (eO E), .int (nI i), .int (nI j)] (fun (r : Int32) (u : Nat → Nat → Int32) => r = nI (n0 - 1) ∧ u = cDropX x i j n0) (cW (eSetP E (pcDel (ePc E) i k) (eEd E) (eLP E))) 0 0 := by
  refine hM.start (cc := cX2_drop) (maxL := 6) (ret := (some .int)) (own := RX2) rfl (by decide) rfl (Nat.le_of_ble_eq_true rfl) ?_
  intro pr e s m args below meth c A ls H locs hx hb hml hr hts hown hlocks hname hA hK hX hP hD hS hl
  replace hl : lv_has ls 6 [(0, .ref (eO E)), (1, .int (nI i)), (2, .int (nI j))] := hl
  have hinV : ∀ w ∈ wsX10, w ∈ wsX2_drop := by decide +kernel
  have k67 := va_Nw.use (A := args) rfl (hX.1 (.fieldLinkNest RX2 67 "FairFolio$Visitor" "plan" "Ljava/util/ArrayList;" "FairFolio") (by decide +kernel))
  have k91 := va_Nw.use (A := args) rfl (hX.1 (.fieldLinkNest RX2 91 "FairFolio$Visitor" "waitsByTurn" "Z" "FairFolio") (by decide +kernel))
  refine lv_aload_n hx hb dX2_drop_0 rfl (lv_at hl 0 rfl) ?_
  refine lv_iload_n hx hb dX2_drop_1 rfl (lv_at hl 1 rfl) ?_
  refine h_callq (As := [.int (nI i)]) (rest := []) ⟨hx, hb, hml, hown, hts⟩ (c_X2_visitorAt l D E tl x i hi) (cwV 1 hts gX2_drop_X2_visitorAt rfl rfl rfl (by decide +kernel) ⟨Nat.le_of_ble_eq_true rfl, Nat.le_of_ble_eq_true rfl⟩) (c_recv hK hP) hK hX hP hD hS hA rfl hl.1 rfl (Nat.le_of_ble_eq_true rfl) dX2_drop_2 ⟨Nat.le_of_ble_eq_true rfl, Nat.le_of_ble_eq_true rfl⟩ (fun r_3 u_2 H locs hw hP hD hS => ?_)
  obtain ⟨hr_3, hu_2⟩ := hw
  rw [hu_2] at hP hD
  refine q_topv (v' := .ref (eVad E i)) (by rw [hr_3]; rfl) ?_
  refine lv_astore_n (lv' := [(3, .ref (eVad E i)), (0, .ref (eO E)), (1, .int (nI i)), (2, .int (nI j))]) hx hb dX2_drop_5 rfl hl (by decide) rfl (fun ls hl => ?_)
  refine lv_aload_n hx hb dX2_drop_6 rfl (lv_at hl 1 rfl) ?_
  refine lv_iload_n hx hb dX2_drop_7 rfl (lv_at hl 3 rfl) ?_
  refine h_callq (As := [.int (nI j)]) (rest := []) ⟨hx, hb, hml, hown, hts⟩ (c_X2_pavilionAt l D E tl x j hj) (cwV 1 hts gX2_drop_X2_pavilionAt rfl rfl rfl (by decide +kernel) ⟨Nat.le_of_ble_eq_true rfl, Nat.le_of_ble_eq_true rfl⟩) (c_recv hK hP) hK hX hP hD hS hA rfl hl.1 rfl (Nat.le_of_ble_eq_true rfl) dX2_drop_8 ⟨Nat.le_of_ble_eq_true rfl, Nat.le_of_ble_eq_true rfl⟩ (fun r_6 u_5 H locs hw hP hD hS => ?_)
  obtain ⟨hr_6, hu_5⟩ := hw
  rw [hu_5] at hP hD
  refine q_topv (v' := .ref (ePad E j)) (by rw [hr_6]; rfl) ?_
  refine lv_astore (lv' := [(4, .ref (ePad E j)), (3, .ref (eVad E i)), (0, .ref (eO E)), (1, .int (nI i)), (2, .int (nI j))]) hx hb dX2_drop_11 hl (by decide) rfl (fun ls hl => ?_)
  refine lv_aload_n hx hb dX2_drop_13 rfl (lv_at hl 2 rfl) ?_
  refine lv_aload_n hx hb dX2_drop_14 rfl (lv_at hl 1 rfl) ?_
  refine lv_aload hx hb dX2_drop_15 (lv_at hl 0 rfl) ?_
  refine h_calli (As := [.ref (eVad E i), .ref (ePad E j)]) (rest := []) ⟨hx, hb, hml, hown, hts⟩ (c_X2_indexInPlan l D E tl x i j n0 hi hj hn0 h15 (Or.inr hLP) hpc) (cwV 2 hts gX2_drop_X2_indexInPlan rfl rfl rfl (by decide +kernel) ⟨Nat.le_of_ble_eq_true rfl, Nat.le_of_ble_eq_true rfl⟩) (c_recv hK hP) hK hX hP hD hS hA rfl hl.1 rfl (Nat.le_of_ble_eq_true rfl) dX2_drop_17 ⟨Nat.le_of_ble_eq_true rfl, Nat.le_of_ble_eq_true rfl⟩ (fun r_9 u_8 H locs hw hP hD hS => ?_)
  obtain ⟨hr_9, hu_8⟩ := hw
  rw [hu_8] at hP hD
  refine q_top (x' := (nI k)) (hr_9.trans hix) ?_
  refine lv_istore (lv' := [(5, .int (nI k)), (4, .ref (ePad E j)), (3, .ref (eVad E i)), (0, .ref (eO E)), (1, .int (nI i)), (2, .int (nI j))]) hx hb dX2_drop_20 hl (by decide) rfl (fun ls hl => ?_)
  refine lv_iload hx hb dX2_drop_22 (lv_at hl 0 rfl) ?_
  refine lv_iconst (v := -1) hx hb dX2_drop_24 (by decide) ?_
  refine lv_icmp_ne (tgt := 38) hx hb dX2_drop_25 (by decide) (fun c8 => ?_) (fun c8 => absurd c8 (nI_nem1 (by omega)))
  refine lv_aload_n hx hb dX2_drop_38 rfl (lv_at hl 2 rfl) ?_
  refine c_getV hx hb hts hinV hown hK hP (by omega) 0 (by decide) k67 rfl rfl dX2_drop_39 ?_
  refine lv_iload hx hb dX2_drop_42 (lv_at hl 0 rfl) ?_
  refine c_rem ⟨hx, hb, hml, hown, hts⟩ gX2_drop_Jx4a65c_remove_915e3 hK hX hP hD hS hA (i := i) (k := k) hi hLP h15 hn0 hk hpc ⟨Nat.le_of_ble_eq_true rfl, Nat.le_of_ble_eq_true rfl⟩ hl.1 (Nat.le_of_ble_eq_true rfl) dX2_drop_44 ⟨Nat.le_of_ble_eq_true rfl, Nat.le_of_ble_eq_true rfl⟩ (fun H locs hP hD hS => ?_)
  replace hK : va_K D vwCl (cT (eSetP E (pcDel (ePc E) i k) (eEd E) (eLP E)) tl) s := hK
  replace hX : cX (eDf (eSetP E (pcDel (ePc E) i k) (eEd E) (eLP E))) A s := hX
  replace hl : lv_has ls 6 [(5, .int (nI k)), (4, .ref (ePad (eSetP E (pcDel (ePc E) i k) (eEd E) (eLP E)) j)), (3, .ref (eVad (eSetP E (pcDel (ePc E) i k) (eEd E) (eLP E)) i)), (0, .ref (eO (eSetP E (pcDel (ePc E) i k) (eEd E) (eLP E)))), (1, .int (nI i)), (2, .int (nI j))] := hl
  refine lv_pop hx hb dX2_drop_47 rfl ?_
  refine lv_aload_n hx hb dX2_drop_48 rfl (lv_at hl 3 rfl) ?_
  refine lv_aload_n hx hb dX2_drop_49 rfl (lv_at hl 2 rfl) ?_
  refine lv_iconst (v := nI 1) hx hb dX2_drop_50 (by decide) ?_
  refine lv_aload hx hb dX2_drop_51 (lv_at hl 1 rfl) ?_
  refine h_calli (As := [.ref (eVad (eSetP E (pcDel (ePc E) i k) (eEd E) (eLP E)) i), .int (nI 1), .ref (ePad (eSetP E (pcDel (ePc E) i k) (eEd E) (eLP E)) j)]) (rest := []) ⟨hx, hb, hml, hown, hts⟩ (c_X2_isAt l D (eSetP E (pcDel (ePc E) i k) (eEd E) (eLP E)) tl (xLen x i (n0 - 1)) i j (nI 1) hi hj) (cwV 3 hts gX2_drop_X2_isAt rfl rfl rfl (by decide +kernel) ⟨Nat.le_of_ble_eq_true rfl, Nat.le_of_ble_eq_true rfl⟩) (c_recv hK hP) hK hX hP hD hS hA rfl hl.1 rfl (Nat.le_of_ble_eq_true rfl) dX2_drop_53 ⟨Nat.le_of_ble_eq_true rfl, Nat.le_of_ble_eq_true rfl⟩ (fun r_12 u_11 H locs hw hP hD hS => ?_)
  obtain ⟨hr_12, hu_11⟩ := hw
  rw [hu_11] at hP hD
  refine q_top (x' := (nI (cAt (xLen x i (n0 - 1)) i (nI 1) j))) hr_12 ?_
  rcases cAt_01 (xLen x i (n0 - 1)) i (nI 1) j with hat | hat
  · rw [hat]
    refine q_if_eq (tgt := 71) hx hb (by omega) dX2_drop_56 (by decide) (fun c_13 => ?_) (fun c_13 => absurd c_13 (by decide))
    have ey : (xLen x i (n0 - 1)) = cDropX x i j n0 := (by rw [cDropX, if_neg (fun q => absurd (q.1.symm.trans hat) (by decide))])
    rw [ey] at hP hD
    clear ey
    refine lv_aload_n hx hb dX2_drop_71 rfl (lv_at hl 2 rfl) ?_
    refine c_getV hx hb hts hinV hown hK hP (by omega) 0 (by decide) k67 rfl rfl dX2_drop_72 ?_
    refine c_size (E := (eSetP E (pcDel (ePc E) i k) (eEd E) (eLP E))) ⟨hx, hb, hml, hown, hts⟩ gX2_drop_Jx4a65c_size_8abf5 hK hX hP hD hS hA (i := i) (by omega) ⟨Nat.le_of_ble_eq_true rfl, Nat.le_of_ble_eq_true rfl⟩ hl.1 (Nat.le_of_ble_eq_true rfl) dX2_drop_75 ⟨Nat.le_of_ble_eq_true rfl, Nat.le_of_ble_eq_true rfl⟩ (fun H locs hP hD hS => ?_)
    refine q_top (x' := (nI (n0 - 1))) cDropX_15 ?_
    exact W.iret hx hb hr (fun t ht hW => ⟨⟨_, cDropX x i j n0, rfl, ⟨rfl, rfl⟩, by rw [ht]; exact hP, va_K.moved hW.alike hK, hD⟩, hS.F ht⟩) hS.2.2 dX2_drop_78
  · rw [hat]
    refine q_if_eq (tgt := 71) hx hb (by omega) dX2_drop_56 (by decide) (fun c_14 => absurd c_14 (by decide)) (fun c_14 => ?_)
    refine lv_aload_n hx hb dX2_drop_59 rfl (lv_at hl 2 rfl) ?_
    refine c_getV hx hb hts hinV hown hK hP (by omega) 9 (by decide) k91 rfl rfl dX2_drop_60 ?_
    refine lv_if_ne (tgt := 71) hx hb dX2_drop_63 (by decide) (fun c9 => ?_) (fun c9 => ?_)
    · replace c9 : ¬ ((xLen x i (n0 - 1)) 13 i) = nI 0 := c9
      have ey : (xLen x i (n0 - 1)) = cDropX x i j n0 := (by rw [cDropX, if_neg (fun q => c9 q.2)])
      rw [ey] at hP hD
      clear ey
      refine lv_aload_n hx hb dX2_drop_71 rfl (lv_at hl 2 rfl) ?_
      refine c_getV hx hb hts hinV hown hK hP (by omega) 0 (by decide) k67 rfl rfl dX2_drop_72 ?_
      refine c_size (E := (eSetP E (pcDel (ePc E) i k) (eEd E) (eLP E))) ⟨hx, hb, hml, hown, hts⟩ gX2_drop_Jx4a65c_size_8abf5 hK hX hP hD hS hA (i := i) (by omega) ⟨Nat.le_of_ble_eq_true rfl, Nat.le_of_ble_eq_true rfl⟩ hl.1 (Nat.le_of_ble_eq_true rfl) dX2_drop_75 ⟨Nat.le_of_ble_eq_true rfl, Nat.le_of_ble_eq_true rfl⟩ (fun H locs hP hD hS => ?_)
      refine q_top (x' := (nI (n0 - 1))) cDropX_15 ?_
      exact W.iret hx hb hr (fun t ht hW => ⟨⟨_, cDropX x i j n0, rfl, ⟨rfl, rfl⟩, by rw [ht]; exact hP, va_K.moved hW.alike hK, hD⟩, hS.F ht⟩) hS.2.2 dX2_drop_78
    · replace c9 : ((xLen x i (n0 - 1)) 13 i) = nI 0 := c9
      refine lv_aload_n hx hb dX2_drop_66 rfl (lv_at hl 3 rfl) ?_
      refine lv_aload_n hx hb dX2_drop_67 rfl (lv_at hl 2 rfl) ?_
      refine h_callv (As := [.ref (eVad (eSetP E (pcDel (ePc E) i k) (eEd E) (eLP E)) i)]) (rest := []) ⟨hx, hb, hml, hown, hts⟩ (c_X2_leaveQueue l D (eSetP E (pcDel (ePc E) i k) (eEd E) (eLP E)) tl (xLen x i (n0 - 1)) i hi) (cwV 1 hts gX2_drop_X2_leaveQueue rfl rfl rfl (by decide +kernel) ⟨Nat.le_of_ble_eq_true rfl, Nat.le_of_ble_eq_true rfl⟩) (c_recv hK hP) hK hX hP hD hS hA rfl hl.1 rfl (Nat.le_of_ble_eq_true rfl) dX2_drop_68 ⟨Nat.le_of_ble_eq_true rfl, Nat.le_of_ble_eq_true rfl⟩ (fun u_16 H locs hw hP hD hS => ?_)
      rw [hw] at hP hD
      have ey : cLeave (xLen x i (n0 - 1)) i = cDropX x i j n0 := (by rw [cDropX, if_pos ⟨hat, c9⟩])
      rw [ey] at hP hD
      clear ey
      refine lv_aload_n hx hb dX2_drop_71 rfl (lv_at hl 2 rfl) ?_
      refine c_getV hx hb hts hinV hown hK hP (by omega) 0 (by decide) k67 rfl rfl dX2_drop_72 ?_
      refine c_size (E := (eSetP E (pcDel (ePc E) i k) (eEd E) (eLP E))) ⟨hx, hb, hml, hown, hts⟩ gX2_drop_Jx4a65c_size_8abf5 hK hX hP hD hS hA (i := i) (by omega) ⟨Nat.le_of_ble_eq_true rfl, Nat.le_of_ble_eq_true rfl⟩ hl.1 (Nat.le_of_ble_eq_true rfl) dX2_drop_75 ⟨Nat.le_of_ble_eq_true rfl, Nat.le_of_ble_eq_true rfl⟩ (fun H locs hP hD hS => ?_)
      refine q_top (x' := (nI (n0 - 1))) cDropX_15 ?_
      exact W.iret hx hb hr (fun t ht hW => ⟨⟨_, cDropX x i j n0, rfl, ⟨rfl, rfl⟩, by rw [ht]; exact hP, va_K.moved hW.alike hK, hD⟩, hS.F ht⟩) hS.2.2 dX2_drop_78

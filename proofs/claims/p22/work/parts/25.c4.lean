/-- the place of a pavilion in a plan of n: k is where to begin -/
def cIdx (E : cE) (i j : Nat) : Nat → Nat → Int32
  | 0, _ => -1
  | n + 1, k => if ePc E i k = j then nI k else cIdx E i j n (k + 1)

set_option maxHeartbeats 4000000 in
set_option maxRecDepth 100000 in
theorem c_X2_indexInPlan (l : Launch) (D : va_G) (E : cE) (tl : gTy) (x : Nat → Nat → Int32) (i j n0 : Nat) (hi : i < 8) (hj : j < 6) (hn0 : n0 ≤ 6) (h15 : x 15 i = nI n0) (hLP : n0 = 0 ∨ i ∈ eLP E) (hpc : ∀ k, k < n0 → ePc E i k < 6)  : hI l yX2_indexInPlan wsX2_indexInPlan ({ frames := 3, cells := 0, slots := 0, locals := 64 } : Room) D E tl (cW E x) [.ref (eO E), .ref (eVad E i), .ref (ePad E j)] (fun (r : Int32) (u : Nat → Nat → Int32) => r = cIdx E i j n0 0 ∧ u = x) (cW E) 0 0 := by
  refine hM.start (cc := cX2_indexInPlan) (maxL := 4) (ret := (some .int)) (own := RX2) rfl (by decide) rfl (Nat.le_of_ble_eq_true rfl) ?_
  intro pr e s m args below meth c A ls H locs hx hb hml hr hts hown hlocks hname hA hK hX hP hD hS hl
  replace hl : lv_has ls 4 [(0, .ref (eO E)), (1, .ref (eVad E i)), (2, .ref (ePad E j))] := hl
  have hinV : ∀ w ∈ wsX10, w ∈ wsX2_indexInPlan := by decide +kernel
  have k67 := va_Nw.use (A := args) rfl (hX.1 (.fieldLinkNest RX2 67 "FairFolio$Visitor" "plan" "Ljava/util/ArrayList;" "FairFolio") (by decide +kernel))
  refine lv_iconst (v := nI 0) hx hb dX2_indexInPlan_0 (by decide) ?_
  refine lv_istore_n (lv' := [(3, .int (nI 0)), (0, .ref (eO E)), (1, .ref (eVad E i)), (2, .ref (ePad E j))]) hx hb dX2_indexInPlan_1 rfl hl (by decide) rfl (fun ls hl => ?_)
  obtain ⟨k, hk⟩ : ∃ k : Nat, k = 0 := ⟨_, rfl⟩
  obtain ⟨nn, hn⟩ : ∃ nn : Nat, nn = n0 := ⟨_, rfl⟩
  replace hl : lv_has ls 4 [(3, .int (nI k)), (0, .ref (eO E)), (1, .ref (eVad E i)), (2, .ref (ePad E j))] := by rw [hk]; exact hl
  have hix : cIdx E i j n0 0 = cIdx E i j nn k := by rw [hn, hk]
  replace hn : k + nn = n0 := by omega
  clear hk
  induction nn generalizing k H locs ls with
  | zero =>
    refine lv_iload_n hx hb dX2_indexInPlan_2 rfl (lv_at hl 0 rfl) ?_
    refine lv_aload_n hx hb dX2_indexInPlan_3 rfl (lv_at hl 2 rfl) ?_
    refine c_getV hx hb hts hinV hown hK hP (by omega) 0 (by decide) k67 rfl rfl dX2_indexInPlan_4 ?_
    refine c_size ⟨hx, hb, hml, hown, hts⟩ gX2_indexInPlan_Jx4a65c_size_8abf5 hK hX hP hD hS hA (i := i) (by omega) ⟨Nat.le_of_ble_eq_true rfl, Nat.le_of_ble_eq_true rfl⟩ hl.1 (Nat.le_of_ble_eq_true rfl) dX2_indexInPlan_7 ⟨Nat.le_of_ble_eq_true rfl, Nat.le_of_ble_eq_true rfl⟩ (fun H locs hP hD hS => ?_)
    refine q_top (x' := (nI n0)) h15 ?_
    refine q_icmp_ge (tgt := 33) hx hb (by omega) (by omega) dX2_indexInPlan_10 (by decide) (fun c1 => ?_) (fun c1 => absurd c1 (by omega))
    refine lv_iconst (v := -1) hx hb dX2_indexInPlan_33 (by decide) ?_
    refine q_top (x' := cIdx E i j n0 0) (hix.trans (by rw [cIdx])).symm ?_
    exact W.iret hx hb hr (fun t ht hW => ⟨⟨_, x, rfl, ⟨rfl, rfl⟩, by rw [ht]; exact hP, va_K.moved hW.alike hK, hD⟩, hS.F ht⟩) hS.2.2 dX2_indexInPlan_34
  | succ nn ih =>
    refine lv_iload_n hx hb dX2_indexInPlan_2 rfl (lv_at hl 0 rfl) ?_
    refine lv_aload_n hx hb dX2_indexInPlan_3 rfl (lv_at hl 2 rfl) ?_
    refine c_getV hx hb hts hinV hown hK hP (by omega) 0 (by decide) k67 rfl rfl dX2_indexInPlan_4 ?_
    refine c_size ⟨hx, hb, hml, hown, hts⟩ gX2_indexInPlan_Jx4a65c_size_8abf5 hK hX hP hD hS hA (i := i) (by omega) ⟨Nat.le_of_ble_eq_true rfl, Nat.le_of_ble_eq_true rfl⟩ hl.1 (Nat.le_of_ble_eq_true rfl) dX2_indexInPlan_7 ⟨Nat.le_of_ble_eq_true rfl, Nat.le_of_ble_eq_true rfl⟩ (fun H locs hP hD hS => ?_)
    refine q_top (x' := (nI n0)) h15 ?_
    refine q_icmp_ge (tgt := 33) hx hb (by omega) (by omega) dX2_indexInPlan_10 (by decide) (fun c1 => absurd c1 (by omega)) (fun c1 => ?_)
    refine lv_aload_n hx hb dX2_indexInPlan_13 rfl (lv_at hl 2 rfl) ?_
    refine c_getV hx hb hts hinV hown hK hP (by omega) 0 (by decide) k67 rfl rfl dX2_indexInPlan_14 ?_
    refine lv_iload_n hx hb dX2_indexInPlan_17 rfl (lv_at hl 0 rfl) ?_
    refine c_get ⟨hx, hb, hml, hown, hts⟩ gX2_indexInPlan_Jx4a65c_get_915e3 hK hX hP hD hS hA (i := i) (by omega) (hLP.resolve_left (by omega)) h15 (by omega) (by omega) ⟨Nat.le_of_ble_eq_true rfl, Nat.le_of_ble_eq_true rfl⟩ hl.1 (Nat.le_of_ble_eq_true rfl) dX2_indexInPlan_18 ⟨Nat.le_of_ble_eq_true rfl, Nat.le_of_ble_eq_true rfl⟩ (fun H locs hP hD hS => ?_)
    refine lv_aload_n hx hb dX2_indexInPlan_21 rfl (lv_at hl 3 rfl) ?_
    refine lv_acmp_ne (rx := some (ePad E (ePc E i k))) (ry := some (ePad E j)) (tgt := 27) hx hb dX2_indexInPlan_22 (by decide) (fun c2 => ?_) (fun c2 => ?_)
    · refine q_inc (k := 0) (lv' := [(3, .int (nI (k + 1))), (0, .ref (eO E)), (1, .ref (eVad E i)), (2, .ref (ePad E j))]) hx hb dX2_indexInPlan_27 hl rfl (by decide) rfl (fun ls hl => ?_)
      refine lv_goto (tgt := 2) hx hb dX2_indexInPlan_30 (by decide) ?_
      exact ih (k := k + 1) (H := H) (locs := locs) (ls := ls) (hP := hP) (hS := hS) (hl := hl) (hn := by omega) (hix := hix.trans (by rw [cIdx, if_neg (fun q => c2 (by rw [q]))]))
    · refine lv_iload_n hx hb dX2_indexInPlan_25 rfl (lv_at hl 0 rfl) ?_
      refine q_top (x' := cIdx E i j n0 0) (hix.trans (by rw [cIdx, if_pos (cPad_inj hD (hpc k (by omega)) hj (Option.some.inj c2))])).symm ?_
      exact W.iret hx hb hr (fun t ht hW => ⟨⟨_, x, rfl, ⟨rfl, rfl⟩, by rw [ht]; exact hP, va_K.moved hW.alike hK, hD⟩, hS.F ht⟩) hS.2.2 dX2_indexInPlan_26

set_option maxHeartbeats 4000000 in
set_option maxRecDepth 100000 in
theorem c_X2_followPlan (l : Launch) (D : va_G) (E : cE) (tl : gTy) (x : Nat → Nat → Int32) (i n0 : Nat) (x1 : Nat → Nat → Int32) (hi : i < 8) (hn0 : n0 ≤ 6) (h15 : x 15 i = nI n0) (hLP : n0 = 0 ∨ i ∈ eLP E) (hf : cFP E i n0 0 x x1)  : hV l yX2_followPlan wsX2_followPlan ({ frames := 3, cells := 0, slots := 0, locals := 64 } : Room) D E tl (cW E x) [.ref (eO E), .ref (eVad E i)] (fun u : Nat → Nat → Int32 => u = x1) (cW E) 0 0 := by
  refine hM.start (cc := cX2_followPlan) (maxL := 4) (ret := none) (own := RX2) rfl (by decide) rfl (Nat.le_of_ble_eq_true rfl) ?_
  intro pr e s m args below meth c A ls H locs hx hb hml hr hts hown hlocks hname hA hK hX hP hD hS hl
  replace hl : lv_has ls 4 [(0, .ref (eO E)), (1, .ref (eVad E i))] := hl
  have hinP : ∀ w ∈ wsX00, w ∈ wsX2_followPlan := by decide +kernel
  have hinV : ∀ w ∈ wsX10, w ∈ wsX2_followPlan := by decide +kernel
  have k67 := va_Nw.use (A := args) rfl (hX.1 (.fieldLinkNest RX2 67 "FairFolio$Visitor" "plan" "Ljava/util/ArrayList;" "FairFolio") (by decide +kernel))
  have k46 := va_Nw.use (A := args) rfl (hX.1 (.fieldLinkNest RX2 46 "FairFolio$Pavilion" "isOpen" "Z" "FairFolio") (by decide +kernel))
  refine lv_iconst (v := nI 0) hx hb dX2_followPlan_0 (by decide) ?_
  refine lv_istore_n (lv' := [(2, .int (nI 0)), (0, .ref (eO E)), (1, .ref (eVad E i))]) hx hb dX2_followPlan_1 rfl hl (by decide) rfl (fun ls hl => ?_)
  obtain ⟨k, hk⟩ : ∃ k : Nat, k = 0 := ⟨_, rfl⟩
  obtain ⟨nn, hn⟩ : ∃ nn : Nat, nn = n0 := ⟨_, rfl⟩
  replace hl : lv_has ls 4 [(2, .int (nI k)), (0, .ref (eO E)), (1, .ref (eVad E i))] := by rw [hk]; exact hl
  replace hf : cFP E i nn k x x1 := by rw [hn, hk]; exact hf
  replace hn : k + nn = n0 := by omega
  clear hk
  induction nn generalizing k H locs ls with
  | zero =>
    obtain rfl := hf
    refine lv_iload_n hx hb dX2_followPlan_2 rfl (lv_at hl 0 rfl) ?_
    refine lv_aload_n hx hb dX2_followPlan_3 rfl (lv_at hl 2 rfl) ?_
    refine c_getV hx hb hts hinV hown hK hP (by omega) 0 (by decide) k67 rfl rfl dX2_followPlan_4 ?_
    refine c_size ⟨hx, hb, hml, hown, hts⟩ gX2_followPlan_Jx4a65c_size_8abf5 hK hX hP hD hS hA (i := i) (by omega) ⟨Nat.le_of_ble_eq_true rfl, Nat.le_of_ble_eq_true rfl⟩ hl.1 (Nat.le_of_ble_eq_true rfl) dX2_followPlan_7 ⟨Nat.le_of_ble_eq_true rfl, Nat.le_of_ble_eq_true rfl⟩ (fun H locs hP hD hS => ?_)
    refine q_top (x' := (nI n0)) h15 ?_
    refine q_icmp_ge (tgt := 60) hx hb (by omega) (by omega) dX2_followPlan_10 (by decide) (fun c1 => ?_) (fun c1 => absurd c1 (by omega))
    exact W.vret hx hb hr (fun t ht hW => ⟨⟨x1, rfl, rfl, by rw [ht]; exact hP, va_K.moved hW.alike hK, hD⟩, hS.F ht⟩) hS.2.2 dX2_followPlan_60
  | succ nn ih =>
    obtain ⟨hj, hf⟩ := hf
    refine lv_iload_n hx hb dX2_followPlan_2 rfl (lv_at hl 0 rfl) ?_
    refine lv_aload_n hx hb dX2_followPlan_3 rfl (lv_at hl 2 rfl) ?_
    refine c_getV hx hb hts hinV hown hK hP (by omega) 0 (by decide) k67 rfl rfl dX2_followPlan_4 ?_
    refine c_size ⟨hx, hb, hml, hown, hts⟩ gX2_followPlan_Jx4a65c_size_8abf5 hK hX hP hD hS hA (i := i) (by omega) ⟨Nat.le_of_ble_eq_true rfl, Nat.le_of_ble_eq_true rfl⟩ hl.1 (Nat.le_of_ble_eq_true rfl) dX2_followPlan_7 ⟨Nat.le_of_ble_eq_true rfl, Nat.le_of_ble_eq_true rfl⟩ (fun H locs hP hD hS => ?_)
    refine q_top (x' := (nI n0)) h15 ?_
    refine q_icmp_ge (tgt := 60) hx hb (by omega) (by omega) dX2_followPlan_10 (by decide) (fun c1 => absurd c1 (by omega)) (fun c1 => ?_)
    refine lv_aload_n hx hb dX2_followPlan_13 rfl (lv_at hl 2 rfl) ?_
    refine c_getV hx hb hts hinV hown hK hP (by omega) 0 (by decide) k67 rfl rfl dX2_followPlan_14 ?_
    refine lv_iload_n hx hb dX2_followPlan_17 rfl (lv_at hl 0 rfl) ?_
    refine c_get ⟨hx, hb, hml, hown, hts⟩ gX2_followPlan_Jx4a65c_get_915e3 hK hX hP hD hS hA (i := i) (by omega) (hLP.resolve_left (by omega)) h15 (by omega) (by omega) ⟨Nat.le_of_ble_eq_true rfl, Nat.le_of_ble_eq_true rfl⟩ hl.1 (Nat.le_of_ble_eq_true rfl) dX2_followPlan_18 ⟨Nat.le_of_ble_eq_true rfl, Nat.le_of_ble_eq_true rfl⟩ (fun H locs hP hD hS => ?_)
    obtain ⟨q9, hq9⟩ : ∃ q9, va_K D vwCl (cT E tl) s ∧ q9 = 0 := ⟨0, hK, rfl⟩
    refine va_castS (nm := "FairFolio$Pavilion") hx hb hown (hts (.classLink RX2 9 "FairFolio$Pavilion") (by decide +kernel)) (hK.1 1 _ rfl).2 (c_recvP hK hP hj) dX2_followPlan_21 ?_
    generalize ePc E i k = j at hj hf ⊢
    refine lv_astore_n (lv' := [(3, .ref (ePad E j)), (2, .int (nI k)), (0, .ref (eO E)), (1, .ref (eVad E i))]) hx hb dX2_followPlan_24 rfl hl (by decide) rfl (fun ls hl => ?_)
    refine lv_aload_n hx hb dX2_followPlan_25 rfl (lv_at hl 0 rfl) ?_
    refine c_getP hx hb hts hinP hown hK hP (by omega) 3 (by decide) k46 rfl rfl dX2_followPlan_26 ?_
    rcases hf with ⟨h3, hf⟩ | ⟨h3, hst, hf⟩ | ⟨h3, hst, hs⟩
    · refine lv_if_eq (tgt := 54) hx hb dX2_followPlan_29 (by decide) (fun c2 => ?_) (fun c2 => absurd h3 c2)
      replace c2 : (x 3 j) = nI 0 := c2
      refine q_inc (k := 1) (lv' := [(2, .int (nI (k + 1))), (3, .ref (ePad E j)), (0, .ref (eO E)), (1, .ref (eVad E i))]) hx hb dX2_followPlan_54 hl rfl (by decide) rfl (fun ls hl => ?_)
      refine lv_goto (tgt := 2) hx hb dX2_followPlan_57 (by decide) ?_
      replace hl : lv_has ls 4 [(2, .int (nI (k + 1))), (0, .ref (eO E)), (1, .ref (eVad E i))] := lv_sub hl [0, 2, 3] rfl
      exact ih (k := k + 1) (H := H) (locs := locs) (ls := ls) (hP := hP) (hS := hS) (hl := hl) (hn := by omega) (hf := hf)
    · refine lv_if_eq (tgt := 54) hx hb dX2_followPlan_29 (by decide) (fun c2 => absurd c2 h3) (fun c2 => ?_)
      replace c2 : ¬ (x 3 j) = nI 0 := c2
      refine lv_aload_n hx hb dX2_followPlan_32 rfl (lv_at hl 2 rfl) ?_
      refine lv_aload_n hx hb dX2_followPlan_33 rfl (lv_at hl 3 rfl) ?_
      refine lv_aload_n hx hb dX2_followPlan_34 rfl (lv_at hl 0 rfl) ?_
      refine h_calli (As := [.ref (eVad E i), .ref (ePad E j)]) (rest := []) ⟨hx, hb, hml, hown, hts⟩ (c_X2_hasStamp l D E tl x i j hi hj) (cwV 2 hts gX2_followPlan_X2_hasStamp rfl rfl rfl (by decide +kernel) ⟨Nat.le_of_ble_eq_true rfl, Nat.le_of_ble_eq_true rfl⟩) (c_recv hK hP) hK hX hP hD hS hA rfl hl.1 rfl (Nat.le_of_ble_eq_true rfl) dX2_followPlan_35 ⟨Nat.le_of_ble_eq_true rfl, Nat.le_of_ble_eq_true rfl⟩ (fun r_3 u_2 H locs hw hP hD hS => ?_)
      obtain ⟨hr_3, hu_2⟩ := hw
      rw [hu_2] at hP hD
      refine q_top (x' := (nI 1)) (hr_3.trans (by rw [hst])) ?_
      refine q_if_ne (tgt := 54) hx hb (by omega) dX2_followPlan_38 (by decide) (fun c_4 => ?_) (fun c_4 => absurd c_4 (by decide))
      refine q_inc (k := 1) (lv' := [(2, .int (nI (k + 1))), (3, .ref (ePad E j)), (0, .ref (eO E)), (1, .ref (eVad E i))]) hx hb dX2_followPlan_54 hl rfl (by decide) rfl (fun ls hl => ?_)
      refine lv_goto (tgt := 2) hx hb dX2_followPlan_57 (by decide) ?_
      replace hl : lv_has ls 4 [(2, .int (nI (k + 1))), (0, .ref (eO E)), (1, .ref (eVad E i))] := lv_sub hl [0, 2, 3] rfl
      exact ih (k := k + 1) (H := H) (locs := locs) (ls := ls) (hP := hP) (hS := hS) (hl := hl) (hn := by omega) (hf := hf)
    · obtain rfl := hs
      refine lv_if_eq (tgt := 54) hx hb dX2_followPlan_29 (by decide) (fun c2 => absurd c2 h3) (fun c2 => ?_)
      replace c2 : ¬ (x 3 j) = nI 0 := c2
      refine lv_aload_n hx hb dX2_followPlan_32 rfl (lv_at hl 2 rfl) ?_
      refine lv_aload_n hx hb dX2_followPlan_33 rfl (lv_at hl 3 rfl) ?_
      refine lv_aload_n hx hb dX2_followPlan_34 rfl (lv_at hl 0 rfl) ?_
      refine h_calli (As := [.ref (eVad E i), .ref (ePad E j)]) (rest := []) ⟨hx, hb, hml, hown, hts⟩ (c_X2_hasStamp l D E tl x i j hi hj) (cwV 2 hts gX2_followPlan_X2_hasStamp rfl rfl rfl (by decide +kernel) ⟨Nat.le_of_ble_eq_true rfl, Nat.le_of_ble_eq_true rfl⟩) (c_recv hK hP) hK hX hP hD hS hA rfl hl.1 rfl (Nat.le_of_ble_eq_true rfl) dX2_followPlan_35 ⟨Nat.le_of_ble_eq_true rfl, Nat.le_of_ble_eq_true rfl⟩ (fun r_7 u_6 H locs hw hP hD hS => ?_)
      obtain ⟨hr_7, hu_6⟩ := hw
      rw [hu_6] at hP hD
      refine q_top (x' := (nI 0)) (hr_7.trans (by rw [hst])) ?_
      refine q_if_ne (tgt := 54) hx hb (by omega) dX2_followPlan_38 (by decide) (fun c_8 => absurd c_8 (by decide)) (fun c_8 => ?_)
      refine lv_aload_n hx hb dX2_followPlan_41 rfl (lv_at hl 2 rfl) ?_
      refine lv_aload_n hx hb dX2_followPlan_42 rfl (lv_at hl 3 rfl) ?_
      refine lv_aload_n hx hb dX2_followPlan_43 rfl (lv_at hl 0 rfl) ?_
      refine lv_aload_n hx hb dX2_followPlan_44 rfl (lv_at hl 2 rfl) ?_
      refine lv_iconst (v := nI 1) hx hb dX2_followPlan_45 (by decide) ?_
      refine lv_aload_n hx hb dX2_followPlan_46 rfl (lv_at hl 0 rfl) ?_
      refine h_calli (As := [.int (nI 1), .ref (ePad E j)]) (rest := [.ref (ePad E j), .ref (eVad E i), .ref (eO E)]) ⟨hx, hb, hml, hown, hts⟩ (c_X2_countAt l D E tl x j (nI 1) hj) (cwV 2 hts gX2_followPlan_X2_countAt rfl rfl rfl (by decide +kernel) ⟨Nat.le_of_ble_eq_true rfl, Nat.le_of_ble_eq_true rfl⟩) (c_recv hK hP) hK hX hP hD hS hA rfl hl.1 rfl (Nat.le_of_ble_eq_true rfl) dX2_followPlan_47 ⟨Nat.le_of_ble_eq_true rfl, Nat.le_of_ble_eq_true rfl⟩ (fun r_11 u_10 H locs hw hP hD hS => ?_)
      obtain ⟨hr_11, hu_10⟩ := hw
      rw [hu_10] at hP hD
      refine q_top (x' := (nI (cCnt x (nI 1) j 8))) hr_11 ?_
      refine h_callv (As := [.ref (eVad E i), .ref (ePad E j), .int (nI (cCnt x (nI 1) j 8))]) (rest := []) ⟨hx, hb, hml, hown, hts⟩ (c_X2_joinQueue l D E tl x i j (nI (cCnt x (nI 1) j 8)) hi hj) (cwV 3 hts gX2_followPlan_X2_joinQueue rfl rfl rfl (by decide +kernel) ⟨Nat.le_of_ble_eq_true rfl, Nat.le_of_ble_eq_true rfl⟩) (c_recv hK hP) hK hX hP hD hS hA rfl hl.1 rfl (Nat.le_of_ble_eq_true rfl) dX2_followPlan_50 ⟨Nat.le_of_ble_eq_true rfl, Nat.le_of_ble_eq_true rfl⟩ (fun u_13 H locs hw hP hD hS => ?_)
      rw [hw] at hP hD
      exact W.vret hx hb hr (fun t ht hW => ⟨⟨cJoin x i j (nI (cCnt x (nI 1) j 8)), rfl, rfl, by rw [ht]; exact hP, va_K.moved hW.alike hK, hD⟩, hS.F ht⟩) hS.2.2 dX2_followPlan_53

set_option maxHeartbeats 4000000 in
set_option maxRecDepth 100000 in
theorem c_X2_followPlans (l : Launch) (D : va_G) (E : cE) (tl : gTy) (x : Nat → Nat → Int32) (x1 : Nat → Nat → Int32) (hlt : cFPs E 8 0 x x1)  : hV l yX2_followPlans wsX2_followPlans ({ frames := 4, cells := 0, slots := 0, locals := 87 } : Room) D E tl (cW E x) [.ref (eO E)] (fun u : Nat → Nat → Int32 => u = x1) (cW E) 0 0 := by
  refine hM.start (cc := cX2_followPlans) (maxL := 5) (ret := none) (own := RX2) rfl (by decide) rfl (Nat.le_of_ble_eq_true rfl) ?_
  intro pr e s m args below meth c A ls H locs hx hb hml hr hts hown hlocks hname hA hK hX hP hD hS hl
  replace hl : lv_has ls 5 [(0, .ref (eO E))] := hl
  have hinO : ∀ w ∈ wsX20, w ∈ wsX2_followPlans := by decide +kernel
  have hinV : ∀ w ∈ wsX10, w ∈ wsX2_followPlans := by decide +kernel
  have k17 := hts (.fieldLink RX2 17 "FairFolio" "visitors" "[LFairFolio$Visitor;") (by decide +kernel)
  have k138 := va_Nw.use (A := args) rfl (hX.1 (.fieldLinkNest RX2 138 "FairFolio$Visitor" "state" "I" "FairFolio") (by decide +kernel))
  refine lv_aload_n hx hb dX2_followPlans_0 rfl (lv_at hl 0 rfl) ?_
  refine c_getO hx hb hts hinO hown hK hP 1 (by decide) k17 rfl rfl dX2_followPlans_1 ?_
  refine lv_astore_n (lv' := [(1, .ref (eVa E)), (0, .ref (eO E))]) hx hb dX2_followPlans_4 rfl hl (by decide) rfl (fun ls hl => ?_)
  refine lv_aload_n hx hb dX2_followPlans_5 rfl (lv_at hl 0 rfl) ?_
  refine c_vlen hx hb hK hP dX2_followPlans_6 ?_
  refine lv_istore_n (lv' := [(2, .int (nI 8)), (1, .ref (eVa E)), (0, .ref (eO E))]) hx hb dX2_followPlans_7 rfl hl (by decide) rfl (fun ls hl => ?_)
  refine lv_iconst (v := nI 0) hx hb dX2_followPlans_8 (by decide) ?_
  refine lv_istore_n (lv' := [(3, .int (nI 0)), (2, .int (nI 8)), (1, .ref (eVa E)), (0, .ref (eO E))]) hx hb dX2_followPlans_9 rfl hl (by decide) rfl (fun ls hl => ?_)
  obtain ⟨z, hz⟩ : ∃ z, z = x := ⟨_, rfl⟩
  rw [← hz] at hP hD hlt
  clear hz
  obtain ⟨k, hk⟩ : ∃ k : Nat, k = 0 := ⟨_, rfl⟩
  obtain ⟨nn, hn⟩ : ∃ nn : Nat, nn = 8 := ⟨_, rfl⟩
  replace hl : lv_has ls 5 [(3, .int (nI k)), (2, .int (nI 8)), (1, .ref (eVa E)), (0, .ref (eO E))] := by rw [hk]; exact hl
  rw [← hk, ← hn] at hlt
  replace hn : k + nn = 8 := by omega
  clear hk
  induction nn generalizing z k H locs ls with
  | zero =>
    obtain rfl := hlt
    obtain rfl : k = 8 := by omega
    refine lv_iload_n hx hb dX2_followPlans_10 rfl (lv_at hl 0 rfl) ?_
    refine lv_iload_n hx hb dX2_followPlans_11 rfl (lv_at hl 1 rfl) ?_
    refine q_icmp_ge (tgt := 40) hx hb (by omega) (by omega) dX2_followPlans_12 (by decide) (fun c1 => ?_) (fun c1 => absurd c1 (by omega))
    exact W.vret hx hb hr (fun t ht hW => ⟨⟨x1, rfl, rfl, by rw [ht]; exact hP, va_K.moved hW.alike hK, hD⟩, hS.F ht⟩) hS.2.2 dX2_followPlans_40
  | succ nn ih =>
    obtain ⟨z1, hs, hlt⟩ := hlt
    refine lv_iload_n hx hb dX2_followPlans_10 rfl (lv_at hl 0 rfl) ?_
    refine lv_iload_n hx hb dX2_followPlans_11 rfl (lv_at hl 1 rfl) ?_
    refine q_icmp_ge (tgt := 40) hx hb (by omega) (by omega) dX2_followPlans_12 (by decide) (fun c1 => absurd c1 (by omega)) (fun c1 => ?_)
    refine lv_aload_n hx hb dX2_followPlans_15 rfl (lv_at hl 2 rfl) ?_
    refine lv_iload_n hx hb dX2_followPlans_16 rfl (lv_at hl 0 rfl) ?_
    refine c_vald hx hb hK hP (by omega) dX2_followPlans_17 ?_
    refine lv_astore (lv' := [(4, .ref (eVad E k)), (3, .int (nI k)), (2, .int (nI 8)), (1, .ref (eVa E)), (0, .ref (eO E))]) hx hb dX2_followPlans_18 hl (by decide) rfl (fun ls hl => ?_)
    refine lv_aload hx hb dX2_followPlans_20 (lv_at hl 0 rfl) ?_
    refine c_getV hx hb hts hinV hown hK hP (by omega) 2 (by decide) k138 rfl rfl dX2_followPlans_22 ?_
    rcases hs with ⟨h3, hs⟩ | ⟨h3, q, hq6, h15, hLP, hs⟩
    · obtain rfl := hs
      refine lv_if_ne (tgt := 34) hx hb dX2_followPlans_25 (by decide) (fun c2 => ?_) (fun c2 => absurd c2 h3)
      replace c2 : ¬ (z1 6 k) = nI 0 := c2
      refine q_inc (k := 1) (lv' := [(3, .int (nI (k + 1))), (4, .ref (eVad E k)), (2, .int (nI 8)), (1, .ref (eVa E)), (0, .ref (eO E))]) hx hb dX2_followPlans_34 hl rfl (by decide) rfl (fun ls hl => ?_)
      refine lv_goto (tgt := 10) hx hb dX2_followPlans_37 (by decide) ?_
      replace hl : lv_has ls 5 [(3, .int (nI (k + 1))), (2, .int (nI 8)), (1, .ref (eVa E)), (0, .ref (eO E))] := lv_sub hl [0, 2, 3, 4] rfl
      exact ih (k := k + 1) (H := H) (locs := locs) (ls := ls) (hP := hP) (hD := hD) (hS := hS) (hl := hl) (hn := by omega) (hlt := hlt)
    · refine lv_if_ne (tgt := 34) hx hb dX2_followPlans_25 (by decide) (fun c2 => absurd h3 c2) (fun c2 => ?_)
      replace c2 : (z 6 k) = nI 0 := c2
      refine lv_aload_n hx hb dX2_followPlans_28 rfl (lv_at hl 4 rfl) ?_
      refine lv_aload hx hb dX2_followPlans_29 (lv_at hl 0 rfl) ?_
      refine h_callv (As := [.ref (eVad E k)]) (rest := []) ⟨hx, hb, hml, hown, hts⟩ (c_X2_followPlan l D E tl z k q z1 (by omega) hq6 h15 hLP hs) (cwV 1 hts gX2_followPlans_X2_followPlan rfl rfl rfl (by decide +kernel) ⟨Nat.le_of_ble_eq_true rfl, Nat.le_of_ble_eq_true rfl⟩) (c_recv hK hP) hK hX hP hD hS hA rfl hl.1 rfl (Nat.le_of_ble_eq_true rfl) dX2_followPlans_31 ⟨Nat.le_of_ble_eq_true rfl, Nat.le_of_ble_eq_true rfl⟩ (fun u_2 H locs hw hP hD hS => ?_)
      rw [hw] at hP hD
      refine q_inc (k := 1) (lv' := [(3, .int (nI (k + 1))), (4, .ref (eVad E k)), (2, .int (nI 8)), (1, .ref (eVa E)), (0, .ref (eO E))]) hx hb dX2_followPlans_34 hl rfl (by decide) rfl (fun ls hl => ?_)
      refine lv_goto (tgt := 10) hx hb dX2_followPlans_37 (by decide) ?_
      replace hl : lv_has ls 5 [(3, .int (nI (k + 1))), (2, .int (nI 8)), (1, .ref (eVa E)), (0, .ref (eO E))] := lv_sub hl [0, 2, 3, 4] rfl
      exact ih (k := k + 1) (H := H) (locs := locs) (ls := ls) (hP := hP) (hD := hD) (hS := hS) (hl := hl) (hn := by omega) (z := z1) (hlt := hlt)

set_option maxHeartbeats 4000000 in
set_option maxRecDepth 100000 in
theorem c_X2_passMinute (l : Launch) (D : va_G) (E : cE) (tl : gTy) (x : Nat → Nat → Int32) (x1 : Nat → Nat → Int32) (hm : cMin E x x1)  : hV l yX2_passMinute wsX2_passMinute ({ frames := 5, cells := 0, slots := 0, locals := 115 } : Room) D E tl (cW E x) [.ref (eO E)] (fun u : Nat → Nat → Int32 => u = x1) (cW E) 0 0 := by
  refine hM.start (cc := cX2_passMinute) (maxL := 1) (ret := none) (own := RX2) rfl (by decide) rfl (Nat.le_of_ble_eq_true rfl) ?_
  intro pr e s m args below meth c A ls H locs hx hb hml hr hts hown hlocks hname hA hK hX hP hD hS hl
  replace hl : lv_has ls 1 [(0, .ref (eO E))] := hl
  have hinO : ∀ w ∈ wsX20, w ∈ wsX2_passMinute := by decide +kernel
  have k21 := hts (.fieldLink RX2 21 "FairFolio" "now" "I") (by decide +kernel)
  obtain ⟨x2, x3, t1, t2, t3⟩ := hm
  refine lv_aload_n hx hb dX2_passMinute_0 rfl (lv_at hl 0 rfl) ?_
  refine lv_dup hx hb dX2_passMinute_1 rfl ?_
  refine c_getO hx hb hts hinO hown hK hP 2 (by decide) k21 rfl rfl dX2_passMinute_2 ?_
  refine lv_iconst (v := nI 1) hx hb dX2_passMinute_5 (by decide) ?_
  refine lv_iadd hx hb dX2_passMinute_6 ?_
  refine c_putO hx hb hts hinO hown hK hP hD hS 2 0 (by decide) (cW_setO E x _) k21 rfl rfl (ty := .int) (by decide +kernel) rfl rfl dX2_passMinute_7 (fun H locs hP hD hS => ?_)
  refine lv_aload_n hx hb dX2_passMinute_10 rfl (lv_at hl 0 rfl) ?_
  refine h_callv (As := []) (rest := []) ⟨hx, hb, hml, hown, hts⟩ (c_X2_endVisits l D E tl (up2 x 0 0 ((x 0 0) + (nI 1)))) (cwV 0 hts gX2_passMinute_X2_endVisits rfl rfl rfl (by decide +kernel) ⟨Nat.le_of_ble_eq_true rfl, Nat.le_of_ble_eq_true rfl⟩) (c_recv hK hP) hK hX hP hD hS hA rfl hl.1 rfl (Nat.le_of_ble_eq_true rfl) dX2_passMinute_11 ⟨Nat.le_of_ble_eq_true rfl, Nat.le_of_ble_eq_true rfl⟩ (fun u_2 H locs hw hP hD hS => ?_)
  rw [hw] at hP hD
  refine lv_aload_n hx hb dX2_passMinute_14 rfl (lv_at hl 0 rfl) ?_
  refine h_callv (As := []) (rest := []) ⟨hx, hb, hml, hown, hts⟩ (c_X2_takeTurns l D E tl (cOut (up2 x 0 0 ((x 0 0) + (nI 1))) 8) x2 t1) (cwV 0 hts gX2_passMinute_X2_takeTurns rfl rfl rfl (by decide +kernel) ⟨Nat.le_of_ble_eq_true rfl, Nat.le_of_ble_eq_true rfl⟩) (c_recv hK hP) hK hX hP hD hS hA rfl hl.1 rfl (Nat.le_of_ble_eq_true rfl) dX2_passMinute_15 ⟨Nat.le_of_ble_eq_true rfl, Nat.le_of_ble_eq_true rfl⟩ (fun u_5 H locs hw hP hD hS => ?_)
  rw [hw] at hP hD
  refine lv_aload_n hx hb dX2_passMinute_18 rfl (lv_at hl 0 rfl) ?_
  refine h_callv (As := []) (rest := []) ⟨hx, hb, hml, hown, hts⟩ (c_X2_followPlans l D E tl x2 x3 t2) (cwV 0 hts gX2_passMinute_X2_followPlans rfl rfl rfl (by decide +kernel) ⟨Nat.le_of_ble_eq_true rfl, Nat.le_of_ble_eq_true rfl⟩) (c_recv hK hP) hK hX hP hD hS hA rfl hl.1 rfl (Nat.le_of_ble_eq_true rfl) dX2_passMinute_19 ⟨Nat.le_of_ble_eq_true rfl, Nat.le_of_ble_eq_true rfl⟩ (fun u_8 H locs hw hP hD hS => ?_)
  rw [hw] at hP hD
  refine lv_aload_n hx hb dX2_passMinute_22 rfl (lv_at hl 0 rfl) ?_
  refine h_callv (As := []) (rest := []) ⟨hx, hb, hml, hown, hts⟩ (c_X2_letIn l D E tl x3 x1 t3) (cwV 0 hts gX2_passMinute_X2_letIn rfl rfl rfl (by decide +kernel) ⟨Nat.le_of_ble_eq_true rfl, Nat.le_of_ble_eq_true rfl⟩) (c_recv hK hP) hK hX hP hD hS hA rfl hl.1 rfl (Nat.le_of_ble_eq_true rfl) dX2_passMinute_23 ⟨Nat.le_of_ble_eq_true rfl, Nat.le_of_ble_eq_true rfl⟩ (fun u_11 H locs hw hP hD hS => ?_)
  rw [hw] at hP hD
  exact W.vret hx hb hr (fun t ht hW => ⟨⟨x1, rfl, rfl, by rw [ht]; exact hP, va_K.moved hW.alike hK, hD⟩, hS.F ht⟩) hS.2.2 dX2_passMinute_26

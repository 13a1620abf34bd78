set_option maxHeartbeats 4000000 in
set_option maxRecDepth 100000 in
theorem c_X3_thrown (l : Launch) (D : va_G) (E : mE) (tl : gTy) (y : Nat → Nat → Int32)   : gI l yX3_thrown wsX3_thrown ({ frames := 0, cells := 0, slots := 0, locals := 0 } : Room) D (mT E tl) (mW E y) [.ref E.1.1] (fun (r : Int32) (u : Nat → Nat → Int32) => r = y 18 0 ∧ u = y) (mW E) 0 0 := by
  refine gM.start (cc := cX3_thrown) (maxL := 1) (ret := (some .int)) (own := RX3) rfl (by decide) rfl (Nat.le_of_ble_eq_true rfl) ?_
  intro pr e s m args below meth c A ls H locs hx hb hml hr hts hown hlocks hname hA hK hP hD hS hl
  replace hl : lv_has ls 1 [(0, .ref E.1.1)] := hl
  have hin : ∀ w ∈ wsX30, w ∈ wsX3_thrown := by decide +kernel
  have k62 := hts (.fieldLink RX3 62 "FairFolioModel" "thrown" "I") (by decide +kernel)
  refine lv_aload_n hx hb dX3_thrown_0 rfl (lv_at hl 0 rfl) ?_
  refine m_get hx hb hts hin hown hK hP 18 (by decide) k62 rfl rfl dX3_thrown_1 ?_
  exact W.iret hx hb hr (fun t ht hW => ⟨⟨_, y, rfl, ⟨rfl, rfl⟩, by rw [ht]; exact hP, va_K.moved hW.alike hK, hD⟩, hS.F ht⟩) hS.2.2 dX3_thrown_4

set_option maxHeartbeats 4000000 in
set_option maxRecDepth 100000 in
theorem c_X3_minute (l : Launch) (D : va_G) (E : mE) (tl : gTy) (y : Nat → Nat → Int32)   : gI l yX3_minute wsX3_minute ({ frames := 0, cells := 0, slots := 0, locals := 0 } : Room) D (mT E tl) (mW E y) [.ref E.1.1] (fun (r : Int32) (u : Nat → Nat → Int32) => r = y 0 0 ∧ u = up2 y 18 0 (nI 0)) (mW E) 0 0 := by
  refine gM.start (cc := cX3_minute) (maxL := 1) (ret := (some .int)) (own := RX3) rfl (by decide) rfl (Nat.le_of_ble_eq_true rfl) ?_
  intro pr e s m args below meth c A ls H locs hx hb hml hr hts hown hlocks hname hA hK hP hD hS hl
  replace hl : lv_has ls 1 [(0, .ref E.1.1)] := hl
  have hin : ∀ w ∈ wsX30, w ∈ wsX3_minute := by decide +kernel
  have k62 := hts (.fieldLink RX3 62 "FairFolioModel" "thrown" "I") (by decide +kernel)
  have k91 := hts (.fieldLink RX3 91 "FairFolioModel" "minute" "I") (by decide +kernel)
  refine lv_aload_n hx hb dX3_minute_0 rfl (lv_at hl 0 rfl) ?_
  refine lv_iconst (v := nI 0) hx hb dX3_minute_1 (by decide) ?_
  refine va_put (D := D) (ci := 4) (v := .int (nI 0)) (ty := .int) (C := RX3) (T := TX3) (N := 19) hx hb hts hin tyX3 tyX3_ok nmX3 hown hK hP hD hS 0 rfl rfl 18 (by decide) k62 (fun _ h9 => h9) rfl (by decide +kernel) rfl rfl (Nat.le_of_ble_eq_true rfl) dX3_minute_2 (fun H locs hP hD hS => ?_)
  replace hP : va_P D vwCl (mW E (up2 y 18 0 (nI 0))) H := hP
  replace hD : va_D A (mW E (up2 y 18 0 (nI 0))) := hD
  refine lv_aload_n hx hb dX3_minute_5 rfl (lv_at hl 0 rfl) ?_
  refine m_get hx hb hts hin hown hK hP 0 (by decide) k91 rfl rfl dX3_minute_6 ?_
  exact W.iret hx hb hr (fun t ht hW => ⟨⟨_, up2 y 18 0 (nI 0), rfl, ⟨rfl, rfl⟩, by rw [ht]; exact hP, va_K.moved hW.alike hK, hD⟩, hS.F ht⟩) hS.2.2 dX3_minute_9

set_option maxHeartbeats 4000000 in
set_option maxRecDepth 100000 in
theorem c_X3_goes (l : Launch) (D : va_G) (E : mE) (tl : gTy) (y : Nat → Nat → Int32) (a b : Int32)  : gI l yX3_goes wsX3_goes ({ frames := 0, cells := 0, slots := 0, locals := 0 } : Room) D (mT E tl) (mW E y) [.ref E.1.1, .int a, .int b] (fun (r : Int32) (u : Nat → Nat → Int32) => r = mGr a b ∧ u = up2 y 18 0 (mGt a b)) (mW E) 0 0 := by
  refine gM.start (cc := cX3_goes) (maxL := 3) (ret := (some .boolean)) (own := RX3) rfl (by decide) rfl (Nat.le_of_ble_eq_true rfl) ?_
  intro pr e s m args below meth c A ls H locs hx hb hml hr hts hown hlocks hname hA hK hP hD hS hl
  replace hl : lv_has ls 3 [(0, .ref E.1.1), (1, .int a), (2, .int b)] := hl
  have hin : ∀ w ∈ wsX30, w ∈ wsX3_goes := by decide +kernel
  have k62 := hts (.fieldLink RX3 62 "FairFolioModel" "thrown" "I") (by decide +kernel)
  refine lv_aload_n hx hb dX3_goes_0 rfl (lv_at hl 0 rfl) ?_
  refine lv_iload_n hx hb dX3_goes_1 rfl (lv_at hl 1 rfl) ?_
  refine lv_if_ne (tgt := 9) hx hb dX3_goes_2 (by decide) (fun c1 => ?_) (fun c1 => ?_)
  · refine lv_iload_n hx hb dX3_goes_9 rfl (lv_at hl 2 rfl) ?_
    refine lv_if_ne (tgt := 17) hx hb dX3_goes_10 (by decide) (fun c2 => ?_) (fun c2 => ?_)
    · refine lv_iconst (v := nI 0) hx hb dX3_goes_17 (by decide) ?_
      refine q_top (x' := (mGt a b)) (by simp [mGt, c1, c2]) ?_
      refine va_put (D := D) (ci := 4) (v := .int (mGt a b)) (ty := .int) (C := RX3) (T := TX3) (N := 19) hx hb hts hin tyX3 tyX3_ok nmX3 hown hK hP hD hS 0 rfl rfl 18 (by decide) k62 (fun _ h9 => h9) rfl (by decide +kernel) rfl rfl (Nat.le_of_ble_eq_true rfl) dX3_goes_18 (fun H locs hP hD hS => ?_)
      replace hP : va_P D vwCl (mW E (up2 y 18 0 (mGt a b))) H := hP
      replace hD : va_D A (mW E (up2 y 18 0 (mGt a b))) := hD
      refine lv_aload_n hx hb dX3_goes_21 rfl (lv_at hl 0 rfl) ?_
      refine m_get hx hb hts hin hown hK hP 18 (by decide) k62 rfl rfl dX3_goes_22 ?_
      refine q_top (x' := (mGt a b)) (up2_s _ _ _ _) ?_
      refine lv_if_ne (tgt := 32) hx hb dX3_goes_25 (by decide) (fun c9 => absurd c9 (by simp [mGt, c1, c2]; decide)) (fun c9 => ?_)
      refine lv_iconst (v := nI 1) hx hb dX3_goes_28 (by decide) ?_
      refine lv_goto (tgt := 33) hx hb dX3_goes_29 (by decide) ?_
      refine q_top (x' := (mGr a b)) (by simp [mGr, c1, c2]) ?_
      exact W.zret (ty := .boolean) hx hb hr (by simp [mGr, c1, c2]; decide) (fun t ht hW => ⟨⟨_, up2 y 18 0 (mGt a b), rfl, ⟨rfl, rfl⟩, by rw [ht]; exact hP, va_K.moved hW.alike hK, hD⟩, hS.F ht⟩) hS.2.2 dX3_goes_33
    · refine lv_iconst (v := nI 2) hx hb dX3_goes_13 (by decide) ?_
      refine lv_goto (tgt := 18) hx hb dX3_goes_14 (by decide) ?_
      refine q_top (x' := (mGt a b)) (by simp [mGt, c1, c2]) ?_
      refine va_put (D := D) (ci := 4) (v := .int (mGt a b)) (ty := .int) (C := RX3) (T := TX3) (N := 19) hx hb hts hin tyX3 tyX3_ok nmX3 hown hK hP hD hS 0 rfl rfl 18 (by decide) k62 (fun _ h9 => h9) rfl (by decide +kernel) rfl rfl (Nat.le_of_ble_eq_true rfl) dX3_goes_18 (fun H locs hP hD hS => ?_)
      replace hP : va_P D vwCl (mW E (up2 y 18 0 (mGt a b))) H := hP
      replace hD : va_D A (mW E (up2 y 18 0 (mGt a b))) := hD
      refine lv_aload_n hx hb dX3_goes_21 rfl (lv_at hl 0 rfl) ?_
      refine m_get hx hb hts hin hown hK hP 18 (by decide) k62 rfl rfl dX3_goes_22 ?_
      refine q_top (x' := (mGt a b)) (up2_s _ _ _ _) ?_
      refine lv_if_ne (tgt := 32) hx hb dX3_goes_25 (by decide) (fun c9 => ?_) (fun c9 => absurd c9 (by simp [mGt, c1, c2]; decide))
      refine lv_iconst (v := nI 0) hx hb dX3_goes_32 (by decide) ?_
      refine q_top (x' := (mGr a b)) (by simp [mGr, c1, c2]) ?_
      exact W.zret (ty := .boolean) hx hb hr (by simp [mGr, c1, c2]; decide) (fun t ht hW => ⟨⟨_, up2 y 18 0 (mGt a b), rfl, ⟨rfl, rfl⟩, by rw [ht]; exact hP, va_K.moved hW.alike hK, hD⟩, hS.F ht⟩) hS.2.2 dX3_goes_33
  · refine lv_iconst (v := nI 1) hx hb dX3_goes_5 (by decide) ?_
    refine lv_goto (tgt := 18) hx hb dX3_goes_6 (by decide) ?_
    refine q_top (x' := (mGt a b)) (by simp [mGt, c1]) ?_
    refine va_put (D := D) (ci := 4) (v := .int (mGt a b)) (ty := .int) (C := RX3) (T := TX3) (N := 19) hx hb hts hin tyX3 tyX3_ok nmX3 hown hK hP hD hS 0 rfl rfl 18 (by decide) k62 (fun _ h9 => h9) rfl (by decide +kernel) rfl rfl (Nat.le_of_ble_eq_true rfl) dX3_goes_18 (fun H locs hP hD hS => ?_)
    replace hP : va_P D vwCl (mW E (up2 y 18 0 (mGt a b))) H := hP
    replace hD : va_D A (mW E (up2 y 18 0 (mGt a b))) := hD
    refine lv_aload_n hx hb dX3_goes_21 rfl (lv_at hl 0 rfl) ?_
    refine m_get hx hb hts hin hown hK hP 18 (by decide) k62 rfl rfl dX3_goes_22 ?_
    refine q_top (x' := (mGt a b)) (up2_s _ _ _ _) ?_
    refine lv_if_ne (tgt := 32) hx hb dX3_goes_25 (by decide) (fun c9 => ?_) (fun c9 => absurd c9 (by simp [mGt, c1]; decide))
    refine lv_iconst (v := nI 0) hx hb dX3_goes_32 (by decide) ?_
    refine q_top (x' := (mGr a b)) (by simp [mGr, c1]) ?_
    exact W.zret (ty := .boolean) hx hb hr (by simp [mGr, c1]; decide) (fun t ht hW => ⟨⟨_, up2 y 18 0 (mGt a b), rfl, ⟨rfl, rfl⟩, by rw [ht]; exact hP, va_K.moved hW.alike hK, hD⟩, hS.F ht⟩) hS.2.2 dX3_goes_33

set_option maxHeartbeats 4000000 in
set_option maxRecDepth 100000 in
theorem c_X3_isPavilion_y (l : Launch) (D : va_G) (E : mE) (tl : gTy) (y : Nat → Nat → Int32) (p : Nat) (hp : p < 6)  : gI l yX3_isPavilion wsX3_isPavilion ({ frames := 0, cells := 0, slots := 0, locals := 0 } : Room) D (mT E tl) (mW E y) [.int (nI p)] (fun (r : Int32) (u : Nat → Nat → Int32) => r = nI 1 ∧ u = y) (mW E) 0 0 := by
  refine gM.start (cc := cX3_isPavilion) (maxL := 1) (ret := (some .boolean)) (own := RX3) rfl (by decide) rfl (Nat.le_of_ble_eq_true rfl) ?_
  intro pr e s m args below meth c A ls H locs hx hb hml hr hts hown hlocks hname hA hK hP hD hS hl
  replace hl : lv_has ls 1 [(0, .int (nI p))] := hl
  refine lv_iload_n hx hb dX3_isPavilion_0 rfl (lv_at hl 0 rfl) ?_
  refine q_if_lt (tgt := 14) hx hb (by omega) dX3_isPavilion_1 (by decide) (fun c1 => c1.elim) (fun c1 => ?_)
  refine lv_iload_n hx hb dX3_isPavilion_4 rfl (lv_at hl 0 rfl) ?_
  refine lv_bipush (v := nI 6) hx hb dX3_isPavilion_5 (by decide) ?_
  refine q_icmp_ge (tgt := 14) hx hb (by omega) (by omega) dX3_isPavilion_7 (by decide) (fun c2 => absurd c2 (by omega)) (fun c2 => ?_)
  refine lv_iconst (v := nI 1) hx hb dX3_isPavilion_10 (by decide) ?_
  refine lv_goto (tgt := 15) hx hb dX3_isPavilion_11 (by decide) ?_
  exact W.zret (ty := .boolean) hx hb hr (by decide) (fun t ht hW => ⟨⟨_, y, rfl, ⟨rfl, rfl⟩, by rw [ht]; exact hP, va_K.moved hW.alike hK, hD⟩, hS.F ht⟩) hS.2.2 dX3_isPavilion_15

set_option maxHeartbeats 4000000 in
set_option maxRecDepth 100000 in
theorem c_X3_isPavilion_n (l : Launch) (D : va_G) (E : mE) (tl : gTy) (y : Nat → Nat → Int32) (p : Int32) (hp : p < 0 ∨ nI 6 ≤ p)  : gI l yX3_isPavilion wsX3_isPavilion ({ frames := 0, cells := 0, slots := 0, locals := 0 } : Room) D (mT E tl) (mW E y) [.int p] (fun (r : Int32) (u : Nat → Nat → Int32) => r = nI 0 ∧ u = y) (mW E) 0 0 := by
  refine gM.start (cc := cX3_isPavilion) (maxL := 1) (ret := (some .boolean)) (own := RX3) rfl (by decide) rfl (Nat.le_of_ble_eq_true rfl) ?_
  intro pr e s m args below meth c A ls H locs hx hb hml hr hts hown hlocks hname hA hK hP hD hS hl
  replace hl : lv_has ls 1 [(0, .int p)] := hl
  refine lv_iload_n hx hb dX3_isPavilion_0 rfl (lv_at hl 0 rfl) ?_
  refine lv_if_lt (tgt := 14) hx hb dX3_isPavilion_1 (by decide) (fun c1 => ?_) (fun c1 => ?_)
  · refine lv_iconst (v := nI 0) hx hb dX3_isPavilion_14 (by decide) ?_
    exact W.zret (ty := .boolean) hx hb hr (by decide) (fun t ht hW => ⟨⟨_, y, rfl, ⟨rfl, rfl⟩, by rw [ht]; exact hP, va_K.moved hW.alike hK, hD⟩, hS.F ht⟩) hS.2.2 dX3_isPavilion_15
  · refine lv_iload_n hx hb dX3_isPavilion_4 rfl (lv_at hl 0 rfl) ?_
    refine lv_bipush (v := nI 6) hx hb dX3_isPavilion_5 (by decide) ?_
    refine lv_icmp_ge (tgt := 14) hx hb dX3_isPavilion_7 (by decide) (fun c2 => ?_) (fun c2 => absurd hp (fun h => h.elim c1 c2))
    refine lv_iconst (v := nI 0) hx hb dX3_isPavilion_14 (by decide) ?_
    exact W.zret (ty := .boolean) hx hb hr (by decide) (fun t ht hW => ⟨⟨_, y, rfl, ⟨rfl, rfl⟩, by rw [ht]; exact hP, va_K.moved hW.alike hK, hD⟩, hS.F ht⟩) hS.2.2 dX3_isPavilion_15

set_option maxHeartbeats 4000000 in
set_option maxRecDepth 100000 in
theorem c_X3_isVisitor_y (l : Launch) (D : va_G) (E : mE) (tl : gTy) (y : Nat → Nat → Int32) (p : Nat) (hp : p < 8)  : gI l yX3_isVisitor wsX3_isVisitor ({ frames := 0, cells := 0, slots := 0, locals := 0 } : Room) D (mT E tl) (mW E y) [.int (nI p)] (fun (r : Int32) (u : Nat → Nat → Int32) => r = nI 1 ∧ u = y) (mW E) 0 0 := by
  refine gM.start (cc := cX3_isVisitor) (maxL := 1) (ret := (some .boolean)) (own := RX3) rfl (by decide) rfl (Nat.le_of_ble_eq_true rfl) ?_
  intro pr e s m args below meth c A ls H locs hx hb hml hr hts hown hlocks hname hA hK hP hD hS hl
  replace hl : lv_has ls 1 [(0, .int (nI p))] := hl
  refine lv_iload_n hx hb dX3_isVisitor_0 rfl (lv_at hl 0 rfl) ?_
  refine q_if_lt (tgt := 14) hx hb (by omega) dX3_isVisitor_1 (by decide) (fun c1 => c1.elim) (fun c1 => ?_)
  refine lv_iload_n hx hb dX3_isVisitor_4 rfl (lv_at hl 0 rfl) ?_
  refine lv_bipush (v := nI 8) hx hb dX3_isVisitor_5 (by decide) ?_
  refine q_icmp_ge (tgt := 14) hx hb (by omega) (by omega) dX3_isVisitor_7 (by decide) (fun c2 => absurd c2 (by omega)) (fun c2 => ?_)
  refine lv_iconst (v := nI 1) hx hb dX3_isVisitor_10 (by decide) ?_
  refine lv_goto (tgt := 15) hx hb dX3_isVisitor_11 (by decide) ?_
  exact W.zret (ty := .boolean) hx hb hr (by decide) (fun t ht hW => ⟨⟨_, y, rfl, ⟨rfl, rfl⟩, by rw [ht]; exact hP, va_K.moved hW.alike hK, hD⟩, hS.F ht⟩) hS.2.2 dX3_isVisitor_15

set_option maxHeartbeats 4000000 in
set_option maxRecDepth 100000 in
theorem c_X3_isVisitor_n (l : Launch) (D : va_G) (E : mE) (tl : gTy) (y : Nat → Nat → Int32) (p : Int32) (hp : p < 0 ∨ nI 8 ≤ p)  : gI l yX3_isVisitor wsX3_isVisitor ({ frames := 0, cells := 0, slots := 0, locals := 0 } : Room) D (mT E tl) (mW E y) [.int p] (fun (r : Int32) (u : Nat → Nat → Int32) => r = nI 0 ∧ u = y) (mW E) 0 0 := by
  refine gM.start (cc := cX3_isVisitor) (maxL := 1) (ret := (some .boolean)) (own := RX3) rfl (by decide) rfl (Nat.le_of_ble_eq_true rfl) ?_
  intro pr e s m args below meth c A ls H locs hx hb hml hr hts hown hlocks hname hA hK hP hD hS hl
  replace hl : lv_has ls 1 [(0, .int p)] := hl
  refine lv_iload_n hx hb dX3_isVisitor_0 rfl (lv_at hl 0 rfl) ?_
  refine lv_if_lt (tgt := 14) hx hb dX3_isVisitor_1 (by decide) (fun c1 => ?_) (fun c1 => ?_)
  · refine lv_iconst (v := nI 0) hx hb dX3_isVisitor_14 (by decide) ?_
    exact W.zret (ty := .boolean) hx hb hr (by decide) (fun t ht hW => ⟨⟨_, y, rfl, ⟨rfl, rfl⟩, by rw [ht]; exact hP, va_K.moved hW.alike hK, hD⟩, hS.F ht⟩) hS.2.2 dX3_isVisitor_15
  · refine lv_iload_n hx hb dX3_isVisitor_4 rfl (lv_at hl 0 rfl) ?_
    refine lv_bipush (v := nI 8) hx hb dX3_isVisitor_5 (by decide) ?_
    refine lv_icmp_ge (tgt := 14) hx hb dX3_isVisitor_7 (by decide) (fun c2 => ?_) (fun c2 => absurd hp (fun h => h.elim c1 c2))
    refine lv_iconst (v := nI 0) hx hb dX3_isVisitor_14 (by decide) ?_
    exact W.zret (ty := .boolean) hx hb hr (by decide) (fun t ht hW => ⟨⟨_, y, rfl, ⟨rfl, rfl⟩, by rw [ht]; exact hP, va_K.moved hW.alike hK, hD⟩, hS.F ht⟩) hS.2.2 dX3_isVisitor_15

set_option maxHeartbeats 4000000 in
set_option maxRecDepth 100000 in
theorem c_X3_placeIn (l : Launch) (D : va_G) (E : mE) (tl : gTy) (y : Nat → Nat → Int32) (p v w : Nat) (hp : p < 6) (hv : v < 8) (hw8 : w ≤ 8) (h5 : y 5 p = nI w)  : gI l yX3_placeIn wsX3_placeIn ({ frames := 0, cells := 0, slots := 0, locals := 0 } : Room) D (mT E tl) (mW E y) [.ref E.1.1, .int (nI p), .int (nI v)] (fun (r : Int32) (u : Nat → Nat → Int32) => r = mLast y p v w ∧ u = y) (mW E) 0 0 := by
  refine gM.start (cc := cX3_placeIn) (maxL := 5) (ret := (some .int)) (own := RX3) rfl (by decide) rfl (Nat.le_of_ble_eq_true rfl) ?_
  intro pr e s m args below meth c A ls H locs hx hb hml hr hts hown hlocks hname hA hK hP hD hS hl
  replace hl : lv_has ls 5 [(0, .ref E.1.1), (1, .int (nI p)), (2, .int (nI v))] := hl
  have hin : ∀ w ∈ wsX30, w ∈ wsX3_placeIn := by decide +kernel
  have k23 := hts (.fieldLink RX3 23 "FairFolioModel" "waiting" "[I") (by decide +kernel)
  have k20 := hts (.fieldLink RX3 20 "FairFolioModel" "queue" "[I") (by decide +kernel)
  refine lv_iconst (v := -1) hx hb dX3_placeIn_0 (by decide) ?_
  refine lv_istore_n (lv' := [(3, .int (-1)), (0, .ref E.1.1), (1, .int (nI p)), (2, .int (nI v))]) hx hb dX3_placeIn_1 rfl hl (by decide) rfl (fun ls hl => ?_)
  refine lv_iconst (v := nI 0) hx hb dX3_placeIn_2 (by decide) ?_
  refine lv_istore (lv' := [(4, .int (nI 0)), (3, .int (-1)), (0, .ref E.1.1), (1, .int (nI p)), (2, .int (nI v))]) hx hb dX3_placeIn_3 hl (by decide) rfl (fun ls hl => ?_)
  obtain ⟨k, hk⟩ : ∃ k : Nat, k = 0 := ⟨_, rfl⟩
  obtain ⟨nn, hn⟩ : ∃ nn : Nat, k + nn = w := ⟨w - 0, by omega⟩
  replace hl : lv_has ls 5 [(4, .int (nI k)), (3, .int (mLast y p v k)), (0, .ref E.1.1), (1, .int (nI p)), (2, .int (nI v))] := by rw [hk]; exact hl
  clear hk
  induction nn generalizing k H locs ls with
  | zero =>
    obtain rfl : w = k := by omega
    refine lv_iload hx hb dX3_placeIn_5 (lv_at hl 0 rfl) ?_
    refine lv_aload_n hx hb dX3_placeIn_7 rfl (lv_at hl 2 rfl) ?_
    refine m_get hx hb hts hin hown hK hP 5 (by decide) k23 rfl rfl dX3_placeIn_8 ?_
    refine lv_iload_n hx hb dX3_placeIn_11 rfl (lv_at hl 3 rfl) ?_
    refine q_ild hx hb hK hP 5 0 rfl rfl p rfl (by omega) (by decide) dX3_placeIn_12 ?_
    refine q_top (x' := (nI w)) h5 ?_
    refine q_icmp_ge (tgt := 45) hx hb (by omega) (by omega) dX3_placeIn_13 (by decide) (fun c1 => ?_) (fun c1 => absurd c1 (by omega))
    refine lv_iload_n hx hb dX3_placeIn_45 rfl (lv_at hl 1 rfl) ?_
    exact W.iret hx hb hr (fun t ht hW => ⟨⟨_, y, rfl, ⟨rfl, rfl⟩, by rw [ht]; exact hP, va_K.moved hW.alike hK, hD⟩, hS.F ht⟩) hS.2.2 dX3_placeIn_46
  | succ nn ih =>
    refine lv_iload hx hb dX3_placeIn_5 (lv_at hl 0 rfl) ?_
    refine lv_aload_n hx hb dX3_placeIn_7 rfl (lv_at hl 2 rfl) ?_
    refine m_get hx hb hts hin hown hK hP 5 (by decide) k23 rfl rfl dX3_placeIn_8 ?_
    refine lv_iload_n hx hb dX3_placeIn_11 rfl (lv_at hl 3 rfl) ?_
    refine q_ild hx hb hK hP 5 0 rfl rfl p rfl (by omega) (by decide) dX3_placeIn_12 ?_
    refine q_top (x' := (nI w)) h5 ?_
    refine q_icmp_ge (tgt := 45) hx hb (by omega) (by omega) dX3_placeIn_13 (by decide) (fun c1 => absurd c1 (by omega)) (fun c1 => ?_)
    refine lv_aload_n hx hb dX3_placeIn_16 rfl (lv_at hl 2 rfl) ?_
    refine m_get hx hb hts hin hown hK hP 4 (by decide) k20 rfl rfl dX3_placeIn_17 ?_
    refine lv_bipush (v := nI 8) hx hb dX3_placeIn_20 (by decide) ?_
    refine lv_iload_n hx hb dX3_placeIn_22 rfl (lv_at hl 3 rfl) ?_
    refine q_mul hx hb dX3_placeIn_23 ?_
    refine lv_iload hx hb dX3_placeIn_24 (lv_at hl 0 rfl) ?_
    refine q_add hx hb dX3_placeIn_26 ?_
    refine q_ild hx hb hK hP 4 0 rfl rfl ((8 * p) + k) rfl (by omega) (by decide) dX3_placeIn_27 ?_
    refine lv_iload_n hx hb dX3_placeIn_28 rfl (lv_at hl 4 rfl) ?_
    refine lv_icmp_ne (tgt := 37) hx hb dX3_placeIn_29 (by decide) (fun c2 => ?_) (fun c2 => ?_)
    · refine lv_iload_n hx hb dX3_placeIn_37 rfl (lv_at hl 1 rfl) ?_
      refine q_top (x' := (mLast y p v (k + 1))) (by rw [mLast, if_neg c2]) ?_
      refine lv_istore_n (lv' := [(3, .int (mLast y p v (k + 1))), (4, .int (nI k)), (0, .ref E.1.1), (1, .int (nI p)), (2, .int (nI v))]) hx hb dX3_placeIn_38 rfl hl (by decide) rfl (fun ls hl => ?_)
      refine q_inc (k := 1) (lv' := [(4, .int (nI (k + 1))), (3, .int (mLast y p v (k + 1))), (0, .ref E.1.1), (1, .int (nI p)), (2, .int (nI v))]) hx hb dX3_placeIn_39 hl rfl (by decide) rfl (fun ls hl => ?_)
      refine lv_goto (tgt := 5) hx hb dX3_placeIn_42 (by decide) ?_
      apply ih (k := k + 1) (H := H) (locs := locs) (ls := ls)
      all_goals first | omega | assumption
    · refine lv_iload hx hb dX3_placeIn_32 (lv_at hl 0 rfl) ?_
      refine lv_goto (tgt := 38) hx hb dX3_placeIn_34 (by decide) ?_
      refine q_top (x' := (mLast y p v (k + 1))) (by rw [mLast, if_pos c2]) ?_
      refine lv_istore_n (lv' := [(3, .int (mLast y p v (k + 1))), (4, .int (nI k)), (0, .ref E.1.1), (1, .int (nI p)), (2, .int (nI v))]) hx hb dX3_placeIn_38 rfl hl (by decide) rfl (fun ls hl => ?_)
      refine q_inc (k := 1) (lv' := [(4, .int (nI (k + 1))), (3, .int (mLast y p v (k + 1))), (0, .ref E.1.1), (1, .int (nI p)), (2, .int (nI v))]) hx hb dX3_placeIn_39 hl rfl (by decide) rfl (fun ls hl => ?_)
      refine lv_goto (tgt := 5) hx hb dX3_placeIn_42 (by decide) ?_
      apply ih (k := k + 1) (H := H) (locs := locs) (ls := ls)
      all_goals first | omega | assumption

set_option maxHeartbeats 4000000 in
set_option maxRecDepth 100000 in
theorem c_X3_loses (l : Launch) (D : va_G) (E : mE) (tl : gTy) (y : Nat → Nat → Int32) (v : Nat) (hv : v < 8)  : gV l yX3_loses wsX3_loses ({ frames := 0, cells := 0, slots := 0, locals := 0 } : Room) D (mT E tl) (mW E y) [.ref E.1.1, .int (nI v)] (fun u : Nat → Nat → Int32 => u = mLose y v) (mW E) 0 0 := by
  refine gM.start (cc := cX3_loses) (maxL := 2) (ret := none) (own := RX3) rfl (by decide) rfl (Nat.le_of_ble_eq_true rfl) ?_
  intro pr e s m args below meth c A ls H locs hx hb hml hr hts hown hlocks hname hA hK hP hD hS hl
  replace hl : lv_has ls 2 [(0, .ref E.1.1), (1, .int (nI v))] := hl
  have hin : ∀ w ∈ wsX30, w ∈ wsX3_loses := by decide +kernel
  have k44 := hts (.fieldLink RX3 44 "FairFolioModel" "turn" "[I") (by decide +kernel)
  have k50 := hts (.fieldLink RX3 50 "FairFolioModel" "isByTurn" "[Z") (by decide +kernel)
  refine lv_aload_n hx hb dX3_loses_0 rfl (lv_at hl 0 rfl) ?_
  refine m_get hx hb hts hin hown hK hP 12 (by decide) k44 rfl rfl dX3_loses_1 ?_
  refine lv_iload_n hx hb dX3_loses_4 rfl (lv_at hl 1 rfl) ?_
  refine lv_iconst (v := -1) hx hb dX3_loses_5 (by decide) ?_
  refine q_ist hx hb hK hP hD hS 12 0 rfl rfl v rfl (by omega) (by decide) dX3_loses_6 (fun H locs hP hD hS => ?_)
  replace hP : va_P D vwCl (mW E (up2 y 12 v (-1))) H := hP
  replace hD : va_D A (mW E (up2 y 12 v (-1))) := hD
  refine lv_aload_n hx hb dX3_loses_7 rfl (lv_at hl 0 rfl) ?_
  refine m_get hx hb hts hin hown hK hP 14 (by decide) k50 rfl rfl dX3_loses_8 ?_
  refine lv_iload_n hx hb dX3_loses_11 rfl (lv_at hl 1 rfl) ?_
  refine lv_iconst (v := nI 0) hx hb dX3_loses_12 (by decide) ?_
  refine q_zst hx hb hK hP hD hS 14 1 rfl rfl v rfl (by omega) (by decide) (Or.inl rfl) dX3_loses_13 (fun H locs hP hD hS => ?_)
  replace hP : va_P D vwCl (mW E (up2 (up2 y 12 v (-1)) 14 v (nI 0))) H := hP
  replace hD : va_D A (mW E (up2 (up2 y 12 v (-1)) 14 v (nI 0))) := hD
  exact W.vret hx hb hr (fun t ht hW => ⟨⟨up2 (up2 y 12 v (-1)) 14 v (nI 0), rfl, rfl, by rw [ht]; exact hP, va_K.moved hW.alike hK, hD⟩, hS.F ht⟩) hS.2.2 dX3_loses_14

set_option maxHeartbeats 4000000 in
set_option maxRecDepth 100000 in
theorem c_X3_insideOf (l : Launch) (D : va_G) (E : mE) (tl : gTy) (y : Nat → Nat → Int32) (p : Nat) (hp : p < 6)  : gI l yX3_insideOf wsX3_insideOf ({ frames := 0, cells := 0, slots := 0, locals := 0 } : Room) D (mT E tl) (mW E y) [.ref E.1.1, .int (nI p)] (fun (r : Int32) (u : Nat → Nat → Int32) => r = nI (mIns y p 8) ∧ u = y) (mW E) 0 0 := by
  refine gM.start (cc := cX3_insideOf) (maxL := 4) (ret := (some .int)) (own := RX3) rfl (by decide) rfl (Nat.le_of_ble_eq_true rfl) ?_
  intro pr e s m args below meth c A ls H locs hx hb hml hr hts hown hlocks hname hA hK hP hD hS hl
  replace hl : lv_has ls 4 [(0, .ref E.1.1), (1, .int (nI p))] := hl
  have hin : ∀ w ∈ wsX30, w ∈ wsX3_insideOf := by decide +kernel
  have k32 := hts (.fieldLink RX3 32 "FairFolioModel" "state" "[I") (by decide +kernel)
  have k35 := hts (.fieldLink RX3 35 "FairFolioModel" "where" "[I") (by decide +kernel)
  refine lv_iconst (v := nI 0) hx hb dX3_insideOf_0 (by decide) ?_
  refine lv_istore_n (lv' := [(2, .int (nI 0)), (0, .ref E.1.1), (1, .int (nI p))]) hx hb dX3_insideOf_1 rfl hl (by decide) rfl (fun ls hl => ?_)
  refine lv_iconst (v := nI 0) hx hb dX3_insideOf_2 (by decide) ?_
  refine lv_istore_n (lv' := [(3, .int (nI 0)), (2, .int (nI 0)), (0, .ref E.1.1), (1, .int (nI p))]) hx hb dX3_insideOf_3 rfl hl (by decide) rfl (fun ls hl => ?_)
  obtain ⟨k, hk⟩ : ∃ k : Nat, k = 0 := ⟨_, rfl⟩
  obtain ⟨nn, hn⟩ : ∃ nn : Nat, k + nn = 8 := ⟨8 - 0, by omega⟩
  replace hl : lv_has ls 4 [(3, .int (nI k)), (2, .int (nI (mIns y p k))), (0, .ref E.1.1), (1, .int (nI p))] := by rw [hk]; exact hl
  clear hk
  induction nn generalizing k H locs ls with
  | zero =>
    obtain rfl : k = 8 := by omega
    refine lv_iload_n hx hb dX3_insideOf_4 rfl (lv_at hl 0 rfl) ?_
    refine lv_bipush (v := nI 8) hx hb dX3_insideOf_5 (by decide) ?_
    refine q_icmp_ge (tgt := 44) hx hb (by omega) (by omega) dX3_insideOf_7 (by decide) (fun c1 => ?_) (fun c1 => absurd c1 (by omega))
    refine lv_iload_n hx hb dX3_insideOf_44 rfl (lv_at hl 1 rfl) ?_
    exact W.iret hx hb hr (fun t ht hW => ⟨⟨_, y, rfl, ⟨rfl, rfl⟩, by rw [ht]; exact hP, va_K.moved hW.alike hK, hD⟩, hS.F ht⟩) hS.2.2 dX3_insideOf_45
  | succ nn ih =>
    refine lv_iload_n hx hb dX3_insideOf_4 rfl (lv_at hl 0 rfl) ?_
    refine lv_bipush (v := nI 8) hx hb dX3_insideOf_5 (by decide) ?_
    refine q_icmp_ge (tgt := 44) hx hb (by omega) (by omega) dX3_insideOf_7 (by decide) (fun c1 => absurd c1 (by omega)) (fun c1 => ?_)
    refine lv_iload_n hx hb dX3_insideOf_10 rfl (lv_at hl 1 rfl) ?_
    refine lv_aload_n hx hb dX3_insideOf_11 rfl (lv_at hl 2 rfl) ?_
    refine m_get hx hb hts hin hown hK hP 8 (by decide) k32 rfl rfl dX3_insideOf_12 ?_
    refine lv_iload_n hx hb dX3_insideOf_15 rfl (lv_at hl 0 rfl) ?_
    refine q_ild hx hb hK hP 8 0 rfl rfl k rfl (by omega) (by decide) dX3_insideOf_16 ?_
    refine lv_iconst (v := nI 2) hx hb dX3_insideOf_17 (by decide) ?_
    refine lv_icmp_ne (tgt := 35) hx hb dX3_insideOf_18 (by decide) (fun c2 => ?_) (fun c2 => ?_)
    · refine lv_iconst (v := nI 0) hx hb dX3_insideOf_35 (by decide) ?_
      refine q_add hx hb dX3_insideOf_36 ?_
      refine q_top (x' := (nI (mIns y p (k + 1)))) (by simp [mIns, c2]) ?_
      refine lv_istore_n (lv' := [(2, .int (nI (mIns y p (k + 1)))), (3, .int (nI k)), (0, .ref E.1.1), (1, .int (nI p))]) hx hb dX3_insideOf_37 rfl hl (by decide) rfl (fun ls hl => ?_)
      refine q_inc (k := 1) (lv' := [(3, .int (nI (k + 1))), (2, .int (nI (mIns y p (k + 1)))), (0, .ref E.1.1), (1, .int (nI p))]) hx hb dX3_insideOf_38 hl rfl (by decide) rfl (fun ls hl => ?_)
      refine lv_goto (tgt := 4) hx hb dX3_insideOf_41 (by decide) ?_
      apply ih (k := k + 1) (H := H) (locs := locs) (ls := ls)
      all_goals first | omega | assumption
    · refine lv_aload_n hx hb dX3_insideOf_21 rfl (lv_at hl 2 rfl) ?_
      refine m_get hx hb hts hin hown hK hP 9 (by decide) k35 rfl rfl dX3_insideOf_22 ?_
      refine lv_iload_n hx hb dX3_insideOf_25 rfl (lv_at hl 0 rfl) ?_
      refine q_ild hx hb hK hP 9 0 rfl rfl k rfl (by omega) (by decide) dX3_insideOf_26 ?_
      refine lv_iload_n hx hb dX3_insideOf_27 rfl (lv_at hl 3 rfl) ?_
      refine lv_icmp_ne (tgt := 35) hx hb dX3_insideOf_28 (by decide) (fun c3 => ?_) (fun c3 => ?_)
      · refine lv_iconst (v := nI 0) hx hb dX3_insideOf_35 (by decide) ?_
        refine q_add hx hb dX3_insideOf_36 ?_
        refine q_top (x' := (nI (mIns y p (k + 1)))) (by simp [mIns, c3]) ?_
        refine lv_istore_n (lv' := [(2, .int (nI (mIns y p (k + 1)))), (3, .int (nI k)), (0, .ref E.1.1), (1, .int (nI p))]) hx hb dX3_insideOf_37 rfl hl (by decide) rfl (fun ls hl => ?_)
        refine q_inc (k := 1) (lv' := [(3, .int (nI (k + 1))), (2, .int (nI (mIns y p (k + 1)))), (0, .ref E.1.1), (1, .int (nI p))]) hx hb dX3_insideOf_38 hl rfl (by decide) rfl (fun ls hl => ?_)
        refine lv_goto (tgt := 4) hx hb dX3_insideOf_41 (by decide) ?_
        apply ih (k := k + 1) (H := H) (locs := locs) (ls := ls)
        all_goals first | omega | assumption
      · refine lv_iconst (v := nI 1) hx hb dX3_insideOf_31 (by decide) ?_
        refine lv_goto (tgt := 36) hx hb dX3_insideOf_32 (by decide) ?_
        refine q_add hx hb dX3_insideOf_36 ?_
        refine q_top (x' := (nI (mIns y p (k + 1)))) (by simp [mIns, c2, c3]) ?_
        refine lv_istore_n (lv' := [(2, .int (nI (mIns y p (k + 1)))), (3, .int (nI k)), (0, .ref E.1.1), (1, .int (nI p))]) hx hb dX3_insideOf_37 rfl hl (by decide) rfl (fun ls hl => ?_)
        refine q_inc (k := 1) (lv' := [(3, .int (nI (k + 1))), (2, .int (nI (mIns y p (k + 1)))), (0, .ref E.1.1), (1, .int (nI p))]) hx hb dX3_insideOf_38 hl rfl (by decide) rfl (fun ls hl => ?_)
        refine lv_goto (tgt := 4) hx hb dX3_insideOf_41 (by decide) ?_
        apply ih (k := k + 1) (H := H) (locs := locs) (ls := ls)
        all_goals first | omega | assumption

set_option maxHeartbeats 4000000 in
set_option maxRecDepth 100000 in
theorem c_X3_leaves (l : Launch) (D : va_G) (E : mE) (tl : gTy) (y : Nat → Nat → Int32) (v p w a : Nat) (hv : v < 8) (hp : p < 6) (hw1 : 1 ≤ w) (hw8 : w ≤ 8) (haw : a < w) (h9 : y 9 v = nI p) (h5 : y 5 p = nI w) (hla : mLast y p v w = nI a)  : gV l yX3_leaves wsX3_leaves ({ frames := 1, cells := 0, slots := 0, locals := 24 } : Room) D (mT E tl) (mW E y) [.ref E.1.1, .int (nI v)] (fun u : Nat → Nat → Int32 => u = mLeave y v p w a) (mW E) 0 0 := by
  refine gM.start (cc := cX3_leaves) (maxL := 5) (ret := none) (own := RX3) rfl (by decide) rfl (Nat.le_of_ble_eq_true rfl) ?_
  intro pr e s m args below meth c A ls H locs hx hb hml hr hts hown hlocks hname hA hK hP hD hS hl
  replace hl : lv_has ls 5 [(0, .ref E.1.1), (1, .int (nI v))] := hl
  have hin : ∀ w ∈ wsX30, w ∈ wsX3_leaves := by decide +kernel
  have k35 := hts (.fieldLink RX3 35 "FairFolioModel" "where" "[I") (by decide +kernel)
  have k23 := hts (.fieldLink RX3 23 "FairFolioModel" "waiting" "[I") (by decide +kernel)
  have k32 := hts (.fieldLink RX3 32 "FairFolioModel" "state" "[I") (by decide +kernel)
  have k20 := hts (.fieldLink RX3 20 "FairFolioModel" "queue" "[I") (by decide +kernel)
  refine lv_aload_n hx hb dX3_leaves_0 rfl (lv_at hl 0 rfl) ?_
  refine m_get hx hb hts hin hown hK hP 9 (by decide) k35 rfl rfl dX3_leaves_1 ?_
  refine lv_iload_n hx hb dX3_leaves_4 rfl (lv_at hl 1 rfl) ?_
  refine q_ild hx hb hK hP 9 0 rfl rfl v rfl (by omega) (by decide) dX3_leaves_5 ?_
  refine q_top (x' := (nI p)) h9 ?_
  refine lv_istore_n (lv' := [(2, .int (nI p)), (0, .ref E.1.1), (1, .int (nI v))]) hx hb dX3_leaves_6 rfl hl (by decide) rfl (fun ls hl => ?_)
  refine lv_aload_n hx hb dX3_leaves_7 rfl (lv_at hl 1 rfl) ?_
  refine lv_iload_n hx hb dX3_leaves_8 rfl (lv_at hl 0 rfl) ?_
  refine lv_iload_n hx hb dX3_leaves_9 rfl (lv_at hl 2 rfl) ?_
  refine g_calli (As := [.int (nI p), .int (nI v)]) (rest := []) ⟨hx, hb, hml, hown, hts⟩ (c_X3_placeIn l D E tl y p v w hp hv hw8 h5) (cwV 2 hts gX3_leaves_X3_placeIn rfl rfl rfl (by decide +kernel) ⟨Nat.le_of_ble_eq_true rfl, Nat.le_of_ble_eq_true rfl⟩) (m_recv hK hP) hK hP hD hS hA rfl hl.1 rfl (Nat.le_of_ble_eq_true rfl) dX3_leaves_10 ⟨Nat.le_of_ble_eq_true rfl, Nat.le_of_ble_eq_true rfl⟩ (fun r_3 u_2 H locs hw hP hD hS => ?_)
  obtain ⟨hr_3, hu_2⟩ := hw
  rw [hu_2] at hP hD
  refine q_top (x' := (nI a)) (hr_3.trans hla) ?_
  refine lv_istore_n (lv' := [(3, .int (nI a)), (2, .int (nI p)), (0, .ref E.1.1), (1, .int (nI v))]) hx hb dX3_leaves_13 rfl hl (by decide) rfl (fun ls hl => ?_)
  refine lv_aload_n hx hb dX3_leaves_14 rfl (lv_at hl 2 rfl) ?_
  refine m_get hx hb hts hin hown hK hP 5 (by decide) k23 rfl rfl dX3_leaves_15 ?_
  refine lv_iload_n hx hb dX3_leaves_18 rfl (lv_at hl 1 rfl) ?_
  refine lv_dup2_11 hx hb dX3_leaves_19 rfl rfl ?_
  refine q_ild hx hb hK hP 5 0 rfl rfl p rfl (by omega) (by decide) dX3_leaves_20 ?_
  refine q_top (x' := (nI w)) h5 ?_
  refine lv_iconst (v := nI 1) hx hb dX3_leaves_21 (by decide) ?_
  refine q_sub hx hb hw1 dX3_leaves_22 ?_
  refine q_ist hx hb hK hP hD hS 5 0 rfl rfl p rfl (by omega) (by decide) dX3_leaves_23 (fun H locs hP hD hS => ?_)
  replace hP : va_P D vwCl (mW E (up2 y 5 p (nI (w - 1)))) H := hP
  replace hD : va_D A (mW E (up2 y 5 p (nI (w - 1)))) := hD
  refine lv_iload_n hx hb dX3_leaves_24 rfl (lv_at hl 0 rfl) ?_
  refine lv_istore (lv' := [(4, .int (nI a)), (3, .int (nI a)), (2, .int (nI p)), (0, .ref E.1.1), (1, .int (nI v))]) hx hb dX3_leaves_25 hl (by decide) rfl (fun ls hl => ?_)
  have ey : up2 y 5 p (nI (w - 1)) = mLs y p w a a := (mLs_0 y p w a)
  rw [ey] at hP hD
  clear ey
  obtain ⟨k, hk⟩ : ∃ k : Nat, k = a := ⟨_, rfl⟩
  obtain ⟨nn, hn⟩ : ∃ nn : Nat, k + nn = w - 1 := ⟨(w - 1) - a, by omega⟩
  replace hl : lv_has ls 5 [(4, .int (nI k)), (3, .int (nI a)), (2, .int (nI p)), (0, .ref E.1.1), (1, .int (nI v))] := by rw [hk]; exact hl
  replace hP : va_P D vwCl (mW E (mLs y p w a k)) H := by rw [hk]; exact hP
  replace hD : va_D A (mW E (mLs y p w a k)) := by rw [hk]; exact hD
  have hak : a ≤ k := by omega
  clear hk
  induction nn generalizing k H locs ls with
  | zero =>
    obtain rfl : k = w - 1 := by omega
    refine lv_iload hx hb dX3_leaves_27 (lv_at hl 0 rfl) ?_
    refine lv_aload_n hx hb dX3_leaves_29 rfl (lv_at hl 3 rfl) ?_
    refine m_get hx hb hts hin hown hK hP 5 (by decide) k23 rfl rfl dX3_leaves_30 ?_
    refine lv_iload_n hx hb dX3_leaves_33 rfl (lv_at hl 2 rfl) ?_
    refine q_ild hx hb hK hP 5 0 rfl rfl p rfl (by omega) (by decide) dX3_leaves_34 ?_
    refine q_top (x' := (nI (w - 1))) (mLs_5 y p w a _) ?_
    refine q_icmp_ge (tgt := 70) hx hb (by omega) (by omega) dX3_leaves_35 (by decide) (fun c1 => ?_) (fun c1 => absurd c1 (by omega))
    refine lv_aload_n hx hb dX3_leaves_70 rfl (lv_at hl 3 rfl) ?_
    refine m_get hx hb hts hin hown hK hP 8 (by decide) k32 rfl rfl dX3_leaves_71 ?_
    refine lv_iload_n hx hb dX3_leaves_74 rfl (lv_at hl 4 rfl) ?_
    refine lv_iconst (v := nI 0) hx hb dX3_leaves_75 (by decide) ?_
    refine q_ist hx hb hK hP hD hS 8 0 rfl rfl v rfl (by omega) (by decide) dX3_leaves_76 (fun H locs hP hD hS => ?_)
    replace hP : va_P D vwCl (mW E (up2 (mLs y p w a (w - 1)) 8 v (nI 0))) H := hP
    replace hD : va_D A (mW E (up2 (mLs y p w a (w - 1)) 8 v (nI 0))) := hD
    refine lv_aload_n hx hb dX3_leaves_77 rfl (lv_at hl 3 rfl) ?_
    refine m_get hx hb hts hin hown hK hP 9 (by decide) k35 rfl rfl dX3_leaves_78 ?_
    refine lv_iload_n hx hb dX3_leaves_81 rfl (lv_at hl 4 rfl) ?_
    refine lv_iconst (v := -1) hx hb dX3_leaves_82 (by decide) ?_
    refine q_ist hx hb hK hP hD hS 9 0 rfl rfl v rfl (by omega) (by decide) dX3_leaves_83 (fun H locs hP hD hS => ?_)
    replace hP : va_P D vwCl (mW E (up2 (up2 (mLs y p w a (w - 1)) 8 v (nI 0)) 9 v (-1))) H := hP
    replace hD : va_D A (mW E (up2 (up2 (mLs y p w a (w - 1)) 8 v (nI 0)) 9 v (-1))) := hD
    exact W.vret hx hb hr (fun t ht hW => ⟨⟨up2 (up2 (mLs y p w a (w - 1)) 8 v (nI 0)) 9 v (-1), rfl, rfl, by rw [ht]; exact hP, va_K.moved hW.alike hK, hD⟩, hS.F ht⟩) hS.2.2 dX3_leaves_84
  | succ nn ih =>
    refine lv_iload hx hb dX3_leaves_27 (lv_at hl 0 rfl) ?_
    refine lv_aload_n hx hb dX3_leaves_29 rfl (lv_at hl 3 rfl) ?_
    refine m_get hx hb hts hin hown hK hP 5 (by decide) k23 rfl rfl dX3_leaves_30 ?_
    refine lv_iload_n hx hb dX3_leaves_33 rfl (lv_at hl 2 rfl) ?_
    refine q_ild hx hb hK hP 5 0 rfl rfl p rfl (by omega) (by decide) dX3_leaves_34 ?_
    refine q_top (x' := (nI (w - 1))) (mLs_5 y p w a k) ?_
    refine q_icmp_ge (tgt := 70) hx hb (by omega) (by omega) dX3_leaves_35 (by decide) (fun c1 => absurd c1 (by omega)) (fun c1 => ?_)
    refine lv_aload_n hx hb dX3_leaves_38 rfl (lv_at hl 3 rfl) ?_
    refine m_get hx hb hts hin hown hK hP 4 (by decide) k20 rfl rfl dX3_leaves_39 ?_
    refine lv_bipush (v := nI 8) hx hb dX3_leaves_42 (by decide) ?_
    refine lv_iload_n hx hb dX3_leaves_44 rfl (lv_at hl 2 rfl) ?_
    refine q_mul hx hb dX3_leaves_45 ?_
    refine lv_iload hx hb dX3_leaves_46 (lv_at hl 0 rfl) ?_
    refine q_add hx hb dX3_leaves_48 ?_
    refine lv_aload_n hx hb dX3_leaves_49 rfl (lv_at hl 3 rfl) ?_
    refine m_get hx hb hts hin hown hK hP 4 (by decide) k20 rfl rfl dX3_leaves_50 ?_
    refine lv_bipush (v := nI 8) hx hb dX3_leaves_53 (by decide) ?_
    refine lv_iload_n hx hb dX3_leaves_55 rfl (lv_at hl 2 rfl) ?_
    refine q_mul hx hb dX3_leaves_56 ?_
    refine lv_iload hx hb dX3_leaves_57 (lv_at hl 0 rfl) ?_
    refine q_add hx hb dX3_leaves_59 ?_
    refine lv_iconst (v := nI 1) hx hb dX3_leaves_60 (by decide) ?_
    refine q_add hx hb dX3_leaves_61 ?_
    refine q_ild hx hb hK hP 4 0 rfl rfl (((8 * p) + k) + 1) rfl (by omega) (by decide) dX3_leaves_62 ?_
    refine q_ist hx hb hK hP hD hS 4 0 rfl rfl ((8 * p) + k) rfl (by omega) (by decide) dX3_leaves_63 (fun H locs hP hD hS => ?_)
    replace hP : va_P D vwCl (mW E (up2 (mLs y p w a k) 4 ((8 * p) + k) ((mLs y p w a k) 4 (((8 * p) + k) + 1)))) H := hP
    replace hD : va_D A (mW E (up2 (mLs y p w a k) 4 ((8 * p) + k) ((mLs y p w a k) 4 (((8 * p) + k) + 1)))) := hD
    have ey : up2 (mLs y p w a k) 4 ((8 * p) + k) ((mLs y p w a k) 4 (((8 * p) + k) + 1)) = mLs y p w a (k + 1) := (mLs_s y p w a k hak)
    rw [ey] at hP hD
    clear ey
    refine q_inc (k := 0) (lv' := [(4, .int (nI (k + 1))), (3, .int (nI a)), (2, .int (nI p)), (0, .ref E.1.1), (1, .int (nI v))]) hx hb dX3_leaves_64 hl rfl (by decide) rfl (fun ls hl => ?_)
    refine lv_goto (tgt := 27) hx hb dX3_leaves_67 (by decide) ?_
    apply ih (k := k + 1) (H := H) (locs := locs) (ls := ls)
    all_goals first | omega | assumption

set_option maxHeartbeats 4000000 in
set_option maxRecDepth 100000 in
theorem c_X3_puts (l : Launch) (D : va_G) (E : mE) (tl : gTy) (y : Nat → Nat → Int32) (p at0 v w : Nat) (hp : p < 6) (hat : at0 ≤ w) (hw7 : w ≤ 7) (hv : v < 8) (h5 : y 5 p = nI w)  : gV l yX3_puts wsX3_puts ({ frames := 0, cells := 0, slots := 0, locals := 0 } : Room) D (mT E tl) (mW E y) [.ref E.1.1, .int (nI p), .int (nI at0), .int (nI v)] (fun u : Nat → Nat → Int32 => u = mPuts y p at0 v w) (mW E) 0 0 := by
  refine gM.start (cc := cX3_puts) (maxL := 5) (ret := none) (own := RX3) rfl (by decide) rfl (Nat.le_of_ble_eq_true rfl) ?_
  intro pr e s m args below meth c A ls H locs hx hb hml hr hts hown hlocks hname hA hK hP hD hS hl
  replace hl : lv_has ls 5 [(0, .ref E.1.1), (1, .int (nI p)), (2, .int (nI at0)), (3, .int (nI v))] := hl
  have hin : ∀ w ∈ wsX30, w ∈ wsX3_puts := by decide +kernel
  have k23 := hts (.fieldLink RX3 23 "FairFolioModel" "waiting" "[I") (by decide +kernel)
  have k20 := hts (.fieldLink RX3 20 "FairFolioModel" "queue" "[I") (by decide +kernel)
  have k32 := hts (.fieldLink RX3 32 "FairFolioModel" "state" "[I") (by decide +kernel)
  have k35 := hts (.fieldLink RX3 35 "FairFolioModel" "where" "[I") (by decide +kernel)
  refine lv_aload_n hx hb dX3_puts_0 rfl (lv_at hl 0 rfl) ?_
  refine m_get hx hb hts hin hown hK hP 5 (by decide) k23 rfl rfl dX3_puts_1 ?_
  refine lv_iload_n hx hb dX3_puts_4 rfl (lv_at hl 1 rfl) ?_
  refine q_ild hx hb hK hP 5 0 rfl rfl p rfl (by omega) (by decide) dX3_puts_5 ?_
  refine q_top (x' := (nI w)) h5 ?_
  refine lv_istore (lv' := [(4, .int (nI w)), (0, .ref E.1.1), (1, .int (nI p)), (2, .int (nI at0)), (3, .int (nI v))]) hx hb dX3_puts_6 hl (by decide) rfl (fun ls hl => ?_)
  rw [mPs_0 y p w] at hP hD
  obtain ⟨k, hk⟩ : ∃ k : Nat, k = w := ⟨_, rfl⟩
  obtain ⟨nn, hn⟩ : ∃ nn : Nat, at0 + nn = k := ⟨k - at0, by omega⟩
  replace hl : lv_has ls 5 [(4, .int (nI k)), (0, .ref E.1.1), (1, .int (nI p)), (2, .int (nI at0)), (3, .int (nI v))] := by rw [hk]; exact hl
  replace hP : va_P D vwCl (mW E (mPs y p w k)) H := by rw [hk]; exact hP
  replace hD : va_D A (mW E (mPs y p w k)) := by rw [hk]; exact hD
  have hkw : k ≤ w := by omega
  clear hk
  induction nn generalizing k H locs ls with
  | zero =>
    obtain rfl : at0 = k := by omega
    refine lv_iload hx hb dX3_puts_8 (lv_at hl 0 rfl) ?_
    refine lv_iload_n hx hb dX3_puts_10 rfl (lv_at hl 3 rfl) ?_
    refine q_icmp_le (tgt := 46) hx hb (by omega) (by omega) dX3_puts_11 (by decide) (fun c1 => ?_) (fun c1 => absurd c1 (by omega))
    refine lv_aload_n hx hb dX3_puts_46 rfl (lv_at hl 1 rfl) ?_
    refine m_get hx hb hts hin hown hK hP 4 (by decide) k20 rfl rfl dX3_puts_47 ?_
    refine lv_bipush (v := nI 8) hx hb dX3_puts_50 (by decide) ?_
    refine lv_iload_n hx hb dX3_puts_52 rfl (lv_at hl 2 rfl) ?_
    refine q_mul hx hb dX3_puts_53 ?_
    refine lv_iload_n hx hb dX3_puts_54 rfl (lv_at hl 3 rfl) ?_
    refine q_add hx hb dX3_puts_55 ?_
    refine lv_iload_n hx hb dX3_puts_56 rfl (lv_at hl 4 rfl) ?_
    refine q_ist hx hb hK hP hD hS 4 0 rfl rfl ((8 * p) + at0) rfl (by omega) (by decide) dX3_puts_57 (fun H locs hP hD hS => ?_)
    replace hP : va_P D vwCl (mW E (up2 (mPs y p w at0) 4 ((8 * p) + at0) (nI v))) H := hP
    replace hD : va_D A (mW E (up2 (mPs y p w at0) 4 ((8 * p) + at0) (nI v))) := hD
    refine lv_aload_n hx hb dX3_puts_58 rfl (lv_at hl 1 rfl) ?_
    refine m_get hx hb hts hin hown hK hP 5 (by decide) k23 rfl rfl dX3_puts_59 ?_
    refine lv_iload_n hx hb dX3_puts_62 rfl (lv_at hl 2 rfl) ?_
    refine lv_dup2_11 hx hb dX3_puts_63 rfl rfl ?_
    refine q_ild hx hb hK hP 5 0 rfl rfl p rfl (by omega) (by decide) dX3_puts_64 ?_
    refine q_top (x' := (nI w)) h5 ?_
    refine lv_iconst (v := nI 1) hx hb dX3_puts_65 (by decide) ?_
    refine q_add hx hb dX3_puts_66 ?_
    refine q_ist hx hb hK hP hD hS 5 0 rfl rfl p rfl (by omega) (by decide) dX3_puts_67 (fun H locs hP hD hS => ?_)
    replace hP : va_P D vwCl (mW E (up2 (up2 (mPs y p w at0) 4 ((8 * p) + at0) (nI v)) 5 p (nI (w + 1)))) H := hP
    replace hD : va_D A (mW E (up2 (up2 (mPs y p w at0) 4 ((8 * p) + at0) (nI v)) 5 p (nI (w + 1)))) := hD
    refine lv_aload_n hx hb dX3_puts_68 rfl (lv_at hl 1 rfl) ?_
    refine m_get hx hb hts hin hown hK hP 8 (by decide) k32 rfl rfl dX3_puts_69 ?_
    refine lv_iload_n hx hb dX3_puts_72 rfl (lv_at hl 4 rfl) ?_
    refine lv_iconst (v := nI 1) hx hb dX3_puts_73 (by decide) ?_
    refine q_ist hx hb hK hP hD hS 8 0 rfl rfl v rfl (by omega) (by decide) dX3_puts_74 (fun H locs hP hD hS => ?_)
    replace hP : va_P D vwCl (mW E (up2 (up2 (up2 (mPs y p w at0) 4 ((8 * p) + at0) (nI v)) 5 p (nI (w + 1))) 8 v (nI 1))) H := hP
    replace hD : va_D A (mW E (up2 (up2 (up2 (mPs y p w at0) 4 ((8 * p) + at0) (nI v)) 5 p (nI (w + 1))) 8 v (nI 1))) := hD
    refine lv_aload_n hx hb dX3_puts_75 rfl (lv_at hl 1 rfl) ?_
    refine m_get hx hb hts hin hown hK hP 9 (by decide) k35 rfl rfl dX3_puts_76 ?_
    refine lv_iload_n hx hb dX3_puts_79 rfl (lv_at hl 4 rfl) ?_
    refine lv_iload_n hx hb dX3_puts_80 rfl (lv_at hl 2 rfl) ?_
    refine q_ist hx hb hK hP hD hS 9 0 rfl rfl v rfl (by omega) (by decide) dX3_puts_81 (fun H locs hP hD hS => ?_)
    replace hP : va_P D vwCl (mW E (up2 (up2 (up2 (up2 (mPs y p w at0) 4 ((8 * p) + at0) (nI v)) 5 p (nI (w + 1))) 8 v (nI 1)) 9 v (nI p))) H := hP
    replace hD : va_D A (mW E (up2 (up2 (up2 (up2 (mPs y p w at0) 4 ((8 * p) + at0) (nI v)) 5 p (nI (w + 1))) 8 v (nI 1)) 9 v (nI p))) := hD
    exact W.vret hx hb hr (fun t ht hW => ⟨⟨up2 (up2 (up2 (up2 (mPs y p w at0) 4 ((8 * p) + at0) (nI v)) 5 p (nI (w + 1))) 8 v (nI 1)) 9 v (nI p), rfl, rfl, by rw [ht]; exact hP, va_K.moved hW.alike hK, hD⟩, hS.F ht⟩) hS.2.2 dX3_puts_82
  | succ nn ih =>
    obtain ⟨j, rfl⟩ : ∃ j, k = j + 1 := ⟨k - 1, by omega⟩
    refine lv_iload hx hb dX3_puts_8 (lv_at hl 0 rfl) ?_
    refine lv_iload_n hx hb dX3_puts_10 rfl (lv_at hl 3 rfl) ?_
    refine q_icmp_le (tgt := 46) hx hb (by omega) (by omega) dX3_puts_11 (by decide) (fun c1 => absurd c1 (by omega)) (fun c1 => ?_)
    refine lv_aload_n hx hb dX3_puts_14 rfl (lv_at hl 1 rfl) ?_
    refine m_get hx hb hts hin hown hK hP 4 (by decide) k20 rfl rfl dX3_puts_15 ?_
    refine lv_bipush (v := nI 8) hx hb dX3_puts_18 (by decide) ?_
    refine lv_iload_n hx hb dX3_puts_20 rfl (lv_at hl 2 rfl) ?_
    refine q_mul hx hb dX3_puts_21 ?_
    refine lv_iload hx hb dX3_puts_22 (lv_at hl 0 rfl) ?_
    refine q_add hx hb dX3_puts_24 ?_
    refine lv_aload_n hx hb dX3_puts_25 rfl (lv_at hl 1 rfl) ?_
    refine m_get hx hb hts hin hown hK hP 4 (by decide) k20 rfl rfl dX3_puts_26 ?_
    refine lv_bipush (v := nI 8) hx hb dX3_puts_29 (by decide) ?_
    refine lv_iload_n hx hb dX3_puts_31 rfl (lv_at hl 2 rfl) ?_
    refine q_mul hx hb dX3_puts_32 ?_
    refine lv_iload hx hb dX3_puts_33 (lv_at hl 0 rfl) ?_
    refine q_add hx hb dX3_puts_35 ?_
    refine lv_iconst (v := nI 1) hx hb dX3_puts_36 (by decide) ?_
    refine q_sub hx hb (by omega) dX3_puts_37 ?_
    refine q_ild hx hb hK hP 4 0 rfl rfl (((8 * p) + (j + 1)) - 1) rfl (by omega) (by decide) dX3_puts_38 ?_
    refine q_ist hx hb hK hP hD hS 4 0 rfl rfl ((8 * p) + (j + 1)) rfl (by omega) (by decide) dX3_puts_39 (fun H locs hP hD hS => ?_)
    replace hP : va_P D vwCl (mW E (up2 (mPs y p w (j + 1)) 4 ((8 * p) + (j + 1)) ((mPs y p w (j + 1)) 4 (((8 * p) + (j + 1)) - 1)))) H := hP
    replace hD : va_D A (mW E (up2 (mPs y p w (j + 1)) 4 ((8 * p) + (j + 1)) ((mPs y p w (j + 1)) 4 (((8 * p) + (j + 1)) - 1)))) := hD
    have ey : up2 (mPs y p w (j + 1)) 4 ((8 * p) + (j + 1)) ((mPs y p w (j + 1)) 4 (((8 * p) + (j + 1)) - 1)) = mPs y p w j := (mPs_s y p w j hkw)
    rw [ey] at hP hD
    clear ey
    refine q_dec (k := 0) (lv' := [(4, .int (nI (j + 1 - 1))), (0, .ref E.1.1), (1, .int (nI p)), (2, .int (nI at0)), (3, .int (nI v))]) hx hb (by omega) dX3_puts_40 hl rfl (by decide) rfl (fun ls hl => ?_)
    refine lv_goto (tgt := 8) hx hb dX3_puts_43 (by decide) ?_
    replace hl : lv_has ls 5 [(4, .int (nI (j + 1 - 1))), (0, .ref E.1.1), (1, .int (nI p)), (2, .int (nI at0)), (3, .int (nI v))] := hl
    apply ih (k := j) (H := H) (locs := locs) (ls := ls)
    all_goals first | omega | assumption

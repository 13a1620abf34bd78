set_option maxHeartbeats 4000000 in
set_option maxRecDepth 100000 in
theorem c_X2_pavilionAt_t (l : Launch) (hl0 : l.stackTraces = false) (D : va_G) (E : cE) (tl : gTy) (x : Nat → Nat → Int32) (z : Int32) (hz : z < nI 0 ∨ ¬ z < nI 6) : hT l yX2_pavilionAt wsX2_pavilionAt ({ frames := 6, cells := 1, slots := 6, locals := 82 } : Room) D E tl (cW E x) [.ref (eO E), .int z] "java/lang/IndexOutOfBoundsException" := by
  refine hT.start (cc := cX2_pavilionAt) (maxL := 2) (ret := (some (.object "FairFolio$Pavilion"))) (own := RX2) rfl (by decide) rfl (Nat.le_of_ble_eq_true rfl) ?_
  intro pr e s m args below meth c A ls H locs hx hb hml hxt hts hown hlocks hA hK hX hP hD hS hl
  replace hl : lv_has ls 2 [(0, .ref (eO E)), (1, .int z)] := hl
  refine lv_iload_n hx hb dX2_pavilionAt_0 rfl (lv_at hl 1 rfl) ?_
  refine lv_if_lt (tgt := 10) hx hb dX2_pavilionAt_1 (by decide) (fun c1 => ?_) (fun c1 => ?_)
  · exact t_throw (cls := "java/lang/IndexOutOfBoundsException") (text := "no such pavilion") (names := ["java/lang/RuntimeException", "java/lang/Exception"]) (ik := 154) (is := 156) (ic := 158) hx hb hl0 hown (by decide +kernel) (by decide +kernel) (hts (.classLink RX2 154 "java/lang/IndexOutOfBoundsException") (by decide +kernel)) (hts (.initialized "java/lang/IndexOutOfBoundsException") (by decide +kernel)) (by decide) (by decide) (fun w hw => hts w ((by decide +kernel : ∀ w ∈ (vx_atS RX2 158 "java/lang/IndexOutOfBoundsException" ["java/lang/RuntimeException", "java/lang/Exception"]).filter goodWord, w ∈ wsX2_pavilionAt) w hw)) (by decide +kernel) (by decide +kernel) hxt hlocks hK hX hP hD hS (hl.1.trans hml.symm) dX2_pavilionAt_10 dX2_pavilionAt_13 dX2_pavilionAt_14 dX2_pavilionAt_16 dX2_pavilionAt_19 (Nat.le_of_ble_eq_true rfl) (Nat.le_of_ble_eq_true rfl) ⟨Nat.le_of_ble_eq_true rfl, Nat.le_of_ble_eq_true rfl⟩ ⟨Nat.le_of_ble_eq_true rfl, Nat.le_of_ble_eq_true rfl⟩
  · refine lv_iload_n hx hb dX2_pavilionAt_4 rfl (lv_at hl 1 rfl) ?_
    refine lv_bipush (v := nI 6) hx hb dX2_pavilionAt_5 (by decide) ?_
    refine lv_icmp_lt (tgt := 20) hx hb dX2_pavilionAt_7 (by decide) (fun c2 => absurd c2 (hz.resolve_left c1)) (fun c2 => ?_)
    exact t_throw (cls := "java/lang/IndexOutOfBoundsException") (text := "no such pavilion") (names := ["java/lang/RuntimeException", "java/lang/Exception"]) (ik := 154) (is := 156) (ic := 158) hx hb hl0 hown (by decide +kernel) (by decide +kernel) (hts (.classLink RX2 154 "java/lang/IndexOutOfBoundsException") (by decide +kernel)) (hts (.initialized "java/lang/IndexOutOfBoundsException") (by decide +kernel)) (by decide) (by decide) (fun w hw => hts w ((by decide +kernel : ∀ w ∈ (vx_atS RX2 158 "java/lang/IndexOutOfBoundsException" ["java/lang/RuntimeException", "java/lang/Exception"]).filter goodWord, w ∈ wsX2_pavilionAt) w hw)) (by decide +kernel) (by decide +kernel) hxt hlocks hK hX hP hD hS (hl.1.trans hml.symm) dX2_pavilionAt_10 dX2_pavilionAt_13 dX2_pavilionAt_14 dX2_pavilionAt_16 dX2_pavilionAt_19 (Nat.le_of_ble_eq_true rfl) (Nat.le_of_ble_eq_true rfl) ⟨Nat.le_of_ble_eq_true rfl, Nat.le_of_ble_eq_true rfl⟩ ⟨Nat.le_of_ble_eq_true rfl, Nat.le_of_ble_eq_true rfl⟩

set_option maxHeartbeats 4000000 in
set_option maxRecDepth 100000 in
theorem c_X2_visitorAt_t (l : Launch) (hl0 : l.stackTraces = false) (D : va_G) (E : cE) (tl : gTy) (x : Nat → Nat → Int32) (z : Int32) (hz : z < nI 0 ∨ ¬ z < nI 8) : hT l yX2_visitorAt wsX2_visitorAt ({ frames := 6, cells := 1, slots := 6, locals := 82 } : Room) D E tl (cW E x) [.ref (eO E), .int z] "java/lang/IndexOutOfBoundsException" := by
  refine hT.start (cc := cX2_visitorAt) (maxL := 2) (ret := (some (.object "FairFolio$Visitor"))) (own := RX2) rfl (by decide) rfl (Nat.le_of_ble_eq_true rfl) ?_
  intro pr e s m args below meth c A ls H locs hx hb hml hxt hts hown hlocks hA hK hX hP hD hS hl
  replace hl : lv_has ls 2 [(0, .ref (eO E)), (1, .int z)] := hl
  refine lv_iload_n hx hb dX2_visitorAt_0 rfl (lv_at hl 1 rfl) ?_
  refine lv_if_lt (tgt := 10) hx hb dX2_visitorAt_1 (by decide) (fun c1 => ?_) (fun c1 => ?_)
  · exact t_throw (cls := "java/lang/IndexOutOfBoundsException") (text := "no such visitor") (names := ["java/lang/RuntimeException", "java/lang/Exception"]) (ik := 154) (is := 159) (ic := 158) hx hb hl0 hown (by decide +kernel) (by decide +kernel) (hts (.classLink RX2 154 "java/lang/IndexOutOfBoundsException") (by decide +kernel)) (hts (.initialized "java/lang/IndexOutOfBoundsException") (by decide +kernel)) (by decide) (by decide) (fun w hw => hts w ((by decide +kernel : ∀ w ∈ (vx_atS RX2 158 "java/lang/IndexOutOfBoundsException" ["java/lang/RuntimeException", "java/lang/Exception"]).filter goodWord, w ∈ wsX2_visitorAt) w hw)) (by decide +kernel) (by decide +kernel) hxt hlocks hK hX hP hD hS (hl.1.trans hml.symm) dX2_visitorAt_10 dX2_visitorAt_13 dX2_visitorAt_14 dX2_visitorAt_16 dX2_visitorAt_19 (Nat.le_of_ble_eq_true rfl) (Nat.le_of_ble_eq_true rfl) ⟨Nat.le_of_ble_eq_true rfl, Nat.le_of_ble_eq_true rfl⟩ ⟨Nat.le_of_ble_eq_true rfl, Nat.le_of_ble_eq_true rfl⟩
  · refine lv_iload_n hx hb dX2_visitorAt_4 rfl (lv_at hl 1 rfl) ?_
    refine lv_bipush (v := nI 8) hx hb dX2_visitorAt_5 (by decide) ?_
    refine lv_icmp_lt (tgt := 20) hx hb dX2_visitorAt_7 (by decide) (fun c2 => absurd c2 (hz.resolve_left c1)) (fun c2 => ?_)
    exact t_throw (cls := "java/lang/IndexOutOfBoundsException") (text := "no such visitor") (names := ["java/lang/RuntimeException", "java/lang/Exception"]) (ik := 154) (is := 159) (ic := 158) hx hb hl0 hown (by decide +kernel) (by decide +kernel) (hts (.classLink RX2 154 "java/lang/IndexOutOfBoundsException") (by decide +kernel)) (hts (.initialized "java/lang/IndexOutOfBoundsException") (by decide +kernel)) (by decide) (by decide) (fun w hw => hts w ((by decide +kernel : ∀ w ∈ (vx_atS RX2 158 "java/lang/IndexOutOfBoundsException" ["java/lang/RuntimeException", "java/lang/Exception"]).filter goodWord, w ∈ wsX2_visitorAt) w hw)) (by decide +kernel) (by decide +kernel) hxt hlocks hK hX hP hD hS (hl.1.trans hml.symm) dX2_visitorAt_10 dX2_visitorAt_13 dX2_visitorAt_14 dX2_visitorAt_16 dX2_visitorAt_19 (Nat.le_of_ble_eq_true rfl) (Nat.le_of_ble_eq_true rfl) ⟨Nat.le_of_ble_eq_true rfl, Nat.le_of_ble_eq_true rfl⟩ ⟨Nat.le_of_ble_eq_true rfl, Nat.le_of_ble_eq_true rfl⟩

set_option maxHeartbeats 4000000 in
set_option maxRecDepth 100000 in
theorem c_X2_stateOf_t (l : Launch) (hl0 : l.stackTraces = false) (D : va_G) (E : cE) (tl : gTy) (x : Nat → Nat → Int32) (z : Int32) (hz : z < nI 0 ∨ ¬ z < nI 8) : hT l yX2_stateOf wsX2_stateOf ({ frames := 7, cells := 1, slots := 6, locals := 103 } : Room) D E tl (cW E x) [.ref (eO E), .int z] "java/lang/IndexOutOfBoundsException" := by
  refine hT.start (cc := cX2_stateOf) (maxL := 2) (ret := (some .int)) (own := RX2) rfl (by decide) rfl (Nat.le_of_ble_eq_true rfl) ?_
  intro pr e s m args below meth c A ls H locs hx hb hml hxt hts hown hlocks hA hK hX hP hD hS hl
  replace hl : lv_has ls 2 [(0, .ref (eO E)), (1, .int z)] := hl
  refine lv_aload_n hx hb dX2_stateOf_0 rfl (lv_at hl 0 rfl) ?_
  refine lv_iload_n hx hb dX2_stateOf_1 rfl (lv_at hl 1 rfl) ?_
  exact t_call (As := [.int z]) (rest := []) hxt hlocks ⟨hx, hb, hml, hown, hts⟩ (c_X2_visitorAt_t l hl0 D E tl x z hz) (cwV 1 hts gX2_stateOf_X2_visitorAt rfl rfl rfl (by decide +kernel) ⟨Nat.le_of_ble_eq_true rfl, Nat.le_of_ble_eq_true rfl⟩) (c_recv hK hP) hK hX hP hD hS hA rfl hl.1 rfl (Nat.le_of_ble_eq_true rfl) dX2_stateOf_2 ⟨Nat.le_of_ble_eq_true rfl, Nat.le_of_ble_eq_true rfl⟩ ⟨Nat.le_of_ble_eq_true rfl, Nat.le_of_ble_eq_true rfl⟩

set_option maxHeartbeats 4000000 in
set_option maxRecDepth 100000 in
theorem c_X2_whereIs_t (l : Launch) (hl0 : l.stackTraces = false) (D : va_G) (E : cE) (tl : gTy) (x : Nat → Nat → Int32) (z : Int32) (hz : z < nI 0 ∨ ¬ z < nI 8) : hT l yX2_whereIs wsX2_whereIs ({ frames := 7, cells := 1, slots := 6, locals := 103 } : Room) D E tl (cW E x) [.ref (eO E), .int z] "java/lang/IndexOutOfBoundsException" := by
  refine hT.start (cc := cX2_whereIs) (maxL := 2) (ret := (some .int)) (own := RX2) rfl (by decide) rfl (Nat.le_of_ble_eq_true rfl) ?_
  intro pr e s m args below meth c A ls H locs hx hb hml hxt hts hown hlocks hA hK hX hP hD hS hl
  replace hl : lv_has ls 2 [(0, .ref (eO E)), (1, .int z)] := hl
  refine lv_aload_n hx hb dX2_whereIs_0 rfl (lv_at hl 0 rfl) ?_
  refine lv_iload_n hx hb dX2_whereIs_1 rfl (lv_at hl 1 rfl) ?_
  exact t_call (As := [.int z]) (rest := []) hxt hlocks ⟨hx, hb, hml, hown, hts⟩ (c_X2_visitorAt_t l hl0 D E tl x z hz) (cwV 1 hts gX2_whereIs_X2_visitorAt rfl rfl rfl (by decide +kernel) ⟨Nat.le_of_ble_eq_true rfl, Nat.le_of_ble_eq_true rfl⟩) (c_recv hK hP) hK hX hP hD hS hA rfl hl.1 rfl (Nat.le_of_ble_eq_true rfl) dX2_whereIs_2 ⟨Nat.le_of_ble_eq_true rfl, Nat.le_of_ble_eq_true rfl⟩ ⟨Nat.le_of_ble_eq_true rfl, Nat.le_of_ble_eq_true rfl⟩

set_option maxHeartbeats 4000000 in
set_option maxRecDepth 100000 in
theorem c_X2_placeOf_t (l : Launch) (hl0 : l.stackTraces = false) (D : va_G) (E : cE) (tl : gTy) (x : Nat → Nat → Int32) (z : Int32) (hz : z < nI 0 ∨ ¬ z < nI 8) : hT l yX2_placeOf wsX2_placeOf ({ frames := 7, cells := 1, slots := 6, locals := 103 } : Room) D E tl (cW E x) [.ref (eO E), .int z] "java/lang/IndexOutOfBoundsException" := by
  refine hT.start (cc := cX2_placeOf) (maxL := 2) (ret := (some .int)) (own := RX2) rfl (by decide) rfl (Nat.le_of_ble_eq_true rfl) ?_
  intro pr e s m args below meth c A ls H locs hx hb hml hxt hts hown hlocks hA hK hX hP hD hS hl
  replace hl : lv_has ls 2 [(0, .ref (eO E)), (1, .int z)] := hl
  refine lv_aload_n hx hb dX2_placeOf_0 rfl (lv_at hl 0 rfl) ?_
  refine lv_iload_n hx hb dX2_placeOf_1 rfl (lv_at hl 1 rfl) ?_
  exact t_call (As := [.int z]) (rest := []) hxt hlocks ⟨hx, hb, hml, hown, hts⟩ (c_X2_visitorAt_t l hl0 D E tl x z hz) (cwV 1 hts gX2_placeOf_X2_visitorAt rfl rfl rfl (by decide +kernel) ⟨Nat.le_of_ble_eq_true rfl, Nat.le_of_ble_eq_true rfl⟩) (c_recv hK hP) hK hX hP hD hS hA rfl hl.1 rfl (Nat.le_of_ble_eq_true rfl) dX2_placeOf_2 ⟨Nat.le_of_ble_eq_true rfl, Nat.le_of_ble_eq_true rfl⟩ ⟨Nat.le_of_ble_eq_true rfl, Nat.le_of_ble_eq_true rfl⟩

set_option maxHeartbeats 4000000 in
set_option maxRecDepth 100000 in
theorem c_X2_turnOf_t (l : Launch) (hl0 : l.stackTraces = false) (D : va_G) (E : cE) (tl : gTy) (x : Nat → Nat → Int32) (z : Int32) (hz : z < nI 0 ∨ ¬ z < nI 8) : hT l yX2_turnOf wsX2_turnOf ({ frames := 7, cells := 1, slots := 6, locals := 103 } : Room) D E tl (cW E x) [.ref (eO E), .int z] "java/lang/IndexOutOfBoundsException" := by
  refine hT.start (cc := cX2_turnOf) (maxL := 2) (ret := (some .int)) (own := RX2) rfl (by decide) rfl (Nat.le_of_ble_eq_true rfl) ?_
  intro pr e s m args below meth c A ls H locs hx hb hml hxt hts hown hlocks hA hK hX hP hD hS hl
  replace hl : lv_has ls 2 [(0, .ref (eO E)), (1, .int z)] := hl
  refine lv_aload_n hx hb dX2_turnOf_0 rfl (lv_at hl 0 rfl) ?_
  refine lv_iload_n hx hb dX2_turnOf_1 rfl (lv_at hl 1 rfl) ?_
  exact t_call (As := [.int z]) (rest := []) hxt hlocks ⟨hx, hb, hml, hown, hts⟩ (c_X2_visitorAt_t l hl0 D E tl x z hz) (cwV 1 hts gX2_turnOf_X2_visitorAt rfl rfl rfl (by decide +kernel) ⟨Nat.le_of_ble_eq_true rfl, Nat.le_of_ble_eq_true rfl⟩) (c_recv hK hP) hK hX hP hD hS hA rfl hl.1 rfl (Nat.le_of_ble_eq_true rfl) dX2_turnOf_2 ⟨Nat.le_of_ble_eq_true rfl, Nat.le_of_ble_eq_true rfl⟩ ⟨Nat.le_of_ble_eq_true rfl, Nat.le_of_ble_eq_true rfl⟩

set_option maxHeartbeats 4000000 in
set_option maxRecDepth 100000 in
theorem c_X2_stamps_t (l : Launch) (hl0 : l.stackTraces = false) (D : va_G) (E : cE) (tl : gTy) (x : Nat → Nat → Int32) (z : Int32) (hz : z < nI 0 ∨ ¬ z < nI 8) : hT l yX2_stamps wsX2_stamps ({ frames := 7, cells := 1, slots := 6, locals := 103 } : Room) D E tl (cW E x) [.ref (eO E), .int z] "java/lang/IndexOutOfBoundsException" := by
  refine hT.start (cc := cX2_stamps) (maxL := 2) (ret := (some .int)) (own := RX2) rfl (by decide) rfl (Nat.le_of_ble_eq_true rfl) ?_
  intro pr e s m args below meth c A ls H locs hx hb hml hxt hts hown hlocks hA hK hX hP hD hS hl
  replace hl : lv_has ls 2 [(0, .ref (eO E)), (1, .int z)] := hl
  refine lv_aload_n hx hb dX2_stamps_0 rfl (lv_at hl 0 rfl) ?_
  refine lv_iload_n hx hb dX2_stamps_1 rfl (lv_at hl 1 rfl) ?_
  exact t_call (As := [.int z]) (rest := []) hxt hlocks ⟨hx, hb, hml, hown, hts⟩ (c_X2_visitorAt_t l hl0 D E tl x z hz) (cwV 1 hts gX2_stamps_X2_visitorAt rfl rfl rfl (by decide +kernel) ⟨Nat.le_of_ble_eq_true rfl, Nat.le_of_ble_eq_true rfl⟩) (c_recv hK hP) hK hX hP hD hS hA rfl hl.1 rfl (Nat.le_of_ble_eq_true rfl) dX2_stamps_2 ⟨Nat.le_of_ble_eq_true rfl, Nat.le_of_ble_eq_true rfl⟩ ⟨Nat.le_of_ble_eq_true rfl, Nat.le_of_ble_eq_true rfl⟩

set_option maxHeartbeats 4000000 in
set_option maxRecDepth 100000 in
theorem c_X2_stock_t (l : Launch) (hl0 : l.stackTraces = false) (D : va_G) (E : cE) (tl : gTy) (x : Nat → Nat → Int32) (z : Int32) (hz : z < nI 0 ∨ ¬ z < nI 6) : hT l yX2_stock wsX2_stock ({ frames := 7, cells := 1, slots := 6, locals := 103 } : Room) D E tl (cW E x) [.ref (eO E), .int z] "java/lang/IndexOutOfBoundsException" := by
  refine hT.start (cc := cX2_stock) (maxL := 2) (ret := (some .int)) (own := RX2) rfl (by decide) rfl (Nat.le_of_ble_eq_true rfl) ?_
  intro pr e s m args below meth c A ls H locs hx hb hml hxt hts hown hlocks hA hK hX hP hD hS hl
  replace hl : lv_has ls 2 [(0, .ref (eO E)), (1, .int z)] := hl
  refine lv_aload_n hx hb dX2_stock_0 rfl (lv_at hl 0 rfl) ?_
  refine lv_iload_n hx hb dX2_stock_1 rfl (lv_at hl 1 rfl) ?_
  exact t_call (As := [.int z]) (rest := []) hxt hlocks ⟨hx, hb, hml, hown, hts⟩ (c_X2_pavilionAt_t l hl0 D E tl x z hz) (cwV 1 hts gX2_stock_X2_pavilionAt rfl rfl rfl (by decide +kernel) ⟨Nat.le_of_ble_eq_true rfl, Nat.le_of_ble_eq_true rfl⟩) (c_recv hK hP) hK hX hP hD hS hA rfl hl.1 rfl (Nat.le_of_ble_eq_true rfl) dX2_stock_2 ⟨Nat.le_of_ble_eq_true rfl, Nat.le_of_ble_eq_true rfl⟩ ⟨Nat.le_of_ble_eq_true rfl, Nat.le_of_ble_eq_true rfl⟩

set_option maxHeartbeats 4000000 in
set_option maxRecDepth 100000 in
theorem c_X2_demand_t (l : Launch) (hl0 : l.stackTraces = false) (D : va_G) (E : cE) (tl : gTy) (x : Nat → Nat → Int32) (z : Int32) (hz : z < nI 0 ∨ ¬ z < nI 6) : hT l yX2_demand wsX2_demand ({ frames := 7, cells := 1, slots := 6, locals := 103 } : Room) D E tl (cW E x) [.ref (eO E), .int z] "java/lang/IndexOutOfBoundsException" := by
  refine hT.start (cc := cX2_demand) (maxL := 2) (ret := (some .int)) (own := RX2) rfl (by decide) rfl (Nat.le_of_ble_eq_true rfl) ?_
  intro pr e s m args below meth c A ls H locs hx hb hml hxt hts hown hlocks hA hK hX hP hD hS hl
  replace hl : lv_has ls 2 [(0, .ref (eO E)), (1, .int z)] := hl
  refine lv_aload_n hx hb dX2_demand_0 rfl (lv_at hl 0 rfl) ?_
  refine lv_iload_n hx hb dX2_demand_1 rfl (lv_at hl 1 rfl) ?_
  exact t_call (As := [.int z]) (rest := []) hxt hlocks ⟨hx, hb, hml, hown, hts⟩ (c_X2_pavilionAt_t l hl0 D E tl x z hz) (cwV 1 hts gX2_demand_X2_pavilionAt rfl rfl rfl (by decide +kernel) ⟨Nat.le_of_ble_eq_true rfl, Nat.le_of_ble_eq_true rfl⟩) (c_recv hK hP) hK hX hP hD hS hA rfl hl.1 rfl (Nat.le_of_ble_eq_true rfl) dX2_demand_2 ⟨Nat.le_of_ble_eq_true rfl, Nat.le_of_ble_eq_true rfl⟩ ⟨Nat.le_of_ble_eq_true rfl, Nat.le_of_ble_eq_true rfl⟩

set_option maxHeartbeats 4000000 in
set_option maxRecDepth 100000 in
theorem c_X2_queue_t (l : Launch) (hl0 : l.stackTraces = false) (D : va_G) (E : cE) (tl : gTy) (x : Nat → Nat → Int32) (z : Int32) (hz : z < nI 0 ∨ ¬ z < nI 6) : hT l yX2_queue wsX2_queue ({ frames := 7, cells := 1, slots := 6, locals := 103 } : Room) D E tl (cW E x) [.ref (eO E), .int z] "java/lang/IndexOutOfBoundsException" := by
  refine hT.start (cc := cX2_queue) (maxL := 2) (ret := (some .int)) (own := RX2) rfl (by decide) rfl (Nat.le_of_ble_eq_true rfl) ?_
  intro pr e s m args below meth c A ls H locs hx hb hml hxt hts hown hlocks hA hK hX hP hD hS hl
  replace hl : lv_has ls 2 [(0, .ref (eO E)), (1, .int z)] := hl
  refine lv_aload_n hx hb dX2_queue_0 rfl (lv_at hl 0 rfl) ?_
  refine lv_iconst (v := nI 1) hx hb dX2_queue_1 (by decide) ?_
  refine lv_aload_n hx hb dX2_queue_2 rfl (lv_at hl 0 rfl) ?_
  refine lv_iload_n hx hb dX2_queue_3 rfl (lv_at hl 1 rfl) ?_
  exact t_call (As := [.int z]) (rest := [.int (nI 1), .ref (eO E)]) hxt hlocks ⟨hx, hb, hml, hown, hts⟩ (c_X2_pavilionAt_t l hl0 D E tl x z hz) (cwV 1 hts gX2_queue_X2_pavilionAt rfl rfl rfl (by decide +kernel) ⟨Nat.le_of_ble_eq_true rfl, Nat.le_of_ble_eq_true rfl⟩) (c_recv hK hP) hK hX hP hD hS hA rfl hl.1 rfl (Nat.le_of_ble_eq_true rfl) dX2_queue_4 ⟨Nat.le_of_ble_eq_true rfl, Nat.le_of_ble_eq_true rfl⟩ ⟨Nat.le_of_ble_eq_true rfl, Nat.le_of_ble_eq_true rfl⟩

set_option maxHeartbeats 4000000 in
set_option maxRecDepth 100000 in
theorem c_X2_inside_t (l : Launch) (hl0 : l.stackTraces = false) (D : va_G) (E : cE) (tl : gTy) (x : Nat → Nat → Int32) (z : Int32) (hz : z < nI 0 ∨ ¬ z < nI 6) : hT l yX2_inside wsX2_inside ({ frames := 7, cells := 1, slots := 6, locals := 103 } : Room) D E tl (cW E x) [.ref (eO E), .int z] "java/lang/IndexOutOfBoundsException" := by
  refine hT.start (cc := cX2_inside) (maxL := 2) (ret := (some .int)) (own := RX2) rfl (by decide) rfl (Nat.le_of_ble_eq_true rfl) ?_
  intro pr e s m args below meth c A ls H locs hx hb hml hxt hts hown hlocks hA hK hX hP hD hS hl
  replace hl : lv_has ls 2 [(0, .ref (eO E)), (1, .int z)] := hl
  refine lv_aload_n hx hb dX2_inside_0 rfl (lv_at hl 0 rfl) ?_
  refine lv_iconst (v := nI 2) hx hb dX2_inside_1 (by decide) ?_
  refine lv_aload_n hx hb dX2_inside_2 rfl (lv_at hl 0 rfl) ?_
  refine lv_iload_n hx hb dX2_inside_3 rfl (lv_at hl 1 rfl) ?_
  exact t_call (As := [.int z]) (rest := [.int (nI 2), .ref (eO E)]) hxt hlocks ⟨hx, hb, hml, hown, hts⟩ (c_X2_pavilionAt_t l hl0 D E tl x z hz) (cwV 1 hts gX2_inside_X2_pavilionAt rfl rfl rfl (by decide +kernel) ⟨Nat.le_of_ble_eq_true rfl, Nat.le_of_ble_eq_true rfl⟩) (c_recv hK hP) hK hX hP hD hS hA rfl hl.1 rfl (Nat.le_of_ble_eq_true rfl) dX2_inside_4 ⟨Nat.le_of_ble_eq_true rfl, Nat.le_of_ble_eq_true rfl⟩ ⟨Nat.le_of_ble_eq_true rfl, Nat.le_of_ble_eq_true rfl⟩

set_option maxHeartbeats 4000000 in
set_option maxRecDepth 100000 in
theorem c_X2_setPavilion_p (l : Launch) (hl0 : l.stackTraces = false) (D : va_G) (E : cE) (tl : gTy) (x : Nat → Nat → Int32) (z a b : Int32) (hz : z < nI 0 ∨ ¬ z < nI 6) : hT l yX2_setPavilion wsX2_setPavilion ({ frames := 7, cells := 1, slots := 6, locals := 103 } : Room) D E tl (cW E x) [.ref (eO E), .int z, .int a, .int b] "java/lang/IndexOutOfBoundsException" := by
  refine hT.start (cc := cX2_setPavilion) (maxL := 5) (ret := none) (own := RX2) rfl (by decide) rfl (Nat.le_of_ble_eq_true rfl) ?_
  intro pr e s m args below meth c A ls H locs hx hb hml hxt hts hown hlocks hA hK hX hP hD hS hl
  replace hl : lv_has ls 5 [(0, .ref (eO E)), (1, .int z), (2, .int a), (3, .int b)] := hl
  refine lv_aload_n hx hb dX2_setPavilion_0 rfl (lv_at hl 0 rfl) ?_
  refine lv_iload_n hx hb dX2_setPavilion_1 rfl (lv_at hl 1 rfl) ?_
  exact t_call (As := [.int z]) (rest := []) hxt hlocks ⟨hx, hb, hml, hown, hts⟩ (c_X2_pavilionAt_t l hl0 D E tl x z hz) (cwV 1 hts gX2_setPavilion_X2_pavilionAt rfl rfl rfl (by decide +kernel) ⟨Nat.le_of_ble_eq_true rfl, Nat.le_of_ble_eq_true rfl⟩) (c_recv hK hP) hK hX hP hD hS hA rfl hl.1 rfl (Nat.le_of_ble_eq_true rfl) dX2_setPavilion_2 ⟨Nat.le_of_ble_eq_true rfl, Nat.le_of_ble_eq_true rfl⟩ ⟨Nat.le_of_ble_eq_true rfl, Nat.le_of_ble_eq_true rfl⟩

set_option maxHeartbeats 4000000 in
set_option maxRecDepth 100000 in
theorem c_X2_setPavilion_r (l : Launch) (hl0 : l.stackTraces = false) (D : va_G) (E : cE) (tl : gTy) (x : Nat → Nat → Int32) (j : Nat) (a b : Int32) (hj : j < 6) (hok : ¬ sOK a b) : hT l yX2_setPavilion wsX2_setPavilion ({ frames := 6, cells := 1, slots := 6, locals := 82 } : Room) D E tl (cW E x) [.ref (eO E), .int (nI j), .int a, .int b] "java/lang/IllegalArgumentException" := by
  refine hT.start (cc := cX2_setPavilion) (maxL := 5) (ret := none) (own := RX2) rfl (by decide) rfl (Nat.le_of_ble_eq_true rfl) ?_
  intro pr e s m args below meth c A ls H locs hx hb hml hxt hts hown hlocks hA hK hX hP hD hS hl
  replace hl : lv_has ls 5 [(0, .ref (eO E)), (1, .int (nI j)), (2, .int a), (3, .int b)] := hl
  refine lv_aload_n hx hb dX2_setPavilion_0 rfl (lv_at hl 0 rfl) ?_
  refine lv_iload_n hx hb dX2_setPavilion_1 rfl (lv_at hl 1 rfl) ?_
  refine h_callq (As := [.int (nI j)]) (rest := []) ⟨hx, hb, hml, hown, hts⟩ (c_X2_pavilionAt l D E tl x j hj) (cwV 1 hts gX2_setPavilion_X2_pavilionAt rfl rfl rfl (by decide +kernel) ⟨Nat.le_of_ble_eq_true rfl, Nat.le_of_ble_eq_true rfl⟩) (c_recv hK hP) hK hX hP hD hS hA rfl hl.1 rfl (Nat.le_of_ble_eq_true rfl) dX2_setPavilion_2 ⟨Nat.le_of_ble_eq_true rfl, Nat.le_of_ble_eq_true rfl⟩ (fun r_3 u_2 H locs hw hP hD hS => ?_)
  obtain ⟨hr_3, hu_2⟩ := hw
  rw [hu_2] at hP hD
  refine q_topv (v' := .ref (ePad E j)) (by rw [hr_3]; rfl) ?_
  refine lv_astore (lv' := [(4, .ref (ePad E j)), (0, .ref (eO E)), (1, .int (nI j)), (2, .int a), (3, .int b)]) hx hb dX2_setPavilion_5 hl (by decide) rfl (fun ls hl => ?_)
  refine lv_iload_n hx hb dX2_setPavilion_7 rfl (lv_at hl 3 rfl) ?_
  refine lv_iconst (v := nI 1) hx hb dX2_setPavilion_8 (by decide) ?_
  refine lv_icmp_lt (tgt := 29) hx hb dX2_setPavilion_9 (by decide) (fun c1 => ?_) (fun c1 => ?_)
  · exact t_throw (cls := "java/lang/IllegalArgumentException") (text := "room or time is out of range") (names := ["java/lang/RuntimeException", "java/lang/Exception"]) (ik := 33) (is := 35) (ic := 37) hx hb hl0 hown (by decide +kernel) (by decide +kernel) (hts (.classLink RX2 33 "java/lang/IllegalArgumentException") (by decide +kernel)) (hts (.initialized "java/lang/IllegalArgumentException") (by decide +kernel)) (by decide) (by decide) (fun w hw => hts w ((by decide +kernel : ∀ w ∈ (vx_atS RX2 37 "java/lang/IllegalArgumentException" ["java/lang/RuntimeException", "java/lang/Exception"]).filter goodWord, w ∈ wsX2_setPavilion) w hw)) (by decide +kernel) (by decide +kernel) hxt hlocks hK hX hP hD hS (hl.1.trans hml.symm) dX2_setPavilion_29 dX2_setPavilion_32 dX2_setPavilion_33 dX2_setPavilion_35 dX2_setPavilion_38 (Nat.le_of_ble_eq_true rfl) (Nat.le_of_ble_eq_true rfl) ⟨Nat.le_of_ble_eq_true rfl, Nat.le_of_ble_eq_true rfl⟩ ⟨Nat.le_of_ble_eq_true rfl, Nat.le_of_ble_eq_true rfl⟩
  · refine lv_iload_n hx hb dX2_setPavilion_12 rfl (lv_at hl 3 rfl) ?_
    refine lv_bipush (v := nI 8) hx hb dX2_setPavilion_13 (by decide) ?_
    refine lv_icmp_gt (tgt := 29) hx hb dX2_setPavilion_15 (by decide) (fun c2 => ?_) (fun c2 => ?_)
    · exact t_throw (cls := "java/lang/IllegalArgumentException") (text := "room or time is out of range") (names := ["java/lang/RuntimeException", "java/lang/Exception"]) (ik := 33) (is := 35) (ic := 37) hx hb hl0 hown (by decide +kernel) (by decide +kernel) (hts (.classLink RX2 33 "java/lang/IllegalArgumentException") (by decide +kernel)) (hts (.initialized "java/lang/IllegalArgumentException") (by decide +kernel)) (by decide) (by decide) (fun w hw => hts w ((by decide +kernel : ∀ w ∈ (vx_atS RX2 37 "java/lang/IllegalArgumentException" ["java/lang/RuntimeException", "java/lang/Exception"]).filter goodWord, w ∈ wsX2_setPavilion) w hw)) (by decide +kernel) (by decide +kernel) hxt hlocks hK hX hP hD hS (hl.1.trans hml.symm) dX2_setPavilion_29 dX2_setPavilion_32 dX2_setPavilion_33 dX2_setPavilion_35 dX2_setPavilion_38 (Nat.le_of_ble_eq_true rfl) (Nat.le_of_ble_eq_true rfl) ⟨Nat.le_of_ble_eq_true rfl, Nat.le_of_ble_eq_true rfl⟩ ⟨Nat.le_of_ble_eq_true rfl, Nat.le_of_ble_eq_true rfl⟩
    · refine lv_iload_n hx hb dX2_setPavilion_18 rfl (lv_at hl 4 rfl) ?_
      refine lv_iconst (v := nI 1) hx hb dX2_setPavilion_19 (by decide) ?_
      refine lv_icmp_lt (tgt := 29) hx hb dX2_setPavilion_20 (by decide) (fun c3 => ?_) (fun c3 => ?_)
      · exact t_throw (cls := "java/lang/IllegalArgumentException") (text := "room or time is out of range") (names := ["java/lang/RuntimeException", "java/lang/Exception"]) (ik := 33) (is := 35) (ic := 37) hx hb hl0 hown (by decide +kernel) (by decide +kernel) (hts (.classLink RX2 33 "java/lang/IllegalArgumentException") (by decide +kernel)) (hts (.initialized "java/lang/IllegalArgumentException") (by decide +kernel)) (by decide) (by decide) (fun w hw => hts w ((by decide +kernel : ∀ w ∈ (vx_atS RX2 37 "java/lang/IllegalArgumentException" ["java/lang/RuntimeException", "java/lang/Exception"]).filter goodWord, w ∈ wsX2_setPavilion) w hw)) (by decide +kernel) (by decide +kernel) hxt hlocks hK hX hP hD hS (hl.1.trans hml.symm) dX2_setPavilion_29 dX2_setPavilion_32 dX2_setPavilion_33 dX2_setPavilion_35 dX2_setPavilion_38 (Nat.le_of_ble_eq_true rfl) (Nat.le_of_ble_eq_true rfl) ⟨Nat.le_of_ble_eq_true rfl, Nat.le_of_ble_eq_true rfl⟩ ⟨Nat.le_of_ble_eq_true rfl, Nat.le_of_ble_eq_true rfl⟩
      · refine lv_iload_n hx hb dX2_setPavilion_23 rfl (lv_at hl 4 rfl) ?_
        refine lv_bipush (v := nI 60) hx hb dX2_setPavilion_24 (by decide) ?_
        refine lv_icmp_le (tgt := 39) hx hb dX2_setPavilion_26 (by decide) (fun c4 => absurd ⟨c1, c2, c3, Int32.not_lt.mpr c4⟩ hok) (fun c4 => ?_)
        exact t_throw (cls := "java/lang/IllegalArgumentException") (text := "room or time is out of range") (names := ["java/lang/RuntimeException", "java/lang/Exception"]) (ik := 33) (is := 35) (ic := 37) hx hb hl0 hown (by decide +kernel) (by decide +kernel) (hts (.classLink RX2 33 "java/lang/IllegalArgumentException") (by decide +kernel)) (hts (.initialized "java/lang/IllegalArgumentException") (by decide +kernel)) (by decide) (by decide) (fun w hw => hts w ((by decide +kernel : ∀ w ∈ (vx_atS RX2 37 "java/lang/IllegalArgumentException" ["java/lang/RuntimeException", "java/lang/Exception"]).filter goodWord, w ∈ wsX2_setPavilion) w hw)) (by decide +kernel) (by decide +kernel) hxt hlocks hK hX hP hD hS (hl.1.trans hml.symm) dX2_setPavilion_29 dX2_setPavilion_32 dX2_setPavilion_33 dX2_setPavilion_35 dX2_setPavilion_38 (Nat.le_of_ble_eq_true rfl) (Nat.le_of_ble_eq_true rfl) ⟨Nat.le_of_ble_eq_true rfl, Nat.le_of_ble_eq_true rfl⟩ ⟨Nat.le_of_ble_eq_true rfl, Nat.le_of_ble_eq_true rfl⟩

set_option maxHeartbeats 4000000 in
set_option maxRecDepth 100000 in
theorem c_X2_open_p (l : Launch) (hl0 : l.stackTraces = false) (D : va_G) (E : cE) (tl : gTy) (x : Nat → Nat → Int32) (z o : Int32) (hz : z < nI 0 ∨ ¬ z < nI 6) : hT l yX2_open wsX2_open ({ frames := 7, cells := 1, slots := 6, locals := 103 } : Room) D E tl (cW E x) [.ref (eO E), .int z, .int o] "java/lang/IndexOutOfBoundsException" := by
  refine hT.start (cc := cX2_open) (maxL := 4) (ret := (some .int)) (own := RX2) rfl (by decide) rfl (Nat.le_of_ble_eq_true rfl) ?_
  intro pr e s m args below meth c A ls H locs hx hb hml hxt hts hown hlocks hA hK hX hP hD hS hl
  replace hl : lv_has ls 4 [(0, .ref (eO E)), (1, .int z), (2, .int o)] := hl
  refine lv_aload_n hx hb dX2_open_0 rfl (lv_at hl 0 rfl) ?_
  refine lv_iload_n hx hb dX2_open_1 rfl (lv_at hl 1 rfl) ?_
  exact t_call (As := [.int z]) (rest := []) hxt hlocks ⟨hx, hb, hml, hown, hts⟩ (c_X2_pavilionAt_t l hl0 D E tl x z hz) (cwV 1 hts gX2_open_X2_pavilionAt rfl rfl rfl (by decide +kernel) ⟨Nat.le_of_ble_eq_true rfl, Nat.le_of_ble_eq_true rfl⟩) (c_recv hK hP) hK hX hP hD hS hA rfl hl.1 rfl (Nat.le_of_ble_eq_true rfl) dX2_open_2 ⟨Nat.le_of_ble_eq_true rfl, Nat.le_of_ble_eq_true rfl⟩ ⟨Nat.le_of_ble_eq_true rfl, Nat.le_of_ble_eq_true rfl⟩

set_option maxHeartbeats 4000000 in
set_option maxRecDepth 100000 in
theorem c_X2_plan_v (l : Launch) (hl0 : l.stackTraces = false) (D : va_G) (E : cE) (tl : gTy) (x : Nat → Nat → Int32) (z b : Int32) (hz : z < nI 0 ∨ ¬ z < nI 8) : hT l yX2_plan wsX2_plan ({ frames := 7, cells := 1, slots := 6, locals := 103 } : Room) D E tl (cW E x) [.ref (eO E), .int z, .int b] "java/lang/IndexOutOfBoundsException" := by
  refine hT.start (cc := cX2_plan) (maxL := 5) (ret := (some .int)) (own := RX2) rfl (by decide) rfl (Nat.le_of_ble_eq_true rfl) ?_
  intro pr e s m args below meth c A ls H locs hx hb hml hxt hts hown hlocks hA hK hX hP hD hS hl
  replace hl : lv_has ls 5 [(0, .ref (eO E)), (1, .int z), (2, .int b)] := hl
  refine lv_aload_n hx hb dX2_plan_0 rfl (lv_at hl 0 rfl) ?_
  refine lv_iload_n hx hb dX2_plan_1 rfl (lv_at hl 1 rfl) ?_
  exact t_call (As := [.int z]) (rest := []) hxt hlocks ⟨hx, hb, hml, hown, hts⟩ (c_X2_visitorAt_t l hl0 D E tl x z hz) (cwV 1 hts gX2_plan_X2_visitorAt rfl rfl rfl (by decide +kernel) ⟨Nat.le_of_ble_eq_true rfl, Nat.le_of_ble_eq_true rfl⟩) (c_recv hK hP) hK hX hP hD hS hA rfl hl.1 rfl (Nat.le_of_ble_eq_true rfl) dX2_plan_2 ⟨Nat.le_of_ble_eq_true rfl, Nat.le_of_ble_eq_true rfl⟩ ⟨Nat.le_of_ble_eq_true rfl, Nat.le_of_ble_eq_true rfl⟩

set_option maxHeartbeats 4000000 in
set_option maxRecDepth 100000 in
theorem c_X2_plan_p (l : Launch) (hl0 : l.stackTraces = false) (D : va_G) (E : cE) (tl : gTy) (x : Nat → Nat → Int32) (i : Nat) (z : Int32) (hi : i < 8) (hz : z < nI 0 ∨ ¬ z < nI 6) : hT l yX2_plan wsX2_plan ({ frames := 7, cells := 1, slots := 6, locals := 103 } : Room) D E tl (cW E x) [.ref (eO E), .int (nI i), .int z] "java/lang/IndexOutOfBoundsException" := by
  refine hT.start (cc := cX2_plan) (maxL := 5) (ret := (some .int)) (own := RX2) rfl (by decide) rfl (Nat.le_of_ble_eq_true rfl) ?_
  intro pr e s m args below meth c A ls H locs hx hb hml hxt hts hown hlocks hA hK hX hP hD hS hl
  replace hl : lv_has ls 5 [(0, .ref (eO E)), (1, .int (nI i)), (2, .int z)] := hl
  refine lv_aload_n hx hb dX2_plan_0 rfl (lv_at hl 0 rfl) ?_
  refine lv_iload_n hx hb dX2_plan_1 rfl (lv_at hl 1 rfl) ?_
  refine h_callq (As := [.int (nI i)]) (rest := []) ⟨hx, hb, hml, hown, hts⟩ (c_X2_visitorAt l D E tl x i hi) (cwV 1 hts gX2_plan_X2_visitorAt rfl rfl rfl (by decide +kernel) ⟨Nat.le_of_ble_eq_true rfl, Nat.le_of_ble_eq_true rfl⟩) (c_recv hK hP) hK hX hP hD hS hA rfl hl.1 rfl (Nat.le_of_ble_eq_true rfl) dX2_plan_2 ⟨Nat.le_of_ble_eq_true rfl, Nat.le_of_ble_eq_true rfl⟩ (fun r_3 u_2 H locs hw hP hD hS => ?_)
  obtain ⟨hr_3, hu_2⟩ := hw
  rw [hu_2] at hP hD
  refine q_topv (v' := .ref (eVad E i)) (by rw [hr_3]; rfl) ?_
  refine lv_astore_n (lv' := [(3, .ref (eVad E i)), (0, .ref (eO E)), (1, .int (nI i)), (2, .int z)]) hx hb dX2_plan_5 rfl hl (by decide) rfl (fun ls hl => ?_)
  refine lv_aload_n hx hb dX2_plan_6 rfl (lv_at hl 1 rfl) ?_
  refine lv_iload_n hx hb dX2_plan_7 rfl (lv_at hl 3 rfl) ?_
  exact t_call (As := [.int z]) (rest := []) hxt hlocks ⟨hx, hb, hml, hown, hts⟩ (c_X2_pavilionAt_t l hl0 D E tl x z hz) (cwV 1 hts gX2_plan_X2_pavilionAt rfl rfl rfl (by decide +kernel) ⟨Nat.le_of_ble_eq_true rfl, Nat.le_of_ble_eq_true rfl⟩) (c_recv hK hP) hK hX hP hD hS hA rfl hl.1 rfl (Nat.le_of_ble_eq_true rfl) dX2_plan_8 ⟨Nat.le_of_ble_eq_true rfl, Nat.le_of_ble_eq_true rfl⟩ ⟨Nat.le_of_ble_eq_true rfl, Nat.le_of_ble_eq_true rfl⟩

set_option maxHeartbeats 4000000 in
set_option maxRecDepth 100000 in
theorem c_X2_drop_v (l : Launch) (hl0 : l.stackTraces = false) (D : va_G) (E : cE) (tl : gTy) (x : Nat → Nat → Int32) (z b : Int32) (hz : z < nI 0 ∨ ¬ z < nI 8) : hT l yX2_drop wsX2_drop ({ frames := 7, cells := 1, slots := 6, locals := 103 } : Room) D E tl (cW E x) [.ref (eO E), .int z, .int b] "java/lang/IndexOutOfBoundsException" := by
  refine hT.start (cc := cX2_drop) (maxL := 6) (ret := (some .int)) (own := RX2) rfl (by decide) rfl (Nat.le_of_ble_eq_true rfl) ?_
  intro pr e s m args below meth c A ls H locs hx hb hml hxt hts hown hlocks hA hK hX hP hD hS hl
  replace hl : lv_has ls 6 [(0, .ref (eO E)), (1, .int z), (2, .int b)] := hl
  refine lv_aload_n hx hb dX2_drop_0 rfl (lv_at hl 0 rfl) ?_
  refine lv_iload_n hx hb dX2_drop_1 rfl (lv_at hl 1 rfl) ?_
  exact t_call (As := [.int z]) (rest := []) hxt hlocks ⟨hx, hb, hml, hown, hts⟩ (c_X2_visitorAt_t l hl0 D E tl x z hz) (cwV 1 hts gX2_drop_X2_visitorAt rfl rfl rfl (by decide +kernel) ⟨Nat.le_of_ble_eq_true rfl, Nat.le_of_ble_eq_true rfl⟩) (c_recv hK hP) hK hX hP hD hS hA rfl hl.1 rfl (Nat.le_of_ble_eq_true rfl) dX2_drop_2 ⟨Nat.le_of_ble_eq_true rfl, Nat.le_of_ble_eq_true rfl⟩ ⟨Nat.le_of_ble_eq_true rfl, Nat.le_of_ble_eq_true rfl⟩

set_option maxHeartbeats 4000000 in
set_option maxRecDepth 100000 in
theorem c_X2_drop_p (l : Launch) (hl0 : l.stackTraces = false) (D : va_G) (E : cE) (tl : gTy) (x : Nat → Nat → Int32) (i : Nat) (z : Int32) (hi : i < 8) (hz : z < nI 0 ∨ ¬ z < nI 6) : hT l yX2_drop wsX2_drop ({ frames := 7, cells := 1, slots := 6, locals := 103 } : Room) D E tl (cW E x) [.ref (eO E), .int (nI i), .int z] "java/lang/IndexOutOfBoundsException" := by
  refine hT.start (cc := cX2_drop) (maxL := 6) (ret := (some .int)) (own := RX2) rfl (by decide) rfl (Nat.le_of_ble_eq_true rfl) ?_
  intro pr e s m args below meth c A ls H locs hx hb hml hxt hts hown hlocks hA hK hX hP hD hS hl
  replace hl : lv_has ls 6 [(0, .ref (eO E)), (1, .int (nI i)), (2, .int z)] := hl
  refine lv_aload_n hx hb dX2_drop_0 rfl (lv_at hl 0 rfl) ?_
  refine lv_iload_n hx hb dX2_drop_1 rfl (lv_at hl 1 rfl) ?_
  refine h_callq (As := [.int (nI i)]) (rest := []) ⟨hx, hb, hml, hown, hts⟩ (c_X2_visitorAt l D E tl x i hi) (cwV 1 hts gX2_drop_X2_visitorAt rfl rfl rfl (by decide +kernel) ⟨Nat.le_of_ble_eq_true rfl, Nat.le_of_ble_eq_true rfl⟩) (c_recv hK hP) hK hX hP hD hS hA rfl hl.1 rfl (Nat.le_of_ble_eq_true rfl) dX2_drop_2 ⟨Nat.le_of_ble_eq_true rfl, Nat.le_of_ble_eq_true rfl⟩ (fun r_3 u_2 H locs hw hP hD hS => ?_)
  obtain ⟨hr_3, hu_2⟩ := hw
  rw [hu_2] at hP hD
  refine q_topv (v' := .ref (eVad E i)) (by rw [hr_3]; rfl) ?_
  refine lv_astore_n (lv' := [(3, .ref (eVad E i)), (0, .ref (eO E)), (1, .int (nI i)), (2, .int z)]) hx hb dX2_drop_5 rfl hl (by decide) rfl (fun ls hl => ?_)
  refine lv_aload_n hx hb dX2_drop_6 rfl (lv_at hl 1 rfl) ?_
  refine lv_iload_n hx hb dX2_drop_7 rfl (lv_at hl 3 rfl) ?_
  exact t_call (As := [.int z]) (rest := []) hxt hlocks ⟨hx, hb, hml, hown, hts⟩ (c_X2_pavilionAt_t l hl0 D E tl x z hz) (cwV 1 hts gX2_drop_X2_pavilionAt rfl rfl rfl (by decide +kernel) ⟨Nat.le_of_ble_eq_true rfl, Nat.le_of_ble_eq_true rfl⟩) (c_recv hK hP) hK hX hP hD hS hA rfl hl.1 rfl (Nat.le_of_ble_eq_true rfl) dX2_drop_8 ⟨Nat.le_of_ble_eq_true rfl, Nat.le_of_ble_eq_true rfl⟩ ⟨Nat.le_of_ble_eq_true rfl, Nat.le_of_ble_eq_true rfl⟩

set_option maxHeartbeats 4000000 in
set_option maxRecDepth 100000 in
theorem c_X2_ask_v (l : Launch) (hl0 : l.stackTraces = false) (D : va_G) (E : cE) (tl : gTy) (x : Nat → Nat → Int32) (z b : Int32) (hz : z < nI 0 ∨ ¬ z < nI 8) : hT l yX2_ask wsX2_ask ({ frames := 7, cells := 1, slots := 6, locals := 103 } : Room) D E tl (cW E x) [.ref (eO E), .int z, .int b] "java/lang/IndexOutOfBoundsException" := by
  refine hT.start (cc := cX2_ask) (maxL := 5) (ret := (some .int)) (own := RX2) rfl (by decide) rfl (Nat.le_of_ble_eq_true rfl) ?_
  intro pr e s m args below meth c A ls H locs hx hb hml hxt hts hown hlocks hA hK hX hP hD hS hl
  replace hl : lv_has ls 5 [(0, .ref (eO E)), (1, .int z), (2, .int b)] := hl
  refine lv_aload_n hx hb dX2_ask_0 rfl (lv_at hl 0 rfl) ?_
  refine lv_iload_n hx hb dX2_ask_1 rfl (lv_at hl 1 rfl) ?_
  exact t_call (As := [.int z]) (rest := []) hxt hlocks ⟨hx, hb, hml, hown, hts⟩ (c_X2_visitorAt_t l hl0 D E tl x z hz) (cwV 1 hts gX2_ask_X2_visitorAt rfl rfl rfl (by decide +kernel) ⟨Nat.le_of_ble_eq_true rfl, Nat.le_of_ble_eq_true rfl⟩) (c_recv hK hP) hK hX hP hD hS hA rfl hl.1 rfl (Nat.le_of_ble_eq_true rfl) dX2_ask_2 ⟨Nat.le_of_ble_eq_true rfl, Nat.le_of_ble_eq_true rfl⟩ ⟨Nat.le_of_ble_eq_true rfl, Nat.le_of_ble_eq_true rfl⟩

set_option maxHeartbeats 4000000 in
set_option maxRecDepth 100000 in
theorem c_X2_ask_p (l : Launch) (hl0 : l.stackTraces = false) (D : va_G) (E : cE) (tl : gTy) (x : Nat → Nat → Int32) (i : Nat) (z : Int32) (hi : i < 8) (hz : z < nI 0 ∨ ¬ z < nI 6) : hT l yX2_ask wsX2_ask ({ frames := 7, cells := 1, slots := 6, locals := 103 } : Room) D E tl (cW E x) [.ref (eO E), .int (nI i), .int z] "java/lang/IndexOutOfBoundsException" := by
  refine hT.start (cc := cX2_ask) (maxL := 5) (ret := (some .int)) (own := RX2) rfl (by decide) rfl (Nat.le_of_ble_eq_true rfl) ?_
  intro pr e s m args below meth c A ls H locs hx hb hml hxt hts hown hlocks hA hK hX hP hD hS hl
  replace hl : lv_has ls 5 [(0, .ref (eO E)), (1, .int (nI i)), (2, .int z)] := hl
  refine lv_aload_n hx hb dX2_ask_0 rfl (lv_at hl 0 rfl) ?_
  refine lv_iload_n hx hb dX2_ask_1 rfl (lv_at hl 1 rfl) ?_
  refine h_callq (As := [.int (nI i)]) (rest := []) ⟨hx, hb, hml, hown, hts⟩ (c_X2_visitorAt l D E tl x i hi) (cwV 1 hts gX2_ask_X2_visitorAt rfl rfl rfl (by decide +kernel) ⟨Nat.le_of_ble_eq_true rfl, Nat.le_of_ble_eq_true rfl⟩) (c_recv hK hP) hK hX hP hD hS hA rfl hl.1 rfl (Nat.le_of_ble_eq_true rfl) dX2_ask_2 ⟨Nat.le_of_ble_eq_true rfl, Nat.le_of_ble_eq_true rfl⟩ (fun r_3 u_2 H locs hw hP hD hS => ?_)
  obtain ⟨hr_3, hu_2⟩ := hw
  rw [hu_2] at hP hD
  refine q_topv (v' := .ref (eVad E i)) (by rw [hr_3]; rfl) ?_
  refine lv_astore_n (lv' := [(3, .ref (eVad E i)), (0, .ref (eO E)), (1, .int (nI i)), (2, .int z)]) hx hb dX2_ask_5 rfl hl (by decide) rfl (fun ls hl => ?_)
  refine lv_aload_n hx hb dX2_ask_6 rfl (lv_at hl 1 rfl) ?_
  refine lv_iload_n hx hb dX2_ask_7 rfl (lv_at hl 3 rfl) ?_
  exact t_call (As := [.int z]) (rest := []) hxt hlocks ⟨hx, hb, hml, hown, hts⟩ (c_X2_pavilionAt_t l hl0 D E tl x z hz) (cwV 1 hts gX2_ask_X2_pavilionAt rfl rfl rfl (by decide +kernel) ⟨Nat.le_of_ble_eq_true rfl, Nat.le_of_ble_eq_true rfl⟩) (c_recv hK hP) hK hX hP hD hS hA rfl hl.1 rfl (Nat.le_of_ble_eq_true rfl) dX2_ask_8 ⟨Nat.le_of_ble_eq_true rfl, Nat.le_of_ble_eq_true rfl⟩ ⟨Nat.le_of_ble_eq_true rfl, Nat.le_of_ble_eq_true rfl⟩

set_option maxHeartbeats 4000000 in
set_option maxRecDepth 100000 in
theorem c_X2_send_v (l : Launch) (hl0 : l.stackTraces = false) (D : va_G) (E : cE) (tl : gTy) (x : Nat → Nat → Int32) (z b : Int32) (hz : z < nI 0 ∨ ¬ z < nI 8) : hT l yX2_send wsX2_send ({ frames := 7, cells := 1, slots := 6, locals := 103 } : Room) D E tl (cW E x) [.ref (eO E), .int z, .int b] "java/lang/IndexOutOfBoundsException" := by
  refine hT.start (cc := cX2_send) (maxL := 5) (ret := (some .boolean)) (own := RX2) rfl (by decide) rfl (Nat.le_of_ble_eq_true rfl) ?_
  intro pr e s m args below meth c A ls H locs hx hb hml hxt hts hown hlocks hA hK hX hP hD hS hl
  replace hl : lv_has ls 5 [(0, .ref (eO E)), (1, .int z), (2, .int b)] := hl
  refine lv_aload_n hx hb dX2_send_0 rfl (lv_at hl 0 rfl) ?_
  refine lv_iload_n hx hb dX2_send_1 rfl (lv_at hl 1 rfl) ?_
  exact t_call (As := [.int z]) (rest := []) hxt hlocks ⟨hx, hb, hml, hown, hts⟩ (c_X2_visitorAt_t l hl0 D E tl x z hz) (cwV 1 hts gX2_send_X2_visitorAt rfl rfl rfl (by decide +kernel) ⟨Nat.le_of_ble_eq_true rfl, Nat.le_of_ble_eq_true rfl⟩) (c_recv hK hP) hK hX hP hD hS hA rfl hl.1 rfl (Nat.le_of_ble_eq_true rfl) dX2_send_2 ⟨Nat.le_of_ble_eq_true rfl, Nat.le_of_ble_eq_true rfl⟩ ⟨Nat.le_of_ble_eq_true rfl, Nat.le_of_ble_eq_true rfl⟩

set_option maxHeartbeats 4000000 in
set_option maxRecDepth 100000 in
theorem c_X2_send_p (l : Launch) (hl0 : l.stackTraces = false) (D : va_G) (E : cE) (tl : gTy) (x : Nat → Nat → Int32) (i : Nat) (z : Int32) (hi : i < 8) (hz : z < nI 0 ∨ ¬ z < nI 6) : hT l yX2_send wsX2_send ({ frames := 7, cells := 1, slots := 6, locals := 103 } : Room) D E tl (cW E x) [.ref (eO E), .int (nI i), .int z] "java/lang/IndexOutOfBoundsException" := by
  refine hT.start (cc := cX2_send) (maxL := 5) (ret := (some .boolean)) (own := RX2) rfl (by decide) rfl (Nat.le_of_ble_eq_true rfl) ?_
  intro pr e s m args below meth c A ls H locs hx hb hml hxt hts hown hlocks hA hK hX hP hD hS hl
  replace hl : lv_has ls 5 [(0, .ref (eO E)), (1, .int (nI i)), (2, .int z)] := hl
  refine lv_aload_n hx hb dX2_send_0 rfl (lv_at hl 0 rfl) ?_
  refine lv_iload_n hx hb dX2_send_1 rfl (lv_at hl 1 rfl) ?_
  refine h_callq (As := [.int (nI i)]) (rest := []) ⟨hx, hb, hml, hown, hts⟩ (c_X2_visitorAt l D E tl x i hi) (cwV 1 hts gX2_send_X2_visitorAt rfl rfl rfl (by decide +kernel) ⟨Nat.le_of_ble_eq_true rfl, Nat.le_of_ble_eq_true rfl⟩) (c_recv hK hP) hK hX hP hD hS hA rfl hl.1 rfl (Nat.le_of_ble_eq_true rfl) dX2_send_2 ⟨Nat.le_of_ble_eq_true rfl, Nat.le_of_ble_eq_true rfl⟩ (fun r_3 u_2 H locs hw hP hD hS => ?_)
  obtain ⟨hr_3, hu_2⟩ := hw
  rw [hu_2] at hP hD
  refine q_topv (v' := .ref (eVad E i)) (by rw [hr_3]; rfl) ?_
  refine lv_astore_n (lv' := [(3, .ref (eVad E i)), (0, .ref (eO E)), (1, .int (nI i)), (2, .int z)]) hx hb dX2_send_5 rfl hl (by decide) rfl (fun ls hl => ?_)
  refine lv_aload_n hx hb dX2_send_6 rfl (lv_at hl 1 rfl) ?_
  refine lv_iload_n hx hb dX2_send_7 rfl (lv_at hl 3 rfl) ?_
  exact t_call (As := [.int z]) (rest := []) hxt hlocks ⟨hx, hb, hml, hown, hts⟩ (c_X2_pavilionAt_t l hl0 D E tl x z hz) (cwV 1 hts gX2_send_X2_pavilionAt rfl rfl rfl (by decide +kernel) ⟨Nat.le_of_ble_eq_true rfl, Nat.le_of_ble_eq_true rfl⟩) (c_recv hK hP) hK hX hP hD hS hA rfl hl.1 rfl (Nat.le_of_ble_eq_true rfl) dX2_send_8 ⟨Nat.le_of_ble_eq_true rfl, Nat.le_of_ble_eq_true rfl⟩ ⟨Nat.le_of_ble_eq_true rfl, Nat.le_of_ble_eq_true rfl⟩

set_option maxHeartbeats 4000000 in
set_option maxRecDepth 100000 in
theorem c_X2_sent_v (l : Launch) (hl0 : l.stackTraces = false) (D : va_G) (E : cE) (tl : gTy) (x : Nat → Nat → Int32) (z b : Int32) (hz : z < nI 0 ∨ ¬ z < nI 8) : hT l yX2_sent wsX2_sent ({ frames := 7, cells := 1, slots := 6, locals := 103 } : Room) D E tl (cW E x) [.ref (eO E), .int z, .int b] "java/lang/IndexOutOfBoundsException" := by
  refine hT.start (cc := cX2_sent) (maxL := 5) (ret := (some .int)) (own := RX2) rfl (by decide) rfl (Nat.le_of_ble_eq_true rfl) ?_
  intro pr e s m args below meth c A ls H locs hx hb hml hxt hts hown hlocks hA hK hX hP hD hS hl
  replace hl : lv_has ls 5 [(0, .ref (eO E)), (1, .int z), (2, .int b)] := hl
  refine lv_aload_n hx hb dX2_sent_0 rfl (lv_at hl 0 rfl) ?_
  refine lv_iload_n hx hb dX2_sent_1 rfl (lv_at hl 1 rfl) ?_
  exact t_call (As := [.int z]) (rest := []) hxt hlocks ⟨hx, hb, hml, hown, hts⟩ (c_X2_visitorAt_t l hl0 D E tl x z hz) (cwV 1 hts gX2_sent_X2_visitorAt rfl rfl rfl (by decide +kernel) ⟨Nat.le_of_ble_eq_true rfl, Nat.le_of_ble_eq_true rfl⟩) (c_recv hK hP) hK hX hP hD hS hA rfl hl.1 rfl (Nat.le_of_ble_eq_true rfl) dX2_sent_2 ⟨Nat.le_of_ble_eq_true rfl, Nat.le_of_ble_eq_true rfl⟩ ⟨Nat.le_of_ble_eq_true rfl, Nat.le_of_ble_eq_true rfl⟩

set_option maxHeartbeats 4000000 in
set_option maxRecDepth 100000 in
theorem c_X2_sent_p (l : Launch) (hl0 : l.stackTraces = false) (D : va_G) (E : cE) (tl : gTy) (x : Nat → Nat → Int32) (i : Nat) (z : Int32) (hi : i < 8) (hz : z < nI 0 ∨ ¬ z < nI 6) : hT l yX2_sent wsX2_sent ({ frames := 7, cells := 1, slots := 6, locals := 103 } : Room) D E tl (cW E x) [.ref (eO E), .int (nI i), .int z] "java/lang/IndexOutOfBoundsException" := by
  refine hT.start (cc := cX2_sent) (maxL := 5) (ret := (some .int)) (own := RX2) rfl (by decide) rfl (Nat.le_of_ble_eq_true rfl) ?_
  intro pr e s m args below meth c A ls H locs hx hb hml hxt hts hown hlocks hA hK hX hP hD hS hl
  replace hl : lv_has ls 5 [(0, .ref (eO E)), (1, .int (nI i)), (2, .int z)] := hl
  refine lv_aload_n hx hb dX2_sent_0 rfl (lv_at hl 0 rfl) ?_
  refine lv_iload_n hx hb dX2_sent_1 rfl (lv_at hl 1 rfl) ?_
  refine h_callq (As := [.int (nI i)]) (rest := []) ⟨hx, hb, hml, hown, hts⟩ (c_X2_visitorAt l D E tl x i hi) (cwV 1 hts gX2_sent_X2_visitorAt rfl rfl rfl (by decide +kernel) ⟨Nat.le_of_ble_eq_true rfl, Nat.le_of_ble_eq_true rfl⟩) (c_recv hK hP) hK hX hP hD hS hA rfl hl.1 rfl (Nat.le_of_ble_eq_true rfl) dX2_sent_2 ⟨Nat.le_of_ble_eq_true rfl, Nat.le_of_ble_eq_true rfl⟩ (fun r_3 u_2 H locs hw hP hD hS => ?_)
  obtain ⟨hr_3, hu_2⟩ := hw
  rw [hu_2] at hP hD
  refine q_topv (v' := .ref (eVad E i)) (by rw [hr_3]; rfl) ?_
  refine lv_astore_n (lv' := [(3, .ref (eVad E i)), (0, .ref (eO E)), (1, .int (nI i)), (2, .int z)]) hx hb dX2_sent_5 rfl hl (by decide) rfl (fun ls hl => ?_)
  refine lv_aload_n hx hb dX2_sent_6 rfl (lv_at hl 1 rfl) ?_
  refine lv_iload_n hx hb dX2_sent_7 rfl (lv_at hl 3 rfl) ?_
  exact t_call (As := [.int z]) (rest := []) hxt hlocks ⟨hx, hb, hml, hown, hts⟩ (c_X2_pavilionAt_t l hl0 D E tl x z hz) (cwV 1 hts gX2_sent_X2_pavilionAt rfl rfl rfl (by decide +kernel) ⟨Nat.le_of_ble_eq_true rfl, Nat.le_of_ble_eq_true rfl⟩) (c_recv hK hP) hK hX hP hD hS hA rfl hl.1 rfl (Nat.le_of_ble_eq_true rfl) dX2_sent_8 ⟨Nat.le_of_ble_eq_true rfl, Nat.le_of_ble_eq_true rfl⟩ ⟨Nat.le_of_ble_eq_true rfl, Nat.le_of_ble_eq_true rfl⟩

set_option maxHeartbeats 4000000 in
set_option maxRecDepth 100000 in
theorem c_X2_plan_s (l : Launch) (hl0 : l.stackTraces = false) (D : va_G) (E : cE) (tl : gTy) (x : Nat → Nat → Int32) (i j n0 k : Nat) (hi : i < 8) (hj : j < 6) (hn0 : n0 ≤ 6) (h15 : x 15 i = nI n0) (hLP : i ∈ eLP E) (hpc : ∀ k, k < n0 → ePc E i k < 6) (hk : k < n0) (hix : cIdx E i j n0 0 = nI k)  : hT l yX2_plan wsX2_plan ({ frames := 6, cells := 1, slots := 6, locals := 87 } : Room) D E tl (cW E x) [.ref (eO E), .int (nI i), .int (nI j)] "java/lang/IllegalStateException" := by
  refine hT.start (cc := cX2_plan) (maxL := 5) (ret := (some .int)) (own := RX2) rfl (by decide) rfl (Nat.le_of_ble_eq_true rfl) ?_
  intro pr e s m args below meth c A ls H locs hx hb hml hxt hts hown hlocks hA hK hX hP hD hS hl
  replace hl : lv_has ls 5 [(0, .ref (eO E)), (1, .int (nI i)), (2, .int (nI j))] := hl
  refine lv_aload_n hx hb dX2_plan_0 rfl (lv_at hl 0 rfl) ?_
  refine lv_iload_n hx hb dX2_plan_1 rfl (lv_at hl 1 rfl) ?_
  refine h_callq (As := [.int (nI i)]) (rest := []) ⟨hx, hb, hml, hown, hts⟩ (c_X2_visitorAt l D E tl x i hi) (cwV 1 hts gX2_plan_X2_visitorAt rfl rfl rfl (by decide +kernel) ⟨Nat.le_of_ble_eq_true rfl, Nat.le_of_ble_eq_true rfl⟩) (c_recv hK hP) hK hX hP hD hS hA rfl hl.1 rfl (Nat.le_of_ble_eq_true rfl) dX2_plan_2 ⟨Nat.le_of_ble_eq_true rfl, Nat.le_of_ble_eq_true rfl⟩ (fun r_3 u_2 H locs hw hP hD hS => ?_)
  obtain ⟨hr_3, hu_2⟩ := hw
  rw [hu_2] at hP hD
  refine q_topv (v' := .ref (eVad E i)) (by rw [hr_3]; rfl) ?_
  refine lv_astore_n (lv' := [(3, .ref (eVad E i)), (0, .ref (eO E)), (1, .int (nI i)), (2, .int (nI j))]) hx hb dX2_plan_5 rfl hl (by decide) rfl (fun ls hl => ?_)
  refine lv_aload_n hx hb dX2_plan_6 rfl (lv_at hl 1 rfl) ?_
  refine lv_iload_n hx hb dX2_plan_7 rfl (lv_at hl 3 rfl) ?_
  refine h_callq (As := [.int (nI j)]) (rest := []) ⟨hx, hb, hml, hown, hts⟩ (c_X2_pavilionAt l D E tl x j hj) (cwV 1 hts gX2_plan_X2_pavilionAt rfl rfl rfl (by decide +kernel) ⟨Nat.le_of_ble_eq_true rfl, Nat.le_of_ble_eq_true rfl⟩) (c_recv hK hP) hK hX hP hD hS hA rfl hl.1 rfl (Nat.le_of_ble_eq_true rfl) dX2_plan_8 ⟨Nat.le_of_ble_eq_true rfl, Nat.le_of_ble_eq_true rfl⟩ (fun r_6 u_5 H locs hw hP hD hS => ?_)
  obtain ⟨hr_6, hu_5⟩ := hw
  rw [hu_5] at hP hD
  refine q_topv (v' := .ref (ePad E j)) (by rw [hr_6]; rfl) ?_
  refine lv_astore (lv' := [(4, .ref (ePad E j)), (3, .ref (eVad E i)), (0, .ref (eO E)), (1, .int (nI i)), (2, .int (nI j))]) hx hb dX2_plan_11 hl (by decide) rfl (fun ls hl => ?_)
  refine lv_aload_n hx hb dX2_plan_13 rfl (lv_at hl 2 rfl) ?_
  refine lv_aload_n hx hb dX2_plan_14 rfl (lv_at hl 1 rfl) ?_
  refine lv_aload hx hb dX2_plan_15 (lv_at hl 0 rfl) ?_
  refine h_calli (As := [.ref (eVad E i), .ref (ePad E j)]) (rest := []) ⟨hx, hb, hml, hown, hts⟩ (c_X2_indexInPlan l D E tl x i j n0 hi hj hn0 h15 (Or.inr hLP) hpc) (cwV 2 hts gX2_plan_X2_indexInPlan rfl rfl rfl (by decide +kernel) ⟨Nat.le_of_ble_eq_true rfl, Nat.le_of_ble_eq_true rfl⟩) (c_recv hK hP) hK hX hP hD hS hA rfl hl.1 rfl (Nat.le_of_ble_eq_true rfl) dX2_plan_17 ⟨Nat.le_of_ble_eq_true rfl, Nat.le_of_ble_eq_true rfl⟩ (fun r_9 u_8 H locs hw hP hD hS => ?_)
  obtain ⟨hr_9, hu_8⟩ := hw
  rw [hu_8] at hP hD
  refine q_top (x' := (nI k)) (hr_9.trans hix) ?_
  refine lv_iconst (v := -1) hx hb dX2_plan_20 (by decide) ?_
  refine lv_icmp_eq (tgt := 34) hx hb dX2_plan_21 (by decide) (fun c8 => absurd c8 (nI_nem1 (by omega))) (fun c8 => ?_)
  exact t_throw (cls := "java/lang/IllegalStateException") (text := "the pavilion is in the plan") (names := ["java/lang/RuntimeException", "java/lang/Exception"]) (ik := 62) (is := 64) (ic := 66) hx hb hl0 hown (by decide +kernel) (by decide +kernel) (hts (.classLink RX2 62 "java/lang/IllegalStateException") (by decide +kernel)) (hts (.initialized "java/lang/IllegalStateException") (by decide +kernel)) (by decide) (by decide) (fun w hw => hts w ((by decide +kernel : ∀ w ∈ (vx_atS RX2 66 "java/lang/IllegalStateException" ["java/lang/RuntimeException", "java/lang/Exception"]).filter goodWord, w ∈ wsX2_plan) w hw)) (by decide +kernel) (by decide +kernel) hxt hlocks hK hX hP hD hS (hl.1.trans hml.symm) dX2_plan_24 dX2_plan_27 dX2_plan_28 dX2_plan_30 dX2_plan_33 (Nat.le_of_ble_eq_true rfl) (Nat.le_of_ble_eq_true rfl) ⟨Nat.le_of_ble_eq_true rfl, Nat.le_of_ble_eq_true rfl⟩ ⟨Nat.le_of_ble_eq_true rfl, Nat.le_of_ble_eq_true rfl⟩

set_option maxHeartbeats 4000000 in
set_option maxRecDepth 100000 in
theorem c_X2_drop_s (l : Launch) (hl0 : l.stackTraces = false) (D : va_G) (E : cE) (tl : gTy) (x : Nat → Nat → Int32) (i j n0 : Nat) (hi : i < 8) (hj : j < 6) (hn0 : n0 ≤ 6) (h15 : x 15 i = nI n0) (hLP : n0 = 0 ∨ i ∈ eLP E) (hpc : ∀ k, k < n0 → ePc E i k < 6) (hix : cIdx E i j n0 0 = -1)  : hT l yX2_drop wsX2_drop ({ frames := 6, cells := 1, slots := 6, locals := 87 } : Room) D E tl (cW E x) [.ref (eO E), .int (nI i), .int (nI j)] "java/lang/IllegalStateException" := by
  refine hT.start (cc := cX2_drop) (maxL := 6) (ret := (some .int)) (own := RX2) rfl (by decide) rfl (Nat.le_of_ble_eq_true rfl) ?_
  intro pr e s m args below meth c A ls H locs hx hb hml hxt hts hown hlocks hA hK hX hP hD hS hl
  replace hl : lv_has ls 6 [(0, .ref (eO E)), (1, .int (nI i)), (2, .int (nI j))] := hl
  refine lv_aload_n hx hb dX2_drop_0 rfl (lv_at hl 0 rfl) ?_
  refine lv_iload_n hx hb dX2_drop_1 rfl (lv_at hl 1 rfl) ?_
  refine h_callq (As := [.int (nI i)]) (rest := []) ⟨hx, hb, hml, hown, hts⟩ (c_X2_visitorAt l D E tl x i hi) (cwV 1 hts gX2_drop_X2_visitorAt rfl rfl rfl (by decide +kernel) ⟨Nat.le_of_ble_eq_true rfl, Nat.le_of_ble_eq_true rfl⟩) (c_recv hK hP) hK hX hP hD hS hA rfl hl.1 rfl (Nat.le_of_ble_eq_true rfl) dX2_drop_2 ⟨Nat.le_of_ble_eq_true rfl, Nat.le_of_ble_eq_true rfl⟩ (fun r_3 u_2 H locs hw hP hD hS => ?_)
  obtain ⟨hr_3, hu_2⟩ := hw
  rw [hu_2] at hP hD
  refine q_topv (v' := .ref (eVad E i)) (by rw [hr_3]; rfl) ?_
  refine lv_astore_n (lv' := [(3, .ref (eVad E i)), (0, .ref (eO E)), (1, .int (nI i)), (2, .int (nI j))]) hx hb dX2_drop_5 rfl hl (by decide) rfl (fun ls hl => ?_)
  refine lv_aload_n hx hb dX2_drop_6 rfl (lv_at hl 1 rfl) ?_
  refine lv_iload_n hx hb dX2_drop_7 rfl (lv_at hl 3 rfl) ?_
  refine h_callq (As := [.int (nI j)]) (rest := []) ⟨hx, hb, hml, hown, hts⟩ (c_X2_pavilionAt l D E tl x j hj) (cwV 1 hts gX2_drop_X2_pavilionAt rfl rfl rfl (by decide +kernel) ⟨Nat.le_of_ble_eq_true rfl, Nat.le_of_ble_eq_true rfl⟩) (c_recv hK hP) hK hX hP hD hS hA rfl hl.1 rfl (Nat.le_of_ble_eq_true rfl) dX2_drop_8 ⟨Nat.le_of_ble_eq_true rfl, Nat.le_of_ble_eq_true rfl⟩ (fun r_6 u_5 H locs hw hP hD hS => ?_)
  obtain ⟨hr_6, hu_5⟩ := hw
  rw [hu_5] at hP hD
  refine q_topv (v' := .ref (ePad E j)) (by rw [hr_6]; rfl) ?_
  refine lv_astore (lv' := [(4, .ref (ePad E j)), (3, .ref (eVad E i)), (0, .ref (eO E)), (1, .int (nI i)), (2, .int (nI j))]) hx hb dX2_drop_11 hl (by decide) rfl (fun ls hl => ?_)
  refine lv_aload_n hx hb dX2_drop_13 rfl (lv_at hl 2 rfl) ?_
  refine lv_aload_n hx hb dX2_drop_14 rfl (lv_at hl 1 rfl) ?_
  refine lv_aload hx hb dX2_drop_15 (lv_at hl 0 rfl) ?_
  refine h_calli (As := [.ref (eVad E i), .ref (ePad E j)]) (rest := []) ⟨hx, hb, hml, hown, hts⟩ (c_X2_indexInPlan l D E tl x i j n0 hi hj hn0 h15 hLP hpc) (cwV 2 hts gX2_drop_X2_indexInPlan rfl rfl rfl (by decide +kernel) ⟨Nat.le_of_ble_eq_true rfl, Nat.le_of_ble_eq_true rfl⟩) (c_recv hK hP) hK hX hP hD hS hA rfl hl.1 rfl (Nat.le_of_ble_eq_true rfl) dX2_drop_17 ⟨Nat.le_of_ble_eq_true rfl, Nat.le_of_ble_eq_true rfl⟩ (fun r_9 u_8 H locs hw hP hD hS => ?_)
  obtain ⟨hr_9, hu_8⟩ := hw
  rw [hu_8] at hP hD
  refine q_top (x' := (-1)) (hr_9.trans hix) ?_
  refine lv_istore (lv' := [(5, .int (-1)), (4, .ref (ePad E j)), (3, .ref (eVad E i)), (0, .ref (eO E)), (1, .int (nI i)), (2, .int (nI j))]) hx hb dX2_drop_20 hl (by decide) rfl (fun ls hl => ?_)
  refine lv_iload hx hb dX2_drop_22 (lv_at hl 0 rfl) ?_
  refine lv_iconst (v := -1) hx hb dX2_drop_24 (by decide) ?_
  refine lv_icmp_ne (tgt := 38) hx hb dX2_drop_25 (by decide) (fun c8 => absurd rfl c8) (fun c8 => ?_)
  exact t_throw (cls := "java/lang/IllegalStateException") (text := "the pavilion is not in the plan") (names := ["java/lang/RuntimeException", "java/lang/Exception"]) (ik := 62) (is := 81) (ic := 66) hx hb hl0 hown (by decide +kernel) (by decide +kernel) (hts (.classLink RX2 62 "java/lang/IllegalStateException") (by decide +kernel)) (hts (.initialized "java/lang/IllegalStateException") (by decide +kernel)) (by decide) (by decide) (fun w hw => hts w ((by decide +kernel : ∀ w ∈ (vx_atS RX2 66 "java/lang/IllegalStateException" ["java/lang/RuntimeException", "java/lang/Exception"]).filter goodWord, w ∈ wsX2_drop) w hw)) (by decide +kernel) (by decide +kernel) hxt hlocks hK hX hP hD hS (hl.1.trans hml.symm) dX2_drop_28 dX2_drop_31 dX2_drop_32 dX2_drop_34 dX2_drop_37 (Nat.le_of_ble_eq_true rfl) (Nat.le_of_ble_eq_true rfl) ⟨Nat.le_of_ble_eq_true rfl, Nat.le_of_ble_eq_true rfl⟩ ⟨Nat.le_of_ble_eq_true rfl, Nat.le_of_ble_eq_true rfl⟩

set_option maxHeartbeats 4000000 in
set_option maxRecDepth 100000 in
theorem c_X2_ask_s (l : Launch) (hl0 : l.stackTraces = false) (D : va_G) (E : cE) (tl : gTy) (x : Nat → Nat → Int32) (i j : Nat) (hi : i < 8) (hj : j < 6) (hs : ¬ x 11 i = -1 ∨ x 3 j = nI 0) : hT l yX2_ask wsX2_ask ({ frames := 6, cells := 1, slots := 6, locals := 82 } : Room) D E tl (cW E x) [.ref (eO E), .int (nI i), .int (nI j)] "java/lang/IllegalStateException" := by
  refine hT.start (cc := cX2_ask) (maxL := 5) (ret := (some .int)) (own := RX2) rfl (by decide) rfl (Nat.le_of_ble_eq_true rfl) ?_
  intro pr e s m args below meth c A ls H locs hx hb hml hxt hts hown hlocks hA hK hX hP hD hS hl
  replace hl : lv_has ls 5 [(0, .ref (eO E)), (1, .int (nI i)), (2, .int (nI j))] := hl
  have hinP : ∀ w ∈ wsX00, w ∈ wsX2_ask := by decide +kernel
  have hinV : ∀ w ∈ wsX10, w ∈ wsX2_ask := by decide +kernel
  have k98 := va_Nw.use (A := args) rfl (hX.1 (.fieldLinkNest RX2 98 "FairFolio$Visitor" "turnMinute" "I" "FairFolio") (by decide +kernel))
  have k46 := va_Nw.use (A := args) rfl (hX.1 (.fieldLinkNest RX2 46 "FairFolio$Pavilion" "isOpen" "Z" "FairFolio") (by decide +kernel))
  refine lv_aload_n hx hb dX2_ask_0 rfl (lv_at hl 0 rfl) ?_
  refine lv_iload_n hx hb dX2_ask_1 rfl (lv_at hl 1 rfl) ?_
  refine h_callq (As := [.int (nI i)]) (rest := []) ⟨hx, hb, hml, hown, hts⟩ (c_X2_visitorAt l D E tl x i hi) (cwV 1 hts gX2_ask_X2_visitorAt rfl rfl rfl (by decide +kernel) ⟨Nat.le_of_ble_eq_true rfl, Nat.le_of_ble_eq_true rfl⟩) (c_recv hK hP) hK hX hP hD hS hA rfl hl.1 rfl (Nat.le_of_ble_eq_true rfl) dX2_ask_2 ⟨Nat.le_of_ble_eq_true rfl, Nat.le_of_ble_eq_true rfl⟩ (fun r_3 u_2 H locs hw hP hD hS => ?_)
  obtain ⟨hr_3, hu_2⟩ := hw
  rw [hu_2] at hP hD
  refine q_topv (v' := .ref (eVad E i)) (by rw [hr_3]; rfl) ?_
  refine lv_astore_n (lv' := [(3, .ref (eVad E i)), (0, .ref (eO E)), (1, .int (nI i)), (2, .int (nI j))]) hx hb dX2_ask_5 rfl hl (by decide) rfl (fun ls hl => ?_)
  refine lv_aload_n hx hb dX2_ask_6 rfl (lv_at hl 1 rfl) ?_
  refine lv_iload_n hx hb dX2_ask_7 rfl (lv_at hl 3 rfl) ?_
  refine h_callq (As := [.int (nI j)]) (rest := []) ⟨hx, hb, hml, hown, hts⟩ (c_X2_pavilionAt l D E tl x j hj) (cwV 1 hts gX2_ask_X2_pavilionAt rfl rfl rfl (by decide +kernel) ⟨Nat.le_of_ble_eq_true rfl, Nat.le_of_ble_eq_true rfl⟩) (c_recv hK hP) hK hX hP hD hS hA rfl hl.1 rfl (Nat.le_of_ble_eq_true rfl) dX2_ask_8 ⟨Nat.le_of_ble_eq_true rfl, Nat.le_of_ble_eq_true rfl⟩ (fun r_6 u_5 H locs hw hP hD hS => ?_)
  obtain ⟨hr_6, hu_5⟩ := hw
  rw [hu_5] at hP hD
  refine q_topv (v' := .ref (ePad E j)) (by rw [hr_6]; rfl) ?_
  refine lv_astore (lv' := [(4, .ref (ePad E j)), (3, .ref (eVad E i)), (0, .ref (eO E)), (1, .int (nI i)), (2, .int (nI j))]) hx hb dX2_ask_11 hl (by decide) rfl (fun ls hl => ?_)
  refine lv_aload_n hx hb dX2_ask_13 rfl (lv_at hl 1 rfl) ?_
  refine c_getV hx hb hts hinV hown hK hP (by omega) 7 (by decide) k98 rfl rfl dX2_ask_14 ?_
  refine lv_iconst (v := -1) hx hb dX2_ask_17 (by decide) ?_
  by_cases c1 : x 11 i = -1
  · refine lv_icmp_ne (tgt := 29) hx hb dX2_ask_18 (by decide) (fun c9 => absurd c1 c9) (fun c9 => ?_)
    refine lv_aload hx hb dX2_ask_21 (lv_at hl 0 rfl) ?_
    refine c_getP hx hb hts hinP hown hK hP (by omega) 3 (by decide) k46 rfl rfl dX2_ask_23 ?_
    refine lv_if_ne (tgt := 39) hx hb dX2_ask_26 (by decide) (fun c2 => absurd (hs.resolve_left (fun q => q c1)) c2) (fun c2 => ?_)
    replace c2 : (x 3 j) = nI 0 := c2
    exact t_throw (cls := "java/lang/IllegalStateException") (text := "the visitor has a turn, or the pavilion is closed") (names := ["java/lang/RuntimeException", "java/lang/Exception"]) (ik := 62) (is := 101) (ic := 66) hx hb hl0 hown (by decide +kernel) (by decide +kernel) (hts (.classLink RX2 62 "java/lang/IllegalStateException") (by decide +kernel)) (hts (.initialized "java/lang/IllegalStateException") (by decide +kernel)) (by decide) (by decide) (fun w hw => hts w ((by decide +kernel : ∀ w ∈ (vx_atS RX2 66 "java/lang/IllegalStateException" ["java/lang/RuntimeException", "java/lang/Exception"]).filter goodWord, w ∈ wsX2_ask) w hw)) (by decide +kernel) (by decide +kernel) hxt hlocks hK hX hP hD hS (hl.1.trans hml.symm) dX2_ask_29 dX2_ask_32 dX2_ask_33 dX2_ask_35 dX2_ask_38 (Nat.le_of_ble_eq_true rfl) (Nat.le_of_ble_eq_true rfl) ⟨Nat.le_of_ble_eq_true rfl, Nat.le_of_ble_eq_true rfl⟩ ⟨Nat.le_of_ble_eq_true rfl, Nat.le_of_ble_eq_true rfl⟩
  · refine lv_icmp_ne (tgt := 29) hx hb dX2_ask_18 (by decide) (fun c9 => ?_) (fun c9 => absurd c9 c1)
    exact t_throw (cls := "java/lang/IllegalStateException") (text := "the visitor has a turn, or the pavilion is closed") (names := ["java/lang/RuntimeException", "java/lang/Exception"]) (ik := 62) (is := 101) (ic := 66) hx hb hl0 hown (by decide +kernel) (by decide +kernel) (hts (.classLink RX2 62 "java/lang/IllegalStateException") (by decide +kernel)) (hts (.initialized "java/lang/IllegalStateException") (by decide +kernel)) (by decide) (by decide) (fun w hw => hts w ((by decide +kernel : ∀ w ∈ (vx_atS RX2 66 "java/lang/IllegalStateException" ["java/lang/RuntimeException", "java/lang/Exception"]).filter goodWord, w ∈ wsX2_ask) w hw)) (by decide +kernel) (by decide +kernel) hxt hlocks hK hX hP hD hS (hl.1.trans hml.symm) dX2_ask_29 dX2_ask_32 dX2_ask_33 dX2_ask_35 dX2_ask_38 (Nat.le_of_ble_eq_true rfl) (Nat.le_of_ble_eq_true rfl) ⟨Nat.le_of_ble_eq_true rfl, Nat.le_of_ble_eq_true rfl⟩ ⟨Nat.le_of_ble_eq_true rfl, Nat.le_of_ble_eq_true rfl⟩

set_option maxHeartbeats 4000000 in
set_option maxRecDepth 100000 in
theorem c_X2_advance_r (l : Launch) (hl0 : l.stackTraces = false) (D : va_G) (E : cE) (tl : gTy) (x : Nat → Nat → Int32) (z : Int32) (hz : z < nI 1 ∨ nI 60 < z) : hT l yX2_advance wsX2_advance ({ frames := 6, cells := 1, slots := 6, locals := 82 } : Room) D E tl (cW E x) [.ref (eO E), .int z] "java/lang/IllegalArgumentException" := by
  refine hT.start (cc := cX2_advance) (maxL := 3) (ret := (some .int)) (own := RX2) rfl (by decide) rfl (Nat.le_of_ble_eq_true rfl) ?_
  intro pr e s m args below meth c A ls H locs hx hb hml hxt hts hown hlocks hA hK hX hP hD hS hl
  replace hl : lv_has ls 3 [(0, .ref (eO E)), (1, .int z)] := hl
  refine lv_iload_n hx hb dX2_advance_0 rfl (lv_at hl 1 rfl) ?_
  refine lv_iconst (v := nI 1) hx hb dX2_advance_1 (by decide) ?_
  refine lv_icmp_lt (tgt := 11) hx hb dX2_advance_2 (by decide) (fun c1 => ?_) (fun c1 => ?_)
  · exact t_throw (cls := "java/lang/IllegalArgumentException") (text := "minutes is out of range") (names := ["java/lang/RuntimeException", "java/lang/Exception"]) (ik := 33) (is := 110) (ic := 37) hx hb hl0 hown (by decide +kernel) (by decide +kernel) (hts (.classLink RX2 33 "java/lang/IllegalArgumentException") (by decide +kernel)) (hts (.initialized "java/lang/IllegalArgumentException") (by decide +kernel)) (by decide) (by decide) (fun w hw => hts w ((by decide +kernel : ∀ w ∈ (vx_atS RX2 37 "java/lang/IllegalArgumentException" ["java/lang/RuntimeException", "java/lang/Exception"]).filter goodWord, w ∈ wsX2_advance) w hw)) (by decide +kernel) (by decide +kernel) hxt hlocks hK hX hP hD hS (hl.1.trans hml.symm) dX2_advance_11 dX2_advance_14 dX2_advance_15 dX2_advance_17 dX2_advance_20 (Nat.le_of_ble_eq_true rfl) (Nat.le_of_ble_eq_true rfl) ⟨Nat.le_of_ble_eq_true rfl, Nat.le_of_ble_eq_true rfl⟩ ⟨Nat.le_of_ble_eq_true rfl, Nat.le_of_ble_eq_true rfl⟩
  · refine lv_iload_n hx hb dX2_advance_5 rfl (lv_at hl 1 rfl) ?_
    refine lv_bipush (v := nI 60) hx hb dX2_advance_6 (by decide) ?_
    refine lv_icmp_le (tgt := 21) hx hb dX2_advance_8 (by decide) (fun c2 => absurd (hz.resolve_left c1) (Int32.not_lt.mpr c2)) (fun c2 => ?_)
    exact t_throw (cls := "java/lang/IllegalArgumentException") (text := "minutes is out of range") (names := ["java/lang/RuntimeException", "java/lang/Exception"]) (ik := 33) (is := 110) (ic := 37) hx hb hl0 hown (by decide +kernel) (by decide +kernel) (hts (.classLink RX2 33 "java/lang/IllegalArgumentException") (by decide +kernel)) (hts (.initialized "java/lang/IllegalArgumentException") (by decide +kernel)) (by decide) (by decide) (fun w hw => hts w ((by decide +kernel : ∀ w ∈ (vx_atS RX2 37 "java/lang/IllegalArgumentException" ["java/lang/RuntimeException", "java/lang/Exception"]).filter goodWord, w ∈ wsX2_advance) w hw)) (by decide +kernel) (by decide +kernel) hxt hlocks hK hX hP hD hS (hl.1.trans hml.symm) dX2_advance_11 dX2_advance_14 dX2_advance_15 dX2_advance_17 dX2_advance_20 (Nat.le_of_ble_eq_true rfl) (Nat.le_of_ble_eq_true rfl) ⟨Nat.le_of_ble_eq_true rfl, Nat.le_of_ble_eq_true rfl⟩ ⟨Nat.le_of_ble_eq_true rfl, Nat.le_of_ble_eq_true rfl⟩

set_option maxHeartbeats 4000000 in
set_option maxRecDepth 100000 in
theorem c_X2_advance_s (l : Launch) (hl0 : l.stackTraces = false) (D : va_G) (E : cE) (tl : gTy) (x : Nat → Nat → Int32) (mn : Nat) (h1 : 1 ≤ mn) (h60 : mn ≤ 60) (hb1 : nI 1200 < x 0 0 + nI mn) : hT l yX2_advance wsX2_advance ({ frames := 6, cells := 1, slots := 6, locals := 82 } : Room) D E tl (cW E x) [.ref (eO E), .int (nI mn)] "java/lang/IllegalStateException" := by
  refine hT.start (cc := cX2_advance) (maxL := 3) (ret := (some .int)) (own := RX2) rfl (by decide) rfl (Nat.le_of_ble_eq_true rfl) ?_
  intro pr e s m args below meth c A ls H locs hx hb hml hxt hts hown hlocks hA hK hX hP hD hS hl
  replace hl : lv_has ls 3 [(0, .ref (eO E)), (1, .int (nI mn))] := hl
  have hinO : ∀ w ∈ wsX20, w ∈ wsX2_advance := by decide +kernel
  have k21 := hts (.fieldLink RX2 21 "FairFolio" "now" "I") (by decide +kernel)
  refine lv_iload_n hx hb dX2_advance_0 rfl (lv_at hl 1 rfl) ?_
  refine lv_iconst (v := nI 1) hx hb dX2_advance_1 (by decide) ?_
  refine q_icmp_lt (tgt := 11) hx hb (by omega) (by omega) dX2_advance_2 (by decide) (fun c1 => absurd c1 (by omega)) (fun c1 => ?_)
  refine lv_iload_n hx hb dX2_advance_5 rfl (lv_at hl 1 rfl) ?_
  refine lv_bipush (v := nI 60) hx hb dX2_advance_6 (by decide) ?_
  refine q_icmp_le (tgt := 21) hx hb (by omega) (by omega) dX2_advance_8 (by decide) (fun c2 => ?_) (fun c2 => absurd c2 (by omega))
  refine lv_aload_n hx hb dX2_advance_21 rfl (lv_at hl 0 rfl) ?_
  refine c_getO hx hb hts hinO hown hK hP 2 (by decide) k21 rfl rfl dX2_advance_22 ?_
  refine lv_iload_n hx hb dX2_advance_25 rfl (lv_at hl 1 rfl) ?_
  refine lv_iadd hx hb dX2_advance_26 ?_
  refine lv_sipush (v := nI 1200) hx hb dX2_advance_27 (by decide) ?_
  refine lv_icmp_le (tgt := 43) hx hb dX2_advance_30 (by decide) (fun c3 => absurd hb1 (Int32.not_lt.mpr c3)) (fun c3 => ?_)
  exact t_throw (cls := "java/lang/IllegalStateException") (text := "the minute would be above 1200") (names := ["java/lang/RuntimeException", "java/lang/Exception"]) (ik := 62) (is := 112) (ic := 66) hx hb hl0 hown (by decide +kernel) (by decide +kernel) (hts (.classLink RX2 62 "java/lang/IllegalStateException") (by decide +kernel)) (hts (.initialized "java/lang/IllegalStateException") (by decide +kernel)) (by decide) (by decide) (fun w hw => hts w ((by decide +kernel : ∀ w ∈ (vx_atS RX2 66 "java/lang/IllegalStateException" ["java/lang/RuntimeException", "java/lang/Exception"]).filter goodWord, w ∈ wsX2_advance) w hw)) (by decide +kernel) (by decide +kernel) hxt hlocks hK hX hP hD hS (hl.1.trans hml.symm) dX2_advance_33 dX2_advance_36 dX2_advance_37 dX2_advance_39 dX2_advance_42 (Nat.le_of_ble_eq_true rfl) (Nat.le_of_ble_eq_true rfl) ⟨Nat.le_of_ble_eq_true rfl, Nat.le_of_ble_eq_true rfl⟩ ⟨Nat.le_of_ble_eq_true rfl, Nat.le_of_ble_eq_true rfl⟩

set_option maxHeartbeats 4000000 in
set_option maxRecDepth 100000 in
theorem c_X2_send_x (l : Launch) (hl0 : l.stackTraces = false) (D : va_G) (E : cE) (tl : gTy) (x : Nat → Nat → Int32) (i j : Nat) (hi : i < 8) (hj : j < 6) (hst : cHas x i j = 0) : hT l yX2_send wsX2_send ({ frames := 6, cells := 1, slots := 6, locals := 82 } : Room) D E tl (cW E x) [.ref (eO E), .int (nI i), .int (nI j)] "java/lang/IllegalStateException" := by
  refine hT.start (cc := cX2_send) (maxL := 5) (ret := (some .boolean)) (own := RX2) rfl (by decide) rfl (Nat.le_of_ble_eq_true rfl) ?_
  intro pr e s m args below meth c A ls H locs hx hb hml hxt hts hown hlocks hA hK hX hP hD hS hl
  replace hl : lv_has ls 5 [(0, .ref (eO E)), (1, .int (nI i)), (2, .int (nI j))] := hl
  refine lv_aload_n hx hb dX2_send_0 rfl (lv_at hl 0 rfl) ?_
  refine lv_iload_n hx hb dX2_send_1 rfl (lv_at hl 1 rfl) ?_
  refine h_callq (As := [.int (nI i)]) (rest := []) ⟨hx, hb, hml, hown, hts⟩ (c_X2_visitorAt l D E tl x i hi) (cwV 1 hts gX2_send_X2_visitorAt rfl rfl rfl (by decide +kernel) ⟨Nat.le_of_ble_eq_true rfl, Nat.le_of_ble_eq_true rfl⟩) (c_recv hK hP) hK hX hP hD hS hA rfl hl.1 rfl (Nat.le_of_ble_eq_true rfl) dX2_send_2 ⟨Nat.le_of_ble_eq_true rfl, Nat.le_of_ble_eq_true rfl⟩ (fun r_3 u_2 H locs hw hP hD hS => ?_)
  obtain ⟨hr_3, hu_2⟩ := hw
  rw [hu_2] at hP hD
  refine q_topv (v' := .ref (eVad E i)) (by rw [hr_3]; rfl) ?_
  refine lv_astore_n (lv' := [(3, .ref (eVad E i)), (0, .ref (eO E)), (1, .int (nI i)), (2, .int (nI j))]) hx hb dX2_send_5 rfl hl (by decide) rfl (fun ls hl => ?_)
  refine lv_aload_n hx hb dX2_send_6 rfl (lv_at hl 1 rfl) ?_
  refine lv_iload_n hx hb dX2_send_7 rfl (lv_at hl 3 rfl) ?_
  refine h_callq (As := [.int (nI j)]) (rest := []) ⟨hx, hb, hml, hown, hts⟩ (c_X2_pavilionAt l D E tl x j hj) (cwV 1 hts gX2_send_X2_pavilionAt rfl rfl rfl (by decide +kernel) ⟨Nat.le_of_ble_eq_true rfl, Nat.le_of_ble_eq_true rfl⟩) (c_recv hK hP) hK hX hP hD hS hA rfl hl.1 rfl (Nat.le_of_ble_eq_true rfl) dX2_send_8 ⟨Nat.le_of_ble_eq_true rfl, Nat.le_of_ble_eq_true rfl⟩ (fun r_6 u_5 H locs hw hP hD hS => ?_)
  obtain ⟨hr_6, hu_5⟩ := hw
  rw [hu_5] at hP hD
  refine q_topv (v' := .ref (ePad E j)) (by rw [hr_6]; rfl) ?_
  refine lv_astore (lv' := [(4, .ref (ePad E j)), (3, .ref (eVad E i)), (0, .ref (eO E)), (1, .int (nI i)), (2, .int (nI j))]) hx hb dX2_send_11 hl (by decide) rfl (fun ls hl => ?_)
  refine lv_aload_n hx hb dX2_send_13 rfl (lv_at hl 2 rfl) ?_
  refine lv_aload_n hx hb dX2_send_14 rfl (lv_at hl 1 rfl) ?_
  refine lv_aload hx hb dX2_send_15 (lv_at hl 0 rfl) ?_
  refine h_calli (As := [.ref (eVad E i), .ref (ePad E j)]) (rest := []) ⟨hx, hb, hml, hown, hts⟩ (c_X2_hasStamp l D E tl x i j hi hj) (cwV 2 hts gX2_send_X2_hasStamp rfl rfl rfl (by decide +kernel) ⟨Nat.le_of_ble_eq_true rfl, Nat.le_of_ble_eq_true rfl⟩) (c_recv hK hP) hK hX hP hD hS hA rfl hl.1 rfl (Nat.le_of_ble_eq_true rfl) dX2_send_17 ⟨Nat.le_of_ble_eq_true rfl, Nat.le_of_ble_eq_true rfl⟩ (fun r_9 u_8 H locs hw hP hD hS => ?_)
  obtain ⟨hr_9, hu_8⟩ := hw
  rw [hu_8] at hP hD
  refine q_top (x' := (nI 0)) (hr_9.trans (by rw [hst])) ?_
  refine q_if_ne (tgt := 33) hx hb (by omega) dX2_send_20 (by decide) (fun c_10 => absurd c_10 (by decide)) (fun c_10 => ?_)
  exact t_throw (cls := "java/lang/IllegalStateException") (text := "the visitor has no stamp of the pavilion") (names := ["java/lang/RuntimeException", "java/lang/Exception"]) (ik := 62) (is := 121) (ic := 66) hx hb hl0 hown (by decide +kernel) (by decide +kernel) (hts (.classLink RX2 62 "java/lang/IllegalStateException") (by decide +kernel)) (hts (.initialized "java/lang/IllegalStateException") (by decide +kernel)) (by decide) (by decide) (fun w hw => hts w ((by decide +kernel : ∀ w ∈ (vx_atS RX2 66 "java/lang/IllegalStateException" ["java/lang/RuntimeException", "java/lang/Exception"]).filter goodWord, w ∈ wsX2_send) w hw)) (by decide +kernel) (by decide +kernel) hxt hlocks hK hX hP hD hS (hl.1.trans hml.symm) dX2_send_23 dX2_send_26 dX2_send_27 dX2_send_29 dX2_send_32 (Nat.le_of_ble_eq_true rfl) (Nat.le_of_ble_eq_true rfl) ⟨Nat.le_of_ble_eq_true rfl, Nat.le_of_ble_eq_true rfl⟩ ⟨Nat.le_of_ble_eq_true rfl, Nat.le_of_ble_eq_true rfl⟩

set_option maxHeartbeats 4000000 in
set_option maxRecDepth 100000 in
theorem c_X2_reprint_r (l : Launch) (hl0 : l.stackTraces = false) (D : va_G) (E : cE) (tl : gTy) (x : Nat → Nat → Int32) (z : Int32) (hz : z < nI 1 ∨ nI 1000 < z) : hT l yX2_reprint wsX2_reprint ({ frames := 6, cells := 1, slots := 6, locals := 82 } : Room) D E tl (cW E x) [.ref (eO E), .int z] "java/lang/IllegalArgumentException" := by
  refine hT.start (cc := cX2_reprint) (maxL := 7) (ret := (some .int)) (own := RX2) rfl (by decide) rfl (Nat.le_of_ble_eq_true rfl) ?_
  intro pr e s m args below meth c A ls H locs hx hb hml hxt hts hown hlocks hA hK hX hP hD hS hl
  replace hl : lv_has ls 7 [(0, .ref (eO E)), (1, .int z)] := hl
  refine lv_iload_n hx hb dX2_reprint_0 rfl (lv_at hl 1 rfl) ?_
  refine lv_iconst (v := nI 1) hx hb dX2_reprint_1 (by decide) ?_
  refine lv_icmp_lt (tgt := 12) hx hb dX2_reprint_2 (by decide) (fun c1 => ?_) (fun c1 => ?_)
  · exact t_throw (cls := "java/lang/IllegalArgumentException") (text := "threshold is out of range") (names := ["java/lang/RuntimeException", "java/lang/Exception"]) (ik := 33) (is := 136) (ic := 37) hx hb hl0 hown (by decide +kernel) (by decide +kernel) (hts (.classLink RX2 33 "java/lang/IllegalArgumentException") (by decide +kernel)) (hts (.initialized "java/lang/IllegalArgumentException") (by decide +kernel)) (by decide) (by decide) (fun w hw => hts w ((by decide +kernel : ∀ w ∈ (vx_atS RX2 37 "java/lang/IllegalArgumentException" ["java/lang/RuntimeException", "java/lang/Exception"]).filter goodWord, w ∈ wsX2_reprint) w hw)) (by decide +kernel) (by decide +kernel) hxt hlocks hK hX hP hD hS (hl.1.trans hml.symm) dX2_reprint_12 dX2_reprint_15 dX2_reprint_16 dX2_reprint_18 dX2_reprint_21 (Nat.le_of_ble_eq_true rfl) (Nat.le_of_ble_eq_true rfl) ⟨Nat.le_of_ble_eq_true rfl, Nat.le_of_ble_eq_true rfl⟩ ⟨Nat.le_of_ble_eq_true rfl, Nat.le_of_ble_eq_true rfl⟩
  · refine lv_iload_n hx hb dX2_reprint_5 rfl (lv_at hl 1 rfl) ?_
    refine lv_sipush (v := nI 1000) hx hb dX2_reprint_6 (by decide) ?_
    refine lv_icmp_le (tgt := 22) hx hb dX2_reprint_9 (by decide) (fun c2 => absurd (hz.resolve_left c1) (Int32.not_lt.mpr c2)) (fun c2 => ?_)
    exact t_throw (cls := "java/lang/IllegalArgumentException") (text := "threshold is out of range") (names := ["java/lang/RuntimeException", "java/lang/Exception"]) (ik := 33) (is := 136) (ic := 37) hx hb hl0 hown (by decide +kernel) (by decide +kernel) (hts (.classLink RX2 33 "java/lang/IllegalArgumentException") (by decide +kernel)) (hts (.initialized "java/lang/IllegalArgumentException") (by decide +kernel)) (by decide) (by decide) (fun w hw => hts w ((by decide +kernel : ∀ w ∈ (vx_atS RX2 37 "java/lang/IllegalArgumentException" ["java/lang/RuntimeException", "java/lang/Exception"]).filter goodWord, w ∈ wsX2_reprint) w hw)) (by decide +kernel) (by decide +kernel) hxt hlocks hK hX hP hD hS (hl.1.trans hml.symm) dX2_reprint_12 dX2_reprint_15 dX2_reprint_16 dX2_reprint_18 dX2_reprint_21 (Nat.le_of_ble_eq_true rfl) (Nat.le_of_ble_eq_true rfl) ⟨Nat.le_of_ble_eq_true rfl, Nat.le_of_ble_eq_true rfl⟩ ⟨Nat.le_of_ble_eq_true rfl, Nat.le_of_ble_eq_true rfl⟩

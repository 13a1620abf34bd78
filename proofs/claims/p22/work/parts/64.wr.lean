/-! the wrappers: each answers what the class answered, or a number for what it threw -/

set_option maxHeartbeats 4000000 in
set_option maxRecDepth 100000 in
theorem j_open_ok {S : Type} {post : Int32 → S → Prop} {wf : S → va_W} {p2 : Int32 → cE → T2 → Prop} (mc ms : Nat) (l : Launch) (D : va_G) (E : cE) (x : T2) (o : Nat) (hO : eO E = o) (a b : Int32) (rm0 : Room) (h1 : rm0.cells = mc) (h2 : rm0.slots = ms) (h3 : rm0.frames ≤ 7) (h4 : rm0.locals ≤ 135) (hC : hI l yX2_open wsX2_open rm0 D E [] (cW E x) [.ref o, .int a, .int b] post wf mc ms) (hcv : kQ E x post wf p2) : kI l yL_open wsL_open mc ms D E x [.ref o, .int a, .int b] (p2) := by
  subst hO
  unfold kI
  refine jI.start (cc := cL_open) (maxL := 4) (ret := some .int) (own := RL) (hh := [(0, 6, 7, 15)]) rfl (by decide) rfl (Nat.le_of_ble_eq_true rfl) ?_
  intro pr e s m args below meth c A ls H locs hx hb hml hr ht hts hown hlocks hA hK hX hN hP hD hS hl
  replace hl : lv_has ls 4 [(0, .ref (eO E)), (1, .int a), (2, .int b)] := hl
  refine lv_aload_n hx hb dL_open_0 rfl (lv_at hl 0 rfl) ?_
  refine lv_iload_n hx hb dL_open_1 rfl (lv_at hl 1 rfl) ?_
  refine lv_iload_n hx hb dL_open_2 rfl (lv_at hl 2 rfl) ?_
  refine h_calli (As := [.int a, .int b]) (rest := []) ⟨hx, hb, hml, hown, hts⟩ hC (cwV 2 hts gL_open_X2_open rfl h1 h2 (by decide +kernel) ⟨by have := h3; show rm0.frames + 1 ≤ 8; omega, by have := h4; show 8 + (4 + 11) + rm0.locals ≤ 170; omega⟩) (c_recv hK hP) hK hX hP hD hS hA rfl hl.1 rfl (Nat.le_of_ble_eq_true rfl) dL_open_3 ⟨by show 0 + mc ≤ mc; omega, by show 0 + ms ≤ ms; omega⟩ (fun v u H locs hw hP hD hS => ?_)
  obtain ⟨E1, x1, g1, g2, g3, g4⟩ := hcv v u hw
  rw [g1] at hP hD
  refine W.widen (k := mc) (n := ms) (by omega) (by omega) ?_
  exact W.iret hx hb hr (fun t ht hW => ⟨⟨_, (E1, x1), rfl, ⟨g2, g3, g4⟩, by rw [ht]; exact hP, va_K.moved hW.alike hK, hD⟩, hS.F ht⟩) hS.2.2 dL_open_6

set_option maxHeartbeats 4000000 in
set_option maxRecDepth 100000 in
theorem j_plan_ok {S : Type} {post : Int32 → S → Prop} {wf : S → va_W} {p2 : Int32 → cE → T2 → Prop} (mc ms : Nat) (l : Launch) (D : va_G) (E : cE) (x : T2) (o : Nat) (hO : eO E = o) (a b : Int32) (rm0 : Room) (h1 : rm0.cells = mc) (h2 : rm0.slots = ms) (h3 : rm0.frames ≤ 7) (h4 : rm0.locals ≤ 135) (hC : hI l yX2_plan wsX2_plan rm0 D E [] (cW E x) [.ref o, .int a, .int b] post wf mc ms) (hcv : kQ E x post wf p2) : kI l yL_plan wsL_plan mc ms D E x [.ref o, .int a, .int b] (p2) := by
  subst hO
  unfold kI
  refine jI.start (cc := cL_plan) (maxL := 4) (ret := some .int) (own := RL) (hh := [(0, 6, 7, 15), (0, 6, 11, 27)]) rfl (by decide) rfl (Nat.le_of_ble_eq_true rfl) ?_
  intro pr e s m args below meth c A ls H locs hx hb hml hr ht hts hown hlocks hA hK hX hN hP hD hS hl
  replace hl : lv_has ls 4 [(0, .ref (eO E)), (1, .int a), (2, .int b)] := hl
  refine lv_aload_n hx hb dL_plan_0 rfl (lv_at hl 0 rfl) ?_
  refine lv_iload_n hx hb dL_plan_1 rfl (lv_at hl 1 rfl) ?_
  refine lv_iload_n hx hb dL_plan_2 rfl (lv_at hl 2 rfl) ?_
  refine h_calli (As := [.int a, .int b]) (rest := []) ⟨hx, hb, hml, hown, hts⟩ hC (cwV 2 hts gL_plan_X2_plan rfl h1 h2 (by decide +kernel) ⟨by have := h3; show rm0.frames + 1 ≤ 8; omega, by have := h4; show 8 + (5 + 11) + rm0.locals ≤ 170; omega⟩) (c_recv hK hP) hK hX hP hD hS hA rfl hl.1 rfl (Nat.le_of_ble_eq_true rfl) dL_plan_3 ⟨by show 0 + mc ≤ mc; omega, by show 0 + ms ≤ ms; omega⟩ (fun v u H locs hw hP hD hS => ?_)
  obtain ⟨E1, x1, g1, g2, g3, g4⟩ := hcv v u hw
  rw [g1] at hP hD
  refine W.widen (k := mc) (n := ms) (by omega) (by omega) ?_
  exact W.iret hx hb hr (fun t ht hW => ⟨⟨_, (E1, x1), rfl, ⟨g2, g3, g4⟩, by rw [ht]; exact hP, va_K.moved hW.alike hK, hD⟩, hS.F ht⟩) hS.2.2 dL_plan_6

set_option maxHeartbeats 4000000 in
set_option maxRecDepth 100000 in
theorem j_drop_ok {S : Type} {post : Int32 → S → Prop} {wf : S → va_W} {p2 : Int32 → cE → T2 → Prop} (mc ms : Nat) (l : Launch) (D : va_G) (E : cE) (x : T2) (o : Nat) (hO : eO E = o) (a b : Int32) (rm0 : Room) (h1 : rm0.cells = mc) (h2 : rm0.slots = ms) (h3 : rm0.frames ≤ 7) (h4 : rm0.locals ≤ 135) (hC : hI l yX2_drop wsX2_drop rm0 D E [] (cW E x) [.ref o, .int a, .int b] post wf mc ms) (hcv : kQ E x post wf p2) : kI l yL_drop wsL_drop mc ms D E x [.ref o, .int a, .int b] (p2) := by
  subst hO
  unfold kI
  refine jI.start (cc := cL_drop) (maxL := 4) (ret := some .int) (own := RL) (hh := [(0, 6, 7, 15), (0, 6, 11, 27)]) rfl (by decide) rfl (Nat.le_of_ble_eq_true rfl) ?_
  intro pr e s m args below meth c A ls H locs hx hb hml hr ht hts hown hlocks hA hK hX hN hP hD hS hl
  replace hl : lv_has ls 4 [(0, .ref (eO E)), (1, .int a), (2, .int b)] := hl
  refine lv_aload_n hx hb dL_drop_0 rfl (lv_at hl 0 rfl) ?_
  refine lv_iload_n hx hb dL_drop_1 rfl (lv_at hl 1 rfl) ?_
  refine lv_iload_n hx hb dL_drop_2 rfl (lv_at hl 2 rfl) ?_
  refine h_calli (As := [.int a, .int b]) (rest := []) ⟨hx, hb, hml, hown, hts⟩ hC (cwV 2 hts gL_drop_X2_drop rfl h1 h2 (by decide +kernel) ⟨by have := h3; show rm0.frames + 1 ≤ 8; omega, by have := h4; show 8 + (6 + 11) + rm0.locals ≤ 170; omega⟩) (c_recv hK hP) hK hX hP hD hS hA rfl hl.1 rfl (Nat.le_of_ble_eq_true rfl) dL_drop_3 ⟨by show 0 + mc ≤ mc; omega, by show 0 + ms ≤ ms; omega⟩ (fun v u H locs hw hP hD hS => ?_)
  obtain ⟨E1, x1, g1, g2, g3, g4⟩ := hcv v u hw
  rw [g1] at hP hD
  refine W.widen (k := mc) (n := ms) (by omega) (by omega) ?_
  exact W.iret hx hb hr (fun t ht hW => ⟨⟨_, (E1, x1), rfl, ⟨g2, g3, g4⟩, by rw [ht]; exact hP, va_K.moved hW.alike hK, hD⟩, hS.F ht⟩) hS.2.2 dL_drop_6

set_option maxHeartbeats 4000000 in
set_option maxRecDepth 100000 in
theorem j_ask_ok {S : Type} {post : Int32 → S → Prop} {wf : S → va_W} {p2 : Int32 → cE → T2 → Prop} (mc ms : Nat) (l : Launch) (D : va_G) (E : cE) (x : T2) (o : Nat) (hO : eO E = o) (a b : Int32) (rm0 : Room) (h1 : rm0.cells = mc) (h2 : rm0.slots = ms) (h3 : rm0.frames ≤ 7) (h4 : rm0.locals ≤ 135) (hC : hI l yX2_ask wsX2_ask rm0 D E [] (cW E x) [.ref o, .int a, .int b] post wf mc ms) (hcv : kQ E x post wf p2) : kI l yL_ask wsL_ask mc ms D E x [.ref o, .int a, .int b] (p2) := by
  subst hO
  unfold kI
  refine jI.start (cc := cL_ask) (maxL := 4) (ret := some .int) (own := RL) (hh := [(0, 6, 7, 15), (0, 6, 11, 27)]) rfl (by decide) rfl (Nat.le_of_ble_eq_true rfl) ?_
  intro pr e s m args below meth c A ls H locs hx hb hml hr ht hts hown hlocks hA hK hX hN hP hD hS hl
  replace hl : lv_has ls 4 [(0, .ref (eO E)), (1, .int a), (2, .int b)] := hl
  refine lv_aload_n hx hb dL_ask_0 rfl (lv_at hl 0 rfl) ?_
  refine lv_iload_n hx hb dL_ask_1 rfl (lv_at hl 1 rfl) ?_
  refine lv_iload_n hx hb dL_ask_2 rfl (lv_at hl 2 rfl) ?_
  refine h_calli (As := [.int a, .int b]) (rest := []) ⟨hx, hb, hml, hown, hts⟩ hC (cwV 2 hts gL_ask_X2_ask rfl h1 h2 (by decide +kernel) ⟨by have := h3; show rm0.frames + 1 ≤ 8; omega, by have := h4; show 8 + (5 + 11) + rm0.locals ≤ 170; omega⟩) (c_recv hK hP) hK hX hP hD hS hA rfl hl.1 rfl (Nat.le_of_ble_eq_true rfl) dL_ask_3 ⟨by show 0 + mc ≤ mc; omega, by show 0 + ms ≤ ms; omega⟩ (fun v u H locs hw hP hD hS => ?_)
  obtain ⟨E1, x1, g1, g2, g3, g4⟩ := hcv v u hw
  rw [g1] at hP hD
  refine W.widen (k := mc) (n := ms) (by omega) (by omega) ?_
  exact W.iret hx hb hr (fun t ht hW => ⟨⟨_, (E1, x1), rfl, ⟨g2, g3, g4⟩, by rw [ht]; exact hP, va_K.moved hW.alike hK, hD⟩, hS.F ht⟩) hS.2.2 dL_ask_6

set_option maxHeartbeats 4000000 in
set_option maxRecDepth 100000 in
theorem j_advance_ok {S : Type} {post : Int32 → S → Prop} {wf : S → va_W} {p2 : Int32 → cE → T2 → Prop} (mc ms : Nat) (l : Launch) (D : va_G) (E : cE) (x : T2) (o : Nat) (hO : eO E = o) (a : Int32) (rm0 : Room) (h1 : rm0.cells = mc) (h2 : rm0.slots = ms) (h3 : rm0.frames ≤ 7) (h4 : rm0.locals ≤ 135) (hC : hI l yX2_advance wsX2_advance rm0 D E [] (cW E x) [.ref o, .int a] post wf mc ms) (hcv : kQ E x post wf p2) : kI l yL_advance wsL_advance mc ms D E x [.ref o, .int a] (p2) := by
  subst hO
  unfold kI
  refine jI.start (cc := cL_advance) (maxL := 3) (ret := some .int) (own := RL) (hh := [(0, 5, 6, 17), (0, 5, 10, 27)]) rfl (by decide) rfl (Nat.le_of_ble_eq_true rfl) ?_
  intro pr e s m args below meth c A ls H locs hx hb hml hr ht hts hown hlocks hA hK hX hN hP hD hS hl
  replace hl : lv_has ls 3 [(0, .ref (eO E)), (1, .int a)] := hl
  refine lv_aload_n hx hb dL_advance_0 rfl (lv_at hl 0 rfl) ?_
  refine lv_iload_n hx hb dL_advance_1 rfl (lv_at hl 1 rfl) ?_
  refine h_calli (As := [.int a]) (rest := []) ⟨hx, hb, hml, hown, hts⟩ hC (cwV 1 hts gL_advance_X2_advance rfl h1 h2 (by decide +kernel) ⟨by have := h3; show rm0.frames + 1 ≤ 8; omega, by have := h4; show 8 + (3 + 11) + rm0.locals ≤ 170; omega⟩) (c_recv hK hP) hK hX hP hD hS hA rfl hl.1 rfl (Nat.le_of_ble_eq_true rfl) dL_advance_2 ⟨by show 0 + mc ≤ mc; omega, by show 0 + ms ≤ ms; omega⟩ (fun v u H locs hw hP hD hS => ?_)
  obtain ⟨E1, x1, g1, g2, g3, g4⟩ := hcv v u hw
  rw [g1] at hP hD
  refine W.widen (k := mc) (n := ms) (by omega) (by omega) ?_
  exact W.iret hx hb hr (fun t ht hW => ⟨⟨_, (E1, x1), rfl, ⟨g2, g3, g4⟩, by rw [ht]; exact hP, va_K.moved hW.alike hK, hD⟩, hS.F ht⟩) hS.2.2 dL_advance_5

set_option maxHeartbeats 4000000 in
set_option maxRecDepth 100000 in
theorem j_send_ok {S : Type} {post : Int32 → S → Prop} {wf : S → va_W} {p2 : Int32 → cE → T2 → Prop} (mc ms : Nat) (l : Launch) (D : va_G) (E : cE) (x : T2) (o : Nat) (hO : eO E = o) (a b : Int32) (rm0 : Room) (h1 : rm0.cells = mc) (h2 : rm0.slots = ms) (h3 : rm0.frames ≤ 7) (h4 : rm0.locals ≤ 135) (hC : hI l yX2_send wsX2_send rm0 D E [] (cW E x) [.ref o, .int a, .int b] post wf mc ms) (hcv : kQ E x post wf (fun r E1 x1 => p2 r E1 x1 ∧ (r = nI 0 ∨ r = nI 1))) : kI l yL_send wsL_send mc ms D E x [.ref o, .int a, .int b] (p2) := by
  subst hO
  unfold kI
  refine jI.start (cc := cL_send) (maxL := 4) (ret := some .int) (own := RL) (hh := [(0, 14, 15, 15), (0, 14, 19, 27)]) rfl (by decide) rfl (Nat.le_of_ble_eq_true rfl) ?_
  intro pr e s m args below meth c A ls H locs hx hb hml hr ht hts hown hlocks hA hK hX hN hP hD hS hl
  replace hl : lv_has ls 4 [(0, .ref (eO E)), (1, .int a), (2, .int b)] := hl
  refine lv_aload_n hx hb dL_send_0 rfl (lv_at hl 0 rfl) ?_
  refine lv_iload_n hx hb dL_send_1 rfl (lv_at hl 1 rfl) ?_
  refine lv_iload_n hx hb dL_send_2 rfl (lv_at hl 2 rfl) ?_
  refine h_calli (As := [.int a, .int b]) (rest := []) ⟨hx, hb, hml, hown, hts⟩ hC (cwV 2 hts gL_send_X2_send rfl h1 h2 (by decide +kernel) ⟨by have := h3; show rm0.frames + 1 ≤ 8; omega, by have := h4; show 8 + (5 + 11) + rm0.locals ≤ 170; omega⟩) (c_recv hK hP) hK hX hP hD hS hA rfl hl.1 rfl (Nat.le_of_ble_eq_true rfl) dL_send_3 ⟨by show 0 + mc ≤ mc; omega, by show 0 + ms ≤ ms; omega⟩ (fun v u H locs hw hP hD hS => ?_)
  obtain ⟨E1, x1, g1, g2, g3, g4⟩ := hcv v u hw
  rw [g1] at hP hD
  refine W.widen (k := mc) (n := ms) (by omega) (by omega) ?_
  obtain ⟨g5, g6⟩ := g2
  by_cases c1 : v = nI 0
  · refine lv_if_eq (tgt := 13) hx hb dL_send_6 (by decide) (fun c2 => ?_) (fun c2 => absurd c1 c2)
    refine lv_iconst (v := nI 0) hx hb dL_send_13 (by decide) ?_
    exact W.iret hx hb hr (fun t ht hW => ⟨⟨_, (E1, x1), rfl, ⟨c1 ▸ g5, g3, g4⟩, by rw [ht]; exact hP, va_K.moved hW.alike hK, hD⟩, hS.F ht⟩) hS.2.2 dL_send_14
  · refine lv_if_eq (tgt := 13) hx hb dL_send_6 (by decide) (fun c2 => absurd c2 c1) (fun c2 => ?_)
    refine lv_iconst (v := nI 1) hx hb dL_send_9 (by decide) ?_
    refine lv_goto (tgt := 14) hx hb dL_send_10 (by decide) ?_
    exact W.iret hx hb hr (fun t ht hW => ⟨⟨_, (E1, x1), rfl, ⟨g6.resolve_left c1 ▸ g5, g3, g4⟩, by rw [ht]; exact hP, va_K.moved hW.alike hK, hD⟩, hS.F ht⟩) hS.2.2 dL_send_14

set_option maxHeartbeats 4000000 in
set_option maxRecDepth 100000 in
theorem j_reprint_ok {S : Type} {post : Int32 → S → Prop} {wf : S → va_W} {p2 : Int32 → cE → T2 → Prop} (mc ms : Nat) (l : Launch) (D : va_G) (E : cE) (x : T2) (o : Nat) (hO : eO E = o) (a : Int32) (rm0 : Room) (h1 : rm0.cells = mc) (h2 : rm0.slots = ms) (h3 : rm0.frames ≤ 7) (h4 : rm0.locals ≤ 135) (hC : hI l yX2_reprint wsX2_reprint rm0 D E [] (cW E x) [.ref o, .int a] post wf mc ms) (hcv : kQ E x post wf p2) : kI l yL_reprint wsL_reprint mc ms D E x [.ref o, .int a] (p2) := by
  subst hO
  unfold kI
  refine jI.start (cc := cL_reprint) (maxL := 3) (ret := some .int) (own := RL) (hh := [(0, 5, 6, 17)]) rfl (by decide) rfl (Nat.le_of_ble_eq_true rfl) ?_
  intro pr e s m args below meth c A ls H locs hx hb hml hr ht hts hown hlocks hA hK hX hN hP hD hS hl
  replace hl : lv_has ls 3 [(0, .ref (eO E)), (1, .int a)] := hl
  refine lv_aload_n hx hb dL_reprint_0 rfl (lv_at hl 0 rfl) ?_
  refine lv_iload_n hx hb dL_reprint_1 rfl (lv_at hl 1 rfl) ?_
  refine h_calli (As := [.int a]) (rest := []) ⟨hx, hb, hml, hown, hts⟩ hC (cwV 1 hts gL_reprint_X2_reprint rfl h1 h2 (by decide +kernel) ⟨by have := h3; show rm0.frames + 1 ≤ 8; omega, by have := h4; show 8 + (7 + 11) + rm0.locals ≤ 170; omega⟩) (c_recv hK hP) hK hX hP hD hS hA rfl hl.1 rfl (Nat.le_of_ble_eq_true rfl) dL_reprint_2 ⟨by show 0 + mc ≤ mc; omega, by show 0 + ms ≤ ms; omega⟩ (fun v u H locs hw hP hD hS => ?_)
  obtain ⟨E1, x1, g1, g2, g3, g4⟩ := hcv v u hw
  rw [g1] at hP hD
  refine W.widen (k := mc) (n := ms) (by omega) (by omega) ?_
  exact W.iret hx hb hr (fun t ht hW => ⟨⟨_, (E1, x1), rfl, ⟨g2, g3, g4⟩, by rw [ht]; exact hP, va_K.moved hW.alike hK, hD⟩, hS.F ht⟩) hS.2.2 dL_reprint_5

set_option maxHeartbeats 4000000 in
set_option maxRecDepth 100000 in
theorem j_state_ok {S : Type} {post : Int32 → S → Prop} {wf : S → va_W} {p2 : Int32 → cE → T2 → Prop} (mc ms : Nat) (l : Launch) (D : va_G) (E : cE) (x : T2) (o : Nat) (hO : eO E = o) (a : Int32) (rm0 : Room) (h1 : rm0.cells = mc) (h2 : rm0.slots = ms) (h3 : rm0.frames ≤ 7) (h4 : rm0.locals ≤ 135) (hC : hI l yX2_stateOf wsX2_stateOf rm0 D E [] (cW E x) [.ref o, .int a] post wf mc ms) (hcv : kQ E x post wf p2) : kI l yL_state wsL_state mc ms D E x [.ref o, .int a] (p2) := by
  subst hO
  unfold kI
  refine jI.start (cc := cL_state) (maxL := 3) (ret := some .int) (own := RL) (hh := [(0, 5, 6, 15)]) rfl (by decide) rfl (Nat.le_of_ble_eq_true rfl) ?_
  intro pr e s m args below meth c A ls H locs hx hb hml hr ht hts hown hlocks hA hK hX hN hP hD hS hl
  replace hl : lv_has ls 3 [(0, .ref (eO E)), (1, .int a)] := hl
  refine lv_aload_n hx hb dL_state_0 rfl (lv_at hl 0 rfl) ?_
  refine lv_iload_n hx hb dL_state_1 rfl (lv_at hl 1 rfl) ?_
  refine h_calli (As := [.int a]) (rest := []) ⟨hx, hb, hml, hown, hts⟩ hC (cwV 1 hts gL_state_X2_stateOf rfl h1 h2 (by decide +kernel) ⟨by have := h3; show rm0.frames + 1 ≤ 8; omega, by have := h4; show 8 + (2 + 11) + rm0.locals ≤ 170; omega⟩) (c_recv hK hP) hK hX hP hD hS hA rfl hl.1 rfl (Nat.le_of_ble_eq_true rfl) dL_state_2 ⟨by show 0 + mc ≤ mc; omega, by show 0 + ms ≤ ms; omega⟩ (fun v u H locs hw hP hD hS => ?_)
  obtain ⟨E1, x1, g1, g2, g3, g4⟩ := hcv v u hw
  rw [g1] at hP hD
  refine W.widen (k := mc) (n := ms) (by omega) (by omega) ?_
  exact W.iret hx hb hr (fun t ht hW => ⟨⟨_, (E1, x1), rfl, ⟨g2, g3, g4⟩, by rw [ht]; exact hP, va_K.moved hW.alike hK, hD⟩, hS.F ht⟩) hS.2.2 dL_state_5

set_option maxHeartbeats 4000000 in
set_option maxRecDepth 100000 in
theorem j_where_ok {S : Type} {post : Int32 → S → Prop} {wf : S → va_W} {p2 : Int32 → cE → T2 → Prop} (mc ms : Nat) (l : Launch) (D : va_G) (E : cE) (x : T2) (o : Nat) (hO : eO E = o) (a : Int32) (rm0 : Room) (h1 : rm0.cells = mc) (h2 : rm0.slots = ms) (h3 : rm0.frames ≤ 7) (h4 : rm0.locals ≤ 135) (hC : hI l yX2_whereIs wsX2_whereIs rm0 D E [] (cW E x) [.ref o, .int a] post wf mc ms) (hcv : kQ E x post wf p2) : kI l yL_where wsL_where mc ms D E x [.ref o, .int a] (p2) := by
  subst hO
  unfold kI
  refine jI.start (cc := cL_where) (maxL := 3) (ret := some .int) (own := RL) (hh := [(0, 5, 6, 15)]) rfl (by decide) rfl (Nat.le_of_ble_eq_true rfl) ?_
  intro pr e s m args below meth c A ls H locs hx hb hml hr ht hts hown hlocks hA hK hX hN hP hD hS hl
  replace hl : lv_has ls 3 [(0, .ref (eO E)), (1, .int a)] := hl
  refine lv_aload_n hx hb dL_where_0 rfl (lv_at hl 0 rfl) ?_
  refine lv_iload_n hx hb dL_where_1 rfl (lv_at hl 1 rfl) ?_
  refine h_calli (As := [.int a]) (rest := []) ⟨hx, hb, hml, hown, hts⟩ hC (cwV 1 hts gL_where_X2_whereIs rfl h1 h2 (by decide +kernel) ⟨by have := h3; show rm0.frames + 1 ≤ 8; omega, by have := h4; show 8 + (2 + 11) + rm0.locals ≤ 170; omega⟩) (c_recv hK hP) hK hX hP hD hS hA rfl hl.1 rfl (Nat.le_of_ble_eq_true rfl) dL_where_2 ⟨by show 0 + mc ≤ mc; omega, by show 0 + ms ≤ ms; omega⟩ (fun v u H locs hw hP hD hS => ?_)
  obtain ⟨E1, x1, g1, g2, g3, g4⟩ := hcv v u hw
  rw [g1] at hP hD
  refine W.widen (k := mc) (n := ms) (by omega) (by omega) ?_
  exact W.iret hx hb hr (fun t ht hW => ⟨⟨_, (E1, x1), rfl, ⟨g2, g3, g4⟩, by rw [ht]; exact hP, va_K.moved hW.alike hK, hD⟩, hS.F ht⟩) hS.2.2 dL_where_5

set_option maxHeartbeats 4000000 in
set_option maxRecDepth 100000 in
theorem j_place_ok {S : Type} {post : Int32 → S → Prop} {wf : S → va_W} {p2 : Int32 → cE → T2 → Prop} (mc ms : Nat) (l : Launch) (D : va_G) (E : cE) (x : T2) (o : Nat) (hO : eO E = o) (a : Int32) (rm0 : Room) (h1 : rm0.cells = mc) (h2 : rm0.slots = ms) (h3 : rm0.frames ≤ 7) (h4 : rm0.locals ≤ 135) (hC : hI l yX2_placeOf wsX2_placeOf rm0 D E [] (cW E x) [.ref o, .int a] post wf mc ms) (hcv : kQ E x post wf p2) : kI l yL_place wsL_place mc ms D E x [.ref o, .int a] (p2) := by
  subst hO
  unfold kI
  refine jI.start (cc := cL_place) (maxL := 3) (ret := some .int) (own := RL) (hh := [(0, 5, 6, 15)]) rfl (by decide) rfl (Nat.le_of_ble_eq_true rfl) ?_
  intro pr e s m args below meth c A ls H locs hx hb hml hr ht hts hown hlocks hA hK hX hN hP hD hS hl
  replace hl : lv_has ls 3 [(0, .ref (eO E)), (1, .int a)] := hl
  refine lv_aload_n hx hb dL_place_0 rfl (lv_at hl 0 rfl) ?_
  refine lv_iload_n hx hb dL_place_1 rfl (lv_at hl 1 rfl) ?_
  refine h_calli (As := [.int a]) (rest := []) ⟨hx, hb, hml, hown, hts⟩ hC (cwV 1 hts gL_place_X2_placeOf rfl h1 h2 (by decide +kernel) ⟨by have := h3; show rm0.frames + 1 ≤ 8; omega, by have := h4; show 8 + (2 + 11) + rm0.locals ≤ 170; omega⟩) (c_recv hK hP) hK hX hP hD hS hA rfl hl.1 rfl (Nat.le_of_ble_eq_true rfl) dL_place_2 ⟨by show 0 + mc ≤ mc; omega, by show 0 + ms ≤ ms; omega⟩ (fun v u H locs hw hP hD hS => ?_)
  obtain ⟨E1, x1, g1, g2, g3, g4⟩ := hcv v u hw
  rw [g1] at hP hD
  refine W.widen (k := mc) (n := ms) (by omega) (by omega) ?_
  exact W.iret hx hb hr (fun t ht hW => ⟨⟨_, (E1, x1), rfl, ⟨g2, g3, g4⟩, by rw [ht]; exact hP, va_K.moved hW.alike hK, hD⟩, hS.F ht⟩) hS.2.2 dL_place_5

set_option maxHeartbeats 4000000 in
set_option maxRecDepth 100000 in
theorem j_turn_ok {S : Type} {post : Int32 → S → Prop} {wf : S → va_W} {p2 : Int32 → cE → T2 → Prop} (mc ms : Nat) (l : Launch) (D : va_G) (E : cE) (x : T2) (o : Nat) (hO : eO E = o) (a : Int32) (rm0 : Room) (h1 : rm0.cells = mc) (h2 : rm0.slots = ms) (h3 : rm0.frames ≤ 7) (h4 : rm0.locals ≤ 135) (hC : hI l yX2_turnOf wsX2_turnOf rm0 D E [] (cW E x) [.ref o, .int a] post wf mc ms) (hcv : kQ E x post wf p2) : kI l yL_turn wsL_turn mc ms D E x [.ref o, .int a] (p2) := by
  subst hO
  unfold kI
  refine jI.start (cc := cL_turn) (maxL := 3) (ret := some .int) (own := RL) (hh := [(0, 5, 6, 15)]) rfl (by decide) rfl (Nat.le_of_ble_eq_true rfl) ?_
  intro pr e s m args below meth c A ls H locs hx hb hml hr ht hts hown hlocks hA hK hX hN hP hD hS hl
  replace hl : lv_has ls 3 [(0, .ref (eO E)), (1, .int a)] := hl
  refine lv_aload_n hx hb dL_turn_0 rfl (lv_at hl 0 rfl) ?_
  refine lv_iload_n hx hb dL_turn_1 rfl (lv_at hl 1 rfl) ?_
  refine h_calli (As := [.int a]) (rest := []) ⟨hx, hb, hml, hown, hts⟩ hC (cwV 1 hts gL_turn_X2_turnOf rfl h1 h2 (by decide +kernel) ⟨by have := h3; show rm0.frames + 1 ≤ 8; omega, by have := h4; show 8 + (2 + 11) + rm0.locals ≤ 170; omega⟩) (c_recv hK hP) hK hX hP hD hS hA rfl hl.1 rfl (Nat.le_of_ble_eq_true rfl) dL_turn_2 ⟨by show 0 + mc ≤ mc; omega, by show 0 + ms ≤ ms; omega⟩ (fun v u H locs hw hP hD hS => ?_)
  obtain ⟨E1, x1, g1, g2, g3, g4⟩ := hcv v u hw
  rw [g1] at hP hD
  refine W.widen (k := mc) (n := ms) (by omega) (by omega) ?_
  exact W.iret hx hb hr (fun t ht hW => ⟨⟨_, (E1, x1), rfl, ⟨g2, g3, g4⟩, by rw [ht]; exact hP, va_K.moved hW.alike hK, hD⟩, hS.F ht⟩) hS.2.2 dL_turn_5

set_option maxHeartbeats 4000000 in
set_option maxRecDepth 100000 in
theorem j_stamps_ok {S : Type} {post : Int32 → S → Prop} {wf : S → va_W} {p2 : Int32 → cE → T2 → Prop} (mc ms : Nat) (l : Launch) (D : va_G) (E : cE) (x : T2) (o : Nat) (hO : eO E = o) (a : Int32) (rm0 : Room) (h1 : rm0.cells = mc) (h2 : rm0.slots = ms) (h3 : rm0.frames ≤ 7) (h4 : rm0.locals ≤ 135) (hC : hI l yX2_stamps wsX2_stamps rm0 D E [] (cW E x) [.ref o, .int a] post wf mc ms) (hcv : kQ E x post wf p2) : kI l yL_stamps wsL_stamps mc ms D E x [.ref o, .int a] (p2) := by
  subst hO
  unfold kI
  refine jI.start (cc := cL_stamps) (maxL := 3) (ret := some .int) (own := RL) (hh := [(0, 5, 6, 15)]) rfl (by decide) rfl (Nat.le_of_ble_eq_true rfl) ?_
  intro pr e s m args below meth c A ls H locs hx hb hml hr ht hts hown hlocks hA hK hX hN hP hD hS hl
  replace hl : lv_has ls 3 [(0, .ref (eO E)), (1, .int a)] := hl
  refine lv_aload_n hx hb dL_stamps_0 rfl (lv_at hl 0 rfl) ?_
  refine lv_iload_n hx hb dL_stamps_1 rfl (lv_at hl 1 rfl) ?_
  refine h_calli (As := [.int a]) (rest := []) ⟨hx, hb, hml, hown, hts⟩ hC (cwV 1 hts gL_stamps_X2_stamps rfl h1 h2 (by decide +kernel) ⟨by have := h3; show rm0.frames + 1 ≤ 8; omega, by have := h4; show 8 + (2 + 11) + rm0.locals ≤ 170; omega⟩) (c_recv hK hP) hK hX hP hD hS hA rfl hl.1 rfl (Nat.le_of_ble_eq_true rfl) dL_stamps_2 ⟨by show 0 + mc ≤ mc; omega, by show 0 + ms ≤ ms; omega⟩ (fun v u H locs hw hP hD hS => ?_)
  obtain ⟨E1, x1, g1, g2, g3, g4⟩ := hcv v u hw
  rw [g1] at hP hD
  refine W.widen (k := mc) (n := ms) (by omega) (by omega) ?_
  exact W.iret hx hb hr (fun t ht hW => ⟨⟨_, (E1, x1), rfl, ⟨g2, g3, g4⟩, by rw [ht]; exact hP, va_K.moved hW.alike hK, hD⟩, hS.F ht⟩) hS.2.2 dL_stamps_5

set_option maxHeartbeats 4000000 in
set_option maxRecDepth 100000 in
theorem j_queue_ok {S : Type} {post : Int32 → S → Prop} {wf : S → va_W} {p2 : Int32 → cE → T2 → Prop} (mc ms : Nat) (l : Launch) (D : va_G) (E : cE) (x : T2) (o : Nat) (hO : eO E = o) (a : Int32) (rm0 : Room) (h1 : rm0.cells = mc) (h2 : rm0.slots = ms) (h3 : rm0.frames ≤ 7) (h4 : rm0.locals ≤ 135) (hC : hI l yX2_queue wsX2_queue rm0 D E [] (cW E x) [.ref o, .int a] post wf mc ms) (hcv : kQ E x post wf p2) : kI l yL_queue wsL_queue mc ms D E x [.ref o, .int a] (p2) := by
  subst hO
  unfold kI
  refine jI.start (cc := cL_queue) (maxL := 3) (ret := some .int) (own := RL) (hh := [(0, 5, 6, 15)]) rfl (by decide) rfl (Nat.le_of_ble_eq_true rfl) ?_
  intro pr e s m args below meth c A ls H locs hx hb hml hr ht hts hown hlocks hA hK hX hN hP hD hS hl
  replace hl : lv_has ls 3 [(0, .ref (eO E)), (1, .int a)] := hl
  refine lv_aload_n hx hb dL_queue_0 rfl (lv_at hl 0 rfl) ?_
  refine lv_iload_n hx hb dL_queue_1 rfl (lv_at hl 1 rfl) ?_
  refine h_calli (As := [.int a]) (rest := []) ⟨hx, hb, hml, hown, hts⟩ hC (cwV 1 hts gL_queue_X2_queue rfl h1 h2 (by decide +kernel) ⟨by have := h3; show rm0.frames + 1 ≤ 8; omega, by have := h4; show 8 + (2 + 11) + rm0.locals ≤ 170; omega⟩) (c_recv hK hP) hK hX hP hD hS hA rfl hl.1 rfl (Nat.le_of_ble_eq_true rfl) dL_queue_2 ⟨by show 0 + mc ≤ mc; omega, by show 0 + ms ≤ ms; omega⟩ (fun v u H locs hw hP hD hS => ?_)
  obtain ⟨E1, x1, g1, g2, g3, g4⟩ := hcv v u hw
  rw [g1] at hP hD
  refine W.widen (k := mc) (n := ms) (by omega) (by omega) ?_
  exact W.iret hx hb hr (fun t ht hW => ⟨⟨_, (E1, x1), rfl, ⟨g2, g3, g4⟩, by rw [ht]; exact hP, va_K.moved hW.alike hK, hD⟩, hS.F ht⟩) hS.2.2 dL_queue_5

set_option maxHeartbeats 4000000 in
set_option maxRecDepth 100000 in
theorem j_inside_ok {S : Type} {post : Int32 → S → Prop} {wf : S → va_W} {p2 : Int32 → cE → T2 → Prop} (mc ms : Nat) (l : Launch) (D : va_G) (E : cE) (x : T2) (o : Nat) (hO : eO E = o) (a : Int32) (rm0 : Room) (h1 : rm0.cells = mc) (h2 : rm0.slots = ms) (h3 : rm0.frames ≤ 7) (h4 : rm0.locals ≤ 135) (hC : hI l yX2_inside wsX2_inside rm0 D E [] (cW E x) [.ref o, .int a] post wf mc ms) (hcv : kQ E x post wf p2) : kI l yL_inside wsL_inside mc ms D E x [.ref o, .int a] (p2) := by
  subst hO
  unfold kI
  refine jI.start (cc := cL_inside) (maxL := 3) (ret := some .int) (own := RL) (hh := [(0, 5, 6, 15)]) rfl (by decide) rfl (Nat.le_of_ble_eq_true rfl) ?_
  intro pr e s m args below meth c A ls H locs hx hb hml hr ht hts hown hlocks hA hK hX hN hP hD hS hl
  replace hl : lv_has ls 3 [(0, .ref (eO E)), (1, .int a)] := hl
  refine lv_aload_n hx hb dL_inside_0 rfl (lv_at hl 0 rfl) ?_
  refine lv_iload_n hx hb dL_inside_1 rfl (lv_at hl 1 rfl) ?_
  refine h_calli (As := [.int a]) (rest := []) ⟨hx, hb, hml, hown, hts⟩ hC (cwV 1 hts gL_inside_X2_inside rfl h1 h2 (by decide +kernel) ⟨by have := h3; show rm0.frames + 1 ≤ 8; omega, by have := h4; show 8 + (2 + 11) + rm0.locals ≤ 170; omega⟩) (c_recv hK hP) hK hX hP hD hS hA rfl hl.1 rfl (Nat.le_of_ble_eq_true rfl) dL_inside_2 ⟨by show 0 + mc ≤ mc; omega, by show 0 + ms ≤ ms; omega⟩ (fun v u H locs hw hP hD hS => ?_)
  obtain ⟨E1, x1, g1, g2, g3, g4⟩ := hcv v u hw
  rw [g1] at hP hD
  refine W.widen (k := mc) (n := ms) (by omega) (by omega) ?_
  exact W.iret hx hb hr (fun t ht hW => ⟨⟨_, (E1, x1), rfl, ⟨g2, g3, g4⟩, by rw [ht]; exact hP, va_K.moved hW.alike hK, hD⟩, hS.F ht⟩) hS.2.2 dL_inside_5

set_option maxHeartbeats 4000000 in
set_option maxRecDepth 100000 in
theorem j_stock_ok {S : Type} {post : Int32 → S → Prop} {wf : S → va_W} {p2 : Int32 → cE → T2 → Prop} (mc ms : Nat) (l : Launch) (D : va_G) (E : cE) (x : T2) (o : Nat) (hO : eO E = o) (a : Int32) (rm0 : Room) (h1 : rm0.cells = mc) (h2 : rm0.slots = ms) (h3 : rm0.frames ≤ 7) (h4 : rm0.locals ≤ 135) (hC : hI l yX2_stock wsX2_stock rm0 D E [] (cW E x) [.ref o, .int a] post wf mc ms) (hcv : kQ E x post wf p2) : kI l yL_stock wsL_stock mc ms D E x [.ref o, .int a] (p2) := by
  subst hO
  unfold kI
  refine jI.start (cc := cL_stock) (maxL := 3) (ret := some .int) (own := RL) (hh := [(0, 5, 6, 15)]) rfl (by decide) rfl (Nat.le_of_ble_eq_true rfl) ?_
  intro pr e s m args below meth c A ls H locs hx hb hml hr ht hts hown hlocks hA hK hX hN hP hD hS hl
  replace hl : lv_has ls 3 [(0, .ref (eO E)), (1, .int a)] := hl
  refine lv_aload_n hx hb dL_stock_0 rfl (lv_at hl 0 rfl) ?_
  refine lv_iload_n hx hb dL_stock_1 rfl (lv_at hl 1 rfl) ?_
  refine h_calli (As := [.int a]) (rest := []) ⟨hx, hb, hml, hown, hts⟩ hC (cwV 1 hts gL_stock_X2_stock rfl h1 h2 (by decide +kernel) ⟨by have := h3; show rm0.frames + 1 ≤ 8; omega, by have := h4; show 8 + (2 + 11) + rm0.locals ≤ 170; omega⟩) (c_recv hK hP) hK hX hP hD hS hA rfl hl.1 rfl (Nat.le_of_ble_eq_true rfl) dL_stock_2 ⟨by show 0 + mc ≤ mc; omega, by show 0 + ms ≤ ms; omega⟩ (fun v u H locs hw hP hD hS => ?_)
  obtain ⟨E1, x1, g1, g2, g3, g4⟩ := hcv v u hw
  rw [g1] at hP hD
  refine W.widen (k := mc) (n := ms) (by omega) (by omega) ?_
  exact W.iret hx hb hr (fun t ht hW => ⟨⟨_, (E1, x1), rfl, ⟨g2, g3, g4⟩, by rw [ht]; exact hP, va_K.moved hW.alike hK, hD⟩, hS.F ht⟩) hS.2.2 dL_stock_5

set_option maxHeartbeats 4000000 in
set_option maxRecDepth 100000 in
theorem j_demand_ok {S : Type} {post : Int32 → S → Prop} {wf : S → va_W} {p2 : Int32 → cE → T2 → Prop} (mc ms : Nat) (l : Launch) (D : va_G) (E : cE) (x : T2) (o : Nat) (hO : eO E = o) (a : Int32) (rm0 : Room) (h1 : rm0.cells = mc) (h2 : rm0.slots = ms) (h3 : rm0.frames ≤ 7) (h4 : rm0.locals ≤ 135) (hC : hI l yX2_demand wsX2_demand rm0 D E [] (cW E x) [.ref o, .int a] post wf mc ms) (hcv : kQ E x post wf p2) : kI l yL_demand wsL_demand mc ms D E x [.ref o, .int a] (p2) := by
  subst hO
  unfold kI
  refine jI.start (cc := cL_demand) (maxL := 3) (ret := some .int) (own := RL) (hh := [(0, 5, 6, 15)]) rfl (by decide) rfl (Nat.le_of_ble_eq_true rfl) ?_
  intro pr e s m args below meth c A ls H locs hx hb hml hr ht hts hown hlocks hA hK hX hN hP hD hS hl
  replace hl : lv_has ls 3 [(0, .ref (eO E)), (1, .int a)] := hl
  refine lv_aload_n hx hb dL_demand_0 rfl (lv_at hl 0 rfl) ?_
  refine lv_iload_n hx hb dL_demand_1 rfl (lv_at hl 1 rfl) ?_
  refine h_calli (As := [.int a]) (rest := []) ⟨hx, hb, hml, hown, hts⟩ hC (cwV 1 hts gL_demand_X2_demand rfl h1 h2 (by decide +kernel) ⟨by have := h3; show rm0.frames + 1 ≤ 8; omega, by have := h4; show 8 + (2 + 11) + rm0.locals ≤ 170; omega⟩) (c_recv hK hP) hK hX hP hD hS hA rfl hl.1 rfl (Nat.le_of_ble_eq_true rfl) dL_demand_2 ⟨by show 0 + mc ≤ mc; omega, by show 0 + ms ≤ ms; omega⟩ (fun v u H locs hw hP hD hS => ?_)
  obtain ⟨E1, x1, g1, g2, g3, g4⟩ := hcv v u hw
  rw [g1] at hP hD
  refine W.widen (k := mc) (n := ms) (by omega) (by omega) ?_
  exact W.iret hx hb hr (fun t ht hW => ⟨⟨_, (E1, x1), rfl, ⟨g2, g3, g4⟩, by rw [ht]; exact hP, va_K.moved hW.alike hK, hD⟩, hS.F ht⟩) hS.2.2 dL_demand_5

set_option maxHeartbeats 4000000 in
set_option maxRecDepth 100000 in
theorem j_sent_ok {S : Type} {post : Int32 → S → Prop} {wf : S → va_W} {p2 : Int32 → cE → T2 → Prop} (mc ms : Nat) (l : Launch) (D : va_G) (E : cE) (x : T2) (o : Nat) (hO : eO E = o) (a b : Int32) (rm0 : Room) (h1 : rm0.cells = mc) (h2 : rm0.slots = ms) (h3 : rm0.frames ≤ 7) (h4 : rm0.locals ≤ 135) (hC : hI l yX2_sent wsX2_sent rm0 D E [] (cW E x) [.ref o, .int a, .int b] post wf mc ms) (hcv : kQ E x post wf p2) : kI l yL_sent wsL_sent mc ms D E x [.ref o, .int a, .int b] (p2) := by
  subst hO
  unfold kI
  refine jI.start (cc := cL_sent) (maxL := 4) (ret := some .int) (own := RL) (hh := [(0, 6, 7, 15)]) rfl (by decide) rfl (Nat.le_of_ble_eq_true rfl) ?_
  intro pr e s m args below meth c A ls H locs hx hb hml hr ht hts hown hlocks hA hK hX hN hP hD hS hl
  replace hl : lv_has ls 4 [(0, .ref (eO E)), (1, .int a), (2, .int b)] := hl
  refine lv_aload_n hx hb dL_sent_0 rfl (lv_at hl 0 rfl) ?_
  refine lv_iload_n hx hb dL_sent_1 rfl (lv_at hl 1 rfl) ?_
  refine lv_iload_n hx hb dL_sent_2 rfl (lv_at hl 2 rfl) ?_
  refine h_calli (As := [.int a, .int b]) (rest := []) ⟨hx, hb, hml, hown, hts⟩ hC (cwV 2 hts gL_sent_X2_sent rfl h1 h2 (by decide +kernel) ⟨by have := h3; show rm0.frames + 1 ≤ 8; omega, by have := h4; show 8 + (5 + 11) + rm0.locals ≤ 170; omega⟩) (c_recv hK hP) hK hX hP hD hS hA rfl hl.1 rfl (Nat.le_of_ble_eq_true rfl) dL_sent_3 ⟨by show 0 + mc ≤ mc; omega, by show 0 + ms ≤ ms; omega⟩ (fun v u H locs hw hP hD hS => ?_)
  obtain ⟨E1, x1, g1, g2, g3, g4⟩ := hcv v u hw
  rw [g1] at hP hD
  refine W.widen (k := mc) (n := ms) (by omega) (by omega) ?_
  exact W.iret hx hb hr (fun t ht hW => ⟨⟨_, (E1, x1), rfl, ⟨g2, g3, g4⟩, by rw [ht]; exact hP, va_K.moved hW.alike hK, hD⟩, hS.F ht⟩) hS.2.2 dL_sent_6

set_option maxHeartbeats 4000000 in
set_option maxRecDepth 100000 in
theorem j_setPavilion_ok {S : Type} {post : S → Prop} {wf : S → va_W} {p2 : Int32 → cE → T2 → Prop} (mc ms : Nat) (l : Launch) (D : va_G) (E : cE) (x : T2) (o : Nat) (hO : eO E = o) (a b d : Int32) (rm0 : Room) (h1 : rm0.cells = mc) (h2 : rm0.slots = ms) (h3 : rm0.frames ≤ 7) (h4 : rm0.locals ≤ 135) (hC : hV l yX2_setPavilion wsX2_setPavilion rm0 D E [] (cW E x) [.ref o, .int a, .int b, .int d] post wf mc ms) (hcv : kQ E x (fun (r : Int32) u => r = nI 0 ∧ post u) wf p2) : kI l yL_setPavilion wsL_setPavilion mc ms D E x [.ref o, .int a, .int b, .int d] (p2) := by
  subst hO
  unfold kI
  refine jI.start (cc := cL_setPavilion) (maxL := 5) (ret := some .int) (own := RL) (hh := [(0, 7, 10, 15), (0, 7, 15, 17)]) rfl (by decide) rfl (Nat.le_of_ble_eq_true rfl) ?_
  intro pr e s m args below meth c A ls H locs hx hb hml hr ht hts hown hlocks hA hK hX hN hP hD hS hl
  replace hl : lv_has ls 5 [(0, .ref (eO E)), (1, .int a), (2, .int b), (3, .int d)] := hl
  refine lv_aload_n hx hb dL_setPavilion_0 rfl (lv_at hl 0 rfl) ?_
  refine lv_iload_n hx hb dL_setPavilion_1 rfl (lv_at hl 1 rfl) ?_
  refine lv_iload_n hx hb dL_setPavilion_2 rfl (lv_at hl 2 rfl) ?_
  refine lv_iload_n hx hb dL_setPavilion_3 rfl (lv_at hl 3 rfl) ?_
  refine h_callv (As := [.int a, .int b, .int d]) (rest := []) ⟨hx, hb, hml, hown, hts⟩ hC (cwV 3 hts gL_setPavilion_X2_setPavilion rfl h1 h2 (by decide +kernel) ⟨by have := h3; show rm0.frames + 1 ≤ 8; omega, by have := h4; show 8 + (5 + 11) + rm0.locals ≤ 170; omega⟩) (c_recv hK hP) hK hX hP hD hS hA rfl hl.1 rfl (Nat.le_of_ble_eq_true rfl) dL_setPavilion_4 ⟨by show 0 + mc ≤ mc; omega, by show 0 + ms ≤ ms; omega⟩ (fun u H locs hw hP hD hS => ?_)
  obtain ⟨E1, x1, g1, g2, g3, g4⟩ := hcv (nI 0) u ⟨rfl, hw⟩
  rw [g1] at hP hD
  refine W.widen (k := mc) (n := ms) (by omega) (by omega) ?_
  refine lv_goto (tgt := 20) hx hb dL_setPavilion_7 (by decide) ?_
  refine lv_iconst (v := nI 0) hx hb dL_setPavilion_20 (by decide) ?_
  exact W.iret hx hb hr (fun t ht hW => ⟨⟨_, (E1, x1), rfl, ⟨g2, g3, g4⟩, by rw [ht]; exact hP, va_K.moved hW.alike hK, hD⟩, hS.F ht⟩) hS.2.2 dL_setPavilion_21

set_option maxHeartbeats 4000000 in
set_option maxRecDepth 100000 in
theorem j_plan_t  (l : Launch) (D : va_G) (E : cE) (x : T2) (o : Nat) (hO : eO E = o) (a b : Int32) (rm0 : Room) (h1 : rm0.cells = 1) (h2 : rm0.slots = 6) (h3 : rm0.frames ≤ 7) (h4 : rm0.locals ≤ 135) (hC : hT l yX2_plan wsX2_plan rm0 D E [] (cW E x) [.ref o, .int a, .int b] "java/lang/IllegalStateException") : kI l yL_plan wsL_plan 1 6 D E x [.ref o, .int a, .int b] (kG E x (-103)) := by
  subst hO
  unfold kI
  refine jI.start (cc := cL_plan) (maxL := 4) (ret := some .int) (own := RL) (hh := [(0, 6, 7, 15), (0, 6, 11, 27)]) rfl (by decide) rfl (Nat.le_of_ble_eq_true rfl) ?_
  intro pr e s m args below meth c A ls H locs hx hb hml hr ht hts hown hlocks hA hK hX hN hP hD hS hl
  replace hl : lv_has ls 4 [(0, .ref (eO E)), (1, .int a), (2, .int b)] := hl
  refine lv_aload_n hx hb dL_plan_0 rfl (lv_at hl 0 rfl) ?_
  refine lv_iload_n hx hb dL_plan_1 rfl (lv_at hl 1 rfl) ?_
  refine lv_iload_n hx hb dL_plan_2 rfl (lv_at hl 2 rfl) ?_
  refine j_callt (pre := []) (w1 := cW E x) (As := [.int a, .int b]) (rest := []) ⟨hx, hb, hml, hown, hts⟩ hC (cwV 2 hts gL_plan_X2_plan rfl h1 h2 (by decide +kernel) ⟨by have := h3; show rm0.frames + 1 ≤ 8; omega, by have := h4; show 8 + (5 + 11) + rm0.locals ≤ 170; omega⟩) (c_recv hK hP) hK hX hP hD hS hA rfl hl.1 rfl (Nat.le_of_ble_eq_true rfl) dL_plan_3 ⟨Nat.le_of_ble_eq_true rfl, Nat.le_of_ble_eq_true rfl⟩ (fun q9 ce H locs hP hS hcell hv hcl => ?_)
  refine vx_catch (own := RL) (name := "java/lang/IllegalStateException") (E := "java/lang/IllegalStateException") hown [(⟨0, 6, 7, 15⟩ : ExceptionTableEntry)] ⟨0, 6, 11, 27⟩ [] (ht.trans rfl) (fun z hz => by rw [List.mem_singleton.mp hz]; exact Or.inr ⟨by decide, "java/lang/IndexOutOfBoundsException", hts (.classLink RL 15 "java/lang/IndexOutOfBoundsException") (by decide +kernel), hN ("java/lang/IllegalStateException", "java/lang/IndexOutOfBoundsException") (by decide)⟩) (by decide) (by decide) (hts (.classLink RL 27 "java/lang/IllegalStateException") (by decide +kernel)) (va_Nw.use rfl (hX.2.1 ("java/lang/IllegalStateException", "java/lang/IllegalStateException") (by decide))) hcell hv hcl ?_
  refine lv_astore_n (lv' := [(3, .ref q9), (0, .ref (eO E)), (1, .int a), (2, .int b)]) hx hb dL_plan_11 rfl hl (by decide) rfl (fun ls hl => ?_)
  refine lv_bipush (v := -103) hx hb dL_plan_12 (by decide) ?_
  exact W.iret hx hb hr (fun t ht hW => ⟨⟨_, (E, x), rfl, ⟨⟨rfl, rfl, rfl⟩, pS_rf, [], (List.append_nil _).symm, Nat.zero_le _⟩, by rw [ht]; exact hP, va_K.moved hW.alike hK, hD⟩, hS.F ht⟩) hS.2.2 dL_plan_14

set_option maxHeartbeats 4000000 in
set_option maxRecDepth 100000 in
theorem j_drop_t  (l : Launch) (D : va_G) (E : cE) (x : T2) (o : Nat) (hO : eO E = o) (a b : Int32) (rm0 : Room) (h1 : rm0.cells = 1) (h2 : rm0.slots = 6) (h3 : rm0.frames ≤ 7) (h4 : rm0.locals ≤ 135) (hC : hT l yX2_drop wsX2_drop rm0 D E [] (cW E x) [.ref o, .int a, .int b] "java/lang/IllegalStateException") : kI l yL_drop wsL_drop 1 6 D E x [.ref o, .int a, .int b] (kG E x (-103)) := by
  subst hO
  unfold kI
  refine jI.start (cc := cL_drop) (maxL := 4) (ret := some .int) (own := RL) (hh := [(0, 6, 7, 15), (0, 6, 11, 27)]) rfl (by decide) rfl (Nat.le_of_ble_eq_true rfl) ?_
  intro pr e s m args below meth c A ls H locs hx hb hml hr ht hts hown hlocks hA hK hX hN hP hD hS hl
  replace hl : lv_has ls 4 [(0, .ref (eO E)), (1, .int a), (2, .int b)] := hl
  refine lv_aload_n hx hb dL_drop_0 rfl (lv_at hl 0 rfl) ?_
  refine lv_iload_n hx hb dL_drop_1 rfl (lv_at hl 1 rfl) ?_
  refine lv_iload_n hx hb dL_drop_2 rfl (lv_at hl 2 rfl) ?_
  refine j_callt (pre := []) (w1 := cW E x) (As := [.int a, .int b]) (rest := []) ⟨hx, hb, hml, hown, hts⟩ hC (cwV 2 hts gL_drop_X2_drop rfl h1 h2 (by decide +kernel) ⟨by have := h3; show rm0.frames + 1 ≤ 8; omega, by have := h4; show 8 + (6 + 11) + rm0.locals ≤ 170; omega⟩) (c_recv hK hP) hK hX hP hD hS hA rfl hl.1 rfl (Nat.le_of_ble_eq_true rfl) dL_drop_3 ⟨Nat.le_of_ble_eq_true rfl, Nat.le_of_ble_eq_true rfl⟩ (fun q9 ce H locs hP hS hcell hv hcl => ?_)
  refine vx_catch (own := RL) (name := "java/lang/IllegalStateException") (E := "java/lang/IllegalStateException") hown [(⟨0, 6, 7, 15⟩ : ExceptionTableEntry)] ⟨0, 6, 11, 27⟩ [] (ht.trans rfl) (fun z hz => by rw [List.mem_singleton.mp hz]; exact Or.inr ⟨by decide, "java/lang/IndexOutOfBoundsException", hts (.classLink RL 15 "java/lang/IndexOutOfBoundsException") (by decide +kernel), hN ("java/lang/IllegalStateException", "java/lang/IndexOutOfBoundsException") (by decide)⟩) (by decide) (by decide) (hts (.classLink RL 27 "java/lang/IllegalStateException") (by decide +kernel)) (va_Nw.use rfl (hX.2.1 ("java/lang/IllegalStateException", "java/lang/IllegalStateException") (by decide))) hcell hv hcl ?_
  refine lv_astore_n (lv' := [(3, .ref q9), (0, .ref (eO E)), (1, .int a), (2, .int b)]) hx hb dL_drop_11 rfl hl (by decide) rfl (fun ls hl => ?_)
  refine lv_bipush (v := -103) hx hb dL_drop_12 (by decide) ?_
  exact W.iret hx hb hr (fun t ht hW => ⟨⟨_, (E, x), rfl, ⟨⟨rfl, rfl, rfl⟩, pS_rf, [], (List.append_nil _).symm, Nat.zero_le _⟩, by rw [ht]; exact hP, va_K.moved hW.alike hK, hD⟩, hS.F ht⟩) hS.2.2 dL_drop_14

set_option maxHeartbeats 4000000 in
set_option maxRecDepth 100000 in
theorem j_ask_t  (l : Launch) (D : va_G) (E : cE) (x : T2) (o : Nat) (hO : eO E = o) (a b : Int32) (rm0 : Room) (h1 : rm0.cells = 1) (h2 : rm0.slots = 6) (h3 : rm0.frames ≤ 7) (h4 : rm0.locals ≤ 135) (hC : hT l yX2_ask wsX2_ask rm0 D E [] (cW E x) [.ref o, .int a, .int b] "java/lang/IllegalStateException") : kI l yL_ask wsL_ask 1 6 D E x [.ref o, .int a, .int b] (kG E x (-103)) := by
  subst hO
  unfold kI
  refine jI.start (cc := cL_ask) (maxL := 4) (ret := some .int) (own := RL) (hh := [(0, 6, 7, 15), (0, 6, 11, 27)]) rfl (by decide) rfl (Nat.le_of_ble_eq_true rfl) ?_
  intro pr e s m args below meth c A ls H locs hx hb hml hr ht hts hown hlocks hA hK hX hN hP hD hS hl
  replace hl : lv_has ls 4 [(0, .ref (eO E)), (1, .int a), (2, .int b)] := hl
  refine lv_aload_n hx hb dL_ask_0 rfl (lv_at hl 0 rfl) ?_
  refine lv_iload_n hx hb dL_ask_1 rfl (lv_at hl 1 rfl) ?_
  refine lv_iload_n hx hb dL_ask_2 rfl (lv_at hl 2 rfl) ?_
  refine j_callt (pre := []) (w1 := cW E x) (As := [.int a, .int b]) (rest := []) ⟨hx, hb, hml, hown, hts⟩ hC (cwV 2 hts gL_ask_X2_ask rfl h1 h2 (by decide +kernel) ⟨by have := h3; show rm0.frames + 1 ≤ 8; omega, by have := h4; show 8 + (5 + 11) + rm0.locals ≤ 170; omega⟩) (c_recv hK hP) hK hX hP hD hS hA rfl hl.1 rfl (Nat.le_of_ble_eq_true rfl) dL_ask_3 ⟨Nat.le_of_ble_eq_true rfl, Nat.le_of_ble_eq_true rfl⟩ (fun q9 ce H locs hP hS hcell hv hcl => ?_)
  refine vx_catch (own := RL) (name := "java/lang/IllegalStateException") (E := "java/lang/IllegalStateException") hown [(⟨0, 6, 7, 15⟩ : ExceptionTableEntry)] ⟨0, 6, 11, 27⟩ [] (ht.trans rfl) (fun z hz => by rw [List.mem_singleton.mp hz]; exact Or.inr ⟨by decide, "java/lang/IndexOutOfBoundsException", hts (.classLink RL 15 "java/lang/IndexOutOfBoundsException") (by decide +kernel), hN ("java/lang/IllegalStateException", "java/lang/IndexOutOfBoundsException") (by decide)⟩) (by decide) (by decide) (hts (.classLink RL 27 "java/lang/IllegalStateException") (by decide +kernel)) (va_Nw.use rfl (hX.2.1 ("java/lang/IllegalStateException", "java/lang/IllegalStateException") (by decide))) hcell hv hcl ?_
  refine lv_astore_n (lv' := [(3, .ref q9), (0, .ref (eO E)), (1, .int a), (2, .int b)]) hx hb dL_ask_11 rfl hl (by decide) rfl (fun ls hl => ?_)
  refine lv_bipush (v := -103) hx hb dL_ask_12 (by decide) ?_
  exact W.iret hx hb hr (fun t ht hW => ⟨⟨_, (E, x), rfl, ⟨⟨rfl, rfl, rfl⟩, pS_rf, [], (List.append_nil _).symm, Nat.zero_le _⟩, by rw [ht]; exact hP, va_K.moved hW.alike hK, hD⟩, hS.F ht⟩) hS.2.2 dL_ask_14

set_option maxHeartbeats 4000000 in
set_option maxRecDepth 100000 in
theorem j_send_t  (l : Launch) (D : va_G) (E : cE) (x : T2) (o : Nat) (hO : eO E = o) (a b : Int32) (rm0 : Room) (h1 : rm0.cells = 1) (h2 : rm0.slots = 6) (h3 : rm0.frames ≤ 7) (h4 : rm0.locals ≤ 135) (hC : hT l yX2_send wsX2_send rm0 D E [] (cW E x) [.ref o, .int a, .int b] "java/lang/IllegalStateException") : kI l yL_send wsL_send 1 6 D E x [.ref o, .int a, .int b] (kG E x (-103)) := by
  subst hO
  unfold kI
  refine jI.start (cc := cL_send) (maxL := 4) (ret := some .int) (own := RL) (hh := [(0, 14, 15, 15), (0, 14, 19, 27)]) rfl (by decide) rfl (Nat.le_of_ble_eq_true rfl) ?_
  intro pr e s m args below meth c A ls H locs hx hb hml hr ht hts hown hlocks hA hK hX hN hP hD hS hl
  replace hl : lv_has ls 4 [(0, .ref (eO E)), (1, .int a), (2, .int b)] := hl
  refine lv_aload_n hx hb dL_send_0 rfl (lv_at hl 0 rfl) ?_
  refine lv_iload_n hx hb dL_send_1 rfl (lv_at hl 1 rfl) ?_
  refine lv_iload_n hx hb dL_send_2 rfl (lv_at hl 2 rfl) ?_
  refine j_callt (pre := []) (w1 := cW E x) (As := [.int a, .int b]) (rest := []) ⟨hx, hb, hml, hown, hts⟩ hC (cwV 2 hts gL_send_X2_send rfl h1 h2 (by decide +kernel) ⟨by have := h3; show rm0.frames + 1 ≤ 8; omega, by have := h4; show 8 + (5 + 11) + rm0.locals ≤ 170; omega⟩) (c_recv hK hP) hK hX hP hD hS hA rfl hl.1 rfl (Nat.le_of_ble_eq_true rfl) dL_send_3 ⟨Nat.le_of_ble_eq_true rfl, Nat.le_of_ble_eq_true rfl⟩ (fun q9 ce H locs hP hS hcell hv hcl => ?_)
  refine vx_catch (own := RL) (name := "java/lang/IllegalStateException") (E := "java/lang/IllegalStateException") hown [(⟨0, 14, 15, 15⟩ : ExceptionTableEntry)] ⟨0, 14, 19, 27⟩ [] (ht.trans rfl) (fun z hz => by rw [List.mem_singleton.mp hz]; exact Or.inr ⟨by decide, "java/lang/IndexOutOfBoundsException", hts (.classLink RL 15 "java/lang/IndexOutOfBoundsException") (by decide +kernel), hN ("java/lang/IllegalStateException", "java/lang/IndexOutOfBoundsException") (by decide)⟩) (by decide) (by decide) (hts (.classLink RL 27 "java/lang/IllegalStateException") (by decide +kernel)) (va_Nw.use rfl (hX.2.1 ("java/lang/IllegalStateException", "java/lang/IllegalStateException") (by decide))) hcell hv hcl ?_
  refine lv_astore_n (lv' := [(3, .ref q9), (0, .ref (eO E)), (1, .int a), (2, .int b)]) hx hb dL_send_19 rfl hl (by decide) rfl (fun ls hl => ?_)
  refine lv_bipush (v := -103) hx hb dL_send_20 (by decide) ?_
  exact W.iret hx hb hr (fun t ht hW => ⟨⟨_, (E, x), rfl, ⟨⟨rfl, rfl, rfl⟩, pS_rf, [], (List.append_nil _).symm, Nat.zero_le _⟩, by rw [ht]; exact hP, va_K.moved hW.alike hK, hD⟩, hS.F ht⟩) hS.2.2 dL_send_22

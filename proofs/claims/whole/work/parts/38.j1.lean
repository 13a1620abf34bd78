def oC (lc : ClassId) (f : Nat → Int64) : va_E := .inl (lc, 1, .inr (.inl f))

def sL (r : Int32) : Int64 := if r = nI 0 then 0 else 1

set_option maxHeartbeats 4000000 in
set_option maxRecDepth 100000 in
theorem j_open_ok {S : Type} {post : Int32 → S → Prop} {wf : S → va_W} (mc ms : Nat) (l : Launch) (D : va_G) (E : cE) (tl : gTy) (lc : ClassId) (oo : Nat) (f : Nat → Int64) (x : Nat → Nat → Int32) (a b : Int32) (rm0 : Room) (h1 : rm0.cells = mc) (h2 : rm0.slots = ms) (h3 : rm0.frames ≤ 7) (h4 : rm0.locals ≤ 135) (hC : hI l yX2_open wsX2_open rm0 D E ((lc, .long) :: tl) (cW E x) [.ref (eO E), .int a, .int b] post wf mc ms) (hmap : ∀ r u, post r u → ∃ new : List Nat, (wf u).map Prod.fst = (cW E x).map Prod.fst ++ new ∧ new.length ≤ 1) : jI l yL_open wsL_open ({ frames := 8, cells := mc, slots := ms, locals := 170 } : Room) D E ((lc, .long) :: tl) ([(oo, oC lc f)] ++ cW E x) [.ref (eO E), .int a, .int b, .ref oo] (fun r (u : Int32 × S) => r = nI 0 ∧ post u.1 u.2) (fun u => [(oo, oC lc (vp_updL f 0 u.1.toInt64))] ++ wf u.2) mc ms := by
  refine jI.start (cc := cL_open) (maxL := 5) (ret := some .int) (own := RL) (hh := [(0, 10, 13, 13)]) rfl (by decide) rfl (Nat.le_of_ble_eq_true rfl) ?_
  intro pr e s m args below meth c A ls H locs hx hb hml hr ht hts hown hlocks hA hK hX hN hP hD hS hl
  replace hl : lv_has ls 5 [(0, .ref (eO E)), (1, .int a), (2, .int b), (3, .ref oo)] := hl
  refine lv_aload_n hx hb dL_open_0 rfl (lv_at hl 3 rfl) ?_
  refine lv_iconst (v := nI 0) hx hb dL_open_1 (by decide) ?_
  refine lv_aload_n hx hb dL_open_2 rfl (lv_at hl 0 rfl) ?_
  refine lv_iload_n hx hb dL_open_3 rfl (lv_at hl 1 rfl) ?_
  refine lv_iload_n hx hb dL_open_4 rfl (lv_at hl 2 rfl) ?_
  refine j_calli (pre := [(oo, oC lc f)]) (w1 := cW E x) (As := [.int a, .int b]) (rest := [.int (nI 0), .ref oo]) ⟨hx, hb, hml, hown, hts⟩ hC (cwV 2 hts gL_open_X2_open rfl h1 h2 (by decide +kernel) ⟨by have := h3; show rm0.frames + 1 ≤ 8; omega, by have := h4; show 8 + (4 + 11) + rm0.locals ≤ 170; omega⟩) (va_recv hK hP (ci := 3) (q0 := 1) rfl rfl) hK hX hP hD hS hA hmap rfl hl.1 rfl (Nat.le_of_ble_eq_true rfl) dL_open_5 ⟨by show 0 + mc ≤ mc; omega, by show 0 + ms ≤ ms; omega⟩ (fun v u H locs hw hP hD hS => ?_)
  refine lv_i2l (v := v.toInt64) hx hb dL_open_8 rfl ?_
  refine va_last hx hb hK hP hD hS 0 5 rfl rfl (vp_in_nI (by decide) (by decide)) dL_open_9 (fun H locs hP hD hS => ?_)
  replace hP : va_P D vwCl ([(oo, oC lc (vp_updL f 0 v.toInt64))] ++ wf u) H := hP
  replace hD : va_D A ([(oo, oC lc (vp_updL f 0 v.toInt64))] ++ wf u) := hD
  refine lv_goto (tgt := 17) hx hb dL_open_10 (by decide) ?_
  refine lv_iconst (v := nI 0) hx hb dL_open_17 (by decide) ?_
  refine W.widen (k := mc) (n := ms) (by omega) (by omega) ?_
  exact W.iret hx hb hr (fun t ht hW => ⟨⟨_, (v, u), rfl, ⟨rfl, hw⟩, by rw [ht]; exact hP, va_K.moved hW.alike hK, hD⟩, hS.F ht⟩) hS.2.2 dL_open_18

set_option maxHeartbeats 4000000 in
set_option maxRecDepth 100000 in
theorem j_plan_ok {S : Type} {post : Int32 → S → Prop} {wf : S → va_W} (mc ms : Nat) (l : Launch) (D : va_G) (E : cE) (tl : gTy) (lc : ClassId) (oo : Nat) (f : Nat → Int64) (x : Nat → Nat → Int32) (a b : Int32) (rm0 : Room) (h1 : rm0.cells = mc) (h2 : rm0.slots = ms) (h3 : rm0.frames ≤ 7) (h4 : rm0.locals ≤ 135) (hC : hI l yX2_plan wsX2_plan rm0 D E ((lc, .long) :: tl) (cW E x) [.ref (eO E), .int a, .int b] post wf mc ms) (hmap : ∀ r u, post r u → ∃ new : List Nat, (wf u).map Prod.fst = (cW E x).map Prod.fst ++ new ∧ new.length ≤ 1) : jI l yL_plan wsL_plan ({ frames := 8, cells := mc, slots := ms, locals := 170 } : Room) D E ((lc, .long) :: tl) ([(oo, oC lc f)] ++ cW E x) [.ref (eO E), .int a, .int b, .ref oo] (fun r (u : Int32 × S) => r = nI 0 ∧ post u.1 u.2) (fun u => [(oo, oC lc (vp_updL f 0 u.1.toInt64))] ++ wf u.2) mc ms := by
  refine jI.start (cc := cL_plan) (maxL := 5) (ret := some .int) (own := RL) (hh := [(0, 10, 13, 13), (0, 10, 17, 25)]) rfl (by decide) rfl (Nat.le_of_ble_eq_true rfl) ?_
  intro pr e s m args below meth c A ls H locs hx hb hml hr ht hts hown hlocks hA hK hX hN hP hD hS hl
  replace hl : lv_has ls 5 [(0, .ref (eO E)), (1, .int a), (2, .int b), (3, .ref oo)] := hl
  refine lv_aload_n hx hb dL_plan_0 rfl (lv_at hl 3 rfl) ?_
  refine lv_iconst (v := nI 0) hx hb dL_plan_1 (by decide) ?_
  refine lv_aload_n hx hb dL_plan_2 rfl (lv_at hl 0 rfl) ?_
  refine lv_iload_n hx hb dL_plan_3 rfl (lv_at hl 1 rfl) ?_
  refine lv_iload_n hx hb dL_plan_4 rfl (lv_at hl 2 rfl) ?_
  refine j_calli (pre := [(oo, oC lc f)]) (w1 := cW E x) (As := [.int a, .int b]) (rest := [.int (nI 0), .ref oo]) ⟨hx, hb, hml, hown, hts⟩ hC (cwV 2 hts gL_plan_X2_plan rfl h1 h2 (by decide +kernel) ⟨by have := h3; show rm0.frames + 1 ≤ 8; omega, by have := h4; show 8 + (5 + 11) + rm0.locals ≤ 170; omega⟩) (va_recv hK hP (ci := 3) (q0 := 1) rfl rfl) hK hX hP hD hS hA hmap rfl hl.1 rfl (Nat.le_of_ble_eq_true rfl) dL_plan_5 ⟨by show 0 + mc ≤ mc; omega, by show 0 + ms ≤ ms; omega⟩ (fun v u H locs hw hP hD hS => ?_)
  refine lv_i2l (v := v.toInt64) hx hb dL_plan_8 rfl ?_
  refine va_last hx hb hK hP hD hS 0 5 rfl rfl (vp_in_nI (by decide) (by decide)) dL_plan_9 (fun H locs hP hD hS => ?_)
  replace hP : va_P D vwCl ([(oo, oC lc (vp_updL f 0 v.toInt64))] ++ wf u) H := hP
  replace hD : va_D A ([(oo, oC lc (vp_updL f 0 v.toInt64))] ++ wf u) := hD
  refine lv_goto (tgt := 21) hx hb dL_plan_10 (by decide) ?_
  refine lv_iconst (v := nI 0) hx hb dL_plan_21 (by decide) ?_
  refine W.widen (k := mc) (n := ms) (by omega) (by omega) ?_
  exact W.iret hx hb hr (fun t ht hW => ⟨⟨_, (v, u), rfl, ⟨rfl, hw⟩, by rw [ht]; exact hP, va_K.moved hW.alike hK, hD⟩, hS.F ht⟩) hS.2.2 dL_plan_22

set_option maxHeartbeats 4000000 in
set_option maxRecDepth 100000 in
theorem j_drop_ok {S : Type} {post : Int32 → S → Prop} {wf : S → va_W} (mc ms : Nat) (l : Launch) (D : va_G) (E : cE) (tl : gTy) (lc : ClassId) (oo : Nat) (f : Nat → Int64) (x : Nat → Nat → Int32) (a b : Int32) (rm0 : Room) (h1 : rm0.cells = mc) (h2 : rm0.slots = ms) (h3 : rm0.frames ≤ 7) (h4 : rm0.locals ≤ 135) (hC : hI l yX2_drop wsX2_drop rm0 D E ((lc, .long) :: tl) (cW E x) [.ref (eO E), .int a, .int b] post wf mc ms) (hmap : ∀ r u, post r u → ∃ new : List Nat, (wf u).map Prod.fst = (cW E x).map Prod.fst ++ new ∧ new.length ≤ 1) : jI l yL_drop wsL_drop ({ frames := 8, cells := mc, slots := ms, locals := 170 } : Room) D E ((lc, .long) :: tl) ([(oo, oC lc f)] ++ cW E x) [.ref (eO E), .int a, .int b, .ref oo] (fun r (u : Int32 × S) => r = nI 0 ∧ post u.1 u.2) (fun u => [(oo, oC lc (vp_updL f 0 u.1.toInt64))] ++ wf u.2) mc ms := by
  refine jI.start (cc := cL_drop) (maxL := 5) (ret := some .int) (own := RL) (hh := [(0, 10, 13, 13), (0, 10, 17, 25)]) rfl (by decide) rfl (Nat.le_of_ble_eq_true rfl) ?_
  intro pr e s m args below meth c A ls H locs hx hb hml hr ht hts hown hlocks hA hK hX hN hP hD hS hl
  replace hl : lv_has ls 5 [(0, .ref (eO E)), (1, .int a), (2, .int b), (3, .ref oo)] := hl
  refine lv_aload_n hx hb dL_drop_0 rfl (lv_at hl 3 rfl) ?_
  refine lv_iconst (v := nI 0) hx hb dL_drop_1 (by decide) ?_
  refine lv_aload_n hx hb dL_drop_2 rfl (lv_at hl 0 rfl) ?_
  refine lv_iload_n hx hb dL_drop_3 rfl (lv_at hl 1 rfl) ?_
  refine lv_iload_n hx hb dL_drop_4 rfl (lv_at hl 2 rfl) ?_
  refine j_calli (pre := [(oo, oC lc f)]) (w1 := cW E x) (As := [.int a, .int b]) (rest := [.int (nI 0), .ref oo]) ⟨hx, hb, hml, hown, hts⟩ hC (cwV 2 hts gL_drop_X2_drop rfl h1 h2 (by decide +kernel) ⟨by have := h3; show rm0.frames + 1 ≤ 8; omega, by have := h4; show 8 + (6 + 11) + rm0.locals ≤ 170; omega⟩) (va_recv hK hP (ci := 3) (q0 := 1) rfl rfl) hK hX hP hD hS hA hmap rfl hl.1 rfl (Nat.le_of_ble_eq_true rfl) dL_drop_5 ⟨by show 0 + mc ≤ mc; omega, by show 0 + ms ≤ ms; omega⟩ (fun v u H locs hw hP hD hS => ?_)
  refine lv_i2l (v := v.toInt64) hx hb dL_drop_8 rfl ?_
  refine va_last hx hb hK hP hD hS 0 5 rfl rfl (vp_in_nI (by decide) (by decide)) dL_drop_9 (fun H locs hP hD hS => ?_)
  replace hP : va_P D vwCl ([(oo, oC lc (vp_updL f 0 v.toInt64))] ++ wf u) H := hP
  replace hD : va_D A ([(oo, oC lc (vp_updL f 0 v.toInt64))] ++ wf u) := hD
  refine lv_goto (tgt := 21) hx hb dL_drop_10 (by decide) ?_
  refine lv_iconst (v := nI 0) hx hb dL_drop_21 (by decide) ?_
  refine W.widen (k := mc) (n := ms) (by omega) (by omega) ?_
  exact W.iret hx hb hr (fun t ht hW => ⟨⟨_, (v, u), rfl, ⟨rfl, hw⟩, by rw [ht]; exact hP, va_K.moved hW.alike hK, hD⟩, hS.F ht⟩) hS.2.2 dL_drop_22

set_option maxHeartbeats 4000000 in
set_option maxRecDepth 100000 in
theorem j_ask_ok {S : Type} {post : Int32 → S → Prop} {wf : S → va_W} (mc ms : Nat) (l : Launch) (D : va_G) (E : cE) (tl : gTy) (lc : ClassId) (oo : Nat) (f : Nat → Int64) (x : Nat → Nat → Int32) (a b : Int32) (rm0 : Room) (h1 : rm0.cells = mc) (h2 : rm0.slots = ms) (h3 : rm0.frames ≤ 7) (h4 : rm0.locals ≤ 135) (hC : hI l yX2_ask wsX2_ask rm0 D E ((lc, .long) :: tl) (cW E x) [.ref (eO E), .int a, .int b] post wf mc ms) (hmap : ∀ r u, post r u → ∃ new : List Nat, (wf u).map Prod.fst = (cW E x).map Prod.fst ++ new ∧ new.length ≤ 1) : jI l yL_ask wsL_ask ({ frames := 8, cells := mc, slots := ms, locals := 170 } : Room) D E ((lc, .long) :: tl) ([(oo, oC lc f)] ++ cW E x) [.ref (eO E), .int a, .int b, .ref oo] (fun r (u : Int32 × S) => r = nI 0 ∧ post u.1 u.2) (fun u => [(oo, oC lc (vp_updL f 0 u.1.toInt64))] ++ wf u.2) mc ms := by
  refine jI.start (cc := cL_ask) (maxL := 5) (ret := some .int) (own := RL) (hh := [(0, 10, 13, 13), (0, 10, 17, 25)]) rfl (by decide) rfl (Nat.le_of_ble_eq_true rfl) ?_
  intro pr e s m args below meth c A ls H locs hx hb hml hr ht hts hown hlocks hA hK hX hN hP hD hS hl
  replace hl : lv_has ls 5 [(0, .ref (eO E)), (1, .int a), (2, .int b), (3, .ref oo)] := hl
  refine lv_aload_n hx hb dL_ask_0 rfl (lv_at hl 3 rfl) ?_
  refine lv_iconst (v := nI 0) hx hb dL_ask_1 (by decide) ?_
  refine lv_aload_n hx hb dL_ask_2 rfl (lv_at hl 0 rfl) ?_
  refine lv_iload_n hx hb dL_ask_3 rfl (lv_at hl 1 rfl) ?_
  refine lv_iload_n hx hb dL_ask_4 rfl (lv_at hl 2 rfl) ?_
  refine j_calli (pre := [(oo, oC lc f)]) (w1 := cW E x) (As := [.int a, .int b]) (rest := [.int (nI 0), .ref oo]) ⟨hx, hb, hml, hown, hts⟩ hC (cwV 2 hts gL_ask_X2_ask rfl h1 h2 (by decide +kernel) ⟨by have := h3; show rm0.frames + 1 ≤ 8; omega, by have := h4; show 8 + (5 + 11) + rm0.locals ≤ 170; omega⟩) (va_recv hK hP (ci := 3) (q0 := 1) rfl rfl) hK hX hP hD hS hA hmap rfl hl.1 rfl (Nat.le_of_ble_eq_true rfl) dL_ask_5 ⟨by show 0 + mc ≤ mc; omega, by show 0 + ms ≤ ms; omega⟩ (fun v u H locs hw hP hD hS => ?_)
  refine lv_i2l (v := v.toInt64) hx hb dL_ask_8 rfl ?_
  refine va_last hx hb hK hP hD hS 0 5 rfl rfl (vp_in_nI (by decide) (by decide)) dL_ask_9 (fun H locs hP hD hS => ?_)
  replace hP : va_P D vwCl ([(oo, oC lc (vp_updL f 0 v.toInt64))] ++ wf u) H := hP
  replace hD : va_D A ([(oo, oC lc (vp_updL f 0 v.toInt64))] ++ wf u) := hD
  refine lv_goto (tgt := 21) hx hb dL_ask_10 (by decide) ?_
  refine lv_iconst (v := nI 0) hx hb dL_ask_21 (by decide) ?_
  refine W.widen (k := mc) (n := ms) (by omega) (by omega) ?_
  exact W.iret hx hb hr (fun t ht hW => ⟨⟨_, (v, u), rfl, ⟨rfl, hw⟩, by rw [ht]; exact hP, va_K.moved hW.alike hK, hD⟩, hS.F ht⟩) hS.2.2 dL_ask_22

set_option maxHeartbeats 4000000 in
set_option maxRecDepth 100000 in
theorem j_advance_ok {S : Type} {post : Int32 → S → Prop} {wf : S → va_W} (mc ms : Nat) (l : Launch) (D : va_G) (E : cE) (tl : gTy) (lc : ClassId) (oo : Nat) (f : Nat → Int64) (x : Nat → Nat → Int32) (a : Int32) (rm0 : Room) (h1 : rm0.cells = mc) (h2 : rm0.slots = ms) (h3 : rm0.frames ≤ 7) (h4 : rm0.locals ≤ 135) (hC : hI l yX2_advance wsX2_advance rm0 D E ((lc, .long) :: tl) (cW E x) [.ref (eO E), .int a] post wf mc ms) (hmap : ∀ r u, post r u → ∃ new : List Nat, (wf u).map Prod.fst = (cW E x).map Prod.fst ++ new ∧ new.length ≤ 1) : jI l yL_advance wsL_advance ({ frames := 8, cells := mc, slots := ms, locals := 170 } : Room) D E ((lc, .long) :: tl) ([(oo, oC lc f)] ++ cW E x) [.ref (eO E), .int a, .ref oo] (fun r (u : Int32 × S) => r = nI 0 ∧ post u.1 u.2) (fun u => [(oo, oC lc (vp_updL f 0 u.1.toInt64))] ++ wf u.2) mc ms := by
  refine jI.start (cc := cL_advance) (maxL := 4) (ret := some .int) (own := RL) (hh := [(0, 9, 12, 15), (0, 9, 15, 25)]) rfl (by decide) rfl (Nat.le_of_ble_eq_true rfl) ?_
  intro pr e s m args below meth c A ls H locs hx hb hml hr ht hts hown hlocks hA hK hX hN hP hD hS hl
  replace hl : lv_has ls 4 [(0, .ref (eO E)), (1, .int a), (2, .ref oo)] := hl
  refine lv_aload_n hx hb dL_advance_0 rfl (lv_at hl 2 rfl) ?_
  refine lv_iconst (v := nI 0) hx hb dL_advance_1 (by decide) ?_
  refine lv_aload_n hx hb dL_advance_2 rfl (lv_at hl 0 rfl) ?_
  refine lv_iload_n hx hb dL_advance_3 rfl (lv_at hl 1 rfl) ?_
  refine j_calli (pre := [(oo, oC lc f)]) (w1 := cW E x) (As := [.int a]) (rest := [.int (nI 0), .ref oo]) ⟨hx, hb, hml, hown, hts⟩ hC (cwV 1 hts gL_advance_X2_advance rfl h1 h2 (by decide +kernel) ⟨by have := h3; show rm0.frames + 1 ≤ 8; omega, by have := h4; show 8 + (3 + 11) + rm0.locals ≤ 170; omega⟩) (va_recv hK hP (ci := 3) (q0 := 1) rfl rfl) hK hX hP hD hS hA hmap rfl hl.1 rfl (Nat.le_of_ble_eq_true rfl) dL_advance_4 ⟨by show 0 + mc ≤ mc; omega, by show 0 + ms ≤ ms; omega⟩ (fun v u H locs hw hP hD hS => ?_)
  refine lv_i2l (v := v.toInt64) hx hb dL_advance_7 rfl ?_
  refine va_last hx hb hK hP hD hS 0 5 rfl rfl (vp_in_nI (by decide) (by decide)) dL_advance_8 (fun H locs hP hD hS => ?_)
  replace hP : va_P D vwCl ([(oo, oC lc (vp_updL f 0 v.toInt64))] ++ wf u) H := hP
  replace hD : va_D A ([(oo, oC lc (vp_updL f 0 v.toInt64))] ++ wf u) := hD
  refine lv_goto (tgt := 18) hx hb dL_advance_9 (by decide) ?_
  refine lv_iconst (v := nI 0) hx hb dL_advance_18 (by decide) ?_
  refine W.widen (k := mc) (n := ms) (by omega) (by omega) ?_
  exact W.iret hx hb hr (fun t ht hW => ⟨⟨_, (v, u), rfl, ⟨rfl, hw⟩, by rw [ht]; exact hP, va_K.moved hW.alike hK, hD⟩, hS.F ht⟩) hS.2.2 dL_advance_19

set_option maxHeartbeats 4000000 in
set_option maxRecDepth 100000 in
theorem j_send_ok {S : Type} {post : Int32 → S → Prop} {wf : S → va_W} (mc ms : Nat) (l : Launch) (D : va_G) (E : cE) (tl : gTy) (lc : ClassId) (oo : Nat) (f : Nat → Int64) (x : Nat → Nat → Int32) (a b : Int32) (rm0 : Room) (h1 : rm0.cells = mc) (h2 : rm0.slots = ms) (h3 : rm0.frames ≤ 7) (h4 : rm0.locals ≤ 135) (hC : hI l yX2_send wsX2_send rm0 D E ((lc, .long) :: tl) (cW E x) [.ref (eO E), .int a, .int b] post wf mc ms) (hmap : ∀ r u, post r u → ∃ new : List Nat, (wf u).map Prod.fst = (cW E x).map Prod.fst ++ new ∧ new.length ≤ 1) : jI l yL_send wsL_send ({ frames := 8, cells := mc, slots := ms, locals := 170 } : Room) D E ((lc, .long) :: tl) ([(oo, oC lc f)] ++ cW E x) [.ref (eO E), .int a, .int b, .ref oo] (fun r (u : Int32 × S) => r = nI 0 ∧ post u.1 u.2) (fun u => [(oo, oC lc (vp_updL f 0 (sL u.1)))] ++ wf u.2) mc ms := by
  refine jI.start (cc := cL_send) (maxL := 5) (ret := some .int) (own := RL) (hh := [(0, 17, 20, 13), (0, 17, 24, 25)]) rfl (by decide) rfl (Nat.le_of_ble_eq_true rfl) ?_
  intro pr e s m args below meth c A ls H locs hx hb hml hr ht hts hown hlocks hA hK hX hN hP hD hS hl
  replace hl : lv_has ls 5 [(0, .ref (eO E)), (1, .int a), (2, .int b), (3, .ref oo)] := hl
  refine lv_aload_n hx hb dL_send_0 rfl (lv_at hl 3 rfl) ?_
  refine lv_iconst (v := nI 0) hx hb dL_send_1 (by decide) ?_
  refine lv_aload_n hx hb dL_send_2 rfl (lv_at hl 0 rfl) ?_
  refine lv_iload_n hx hb dL_send_3 rfl (lv_at hl 1 rfl) ?_
  refine lv_iload_n hx hb dL_send_4 rfl (lv_at hl 2 rfl) ?_
  refine j_calli (pre := [(oo, oC lc f)]) (w1 := cW E x) (As := [.int a, .int b]) (rest := [.int (nI 0), .ref oo]) ⟨hx, hb, hml, hown, hts⟩ hC (cwV 2 hts gL_send_X2_send rfl h1 h2 (by decide +kernel) ⟨by have := h3; show rm0.frames + 1 ≤ 8; omega, by have := h4; show 8 + (5 + 11) + rm0.locals ≤ 170; omega⟩) (va_recv hK hP (ci := 3) (q0 := 1) rfl rfl) hK hX hP hD hS hA hmap rfl hl.1 rfl (Nat.le_of_ble_eq_true rfl) dL_send_5 ⟨by show 0 + mc ≤ mc; omega, by show 0 + ms ≤ ms; omega⟩ (fun v u H locs hw hP hD hS => ?_)
  by_cases c1 : v = nI 0
  · refine lv_if_eq (tgt := 15) hx hb dL_send_8 (by decide) (fun c2 => ?_) (fun c2 => absurd c1 c2)
    refine lv_lconst (v := sL v) hx hb dL_send_15 (by rw [c1]; rfl) ?_
    refine va_last hx hb hK hP hD hS 0 5 rfl rfl (vp_in_nI (by decide) (by decide)) dL_send_16 (fun H locs hP hD hS => ?_)
    replace hP : va_P D vwCl ([(oo, oC lc (vp_updL f 0 (sL v)))] ++ wf u) H := hP
    replace hD : va_D A ([(oo, oC lc (vp_updL f 0 (sL v)))] ++ wf u) := hD
    refine lv_goto (tgt := 28) hx hb dL_send_17 (by decide) ?_
    refine lv_iconst (v := nI 0) hx hb dL_send_28 (by decide) ?_
    refine W.widen (k := mc) (n := ms) (by omega) (by omega) ?_
    exact W.iret hx hb hr (fun t ht hW => ⟨⟨_, (v, u), rfl, ⟨rfl, hw⟩, by rw [ht]; exact hP, va_K.moved hW.alike hK, hD⟩, hS.F ht⟩) hS.2.2 dL_send_29
  · refine lv_if_eq (tgt := 15) hx hb dL_send_8 (by decide) (fun c2 => absurd c2 c1) (fun c2 => ?_)
    refine lv_lconst (v := sL v) hx hb dL_send_11 (by unfold sL; rw [if_neg c1]; rfl) ?_
    refine lv_goto (tgt := 16) hx hb dL_send_12 (by decide) ?_
    refine va_last hx hb hK hP hD hS 0 5 rfl rfl (vp_in_nI (by decide) (by decide)) dL_send_16 (fun H locs hP hD hS => ?_)
    replace hP : va_P D vwCl ([(oo, oC lc (vp_updL f 0 (sL v)))] ++ wf u) H := hP
    replace hD : va_D A ([(oo, oC lc (vp_updL f 0 (sL v)))] ++ wf u) := hD
    refine lv_goto (tgt := 28) hx hb dL_send_17 (by decide) ?_
    refine lv_iconst (v := nI 0) hx hb dL_send_28 (by decide) ?_
    refine W.widen (k := mc) (n := ms) (by omega) (by omega) ?_
    exact W.iret hx hb hr (fun t ht hW => ⟨⟨_, (v, u), rfl, ⟨rfl, hw⟩, by rw [ht]; exact hP, va_K.moved hW.alike hK, hD⟩, hS.F ht⟩) hS.2.2 dL_send_29

set_option maxHeartbeats 4000000 in
set_option maxRecDepth 100000 in
theorem j_reprint_ok {S : Type} {post : Int32 → S → Prop} {wf : S → va_W} (mc ms : Nat) (l : Launch) (D : va_G) (E : cE) (tl : gTy) (lc : ClassId) (oo : Nat) (f : Nat → Int64) (x : Nat → Nat → Int32) (a : Int32) (rm0 : Room) (h1 : rm0.cells = mc) (h2 : rm0.slots = ms) (h3 : rm0.frames ≤ 7) (h4 : rm0.locals ≤ 135) (hC : hI l yX2_reprint wsX2_reprint rm0 D E ((lc, .long) :: tl) (cW E x) [.ref (eO E), .int a] post wf mc ms) (hmap : ∀ r u, post r u → ∃ new : List Nat, (wf u).map Prod.fst = (cW E x).map Prod.fst ++ new ∧ new.length ≤ 1) : jI l yL_reprint wsL_reprint ({ frames := 8, cells := mc, slots := ms, locals := 170 } : Room) D E ((lc, .long) :: tl) ([(oo, oC lc f)] ++ cW E x) [.ref (eO E), .int a, .ref oo] (fun r (u : Int32 × S) => r = nI 0 ∧ post u.1 u.2) (fun u => [(oo, oC lc (vp_updL f 0 u.1.toInt64))] ++ wf u.2) mc ms := by
  refine jI.start (cc := cL_reprint) (maxL := 4) (ret := some .int) (own := RL) (hh := [(0, 9, 12, 15)]) rfl (by decide) rfl (Nat.le_of_ble_eq_true rfl) ?_
  intro pr e s m args below meth c A ls H locs hx hb hml hr ht hts hown hlocks hA hK hX hN hP hD hS hl
  replace hl : lv_has ls 4 [(0, .ref (eO E)), (1, .int a), (2, .ref oo)] := hl
  refine lv_aload_n hx hb dL_reprint_0 rfl (lv_at hl 2 rfl) ?_
  refine lv_iconst (v := nI 0) hx hb dL_reprint_1 (by decide) ?_
  refine lv_aload_n hx hb dL_reprint_2 rfl (lv_at hl 0 rfl) ?_
  refine lv_iload_n hx hb dL_reprint_3 rfl (lv_at hl 1 rfl) ?_
  refine j_calli (pre := [(oo, oC lc f)]) (w1 := cW E x) (As := [.int a]) (rest := [.int (nI 0), .ref oo]) ⟨hx, hb, hml, hown, hts⟩ hC (cwV 1 hts gL_reprint_X2_reprint rfl h1 h2 (by decide +kernel) ⟨by have := h3; show rm0.frames + 1 ≤ 8; omega, by have := h4; show 8 + (7 + 11) + rm0.locals ≤ 170; omega⟩) (va_recv hK hP (ci := 3) (q0 := 1) rfl rfl) hK hX hP hD hS hA hmap rfl hl.1 rfl (Nat.le_of_ble_eq_true rfl) dL_reprint_4 ⟨by show 0 + mc ≤ mc; omega, by show 0 + ms ≤ ms; omega⟩ (fun v u H locs hw hP hD hS => ?_)
  refine lv_i2l (v := v.toInt64) hx hb dL_reprint_7 rfl ?_
  refine va_last hx hb hK hP hD hS 0 5 rfl rfl (vp_in_nI (by decide) (by decide)) dL_reprint_8 (fun H locs hP hD hS => ?_)
  replace hP : va_P D vwCl ([(oo, oC lc (vp_updL f 0 v.toInt64))] ++ wf u) H := hP
  replace hD : va_D A ([(oo, oC lc (vp_updL f 0 v.toInt64))] ++ wf u) := hD
  refine lv_goto (tgt := 15) hx hb dL_reprint_9 (by decide) ?_
  refine lv_iconst (v := nI 0) hx hb dL_reprint_15 (by decide) ?_
  refine W.widen (k := mc) (n := ms) (by omega) (by omega) ?_
  exact W.iret hx hb hr (fun t ht hW => ⟨⟨_, (v, u), rfl, ⟨rfl, hw⟩, by rw [ht]; exact hP, va_K.moved hW.alike hK, hD⟩, hS.F ht⟩) hS.2.2 dL_reprint_16

set_option maxHeartbeats 4000000 in
set_option maxRecDepth 100000 in
theorem j_stateOf_ok {S : Type} {post : Int32 → S → Prop} {wf : S → va_W} (mc ms : Nat) (l : Launch) (D : va_G) (E : cE) (tl : gTy) (lc : ClassId) (oo : Nat) (f : Nat → Int64) (x : Nat → Nat → Int32) (a : Int32) (rm0 : Room) (h1 : rm0.cells = mc) (h2 : rm0.slots = ms) (h3 : rm0.frames ≤ 7) (h4 : rm0.locals ≤ 135) (hC : hI l yX2_stateOf wsX2_stateOf rm0 D E ((lc, .long) :: tl) (cW E x) [.ref (eO E), .int a] post wf mc ms) (hmap : ∀ r u, post r u → ∃ new : List Nat, (wf u).map Prod.fst = (cW E x).map Prod.fst ++ new ∧ new.length ≤ 1) : jI l yL_stateOf wsL_stateOf ({ frames := 8, cells := mc, slots := ms, locals := 170 } : Room) D E ((lc, .long) :: tl) ([(oo, oC lc f)] ++ cW E x) [.ref (eO E), .int a, .ref oo] (fun r (u : Int32 × S) => r = nI 0 ∧ post u.1 u.2) (fun u => [(oo, oC lc (vp_updL f 0 u.1.toInt64))] ++ wf u.2) mc ms := by
  refine jI.start (cc := cL_stateOf) (maxL := 4) (ret := some .int) (own := RL) (hh := [(0, 9, 12, 13)]) rfl (by decide) rfl (Nat.le_of_ble_eq_true rfl) ?_
  intro pr e s m args below meth c A ls H locs hx hb hml hr ht hts hown hlocks hA hK hX hN hP hD hS hl
  replace hl : lv_has ls 4 [(0, .ref (eO E)), (1, .int a), (2, .ref oo)] := hl
  refine lv_aload_n hx hb dL_stateOf_0 rfl (lv_at hl 2 rfl) ?_
  refine lv_iconst (v := nI 0) hx hb dL_stateOf_1 (by decide) ?_
  refine lv_aload_n hx hb dL_stateOf_2 rfl (lv_at hl 0 rfl) ?_
  refine lv_iload_n hx hb dL_stateOf_3 rfl (lv_at hl 1 rfl) ?_
  refine j_calli (pre := [(oo, oC lc f)]) (w1 := cW E x) (As := [.int a]) (rest := [.int (nI 0), .ref oo]) ⟨hx, hb, hml, hown, hts⟩ hC (cwV 1 hts gL_stateOf_X2_stateOf rfl h1 h2 (by decide +kernel) ⟨by have := h3; show rm0.frames + 1 ≤ 8; omega, by have := h4; show 8 + (2 + 11) + rm0.locals ≤ 170; omega⟩) (va_recv hK hP (ci := 3) (q0 := 1) rfl rfl) hK hX hP hD hS hA hmap rfl hl.1 rfl (Nat.le_of_ble_eq_true rfl) dL_stateOf_4 ⟨by show 0 + mc ≤ mc; omega, by show 0 + ms ≤ ms; omega⟩ (fun v u H locs hw hP hD hS => ?_)
  refine lv_i2l (v := v.toInt64) hx hb dL_stateOf_7 rfl ?_
  refine va_last hx hb hK hP hD hS 0 5 rfl rfl (vp_in_nI (by decide) (by decide)) dL_stateOf_8 (fun H locs hP hD hS => ?_)
  replace hP : va_P D vwCl ([(oo, oC lc (vp_updL f 0 v.toInt64))] ++ wf u) H := hP
  replace hD : va_D A ([(oo, oC lc (vp_updL f 0 v.toInt64))] ++ wf u) := hD
  refine lv_goto (tgt := 15) hx hb dL_stateOf_9 (by decide) ?_
  refine lv_iconst (v := nI 0) hx hb dL_stateOf_15 (by decide) ?_
  refine W.widen (k := mc) (n := ms) (by omega) (by omega) ?_
  exact W.iret hx hb hr (fun t ht hW => ⟨⟨_, (v, u), rfl, ⟨rfl, hw⟩, by rw [ht]; exact hP, va_K.moved hW.alike hK, hD⟩, hS.F ht⟩) hS.2.2 dL_stateOf_16

set_option maxHeartbeats 4000000 in
set_option maxRecDepth 100000 in
theorem j_whereIs_ok {S : Type} {post : Int32 → S → Prop} {wf : S → va_W} (mc ms : Nat) (l : Launch) (D : va_G) (E : cE) (tl : gTy) (lc : ClassId) (oo : Nat) (f : Nat → Int64) (x : Nat → Nat → Int32) (a : Int32) (rm0 : Room) (h1 : rm0.cells = mc) (h2 : rm0.slots = ms) (h3 : rm0.frames ≤ 7) (h4 : rm0.locals ≤ 135) (hC : hI l yX2_whereIs wsX2_whereIs rm0 D E ((lc, .long) :: tl) (cW E x) [.ref (eO E), .int a] post wf mc ms) (hmap : ∀ r u, post r u → ∃ new : List Nat, (wf u).map Prod.fst = (cW E x).map Prod.fst ++ new ∧ new.length ≤ 1) : jI l yL_whereIs wsL_whereIs ({ frames := 8, cells := mc, slots := ms, locals := 170 } : Room) D E ((lc, .long) :: tl) ([(oo, oC lc f)] ++ cW E x) [.ref (eO E), .int a, .ref oo] (fun r (u : Int32 × S) => r = nI 0 ∧ post u.1 u.2) (fun u => [(oo, oC lc (vp_updL f 0 u.1.toInt64))] ++ wf u.2) mc ms := by
  refine jI.start (cc := cL_whereIs) (maxL := 4) (ret := some .int) (own := RL) (hh := [(0, 9, 12, 13)]) rfl (by decide) rfl (Nat.le_of_ble_eq_true rfl) ?_
  intro pr e s m args below meth c A ls H locs hx hb hml hr ht hts hown hlocks hA hK hX hN hP hD hS hl
  replace hl : lv_has ls 4 [(0, .ref (eO E)), (1, .int a), (2, .ref oo)] := hl
  refine lv_aload_n hx hb dL_whereIs_0 rfl (lv_at hl 2 rfl) ?_
  refine lv_iconst (v := nI 0) hx hb dL_whereIs_1 (by decide) ?_
  refine lv_aload_n hx hb dL_whereIs_2 rfl (lv_at hl 0 rfl) ?_
  refine lv_iload_n hx hb dL_whereIs_3 rfl (lv_at hl 1 rfl) ?_
  refine j_calli (pre := [(oo, oC lc f)]) (w1 := cW E x) (As := [.int a]) (rest := [.int (nI 0), .ref oo]) ⟨hx, hb, hml, hown, hts⟩ hC (cwV 1 hts gL_whereIs_X2_whereIs rfl h1 h2 (by decide +kernel) ⟨by have := h3; show rm0.frames + 1 ≤ 8; omega, by have := h4; show 8 + (2 + 11) + rm0.locals ≤ 170; omega⟩) (va_recv hK hP (ci := 3) (q0 := 1) rfl rfl) hK hX hP hD hS hA hmap rfl hl.1 rfl (Nat.le_of_ble_eq_true rfl) dL_whereIs_4 ⟨by show 0 + mc ≤ mc; omega, by show 0 + ms ≤ ms; omega⟩ (fun v u H locs hw hP hD hS => ?_)
  refine lv_i2l (v := v.toInt64) hx hb dL_whereIs_7 rfl ?_
  refine va_last hx hb hK hP hD hS 0 5 rfl rfl (vp_in_nI (by decide) (by decide)) dL_whereIs_8 (fun H locs hP hD hS => ?_)
  replace hP : va_P D vwCl ([(oo, oC lc (vp_updL f 0 v.toInt64))] ++ wf u) H := hP
  replace hD : va_D A ([(oo, oC lc (vp_updL f 0 v.toInt64))] ++ wf u) := hD
  refine lv_goto (tgt := 15) hx hb dL_whereIs_9 (by decide) ?_
  refine lv_iconst (v := nI 0) hx hb dL_whereIs_15 (by decide) ?_
  refine W.widen (k := mc) (n := ms) (by omega) (by omega) ?_
  exact W.iret hx hb hr (fun t ht hW => ⟨⟨_, (v, u), rfl, ⟨rfl, hw⟩, by rw [ht]; exact hP, va_K.moved hW.alike hK, hD⟩, hS.F ht⟩) hS.2.2 dL_whereIs_16

set_option maxHeartbeats 4000000 in
set_option maxRecDepth 100000 in
theorem j_placeOf_ok {S : Type} {post : Int32 → S → Prop} {wf : S → va_W} (mc ms : Nat) (l : Launch) (D : va_G) (E : cE) (tl : gTy) (lc : ClassId) (oo : Nat) (f : Nat → Int64) (x : Nat → Nat → Int32) (a : Int32) (rm0 : Room) (h1 : rm0.cells = mc) (h2 : rm0.slots = ms) (h3 : rm0.frames ≤ 7) (h4 : rm0.locals ≤ 135) (hC : hI l yX2_placeOf wsX2_placeOf rm0 D E ((lc, .long) :: tl) (cW E x) [.ref (eO E), .int a] post wf mc ms) (hmap : ∀ r u, post r u → ∃ new : List Nat, (wf u).map Prod.fst = (cW E x).map Prod.fst ++ new ∧ new.length ≤ 1) : jI l yL_placeOf wsL_placeOf ({ frames := 8, cells := mc, slots := ms, locals := 170 } : Room) D E ((lc, .long) :: tl) ([(oo, oC lc f)] ++ cW E x) [.ref (eO E), .int a, .ref oo] (fun r (u : Int32 × S) => r = nI 0 ∧ post u.1 u.2) (fun u => [(oo, oC lc (vp_updL f 0 u.1.toInt64))] ++ wf u.2) mc ms := by
  refine jI.start (cc := cL_placeOf) (maxL := 4) (ret := some .int) (own := RL) (hh := [(0, 9, 12, 13)]) rfl (by decide) rfl (Nat.le_of_ble_eq_true rfl) ?_
  intro pr e s m args below meth c A ls H locs hx hb hml hr ht hts hown hlocks hA hK hX hN hP hD hS hl
  replace hl : lv_has ls 4 [(0, .ref (eO E)), (1, .int a), (2, .ref oo)] := hl
  refine lv_aload_n hx hb dL_placeOf_0 rfl (lv_at hl 2 rfl) ?_
  refine lv_iconst (v := nI 0) hx hb dL_placeOf_1 (by decide) ?_
  refine lv_aload_n hx hb dL_placeOf_2 rfl (lv_at hl 0 rfl) ?_
  refine lv_iload_n hx hb dL_placeOf_3 rfl (lv_at hl 1 rfl) ?_
  refine j_calli (pre := [(oo, oC lc f)]) (w1 := cW E x) (As := [.int a]) (rest := [.int (nI 0), .ref oo]) ⟨hx, hb, hml, hown, hts⟩ hC (cwV 1 hts gL_placeOf_X2_placeOf rfl h1 h2 (by decide +kernel) ⟨by have := h3; show rm0.frames + 1 ≤ 8; omega, by have := h4; show 8 + (2 + 11) + rm0.locals ≤ 170; omega⟩) (va_recv hK hP (ci := 3) (q0 := 1) rfl rfl) hK hX hP hD hS hA hmap rfl hl.1 rfl (Nat.le_of_ble_eq_true rfl) dL_placeOf_4 ⟨by show 0 + mc ≤ mc; omega, by show 0 + ms ≤ ms; omega⟩ (fun v u H locs hw hP hD hS => ?_)
  refine lv_i2l (v := v.toInt64) hx hb dL_placeOf_7 rfl ?_
  refine va_last hx hb hK hP hD hS 0 5 rfl rfl (vp_in_nI (by decide) (by decide)) dL_placeOf_8 (fun H locs hP hD hS => ?_)
  replace hP : va_P D vwCl ([(oo, oC lc (vp_updL f 0 v.toInt64))] ++ wf u) H := hP
  replace hD : va_D A ([(oo, oC lc (vp_updL f 0 v.toInt64))] ++ wf u) := hD
  refine lv_goto (tgt := 15) hx hb dL_placeOf_9 (by decide) ?_
  refine lv_iconst (v := nI 0) hx hb dL_placeOf_15 (by decide) ?_
  refine W.widen (k := mc) (n := ms) (by omega) (by omega) ?_
  exact W.iret hx hb hr (fun t ht hW => ⟨⟨_, (v, u), rfl, ⟨rfl, hw⟩, by rw [ht]; exact hP, va_K.moved hW.alike hK, hD⟩, hS.F ht⟩) hS.2.2 dL_placeOf_16

set_option maxHeartbeats 4000000 in
set_option maxRecDepth 100000 in
theorem j_turnOf_ok {S : Type} {post : Int32 → S → Prop} {wf : S → va_W} (mc ms : Nat) (l : Launch) (D : va_G) (E : cE) (tl : gTy) (lc : ClassId) (oo : Nat) (f : Nat → Int64) (x : Nat → Nat → Int32) (a : Int32) (rm0 : Room) (h1 : rm0.cells = mc) (h2 : rm0.slots = ms) (h3 : rm0.frames ≤ 7) (h4 : rm0.locals ≤ 135) (hC : hI l yX2_turnOf wsX2_turnOf rm0 D E ((lc, .long) :: tl) (cW E x) [.ref (eO E), .int a] post wf mc ms) (hmap : ∀ r u, post r u → ∃ new : List Nat, (wf u).map Prod.fst = (cW E x).map Prod.fst ++ new ∧ new.length ≤ 1) : jI l yL_turnOf wsL_turnOf ({ frames := 8, cells := mc, slots := ms, locals := 170 } : Room) D E ((lc, .long) :: tl) ([(oo, oC lc f)] ++ cW E x) [.ref (eO E), .int a, .ref oo] (fun r (u : Int32 × S) => r = nI 0 ∧ post u.1 u.2) (fun u => [(oo, oC lc (vp_updL f 0 u.1.toInt64))] ++ wf u.2) mc ms := by
  refine jI.start (cc := cL_turnOf) (maxL := 4) (ret := some .int) (own := RL) (hh := [(0, 9, 12, 13)]) rfl (by decide) rfl (Nat.le_of_ble_eq_true rfl) ?_
  intro pr e s m args below meth c A ls H locs hx hb hml hr ht hts hown hlocks hA hK hX hN hP hD hS hl
  replace hl : lv_has ls 4 [(0, .ref (eO E)), (1, .int a), (2, .ref oo)] := hl
  refine lv_aload_n hx hb dL_turnOf_0 rfl (lv_at hl 2 rfl) ?_
  refine lv_iconst (v := nI 0) hx hb dL_turnOf_1 (by decide) ?_
  refine lv_aload_n hx hb dL_turnOf_2 rfl (lv_at hl 0 rfl) ?_
  refine lv_iload_n hx hb dL_turnOf_3 rfl (lv_at hl 1 rfl) ?_
  refine j_calli (pre := [(oo, oC lc f)]) (w1 := cW E x) (As := [.int a]) (rest := [.int (nI 0), .ref oo]) ⟨hx, hb, hml, hown, hts⟩ hC (cwV 1 hts gL_turnOf_X2_turnOf rfl h1 h2 (by decide +kernel) ⟨by have := h3; show rm0.frames + 1 ≤ 8; omega, by have := h4; show 8 + (2 + 11) + rm0.locals ≤ 170; omega⟩) (va_recv hK hP (ci := 3) (q0 := 1) rfl rfl) hK hX hP hD hS hA hmap rfl hl.1 rfl (Nat.le_of_ble_eq_true rfl) dL_turnOf_4 ⟨by show 0 + mc ≤ mc; omega, by show 0 + ms ≤ ms; omega⟩ (fun v u H locs hw hP hD hS => ?_)
  refine lv_i2l (v := v.toInt64) hx hb dL_turnOf_7 rfl ?_
  refine va_last hx hb hK hP hD hS 0 5 rfl rfl (vp_in_nI (by decide) (by decide)) dL_turnOf_8 (fun H locs hP hD hS => ?_)
  replace hP : va_P D vwCl ([(oo, oC lc (vp_updL f 0 v.toInt64))] ++ wf u) H := hP
  replace hD : va_D A ([(oo, oC lc (vp_updL f 0 v.toInt64))] ++ wf u) := hD
  refine lv_goto (tgt := 15) hx hb dL_turnOf_9 (by decide) ?_
  refine lv_iconst (v := nI 0) hx hb dL_turnOf_15 (by decide) ?_
  refine W.widen (k := mc) (n := ms) (by omega) (by omega) ?_
  exact W.iret hx hb hr (fun t ht hW => ⟨⟨_, (v, u), rfl, ⟨rfl, hw⟩, by rw [ht]; exact hP, va_K.moved hW.alike hK, hD⟩, hS.F ht⟩) hS.2.2 dL_turnOf_16

set_option maxHeartbeats 4000000 in
set_option maxRecDepth 100000 in
theorem j_stamps_ok {S : Type} {post : Int32 → S → Prop} {wf : S → va_W} (mc ms : Nat) (l : Launch) (D : va_G) (E : cE) (tl : gTy) (lc : ClassId) (oo : Nat) (f : Nat → Int64) (x : Nat → Nat → Int32) (a : Int32) (rm0 : Room) (h1 : rm0.cells = mc) (h2 : rm0.slots = ms) (h3 : rm0.frames ≤ 7) (h4 : rm0.locals ≤ 135) (hC : hI l yX2_stamps wsX2_stamps rm0 D E ((lc, .long) :: tl) (cW E x) [.ref (eO E), .int a] post wf mc ms) (hmap : ∀ r u, post r u → ∃ new : List Nat, (wf u).map Prod.fst = (cW E x).map Prod.fst ++ new ∧ new.length ≤ 1) : jI l yL_stamps wsL_stamps ({ frames := 8, cells := mc, slots := ms, locals := 170 } : Room) D E ((lc, .long) :: tl) ([(oo, oC lc f)] ++ cW E x) [.ref (eO E), .int a, .ref oo] (fun r (u : Int32 × S) => r = nI 0 ∧ post u.1 u.2) (fun u => [(oo, oC lc (vp_updL f 0 u.1.toInt64))] ++ wf u.2) mc ms := by
  refine jI.start (cc := cL_stamps) (maxL := 4) (ret := some .int) (own := RL) (hh := [(0, 9, 12, 13)]) rfl (by decide) rfl (Nat.le_of_ble_eq_true rfl) ?_
  intro pr e s m args below meth c A ls H locs hx hb hml hr ht hts hown hlocks hA hK hX hN hP hD hS hl
  replace hl : lv_has ls 4 [(0, .ref (eO E)), (1, .int a), (2, .ref oo)] := hl
  refine lv_aload_n hx hb dL_stamps_0 rfl (lv_at hl 2 rfl) ?_
  refine lv_iconst (v := nI 0) hx hb dL_stamps_1 (by decide) ?_
  refine lv_aload_n hx hb dL_stamps_2 rfl (lv_at hl 0 rfl) ?_
  refine lv_iload_n hx hb dL_stamps_3 rfl (lv_at hl 1 rfl) ?_
  refine j_calli (pre := [(oo, oC lc f)]) (w1 := cW E x) (As := [.int a]) (rest := [.int (nI 0), .ref oo]) ⟨hx, hb, hml, hown, hts⟩ hC (cwV 1 hts gL_stamps_X2_stamps rfl h1 h2 (by decide +kernel) ⟨by have := h3; show rm0.frames + 1 ≤ 8; omega, by have := h4; show 8 + (2 + 11) + rm0.locals ≤ 170; omega⟩) (va_recv hK hP (ci := 3) (q0 := 1) rfl rfl) hK hX hP hD hS hA hmap rfl hl.1 rfl (Nat.le_of_ble_eq_true rfl) dL_stamps_4 ⟨by show 0 + mc ≤ mc; omega, by show 0 + ms ≤ ms; omega⟩ (fun v u H locs hw hP hD hS => ?_)
  refine lv_i2l (v := v.toInt64) hx hb dL_stamps_7 rfl ?_
  refine va_last hx hb hK hP hD hS 0 5 rfl rfl (vp_in_nI (by decide) (by decide)) dL_stamps_8 (fun H locs hP hD hS => ?_)
  replace hP : va_P D vwCl ([(oo, oC lc (vp_updL f 0 v.toInt64))] ++ wf u) H := hP
  replace hD : va_D A ([(oo, oC lc (vp_updL f 0 v.toInt64))] ++ wf u) := hD
  refine lv_goto (tgt := 15) hx hb dL_stamps_9 (by decide) ?_
  refine lv_iconst (v := nI 0) hx hb dL_stamps_15 (by decide) ?_
  refine W.widen (k := mc) (n := ms) (by omega) (by omega) ?_
  exact W.iret hx hb hr (fun t ht hW => ⟨⟨_, (v, u), rfl, ⟨rfl, hw⟩, by rw [ht]; exact hP, va_K.moved hW.alike hK, hD⟩, hS.F ht⟩) hS.2.2 dL_stamps_16

set_option maxHeartbeats 4000000 in
set_option maxRecDepth 100000 in
theorem j_queue_ok {S : Type} {post : Int32 → S → Prop} {wf : S → va_W} (mc ms : Nat) (l : Launch) (D : va_G) (E : cE) (tl : gTy) (lc : ClassId) (oo : Nat) (f : Nat → Int64) (x : Nat → Nat → Int32) (a : Int32) (rm0 : Room) (h1 : rm0.cells = mc) (h2 : rm0.slots = ms) (h3 : rm0.frames ≤ 7) (h4 : rm0.locals ≤ 135) (hC : hI l yX2_queue wsX2_queue rm0 D E ((lc, .long) :: tl) (cW E x) [.ref (eO E), .int a] post wf mc ms) (hmap : ∀ r u, post r u → ∃ new : List Nat, (wf u).map Prod.fst = (cW E x).map Prod.fst ++ new ∧ new.length ≤ 1) : jI l yL_queue wsL_queue ({ frames := 8, cells := mc, slots := ms, locals := 170 } : Room) D E ((lc, .long) :: tl) ([(oo, oC lc f)] ++ cW E x) [.ref (eO E), .int a, .ref oo] (fun r (u : Int32 × S) => r = nI 0 ∧ post u.1 u.2) (fun u => [(oo, oC lc (vp_updL f 0 u.1.toInt64))] ++ wf u.2) mc ms := by
  refine jI.start (cc := cL_queue) (maxL := 4) (ret := some .int) (own := RL) (hh := [(0, 9, 12, 13)]) rfl (by decide) rfl (Nat.le_of_ble_eq_true rfl) ?_
  intro pr e s m args below meth c A ls H locs hx hb hml hr ht hts hown hlocks hA hK hX hN hP hD hS hl
  replace hl : lv_has ls 4 [(0, .ref (eO E)), (1, .int a), (2, .ref oo)] := hl
  refine lv_aload_n hx hb dL_queue_0 rfl (lv_at hl 2 rfl) ?_
  refine lv_iconst (v := nI 0) hx hb dL_queue_1 (by decide) ?_
  refine lv_aload_n hx hb dL_queue_2 rfl (lv_at hl 0 rfl) ?_
  refine lv_iload_n hx hb dL_queue_3 rfl (lv_at hl 1 rfl) ?_
  refine j_calli (pre := [(oo, oC lc f)]) (w1 := cW E x) (As := [.int a]) (rest := [.int (nI 0), .ref oo]) ⟨hx, hb, hml, hown, hts⟩ hC (cwV 1 hts gL_queue_X2_queue rfl h1 h2 (by decide +kernel) ⟨by have := h3; show rm0.frames + 1 ≤ 8; omega, by have := h4; show 8 + (2 + 11) + rm0.locals ≤ 170; omega⟩) (va_recv hK hP (ci := 3) (q0 := 1) rfl rfl) hK hX hP hD hS hA hmap rfl hl.1 rfl (Nat.le_of_ble_eq_true rfl) dL_queue_4 ⟨by show 0 + mc ≤ mc; omega, by show 0 + ms ≤ ms; omega⟩ (fun v u H locs hw hP hD hS => ?_)
  refine lv_i2l (v := v.toInt64) hx hb dL_queue_7 rfl ?_
  refine va_last hx hb hK hP hD hS 0 5 rfl rfl (vp_in_nI (by decide) (by decide)) dL_queue_8 (fun H locs hP hD hS => ?_)
  replace hP : va_P D vwCl ([(oo, oC lc (vp_updL f 0 v.toInt64))] ++ wf u) H := hP
  replace hD : va_D A ([(oo, oC lc (vp_updL f 0 v.toInt64))] ++ wf u) := hD
  refine lv_goto (tgt := 15) hx hb dL_queue_9 (by decide) ?_
  refine lv_iconst (v := nI 0) hx hb dL_queue_15 (by decide) ?_
  refine W.widen (k := mc) (n := ms) (by omega) (by omega) ?_
  exact W.iret hx hb hr (fun t ht hW => ⟨⟨_, (v, u), rfl, ⟨rfl, hw⟩, by rw [ht]; exact hP, va_K.moved hW.alike hK, hD⟩, hS.F ht⟩) hS.2.2 dL_queue_16

set_option maxHeartbeats 4000000 in
set_option maxRecDepth 100000 in
theorem j_inside_ok {S : Type} {post : Int32 → S → Prop} {wf : S → va_W} (mc ms : Nat) (l : Launch) (D : va_G) (E : cE) (tl : gTy) (lc : ClassId) (oo : Nat) (f : Nat → Int64) (x : Nat → Nat → Int32) (a : Int32) (rm0 : Room) (h1 : rm0.cells = mc) (h2 : rm0.slots = ms) (h3 : rm0.frames ≤ 7) (h4 : rm0.locals ≤ 135) (hC : hI l yX2_inside wsX2_inside rm0 D E ((lc, .long) :: tl) (cW E x) [.ref (eO E), .int a] post wf mc ms) (hmap : ∀ r u, post r u → ∃ new : List Nat, (wf u).map Prod.fst = (cW E x).map Prod.fst ++ new ∧ new.length ≤ 1) : jI l yL_inside wsL_inside ({ frames := 8, cells := mc, slots := ms, locals := 170 } : Room) D E ((lc, .long) :: tl) ([(oo, oC lc f)] ++ cW E x) [.ref (eO E), .int a, .ref oo] (fun r (u : Int32 × S) => r = nI 0 ∧ post u.1 u.2) (fun u => [(oo, oC lc (vp_updL f 0 u.1.toInt64))] ++ wf u.2) mc ms := by
  refine jI.start (cc := cL_inside) (maxL := 4) (ret := some .int) (own := RL) (hh := [(0, 9, 12, 13)]) rfl (by decide) rfl (Nat.le_of_ble_eq_true rfl) ?_
  intro pr e s m args below meth c A ls H locs hx hb hml hr ht hts hown hlocks hA hK hX hN hP hD hS hl
  replace hl : lv_has ls 4 [(0, .ref (eO E)), (1, .int a), (2, .ref oo)] := hl
  refine lv_aload_n hx hb dL_inside_0 rfl (lv_at hl 2 rfl) ?_
  refine lv_iconst (v := nI 0) hx hb dL_inside_1 (by decide) ?_
  refine lv_aload_n hx hb dL_inside_2 rfl (lv_at hl 0 rfl) ?_
  refine lv_iload_n hx hb dL_inside_3 rfl (lv_at hl 1 rfl) ?_
  refine j_calli (pre := [(oo, oC lc f)]) (w1 := cW E x) (As := [.int a]) (rest := [.int (nI 0), .ref oo]) ⟨hx, hb, hml, hown, hts⟩ hC (cwV 1 hts gL_inside_X2_inside rfl h1 h2 (by decide +kernel) ⟨by have := h3; show rm0.frames + 1 ≤ 8; omega, by have := h4; show 8 + (2 + 11) + rm0.locals ≤ 170; omega⟩) (va_recv hK hP (ci := 3) (q0 := 1) rfl rfl) hK hX hP hD hS hA hmap rfl hl.1 rfl (Nat.le_of_ble_eq_true rfl) dL_inside_4 ⟨by show 0 + mc ≤ mc; omega, by show 0 + ms ≤ ms; omega⟩ (fun v u H locs hw hP hD hS => ?_)
  refine lv_i2l (v := v.toInt64) hx hb dL_inside_7 rfl ?_
  refine va_last hx hb hK hP hD hS 0 5 rfl rfl (vp_in_nI (by decide) (by decide)) dL_inside_8 (fun H locs hP hD hS => ?_)
  replace hP : va_P D vwCl ([(oo, oC lc (vp_updL f 0 v.toInt64))] ++ wf u) H := hP
  replace hD : va_D A ([(oo, oC lc (vp_updL f 0 v.toInt64))] ++ wf u) := hD
  refine lv_goto (tgt := 15) hx hb dL_inside_9 (by decide) ?_
  refine lv_iconst (v := nI 0) hx hb dL_inside_15 (by decide) ?_
  refine W.widen (k := mc) (n := ms) (by omega) (by omega) ?_
  exact W.iret hx hb hr (fun t ht hW => ⟨⟨_, (v, u), rfl, ⟨rfl, hw⟩, by rw [ht]; exact hP, va_K.moved hW.alike hK, hD⟩, hS.F ht⟩) hS.2.2 dL_inside_16

set_option maxHeartbeats 4000000 in
set_option maxRecDepth 100000 in
theorem j_stock_ok {S : Type} {post : Int32 → S → Prop} {wf : S → va_W} (mc ms : Nat) (l : Launch) (D : va_G) (E : cE) (tl : gTy) (lc : ClassId) (oo : Nat) (f : Nat → Int64) (x : Nat → Nat → Int32) (a : Int32) (rm0 : Room) (h1 : rm0.cells = mc) (h2 : rm0.slots = ms) (h3 : rm0.frames ≤ 7) (h4 : rm0.locals ≤ 135) (hC : hI l yX2_stock wsX2_stock rm0 D E ((lc, .long) :: tl) (cW E x) [.ref (eO E), .int a] post wf mc ms) (hmap : ∀ r u, post r u → ∃ new : List Nat, (wf u).map Prod.fst = (cW E x).map Prod.fst ++ new ∧ new.length ≤ 1) : jI l yL_stock wsL_stock ({ frames := 8, cells := mc, slots := ms, locals := 170 } : Room) D E ((lc, .long) :: tl) ([(oo, oC lc f)] ++ cW E x) [.ref (eO E), .int a, .ref oo] (fun r (u : Int32 × S) => r = nI 0 ∧ post u.1 u.2) (fun u => [(oo, oC lc (vp_updL f 0 u.1.toInt64))] ++ wf u.2) mc ms := by
  refine jI.start (cc := cL_stock) (maxL := 4) (ret := some .int) (own := RL) (hh := [(0, 9, 12, 13)]) rfl (by decide) rfl (Nat.le_of_ble_eq_true rfl) ?_
  intro pr e s m args below meth c A ls H locs hx hb hml hr ht hts hown hlocks hA hK hX hN hP hD hS hl
  replace hl : lv_has ls 4 [(0, .ref (eO E)), (1, .int a), (2, .ref oo)] := hl
  refine lv_aload_n hx hb dL_stock_0 rfl (lv_at hl 2 rfl) ?_
  refine lv_iconst (v := nI 0) hx hb dL_stock_1 (by decide) ?_
  refine lv_aload_n hx hb dL_stock_2 rfl (lv_at hl 0 rfl) ?_
  refine lv_iload_n hx hb dL_stock_3 rfl (lv_at hl 1 rfl) ?_
  refine j_calli (pre := [(oo, oC lc f)]) (w1 := cW E x) (As := [.int a]) (rest := [.int (nI 0), .ref oo]) ⟨hx, hb, hml, hown, hts⟩ hC (cwV 1 hts gL_stock_X2_stock rfl h1 h2 (by decide +kernel) ⟨by have := h3; show rm0.frames + 1 ≤ 8; omega, by have := h4; show 8 + (2 + 11) + rm0.locals ≤ 170; omega⟩) (va_recv hK hP (ci := 3) (q0 := 1) rfl rfl) hK hX hP hD hS hA hmap rfl hl.1 rfl (Nat.le_of_ble_eq_true rfl) dL_stock_4 ⟨by show 0 + mc ≤ mc; omega, by show 0 + ms ≤ ms; omega⟩ (fun v u H locs hw hP hD hS => ?_)
  refine lv_i2l (v := v.toInt64) hx hb dL_stock_7 rfl ?_
  refine va_last hx hb hK hP hD hS 0 5 rfl rfl (vp_in_nI (by decide) (by decide)) dL_stock_8 (fun H locs hP hD hS => ?_)
  replace hP : va_P D vwCl ([(oo, oC lc (vp_updL f 0 v.toInt64))] ++ wf u) H := hP
  replace hD : va_D A ([(oo, oC lc (vp_updL f 0 v.toInt64))] ++ wf u) := hD
  refine lv_goto (tgt := 15) hx hb dL_stock_9 (by decide) ?_
  refine lv_iconst (v := nI 0) hx hb dL_stock_15 (by decide) ?_
  refine W.widen (k := mc) (n := ms) (by omega) (by omega) ?_
  exact W.iret hx hb hr (fun t ht hW => ⟨⟨_, (v, u), rfl, ⟨rfl, hw⟩, by rw [ht]; exact hP, va_K.moved hW.alike hK, hD⟩, hS.F ht⟩) hS.2.2 dL_stock_16

set_option maxHeartbeats 4000000 in
set_option maxRecDepth 100000 in
theorem j_demand_ok {S : Type} {post : Int32 → S → Prop} {wf : S → va_W} (mc ms : Nat) (l : Launch) (D : va_G) (E : cE) (tl : gTy) (lc : ClassId) (oo : Nat) (f : Nat → Int64) (x : Nat → Nat → Int32) (a : Int32) (rm0 : Room) (h1 : rm0.cells = mc) (h2 : rm0.slots = ms) (h3 : rm0.frames ≤ 7) (h4 : rm0.locals ≤ 135) (hC : hI l yX2_demand wsX2_demand rm0 D E ((lc, .long) :: tl) (cW E x) [.ref (eO E), .int a] post wf mc ms) (hmap : ∀ r u, post r u → ∃ new : List Nat, (wf u).map Prod.fst = (cW E x).map Prod.fst ++ new ∧ new.length ≤ 1) : jI l yL_demand wsL_demand ({ frames := 8, cells := mc, slots := ms, locals := 170 } : Room) D E ((lc, .long) :: tl) ([(oo, oC lc f)] ++ cW E x) [.ref (eO E), .int a, .ref oo] (fun r (u : Int32 × S) => r = nI 0 ∧ post u.1 u.2) (fun u => [(oo, oC lc (vp_updL f 0 u.1.toInt64))] ++ wf u.2) mc ms := by
  refine jI.start (cc := cL_demand) (maxL := 4) (ret := some .int) (own := RL) (hh := [(0, 9, 12, 13)]) rfl (by decide) rfl (Nat.le_of_ble_eq_true rfl) ?_
  intro pr e s m args below meth c A ls H locs hx hb hml hr ht hts hown hlocks hA hK hX hN hP hD hS hl
  replace hl : lv_has ls 4 [(0, .ref (eO E)), (1, .int a), (2, .ref oo)] := hl
  refine lv_aload_n hx hb dL_demand_0 rfl (lv_at hl 2 rfl) ?_
  refine lv_iconst (v := nI 0) hx hb dL_demand_1 (by decide) ?_
  refine lv_aload_n hx hb dL_demand_2 rfl (lv_at hl 0 rfl) ?_
  refine lv_iload_n hx hb dL_demand_3 rfl (lv_at hl 1 rfl) ?_
  refine j_calli (pre := [(oo, oC lc f)]) (w1 := cW E x) (As := [.int a]) (rest := [.int (nI 0), .ref oo]) ⟨hx, hb, hml, hown, hts⟩ hC (cwV 1 hts gL_demand_X2_demand rfl h1 h2 (by decide +kernel) ⟨by have := h3; show rm0.frames + 1 ≤ 8; omega, by have := h4; show 8 + (2 + 11) + rm0.locals ≤ 170; omega⟩) (va_recv hK hP (ci := 3) (q0 := 1) rfl rfl) hK hX hP hD hS hA hmap rfl hl.1 rfl (Nat.le_of_ble_eq_true rfl) dL_demand_4 ⟨by show 0 + mc ≤ mc; omega, by show 0 + ms ≤ ms; omega⟩ (fun v u H locs hw hP hD hS => ?_)
  refine lv_i2l (v := v.toInt64) hx hb dL_demand_7 rfl ?_
  refine va_last hx hb hK hP hD hS 0 5 rfl rfl (vp_in_nI (by decide) (by decide)) dL_demand_8 (fun H locs hP hD hS => ?_)
  replace hP : va_P D vwCl ([(oo, oC lc (vp_updL f 0 v.toInt64))] ++ wf u) H := hP
  replace hD : va_D A ([(oo, oC lc (vp_updL f 0 v.toInt64))] ++ wf u) := hD
  refine lv_goto (tgt := 15) hx hb dL_demand_9 (by decide) ?_
  refine lv_iconst (v := nI 0) hx hb dL_demand_15 (by decide) ?_
  refine W.widen (k := mc) (n := ms) (by omega) (by omega) ?_
  exact W.iret hx hb hr (fun t ht hW => ⟨⟨_, (v, u), rfl, ⟨rfl, hw⟩, by rw [ht]; exact hP, va_K.moved hW.alike hK, hD⟩, hS.F ht⟩) hS.2.2 dL_demand_16

set_option maxHeartbeats 4000000 in
set_option maxRecDepth 100000 in
theorem j_sent_ok {S : Type} {post : Int32 → S → Prop} {wf : S → va_W} (mc ms : Nat) (l : Launch) (D : va_G) (E : cE) (tl : gTy) (lc : ClassId) (oo : Nat) (f : Nat → Int64) (x : Nat → Nat → Int32) (a b : Int32) (rm0 : Room) (h1 : rm0.cells = mc) (h2 : rm0.slots = ms) (h3 : rm0.frames ≤ 7) (h4 : rm0.locals ≤ 135) (hC : hI l yX2_sent wsX2_sent rm0 D E ((lc, .long) :: tl) (cW E x) [.ref (eO E), .int a, .int b] post wf mc ms) (hmap : ∀ r u, post r u → ∃ new : List Nat, (wf u).map Prod.fst = (cW E x).map Prod.fst ++ new ∧ new.length ≤ 1) : jI l yL_sent wsL_sent ({ frames := 8, cells := mc, slots := ms, locals := 170 } : Room) D E ((lc, .long) :: tl) ([(oo, oC lc f)] ++ cW E x) [.ref (eO E), .int a, .int b, .ref oo] (fun r (u : Int32 × S) => r = nI 0 ∧ post u.1 u.2) (fun u => [(oo, oC lc (vp_updL f 0 u.1.toInt64))] ++ wf u.2) mc ms := by
  refine jI.start (cc := cL_sent) (maxL := 5) (ret := some .int) (own := RL) (hh := [(0, 10, 13, 13)]) rfl (by decide) rfl (Nat.le_of_ble_eq_true rfl) ?_
  intro pr e s m args below meth c A ls H locs hx hb hml hr ht hts hown hlocks hA hK hX hN hP hD hS hl
  replace hl : lv_has ls 5 [(0, .ref (eO E)), (1, .int a), (2, .int b), (3, .ref oo)] := hl
  refine lv_aload_n hx hb dL_sent_0 rfl (lv_at hl 3 rfl) ?_
  refine lv_iconst (v := nI 0) hx hb dL_sent_1 (by decide) ?_
  refine lv_aload_n hx hb dL_sent_2 rfl (lv_at hl 0 rfl) ?_
  refine lv_iload_n hx hb dL_sent_3 rfl (lv_at hl 1 rfl) ?_
  refine lv_iload_n hx hb dL_sent_4 rfl (lv_at hl 2 rfl) ?_
  refine j_calli (pre := [(oo, oC lc f)]) (w1 := cW E x) (As := [.int a, .int b]) (rest := [.int (nI 0), .ref oo]) ⟨hx, hb, hml, hown, hts⟩ hC (cwV 2 hts gL_sent_X2_sent rfl h1 h2 (by decide +kernel) ⟨by have := h3; show rm0.frames + 1 ≤ 8; omega, by have := h4; show 8 + (5 + 11) + rm0.locals ≤ 170; omega⟩) (va_recv hK hP (ci := 3) (q0 := 1) rfl rfl) hK hX hP hD hS hA hmap rfl hl.1 rfl (Nat.le_of_ble_eq_true rfl) dL_sent_5 ⟨by show 0 + mc ≤ mc; omega, by show 0 + ms ≤ ms; omega⟩ (fun v u H locs hw hP hD hS => ?_)
  refine lv_i2l (v := v.toInt64) hx hb dL_sent_8 rfl ?_
  refine va_last hx hb hK hP hD hS 0 5 rfl rfl (vp_in_nI (by decide) (by decide)) dL_sent_9 (fun H locs hP hD hS => ?_)
  replace hP : va_P D vwCl ([(oo, oC lc (vp_updL f 0 v.toInt64))] ++ wf u) H := hP
  replace hD : va_D A ([(oo, oC lc (vp_updL f 0 v.toInt64))] ++ wf u) := hD
  refine lv_goto (tgt := 17) hx hb dL_sent_10 (by decide) ?_
  refine lv_iconst (v := nI 0) hx hb dL_sent_17 (by decide) ?_
  refine W.widen (k := mc) (n := ms) (by omega) (by omega) ?_
  exact W.iret hx hb hr (fun t ht hW => ⟨⟨_, (v, u), rfl, ⟨rfl, hw⟩, by rw [ht]; exact hP, va_K.moved hW.alike hK, hD⟩, hS.F ht⟩) hS.2.2 dL_sent_18

set_option maxHeartbeats 4000000 in
set_option maxRecDepth 100000 in
theorem j_setPavilion_ok {S : Type} {post : S → Prop} {wf : S → va_W} (mc ms : Nat) (l : Launch) (D : va_G) (E : cE) (tl : gTy) (lc : ClassId) (oo : Nat) (f : Nat → Int64) (x : Nat → Nat → Int32) (a b d : Int32) (rm0 : Room) (h1 : rm0.cells = mc) (h2 : rm0.slots = ms) (h3 : rm0.frames ≤ 7) (h4 : rm0.locals ≤ 135) (hC : hV l yX2_setPavilion wsX2_setPavilion rm0 D E ((lc, .long) :: tl) (cW E x) [.ref (eO E), .int a, .int b, .int d] post wf mc ms) (hmap : ∀ u, post u → ∃ new : List Nat, (wf u).map Prod.fst = (cW E x).map Prod.fst ++ new ∧ new.length ≤ 1) : jI l yL_setPavilion wsL_setPavilion ({ frames := 8, cells := mc, slots := ms, locals := 170 } : Room) D E ((lc, .long) :: tl) ([(oo, oC lc f)] ++ cW E x) [.ref (eO E), .int a, .int b, .int d] (fun r (u : S) => r = nI 0 ∧ post u) (fun u => [(oo, oC lc f)] ++ wf u) mc ms := by
  refine jI.start (cc := cL_setPavilion) (maxL := 5) (ret := some .int) (own := RL) (hh := [(0, 7, 10, 13), (0, 7, 14, 15)]) rfl (by decide) rfl (Nat.le_of_ble_eq_true rfl) ?_
  intro pr e s m args below meth c A ls H locs hx hb hml hr ht hts hown hlocks hA hK hX hN hP hD hS hl
  replace hl : lv_has ls 5 [(0, .ref (eO E)), (1, .int a), (2, .int b), (3, .int d)] := hl
  refine lv_aload_n hx hb dL_setPavilion_0 rfl (lv_at hl 0 rfl) ?_
  refine lv_iload_n hx hb dL_setPavilion_1 rfl (lv_at hl 1 rfl) ?_
  refine lv_iload_n hx hb dL_setPavilion_2 rfl (lv_at hl 2 rfl) ?_
  refine lv_iload_n hx hb dL_setPavilion_3 rfl (lv_at hl 3 rfl) ?_
  refine j_callv (pre := [(oo, oC lc f)]) (w1 := cW E x) (As := [.int a, .int b, .int d]) (rest := []) ⟨hx, hb, hml, hown, hts⟩ hC (cwV 3 hts gL_setPavilion_X2_setPavilion rfl h1 h2 (by decide +kernel) ⟨by have := h3; show rm0.frames + 1 ≤ 8; omega, by have := h4; show 8 + (5 + 11) + rm0.locals ≤ 170; omega⟩) (va_recv hK hP (ci := 3) (q0 := 1) rfl rfl) hK hX hP hD hS hA hmap rfl hl.1 rfl (Nat.le_of_ble_eq_true rfl) dL_setPavilion_4 ⟨by show 0 + mc ≤ mc; omega, by show 0 + ms ≤ ms; omega⟩ (fun u H locs hw hP hD hS => ?_)
  refine lv_goto (tgt := 18) hx hb dL_setPavilion_7 (by decide) ?_
  refine lv_iconst (v := nI 0) hx hb dL_setPavilion_18 (by decide) ?_
  refine W.widen (k := mc) (n := ms) (by omega) (by omega) ?_
  exact W.iret hx hb hr (fun t ht hW => ⟨⟨_, u, rfl, ⟨rfl, hw⟩, by rw [ht]; exact hP, va_K.moved hW.alike hK, hD⟩, hS.F ht⟩) hS.2.2 dL_setPavilion_19

set_option maxHeartbeats 4000000 in
set_option maxRecDepth 100000 in
theorem j_setPavilion_t1  (l : Launch) (D : va_G) (E : cE) (tl : gTy) (lc : ClassId) (oo : Nat) (f : Nat → Int64) (x : Nat → Nat → Int32) (a b d : Int32) (rm0 : Room) (h1 : rm0.cells = 1) (h2 : rm0.slots = 6) (h3 : rm0.frames ≤ 7) (h4 : rm0.locals ≤ 135) (hC : hT l yX2_setPavilion wsX2_setPavilion rm0 D E ((lc, .long) :: tl) (cW E x) [.ref (eO E), .int a, .int b, .int d] "java/lang/IndexOutOfBoundsException") : jI l yL_setPavilion wsL_setPavilion ({ frames := 8, cells := 1, slots := 6, locals := 170 } : Room) D E ((lc, .long) :: tl) ([(oo, oC lc f)] ++ cW E x) [.ref (eO E), .int a, .int b, .int d] (fun r (u : Unit) => r = nI 1) (fun _ => [(oo, oC lc f)] ++ cW E x) 1 6 := by
  refine jI.start (cc := cL_setPavilion) (maxL := 5) (ret := some .int) (own := RL) (hh := [(0, 7, 10, 13), (0, 7, 14, 15)]) rfl (by decide) rfl (Nat.le_of_ble_eq_true rfl) ?_
  intro pr e s m args below meth c A ls H locs hx hb hml hr ht hts hown hlocks hA hK hX hN hP hD hS hl
  replace hl : lv_has ls 5 [(0, .ref (eO E)), (1, .int a), (2, .int b), (3, .int d)] := hl
  refine lv_aload_n hx hb dL_setPavilion_0 rfl (lv_at hl 0 rfl) ?_
  refine lv_iload_n hx hb dL_setPavilion_1 rfl (lv_at hl 1 rfl) ?_
  refine lv_iload_n hx hb dL_setPavilion_2 rfl (lv_at hl 2 rfl) ?_
  refine lv_iload_n hx hb dL_setPavilion_3 rfl (lv_at hl 3 rfl) ?_
  refine j_callt (pre := [(oo, oC lc f)]) (w1 := cW E x) (As := [.int a, .int b, .int d]) (rest := []) ⟨hx, hb, hml, hown, hts⟩ hC (cwV 3 hts gL_setPavilion_X2_setPavilion rfl h1 h2 (by decide +kernel) ⟨by have := h3; show rm0.frames + 1 ≤ 8; omega, by have := h4; show 8 + (5 + 11) + rm0.locals ≤ 170; omega⟩) (va_recv hK hP (ci := 3) (q0 := 1) rfl rfl) hK hX hP hD hS hA rfl hl.1 rfl (Nat.le_of_ble_eq_true rfl) dL_setPavilion_4 ⟨Nat.le_of_ble_eq_true rfl, Nat.le_of_ble_eq_true rfl⟩ (fun q9 ce H locs hP hS hcell hv hcl => ?_)
  refine vx_catch (own := RL) (name := "java/lang/IndexOutOfBoundsException") (E := "java/lang/IndexOutOfBoundsException") hown [] ⟨0, 7, 10, 13⟩ [(⟨0, 7, 14, 15⟩ : ExceptionTableEntry)] (ht.trans rfl) (fun z hz => by cases hz) (by decide) (by decide) (hts (.classLink RL 13 "java/lang/IndexOutOfBoundsException") (by decide +kernel)) (va_Nw.use rfl (hX.2.1 ("java/lang/IndexOutOfBoundsException", "java/lang/IndexOutOfBoundsException") (by decide))) hcell hv hcl ?_
  refine lv_astore (lv' := [(4, .ref q9), (0, .ref (eO E)), (1, .int a), (2, .int b), (3, .int d)]) hx hb dL_setPavilion_10 hl (by decide) rfl (fun ls hl => ?_)
  refine lv_iconst (v := nI 1) hx hb dL_setPavilion_12 (by decide) ?_
  exact W.iret hx hb hr (fun t ht hW => ⟨⟨_, (), rfl, rfl, by rw [ht]; exact hP, va_K.moved hW.alike hK, hD⟩, hS.F ht⟩) hS.2.2 dL_setPavilion_13

set_option maxHeartbeats 4000000 in
set_option maxRecDepth 100000 in
theorem j_setPavilion_t2  (l : Launch) (D : va_G) (E : cE) (tl : gTy) (lc : ClassId) (oo : Nat) (f : Nat → Int64) (x : Nat → Nat → Int32) (a b d : Int32) (rm0 : Room) (h1 : rm0.cells = 1) (h2 : rm0.slots = 6) (h3 : rm0.frames ≤ 7) (h4 : rm0.locals ≤ 135) (hC : hT l yX2_setPavilion wsX2_setPavilion rm0 D E ((lc, .long) :: tl) (cW E x) [.ref (eO E), .int a, .int b, .int d] "java/lang/IllegalArgumentException") : jI l yL_setPavilion wsL_setPavilion ({ frames := 8, cells := 1, slots := 6, locals := 170 } : Room) D E ((lc, .long) :: tl) ([(oo, oC lc f)] ++ cW E x) [.ref (eO E), .int a, .int b, .int d] (fun r (u : Unit) => r = nI 2) (fun _ => [(oo, oC lc f)] ++ cW E x) 1 6 := by
  refine jI.start (cc := cL_setPavilion) (maxL := 5) (ret := some .int) (own := RL) (hh := [(0, 7, 10, 13), (0, 7, 14, 15)]) rfl (by decide) rfl (Nat.le_of_ble_eq_true rfl) ?_
  intro pr e s m args below meth c A ls H locs hx hb hml hr ht hts hown hlocks hA hK hX hN hP hD hS hl
  replace hl : lv_has ls 5 [(0, .ref (eO E)), (1, .int a), (2, .int b), (3, .int d)] := hl
  refine lv_aload_n hx hb dL_setPavilion_0 rfl (lv_at hl 0 rfl) ?_
  refine lv_iload_n hx hb dL_setPavilion_1 rfl (lv_at hl 1 rfl) ?_
  refine lv_iload_n hx hb dL_setPavilion_2 rfl (lv_at hl 2 rfl) ?_
  refine lv_iload_n hx hb dL_setPavilion_3 rfl (lv_at hl 3 rfl) ?_
  refine j_callt (pre := [(oo, oC lc f)]) (w1 := cW E x) (As := [.int a, .int b, .int d]) (rest := []) ⟨hx, hb, hml, hown, hts⟩ hC (cwV 3 hts gL_setPavilion_X2_setPavilion rfl h1 h2 (by decide +kernel) ⟨by have := h3; show rm0.frames + 1 ≤ 8; omega, by have := h4; show 8 + (5 + 11) + rm0.locals ≤ 170; omega⟩) (va_recv hK hP (ci := 3) (q0 := 1) rfl rfl) hK hX hP hD hS hA rfl hl.1 rfl (Nat.le_of_ble_eq_true rfl) dL_setPavilion_4 ⟨Nat.le_of_ble_eq_true rfl, Nat.le_of_ble_eq_true rfl⟩ (fun q9 ce H locs hP hS hcell hv hcl => ?_)
  refine vx_catch (own := RL) (name := "java/lang/IllegalArgumentException") (E := "java/lang/IllegalArgumentException") hown [(⟨0, 7, 10, 13⟩ : ExceptionTableEntry)] ⟨0, 7, 14, 15⟩ [] (ht.trans rfl) (fun z hz => by rw [List.mem_singleton.mp hz]; exact Or.inr ⟨by decide, "java/lang/IndexOutOfBoundsException", hts (.classLink RL 13 "java/lang/IndexOutOfBoundsException") (by decide +kernel), hN ("java/lang/IllegalArgumentException", "java/lang/IndexOutOfBoundsException") (by decide)⟩) (by decide) (by decide) (hts (.classLink RL 15 "java/lang/IllegalArgumentException") (by decide +kernel)) (va_Nw.use rfl (hX.2.1 ("java/lang/IllegalArgumentException", "java/lang/IllegalArgumentException") (by decide))) hcell hv hcl ?_
  refine lv_astore (lv' := [(4, .ref q9), (0, .ref (eO E)), (1, .int a), (2, .int b), (3, .int d)]) hx hb dL_setPavilion_14 hl (by decide) rfl (fun ls hl => ?_)
  refine lv_iconst (v := nI 2) hx hb dL_setPavilion_16 (by decide) ?_
  exact W.iret hx hb hr (fun t ht hW => ⟨⟨_, (), rfl, rfl, by rw [ht]; exact hP, va_K.moved hW.alike hK, hD⟩, hS.F ht⟩) hS.2.2 dL_setPavilion_17

set_option maxHeartbeats 4000000 in
set_option maxRecDepth 100000 in
theorem j_open_t1  (l : Launch) (D : va_G) (E : cE) (tl : gTy) (lc : ClassId) (oo : Nat) (f : Nat → Int64) (x : Nat → Nat → Int32) (a b : Int32) (rm0 : Room) (h1 : rm0.cells = 1) (h2 : rm0.slots = 6) (h3 : rm0.frames ≤ 7) (h4 : rm0.locals ≤ 135) (hC : hT l yX2_open wsX2_open rm0 D E ((lc, .long) :: tl) (cW E x) [.ref (eO E), .int a, .int b] "java/lang/IndexOutOfBoundsException") : jI l yL_open wsL_open ({ frames := 8, cells := 1, slots := 6, locals := 170 } : Room) D E ((lc, .long) :: tl) ([(oo, oC lc f)] ++ cW E x) [.ref (eO E), .int a, .int b, .ref oo] (fun r (u : Unit) => r = nI 1) (fun _ => [(oo, oC lc f)] ++ cW E x) 1 6 := by
  refine jI.start (cc := cL_open) (maxL := 5) (ret := some .int) (own := RL) (hh := [(0, 10, 13, 13)]) rfl (by decide) rfl (Nat.le_of_ble_eq_true rfl) ?_
  intro pr e s m args below meth c A ls H locs hx hb hml hr ht hts hown hlocks hA hK hX hN hP hD hS hl
  replace hl : lv_has ls 5 [(0, .ref (eO E)), (1, .int a), (2, .int b), (3, .ref oo)] := hl
  refine lv_aload_n hx hb dL_open_0 rfl (lv_at hl 3 rfl) ?_
  refine lv_iconst (v := nI 0) hx hb dL_open_1 (by decide) ?_
  refine lv_aload_n hx hb dL_open_2 rfl (lv_at hl 0 rfl) ?_
  refine lv_iload_n hx hb dL_open_3 rfl (lv_at hl 1 rfl) ?_
  refine lv_iload_n hx hb dL_open_4 rfl (lv_at hl 2 rfl) ?_
  refine j_callt (pre := [(oo, oC lc f)]) (w1 := cW E x) (As := [.int a, .int b]) (rest := [.int (nI 0), .ref oo]) ⟨hx, hb, hml, hown, hts⟩ hC (cwV 2 hts gL_open_X2_open rfl h1 h2 (by decide +kernel) ⟨by have := h3; show rm0.frames + 1 ≤ 8; omega, by have := h4; show 8 + (4 + 11) + rm0.locals ≤ 170; omega⟩) (va_recv hK hP (ci := 3) (q0 := 1) rfl rfl) hK hX hP hD hS hA rfl hl.1 rfl (Nat.le_of_ble_eq_true rfl) dL_open_5 ⟨Nat.le_of_ble_eq_true rfl, Nat.le_of_ble_eq_true rfl⟩ (fun q9 ce H locs hP hS hcell hv hcl => ?_)
  refine vx_catch (own := RL) (name := "java/lang/IndexOutOfBoundsException") (E := "java/lang/IndexOutOfBoundsException") hown [] ⟨0, 10, 13, 13⟩ [] (ht.trans rfl) (fun z hz => by cases hz) (by decide) (by decide) (hts (.classLink RL 13 "java/lang/IndexOutOfBoundsException") (by decide +kernel)) (va_Nw.use rfl (hX.2.1 ("java/lang/IndexOutOfBoundsException", "java/lang/IndexOutOfBoundsException") (by decide))) hcell hv hcl ?_
  refine lv_astore (lv' := [(4, .ref q9), (0, .ref (eO E)), (1, .int a), (2, .int b), (3, .ref oo)]) hx hb dL_open_13 hl (by decide) rfl (fun ls hl => ?_)
  refine lv_iconst (v := nI 1) hx hb dL_open_15 (by decide) ?_
  exact W.iret hx hb hr (fun t ht hW => ⟨⟨_, (), rfl, rfl, by rw [ht]; exact hP, va_K.moved hW.alike hK, hD⟩, hS.F ht⟩) hS.2.2 dL_open_16

set_option maxHeartbeats 4000000 in
set_option maxRecDepth 100000 in
theorem j_plan_t1  (l : Launch) (D : va_G) (E : cE) (tl : gTy) (lc : ClassId) (oo : Nat) (f : Nat → Int64) (x : Nat → Nat → Int32) (a b : Int32) (rm0 : Room) (h1 : rm0.cells = 1) (h2 : rm0.slots = 6) (h3 : rm0.frames ≤ 7) (h4 : rm0.locals ≤ 135) (hC : hT l yX2_plan wsX2_plan rm0 D E ((lc, .long) :: tl) (cW E x) [.ref (eO E), .int a, .int b] "java/lang/IndexOutOfBoundsException") : jI l yL_plan wsL_plan ({ frames := 8, cells := 1, slots := 6, locals := 170 } : Room) D E ((lc, .long) :: tl) ([(oo, oC lc f)] ++ cW E x) [.ref (eO E), .int a, .int b, .ref oo] (fun r (u : Unit) => r = nI 1) (fun _ => [(oo, oC lc f)] ++ cW E x) 1 6 := by
  refine jI.start (cc := cL_plan) (maxL := 5) (ret := some .int) (own := RL) (hh := [(0, 10, 13, 13), (0, 10, 17, 25)]) rfl (by decide) rfl (Nat.le_of_ble_eq_true rfl) ?_
  intro pr e s m args below meth c A ls H locs hx hb hml hr ht hts hown hlocks hA hK hX hN hP hD hS hl
  replace hl : lv_has ls 5 [(0, .ref (eO E)), (1, .int a), (2, .int b), (3, .ref oo)] := hl
  refine lv_aload_n hx hb dL_plan_0 rfl (lv_at hl 3 rfl) ?_
  refine lv_iconst (v := nI 0) hx hb dL_plan_1 (by decide) ?_
  refine lv_aload_n hx hb dL_plan_2 rfl (lv_at hl 0 rfl) ?_
  refine lv_iload_n hx hb dL_plan_3 rfl (lv_at hl 1 rfl) ?_
  refine lv_iload_n hx hb dL_plan_4 rfl (lv_at hl 2 rfl) ?_
  refine j_callt (pre := [(oo, oC lc f)]) (w1 := cW E x) (As := [.int a, .int b]) (rest := [.int (nI 0), .ref oo]) ⟨hx, hb, hml, hown, hts⟩ hC (cwV 2 hts gL_plan_X2_plan rfl h1 h2 (by decide +kernel) ⟨by have := h3; show rm0.frames + 1 ≤ 8; omega, by have := h4; show 8 + (5 + 11) + rm0.locals ≤ 170; omega⟩) (va_recv hK hP (ci := 3) (q0 := 1) rfl rfl) hK hX hP hD hS hA rfl hl.1 rfl (Nat.le_of_ble_eq_true rfl) dL_plan_5 ⟨Nat.le_of_ble_eq_true rfl, Nat.le_of_ble_eq_true rfl⟩ (fun q9 ce H locs hP hS hcell hv hcl => ?_)
  refine vx_catch (own := RL) (name := "java/lang/IndexOutOfBoundsException") (E := "java/lang/IndexOutOfBoundsException") hown [] ⟨0, 10, 13, 13⟩ [(⟨0, 10, 17, 25⟩ : ExceptionTableEntry)] (ht.trans rfl) (fun z hz => by cases hz) (by decide) (by decide) (hts (.classLink RL 13 "java/lang/IndexOutOfBoundsException") (by decide +kernel)) (va_Nw.use rfl (hX.2.1 ("java/lang/IndexOutOfBoundsException", "java/lang/IndexOutOfBoundsException") (by decide))) hcell hv hcl ?_
  refine lv_astore (lv' := [(4, .ref q9), (0, .ref (eO E)), (1, .int a), (2, .int b), (3, .ref oo)]) hx hb dL_plan_13 hl (by decide) rfl (fun ls hl => ?_)
  refine lv_iconst (v := nI 1) hx hb dL_plan_15 (by decide) ?_
  exact W.iret hx hb hr (fun t ht hW => ⟨⟨_, (), rfl, rfl, by rw [ht]; exact hP, va_K.moved hW.alike hK, hD⟩, hS.F ht⟩) hS.2.2 dL_plan_16

set_option maxHeartbeats 4000000 in
set_option maxRecDepth 100000 in
theorem j_plan_t2  (l : Launch) (D : va_G) (E : cE) (tl : gTy) (lc : ClassId) (oo : Nat) (f : Nat → Int64) (x : Nat → Nat → Int32) (a b : Int32) (rm0 : Room) (h1 : rm0.cells = 1) (h2 : rm0.slots = 6) (h3 : rm0.frames ≤ 7) (h4 : rm0.locals ≤ 135) (hC : hT l yX2_plan wsX2_plan rm0 D E ((lc, .long) :: tl) (cW E x) [.ref (eO E), .int a, .int b] "java/lang/IllegalStateException") : jI l yL_plan wsL_plan ({ frames := 8, cells := 1, slots := 6, locals := 170 } : Room) D E ((lc, .long) :: tl) ([(oo, oC lc f)] ++ cW E x) [.ref (eO E), .int a, .int b, .ref oo] (fun r (u : Unit) => r = nI 2) (fun _ => [(oo, oC lc f)] ++ cW E x) 1 6 := by
  refine jI.start (cc := cL_plan) (maxL := 5) (ret := some .int) (own := RL) (hh := [(0, 10, 13, 13), (0, 10, 17, 25)]) rfl (by decide) rfl (Nat.le_of_ble_eq_true rfl) ?_
  intro pr e s m args below meth c A ls H locs hx hb hml hr ht hts hown hlocks hA hK hX hN hP hD hS hl
  replace hl : lv_has ls 5 [(0, .ref (eO E)), (1, .int a), (2, .int b), (3, .ref oo)] := hl
  refine lv_aload_n hx hb dL_plan_0 rfl (lv_at hl 3 rfl) ?_
  refine lv_iconst (v := nI 0) hx hb dL_plan_1 (by decide) ?_
  refine lv_aload_n hx hb dL_plan_2 rfl (lv_at hl 0 rfl) ?_
  refine lv_iload_n hx hb dL_plan_3 rfl (lv_at hl 1 rfl) ?_
  refine lv_iload_n hx hb dL_plan_4 rfl (lv_at hl 2 rfl) ?_
  refine j_callt (pre := [(oo, oC lc f)]) (w1 := cW E x) (As := [.int a, .int b]) (rest := [.int (nI 0), .ref oo]) ⟨hx, hb, hml, hown, hts⟩ hC (cwV 2 hts gL_plan_X2_plan rfl h1 h2 (by decide +kernel) ⟨by have := h3; show rm0.frames + 1 ≤ 8; omega, by have := h4; show 8 + (5 + 11) + rm0.locals ≤ 170; omega⟩) (va_recv hK hP (ci := 3) (q0 := 1) rfl rfl) hK hX hP hD hS hA rfl hl.1 rfl (Nat.le_of_ble_eq_true rfl) dL_plan_5 ⟨Nat.le_of_ble_eq_true rfl, Nat.le_of_ble_eq_true rfl⟩ (fun q9 ce H locs hP hS hcell hv hcl => ?_)
  refine vx_catch (own := RL) (name := "java/lang/IllegalStateException") (E := "java/lang/IllegalStateException") hown [(⟨0, 10, 13, 13⟩ : ExceptionTableEntry)] ⟨0, 10, 17, 25⟩ [] (ht.trans rfl) (fun z hz => by rw [List.mem_singleton.mp hz]; exact Or.inr ⟨by decide, "java/lang/IndexOutOfBoundsException", hts (.classLink RL 13 "java/lang/IndexOutOfBoundsException") (by decide +kernel), hN ("java/lang/IllegalStateException", "java/lang/IndexOutOfBoundsException") (by decide)⟩) (by decide) (by decide) (hts (.classLink RL 25 "java/lang/IllegalStateException") (by decide +kernel)) (va_Nw.use rfl (hX.2.1 ("java/lang/IllegalStateException", "java/lang/IllegalStateException") (by decide))) hcell hv hcl ?_
  refine lv_astore (lv' := [(4, .ref q9), (0, .ref (eO E)), (1, .int a), (2, .int b), (3, .ref oo)]) hx hb dL_plan_17 hl (by decide) rfl (fun ls hl => ?_)
  refine lv_iconst (v := nI 2) hx hb dL_plan_19 (by decide) ?_
  exact W.iret hx hb hr (fun t ht hW => ⟨⟨_, (), rfl, rfl, by rw [ht]; exact hP, va_K.moved hW.alike hK, hD⟩, hS.F ht⟩) hS.2.2 dL_plan_20

set_option maxHeartbeats 4000000 in
set_option maxRecDepth 100000 in
theorem j_drop_t1  (l : Launch) (D : va_G) (E : cE) (tl : gTy) (lc : ClassId) (oo : Nat) (f : Nat → Int64) (x : Nat → Nat → Int32) (a b : Int32) (rm0 : Room) (h1 : rm0.cells = 1) (h2 : rm0.slots = 6) (h3 : rm0.frames ≤ 7) (h4 : rm0.locals ≤ 135) (hC : hT l yX2_drop wsX2_drop rm0 D E ((lc, .long) :: tl) (cW E x) [.ref (eO E), .int a, .int b] "java/lang/IndexOutOfBoundsException") : jI l yL_drop wsL_drop ({ frames := 8, cells := 1, slots := 6, locals := 170 } : Room) D E ((lc, .long) :: tl) ([(oo, oC lc f)] ++ cW E x) [.ref (eO E), .int a, .int b, .ref oo] (fun r (u : Unit) => r = nI 1) (fun _ => [(oo, oC lc f)] ++ cW E x) 1 6 := by
  refine jI.start (cc := cL_drop) (maxL := 5) (ret := some .int) (own := RL) (hh := [(0, 10, 13, 13), (0, 10, 17, 25)]) rfl (by decide) rfl (Nat.le_of_ble_eq_true rfl) ?_
  intro pr e s m args below meth c A ls H locs hx hb hml hr ht hts hown hlocks hA hK hX hN hP hD hS hl
  replace hl : lv_has ls 5 [(0, .ref (eO E)), (1, .int a), (2, .int b), (3, .ref oo)] := hl
  refine lv_aload_n hx hb dL_drop_0 rfl (lv_at hl 3 rfl) ?_
  refine lv_iconst (v := nI 0) hx hb dL_drop_1 (by decide) ?_
  refine lv_aload_n hx hb dL_drop_2 rfl (lv_at hl 0 rfl) ?_
  refine lv_iload_n hx hb dL_drop_3 rfl (lv_at hl 1 rfl) ?_
  refine lv_iload_n hx hb dL_drop_4 rfl (lv_at hl 2 rfl) ?_
  refine j_callt (pre := [(oo, oC lc f)]) (w1 := cW E x) (As := [.int a, .int b]) (rest := [.int (nI 0), .ref oo]) ⟨hx, hb, hml, hown, hts⟩ hC (cwV 2 hts gL_drop_X2_drop rfl h1 h2 (by decide +kernel) ⟨by have := h3; show rm0.frames + 1 ≤ 8; omega, by have := h4; show 8 + (6 + 11) + rm0.locals ≤ 170; omega⟩) (va_recv hK hP (ci := 3) (q0 := 1) rfl rfl) hK hX hP hD hS hA rfl hl.1 rfl (Nat.le_of_ble_eq_true rfl) dL_drop_5 ⟨Nat.le_of_ble_eq_true rfl, Nat.le_of_ble_eq_true rfl⟩ (fun q9 ce H locs hP hS hcell hv hcl => ?_)
  refine vx_catch (own := RL) (name := "java/lang/IndexOutOfBoundsException") (E := "java/lang/IndexOutOfBoundsException") hown [] ⟨0, 10, 13, 13⟩ [(⟨0, 10, 17, 25⟩ : ExceptionTableEntry)] (ht.trans rfl) (fun z hz => by cases hz) (by decide) (by decide) (hts (.classLink RL 13 "java/lang/IndexOutOfBoundsException") (by decide +kernel)) (va_Nw.use rfl (hX.2.1 ("java/lang/IndexOutOfBoundsException", "java/lang/IndexOutOfBoundsException") (by decide))) hcell hv hcl ?_
  refine lv_astore (lv' := [(4, .ref q9), (0, .ref (eO E)), (1, .int a), (2, .int b), (3, .ref oo)]) hx hb dL_drop_13 hl (by decide) rfl (fun ls hl => ?_)
  refine lv_iconst (v := nI 1) hx hb dL_drop_15 (by decide) ?_
  exact W.iret hx hb hr (fun t ht hW => ⟨⟨_, (), rfl, rfl, by rw [ht]; exact hP, va_K.moved hW.alike hK, hD⟩, hS.F ht⟩) hS.2.2 dL_drop_16

set_option maxHeartbeats 4000000 in
set_option maxRecDepth 100000 in
theorem j_drop_t2  (l : Launch) (D : va_G) (E : cE) (tl : gTy) (lc : ClassId) (oo : Nat) (f : Nat → Int64) (x : Nat → Nat → Int32) (a b : Int32) (rm0 : Room) (h1 : rm0.cells = 1) (h2 : rm0.slots = 6) (h3 : rm0.frames ≤ 7) (h4 : rm0.locals ≤ 135) (hC : hT l yX2_drop wsX2_drop rm0 D E ((lc, .long) :: tl) (cW E x) [.ref (eO E), .int a, .int b] "java/lang/IllegalStateException") : jI l yL_drop wsL_drop ({ frames := 8, cells := 1, slots := 6, locals := 170 } : Room) D E ((lc, .long) :: tl) ([(oo, oC lc f)] ++ cW E x) [.ref (eO E), .int a, .int b, .ref oo] (fun r (u : Unit) => r = nI 2) (fun _ => [(oo, oC lc f)] ++ cW E x) 1 6 := by
  refine jI.start (cc := cL_drop) (maxL := 5) (ret := some .int) (own := RL) (hh := [(0, 10, 13, 13), (0, 10, 17, 25)]) rfl (by decide) rfl (Nat.le_of_ble_eq_true rfl) ?_
  intro pr e s m args below meth c A ls H locs hx hb hml hr ht hts hown hlocks hA hK hX hN hP hD hS hl
  replace hl : lv_has ls 5 [(0, .ref (eO E)), (1, .int a), (2, .int b), (3, .ref oo)] := hl
  refine lv_aload_n hx hb dL_drop_0 rfl (lv_at hl 3 rfl) ?_
  refine lv_iconst (v := nI 0) hx hb dL_drop_1 (by decide) ?_
  refine lv_aload_n hx hb dL_drop_2 rfl (lv_at hl 0 rfl) ?_
  refine lv_iload_n hx hb dL_drop_3 rfl (lv_at hl 1 rfl) ?_
  refine lv_iload_n hx hb dL_drop_4 rfl (lv_at hl 2 rfl) ?_
  refine j_callt (pre := [(oo, oC lc f)]) (w1 := cW E x) (As := [.int a, .int b]) (rest := [.int (nI 0), .ref oo]) ⟨hx, hb, hml, hown, hts⟩ hC (cwV 2 hts gL_drop_X2_drop rfl h1 h2 (by decide +kernel) ⟨by have := h3; show rm0.frames + 1 ≤ 8; omega, by have := h4; show 8 + (6 + 11) + rm0.locals ≤ 170; omega⟩) (va_recv hK hP (ci := 3) (q0 := 1) rfl rfl) hK hX hP hD hS hA rfl hl.1 rfl (Nat.le_of_ble_eq_true rfl) dL_drop_5 ⟨Nat.le_of_ble_eq_true rfl, Nat.le_of_ble_eq_true rfl⟩ (fun q9 ce H locs hP hS hcell hv hcl => ?_)
  refine vx_catch (own := RL) (name := "java/lang/IllegalStateException") (E := "java/lang/IllegalStateException") hown [(⟨0, 10, 13, 13⟩ : ExceptionTableEntry)] ⟨0, 10, 17, 25⟩ [] (ht.trans rfl) (fun z hz => by rw [List.mem_singleton.mp hz]; exact Or.inr ⟨by decide, "java/lang/IndexOutOfBoundsException", hts (.classLink RL 13 "java/lang/IndexOutOfBoundsException") (by decide +kernel), hN ("java/lang/IllegalStateException", "java/lang/IndexOutOfBoundsException") (by decide)⟩) (by decide) (by decide) (hts (.classLink RL 25 "java/lang/IllegalStateException") (by decide +kernel)) (va_Nw.use rfl (hX.2.1 ("java/lang/IllegalStateException", "java/lang/IllegalStateException") (by decide))) hcell hv hcl ?_
  refine lv_astore (lv' := [(4, .ref q9), (0, .ref (eO E)), (1, .int a), (2, .int b), (3, .ref oo)]) hx hb dL_drop_17 hl (by decide) rfl (fun ls hl => ?_)
  refine lv_iconst (v := nI 2) hx hb dL_drop_19 (by decide) ?_
  exact W.iret hx hb hr (fun t ht hW => ⟨⟨_, (), rfl, rfl, by rw [ht]; exact hP, va_K.moved hW.alike hK, hD⟩, hS.F ht⟩) hS.2.2 dL_drop_20

set_option maxHeartbeats 4000000 in
set_option maxRecDepth 100000 in
theorem j_ask_t1  (l : Launch) (D : va_G) (E : cE) (tl : gTy) (lc : ClassId) (oo : Nat) (f : Nat → Int64) (x : Nat → Nat → Int32) (a b : Int32) (rm0 : Room) (h1 : rm0.cells = 1) (h2 : rm0.slots = 6) (h3 : rm0.frames ≤ 7) (h4 : rm0.locals ≤ 135) (hC : hT l yX2_ask wsX2_ask rm0 D E ((lc, .long) :: tl) (cW E x) [.ref (eO E), .int a, .int b] "java/lang/IndexOutOfBoundsException") : jI l yL_ask wsL_ask ({ frames := 8, cells := 1, slots := 6, locals := 170 } : Room) D E ((lc, .long) :: tl) ([(oo, oC lc f)] ++ cW E x) [.ref (eO E), .int a, .int b, .ref oo] (fun r (u : Unit) => r = nI 1) (fun _ => [(oo, oC lc f)] ++ cW E x) 1 6 := by
  refine jI.start (cc := cL_ask) (maxL := 5) (ret := some .int) (own := RL) (hh := [(0, 10, 13, 13), (0, 10, 17, 25)]) rfl (by decide) rfl (Nat.le_of_ble_eq_true rfl) ?_
  intro pr e s m args below meth c A ls H locs hx hb hml hr ht hts hown hlocks hA hK hX hN hP hD hS hl
  replace hl : lv_has ls 5 [(0, .ref (eO E)), (1, .int a), (2, .int b), (3, .ref oo)] := hl
  refine lv_aload_n hx hb dL_ask_0 rfl (lv_at hl 3 rfl) ?_
  refine lv_iconst (v := nI 0) hx hb dL_ask_1 (by decide) ?_
  refine lv_aload_n hx hb dL_ask_2 rfl (lv_at hl 0 rfl) ?_
  refine lv_iload_n hx hb dL_ask_3 rfl (lv_at hl 1 rfl) ?_
  refine lv_iload_n hx hb dL_ask_4 rfl (lv_at hl 2 rfl) ?_
  refine j_callt (pre := [(oo, oC lc f)]) (w1 := cW E x) (As := [.int a, .int b]) (rest := [.int (nI 0), .ref oo]) ⟨hx, hb, hml, hown, hts⟩ hC (cwV 2 hts gL_ask_X2_ask rfl h1 h2 (by decide +kernel) ⟨by have := h3; show rm0.frames + 1 ≤ 8; omega, by have := h4; show 8 + (5 + 11) + rm0.locals ≤ 170; omega⟩) (va_recv hK hP (ci := 3) (q0 := 1) rfl rfl) hK hX hP hD hS hA rfl hl.1 rfl (Nat.le_of_ble_eq_true rfl) dL_ask_5 ⟨Nat.le_of_ble_eq_true rfl, Nat.le_of_ble_eq_true rfl⟩ (fun q9 ce H locs hP hS hcell hv hcl => ?_)
  refine vx_catch (own := RL) (name := "java/lang/IndexOutOfBoundsException") (E := "java/lang/IndexOutOfBoundsException") hown [] ⟨0, 10, 13, 13⟩ [(⟨0, 10, 17, 25⟩ : ExceptionTableEntry)] (ht.trans rfl) (fun z hz => by cases hz) (by decide) (by decide) (hts (.classLink RL 13 "java/lang/IndexOutOfBoundsException") (by decide +kernel)) (va_Nw.use rfl (hX.2.1 ("java/lang/IndexOutOfBoundsException", "java/lang/IndexOutOfBoundsException") (by decide))) hcell hv hcl ?_
  refine lv_astore (lv' := [(4, .ref q9), (0, .ref (eO E)), (1, .int a), (2, .int b), (3, .ref oo)]) hx hb dL_ask_13 hl (by decide) rfl (fun ls hl => ?_)
  refine lv_iconst (v := nI 1) hx hb dL_ask_15 (by decide) ?_
  exact W.iret hx hb hr (fun t ht hW => ⟨⟨_, (), rfl, rfl, by rw [ht]; exact hP, va_K.moved hW.alike hK, hD⟩, hS.F ht⟩) hS.2.2 dL_ask_16

set_option maxHeartbeats 4000000 in
set_option maxRecDepth 100000 in
theorem j_ask_t2  (l : Launch) (D : va_G) (E : cE) (tl : gTy) (lc : ClassId) (oo : Nat) (f : Nat → Int64) (x : Nat → Nat → Int32) (a b : Int32) (rm0 : Room) (h1 : rm0.cells = 1) (h2 : rm0.slots = 6) (h3 : rm0.frames ≤ 7) (h4 : rm0.locals ≤ 135) (hC : hT l yX2_ask wsX2_ask rm0 D E ((lc, .long) :: tl) (cW E x) [.ref (eO E), .int a, .int b] "java/lang/IllegalStateException") : jI l yL_ask wsL_ask ({ frames := 8, cells := 1, slots := 6, locals := 170 } : Room) D E ((lc, .long) :: tl) ([(oo, oC lc f)] ++ cW E x) [.ref (eO E), .int a, .int b, .ref oo] (fun r (u : Unit) => r = nI 2) (fun _ => [(oo, oC lc f)] ++ cW E x) 1 6 := by
  refine jI.start (cc := cL_ask) (maxL := 5) (ret := some .int) (own := RL) (hh := [(0, 10, 13, 13), (0, 10, 17, 25)]) rfl (by decide) rfl (Nat.le_of_ble_eq_true rfl) ?_
  intro pr e s m args below meth c A ls H locs hx hb hml hr ht hts hown hlocks hA hK hX hN hP hD hS hl
  replace hl : lv_has ls 5 [(0, .ref (eO E)), (1, .int a), (2, .int b), (3, .ref oo)] := hl
  refine lv_aload_n hx hb dL_ask_0 rfl (lv_at hl 3 rfl) ?_
  refine lv_iconst (v := nI 0) hx hb dL_ask_1 (by decide) ?_
  refine lv_aload_n hx hb dL_ask_2 rfl (lv_at hl 0 rfl) ?_
  refine lv_iload_n hx hb dL_ask_3 rfl (lv_at hl 1 rfl) ?_
  refine lv_iload_n hx hb dL_ask_4 rfl (lv_at hl 2 rfl) ?_
  refine j_callt (pre := [(oo, oC lc f)]) (w1 := cW E x) (As := [.int a, .int b]) (rest := [.int (nI 0), .ref oo]) ⟨hx, hb, hml, hown, hts⟩ hC (cwV 2 hts gL_ask_X2_ask rfl h1 h2 (by decide +kernel) ⟨by have := h3; show rm0.frames + 1 ≤ 8; omega, by have := h4; show 8 + (5 + 11) + rm0.locals ≤ 170; omega⟩) (va_recv hK hP (ci := 3) (q0 := 1) rfl rfl) hK hX hP hD hS hA rfl hl.1 rfl (Nat.le_of_ble_eq_true rfl) dL_ask_5 ⟨Nat.le_of_ble_eq_true rfl, Nat.le_of_ble_eq_true rfl⟩ (fun q9 ce H locs hP hS hcell hv hcl => ?_)
  refine vx_catch (own := RL) (name := "java/lang/IllegalStateException") (E := "java/lang/IllegalStateException") hown [(⟨0, 10, 13, 13⟩ : ExceptionTableEntry)] ⟨0, 10, 17, 25⟩ [] (ht.trans rfl) (fun z hz => by rw [List.mem_singleton.mp hz]; exact Or.inr ⟨by decide, "java/lang/IndexOutOfBoundsException", hts (.classLink RL 13 "java/lang/IndexOutOfBoundsException") (by decide +kernel), hN ("java/lang/IllegalStateException", "java/lang/IndexOutOfBoundsException") (by decide)⟩) (by decide) (by decide) (hts (.classLink RL 25 "java/lang/IllegalStateException") (by decide +kernel)) (va_Nw.use rfl (hX.2.1 ("java/lang/IllegalStateException", "java/lang/IllegalStateException") (by decide))) hcell hv hcl ?_
  refine lv_astore (lv' := [(4, .ref q9), (0, .ref (eO E)), (1, .int a), (2, .int b), (3, .ref oo)]) hx hb dL_ask_17 hl (by decide) rfl (fun ls hl => ?_)
  refine lv_iconst (v := nI 2) hx hb dL_ask_19 (by decide) ?_
  exact W.iret hx hb hr (fun t ht hW => ⟨⟨_, (), rfl, rfl, by rw [ht]; exact hP, va_K.moved hW.alike hK, hD⟩, hS.F ht⟩) hS.2.2 dL_ask_20

set_option maxHeartbeats 4000000 in
set_option maxRecDepth 100000 in
theorem j_advance_t1  (l : Launch) (D : va_G) (E : cE) (tl : gTy) (lc : ClassId) (oo : Nat) (f : Nat → Int64) (x : Nat → Nat → Int32) (a : Int32) (rm0 : Room) (h1 : rm0.cells = 1) (h2 : rm0.slots = 6) (h3 : rm0.frames ≤ 7) (h4 : rm0.locals ≤ 135) (hC : hT l yX2_advance wsX2_advance rm0 D E ((lc, .long) :: tl) (cW E x) [.ref (eO E), .int a] "java/lang/IllegalArgumentException") : jI l yL_advance wsL_advance ({ frames := 8, cells := 1, slots := 6, locals := 170 } : Room) D E ((lc, .long) :: tl) ([(oo, oC lc f)] ++ cW E x) [.ref (eO E), .int a, .ref oo] (fun r (u : Unit) => r = nI 1) (fun _ => [(oo, oC lc f)] ++ cW E x) 1 6 := by
  refine jI.start (cc := cL_advance) (maxL := 4) (ret := some .int) (own := RL) (hh := [(0, 9, 12, 15), (0, 9, 15, 25)]) rfl (by decide) rfl (Nat.le_of_ble_eq_true rfl) ?_
  intro pr e s m args below meth c A ls H locs hx hb hml hr ht hts hown hlocks hA hK hX hN hP hD hS hl
  replace hl : lv_has ls 4 [(0, .ref (eO E)), (1, .int a), (2, .ref oo)] := hl
  refine lv_aload_n hx hb dL_advance_0 rfl (lv_at hl 2 rfl) ?_
  refine lv_iconst (v := nI 0) hx hb dL_advance_1 (by decide) ?_
  refine lv_aload_n hx hb dL_advance_2 rfl (lv_at hl 0 rfl) ?_
  refine lv_iload_n hx hb dL_advance_3 rfl (lv_at hl 1 rfl) ?_
  refine j_callt (pre := [(oo, oC lc f)]) (w1 := cW E x) (As := [.int a]) (rest := [.int (nI 0), .ref oo]) ⟨hx, hb, hml, hown, hts⟩ hC (cwV 1 hts gL_advance_X2_advance rfl h1 h2 (by decide +kernel) ⟨by have := h3; show rm0.frames + 1 ≤ 8; omega, by have := h4; show 8 + (3 + 11) + rm0.locals ≤ 170; omega⟩) (va_recv hK hP (ci := 3) (q0 := 1) rfl rfl) hK hX hP hD hS hA rfl hl.1 rfl (Nat.le_of_ble_eq_true rfl) dL_advance_4 ⟨Nat.le_of_ble_eq_true rfl, Nat.le_of_ble_eq_true rfl⟩ (fun q9 ce H locs hP hS hcell hv hcl => ?_)
  refine vx_catch (own := RL) (name := "java/lang/IllegalArgumentException") (E := "java/lang/IllegalArgumentException") hown [] ⟨0, 9, 12, 15⟩ [(⟨0, 9, 15, 25⟩ : ExceptionTableEntry)] (ht.trans rfl) (fun z hz => by cases hz) (by decide) (by decide) (hts (.classLink RL 15 "java/lang/IllegalArgumentException") (by decide +kernel)) (va_Nw.use rfl (hX.2.1 ("java/lang/IllegalArgumentException", "java/lang/IllegalArgumentException") (by decide))) hcell hv hcl ?_
  refine lv_astore_n (lv' := [(3, .ref q9), (0, .ref (eO E)), (1, .int a), (2, .ref oo)]) hx hb dL_advance_12 rfl hl (by decide) rfl (fun ls hl => ?_)
  refine lv_iconst (v := nI 1) hx hb dL_advance_13 (by decide) ?_
  exact W.iret hx hb hr (fun t ht hW => ⟨⟨_, (), rfl, rfl, by rw [ht]; exact hP, va_K.moved hW.alike hK, hD⟩, hS.F ht⟩) hS.2.2 dL_advance_14

set_option maxHeartbeats 4000000 in
set_option maxRecDepth 100000 in
theorem j_advance_t2  (l : Launch) (D : va_G) (E : cE) (tl : gTy) (lc : ClassId) (oo : Nat) (f : Nat → Int64) (x : Nat → Nat → Int32) (a : Int32) (rm0 : Room) (h1 : rm0.cells = 1) (h2 : rm0.slots = 6) (h3 : rm0.frames ≤ 7) (h4 : rm0.locals ≤ 135) (hC : hT l yX2_advance wsX2_advance rm0 D E ((lc, .long) :: tl) (cW E x) [.ref (eO E), .int a] "java/lang/IllegalStateException") : jI l yL_advance wsL_advance ({ frames := 8, cells := 1, slots := 6, locals := 170 } : Room) D E ((lc, .long) :: tl) ([(oo, oC lc f)] ++ cW E x) [.ref (eO E), .int a, .ref oo] (fun r (u : Unit) => r = nI 2) (fun _ => [(oo, oC lc f)] ++ cW E x) 1 6 := by
  refine jI.start (cc := cL_advance) (maxL := 4) (ret := some .int) (own := RL) (hh := [(0, 9, 12, 15), (0, 9, 15, 25)]) rfl (by decide) rfl (Nat.le_of_ble_eq_true rfl) ?_
  intro pr e s m args below meth c A ls H locs hx hb hml hr ht hts hown hlocks hA hK hX hN hP hD hS hl
  replace hl : lv_has ls 4 [(0, .ref (eO E)), (1, .int a), (2, .ref oo)] := hl
  refine lv_aload_n hx hb dL_advance_0 rfl (lv_at hl 2 rfl) ?_
  refine lv_iconst (v := nI 0) hx hb dL_advance_1 (by decide) ?_
  refine lv_aload_n hx hb dL_advance_2 rfl (lv_at hl 0 rfl) ?_
  refine lv_iload_n hx hb dL_advance_3 rfl (lv_at hl 1 rfl) ?_
  refine j_callt (pre := [(oo, oC lc f)]) (w1 := cW E x) (As := [.int a]) (rest := [.int (nI 0), .ref oo]) ⟨hx, hb, hml, hown, hts⟩ hC (cwV 1 hts gL_advance_X2_advance rfl h1 h2 (by decide +kernel) ⟨by have := h3; show rm0.frames + 1 ≤ 8; omega, by have := h4; show 8 + (3 + 11) + rm0.locals ≤ 170; omega⟩) (va_recv hK hP (ci := 3) (q0 := 1) rfl rfl) hK hX hP hD hS hA rfl hl.1 rfl (Nat.le_of_ble_eq_true rfl) dL_advance_4 ⟨Nat.le_of_ble_eq_true rfl, Nat.le_of_ble_eq_true rfl⟩ (fun q9 ce H locs hP hS hcell hv hcl => ?_)
  refine vx_catch (own := RL) (name := "java/lang/IllegalStateException") (E := "java/lang/IllegalStateException") hown [(⟨0, 9, 12, 15⟩ : ExceptionTableEntry)] ⟨0, 9, 15, 25⟩ [] (ht.trans rfl) (fun z hz => by rw [List.mem_singleton.mp hz]; exact Or.inr ⟨by decide, "java/lang/IllegalArgumentException", hts (.classLink RL 15 "java/lang/IllegalArgumentException") (by decide +kernel), hN ("java/lang/IllegalStateException", "java/lang/IllegalArgumentException") (by decide)⟩) (by decide) (by decide) (hts (.classLink RL 25 "java/lang/IllegalStateException") (by decide +kernel)) (va_Nw.use rfl (hX.2.1 ("java/lang/IllegalStateException", "java/lang/IllegalStateException") (by decide))) hcell hv hcl ?_
  refine lv_astore_n (lv' := [(3, .ref q9), (0, .ref (eO E)), (1, .int a), (2, .ref oo)]) hx hb dL_advance_15 rfl hl (by decide) rfl (fun ls hl => ?_)
  refine lv_iconst (v := nI 2) hx hb dL_advance_16 (by decide) ?_
  exact W.iret hx hb hr (fun t ht hW => ⟨⟨_, (), rfl, rfl, by rw [ht]; exact hP, va_K.moved hW.alike hK, hD⟩, hS.F ht⟩) hS.2.2 dL_advance_17

set_option maxHeartbeats 4000000 in
set_option maxRecDepth 100000 in
theorem j_send_t1  (l : Launch) (D : va_G) (E : cE) (tl : gTy) (lc : ClassId) (oo : Nat) (f : Nat → Int64) (x : Nat → Nat → Int32) (a b : Int32) (rm0 : Room) (h1 : rm0.cells = 1) (h2 : rm0.slots = 6) (h3 : rm0.frames ≤ 7) (h4 : rm0.locals ≤ 135) (hC : hT l yX2_send wsX2_send rm0 D E ((lc, .long) :: tl) (cW E x) [.ref (eO E), .int a, .int b] "java/lang/IndexOutOfBoundsException") : jI l yL_send wsL_send ({ frames := 8, cells := 1, slots := 6, locals := 170 } : Room) D E ((lc, .long) :: tl) ([(oo, oC lc f)] ++ cW E x) [.ref (eO E), .int a, .int b, .ref oo] (fun r (u : Unit) => r = nI 1) (fun _ => [(oo, oC lc f)] ++ cW E x) 1 6 := by
  refine jI.start (cc := cL_send) (maxL := 5) (ret := some .int) (own := RL) (hh := [(0, 17, 20, 13), (0, 17, 24, 25)]) rfl (by decide) rfl (Nat.le_of_ble_eq_true rfl) ?_
  intro pr e s m args below meth c A ls H locs hx hb hml hr ht hts hown hlocks hA hK hX hN hP hD hS hl
  replace hl : lv_has ls 5 [(0, .ref (eO E)), (1, .int a), (2, .int b), (3, .ref oo)] := hl
  refine lv_aload_n hx hb dL_send_0 rfl (lv_at hl 3 rfl) ?_
  refine lv_iconst (v := nI 0) hx hb dL_send_1 (by decide) ?_
  refine lv_aload_n hx hb dL_send_2 rfl (lv_at hl 0 rfl) ?_
  refine lv_iload_n hx hb dL_send_3 rfl (lv_at hl 1 rfl) ?_
  refine lv_iload_n hx hb dL_send_4 rfl (lv_at hl 2 rfl) ?_
  refine j_callt (pre := [(oo, oC lc f)]) (w1 := cW E x) (As := [.int a, .int b]) (rest := [.int (nI 0), .ref oo]) ⟨hx, hb, hml, hown, hts⟩ hC (cwV 2 hts gL_send_X2_send rfl h1 h2 (by decide +kernel) ⟨by have := h3; show rm0.frames + 1 ≤ 8; omega, by have := h4; show 8 + (5 + 11) + rm0.locals ≤ 170; omega⟩) (va_recv hK hP (ci := 3) (q0 := 1) rfl rfl) hK hX hP hD hS hA rfl hl.1 rfl (Nat.le_of_ble_eq_true rfl) dL_send_5 ⟨Nat.le_of_ble_eq_true rfl, Nat.le_of_ble_eq_true rfl⟩ (fun q9 ce H locs hP hS hcell hv hcl => ?_)
  refine vx_catch (own := RL) (name := "java/lang/IndexOutOfBoundsException") (E := "java/lang/IndexOutOfBoundsException") hown [] ⟨0, 17, 20, 13⟩ [(⟨0, 17, 24, 25⟩ : ExceptionTableEntry)] (ht.trans rfl) (fun z hz => by cases hz) (by decide) (by decide) (hts (.classLink RL 13 "java/lang/IndexOutOfBoundsException") (by decide +kernel)) (va_Nw.use rfl (hX.2.1 ("java/lang/IndexOutOfBoundsException", "java/lang/IndexOutOfBoundsException") (by decide))) hcell hv hcl ?_
  refine lv_astore (lv' := [(4, .ref q9), (0, .ref (eO E)), (1, .int a), (2, .int b), (3, .ref oo)]) hx hb dL_send_20 hl (by decide) rfl (fun ls hl => ?_)
  refine lv_iconst (v := nI 1) hx hb dL_send_22 (by decide) ?_
  exact W.iret hx hb hr (fun t ht hW => ⟨⟨_, (), rfl, rfl, by rw [ht]; exact hP, va_K.moved hW.alike hK, hD⟩, hS.F ht⟩) hS.2.2 dL_send_23

set_option maxHeartbeats 4000000 in
set_option maxRecDepth 100000 in
theorem j_send_t2  (l : Launch) (D : va_G) (E : cE) (tl : gTy) (lc : ClassId) (oo : Nat) (f : Nat → Int64) (x : Nat → Nat → Int32) (a b : Int32) (rm0 : Room) (h1 : rm0.cells = 1) (h2 : rm0.slots = 6) (h3 : rm0.frames ≤ 7) (h4 : rm0.locals ≤ 135) (hC : hT l yX2_send wsX2_send rm0 D E ((lc, .long) :: tl) (cW E x) [.ref (eO E), .int a, .int b] "java/lang/IllegalStateException") : jI l yL_send wsL_send ({ frames := 8, cells := 1, slots := 6, locals := 170 } : Room) D E ((lc, .long) :: tl) ([(oo, oC lc f)] ++ cW E x) [.ref (eO E), .int a, .int b, .ref oo] (fun r (u : Unit) => r = nI 2) (fun _ => [(oo, oC lc f)] ++ cW E x) 1 6 := by
  refine jI.start (cc := cL_send) (maxL := 5) (ret := some .int) (own := RL) (hh := [(0, 17, 20, 13), (0, 17, 24, 25)]) rfl (by decide) rfl (Nat.le_of_ble_eq_true rfl) ?_
  intro pr e s m args below meth c A ls H locs hx hb hml hr ht hts hown hlocks hA hK hX hN hP hD hS hl
  replace hl : lv_has ls 5 [(0, .ref (eO E)), (1, .int a), (2, .int b), (3, .ref oo)] := hl
  refine lv_aload_n hx hb dL_send_0 rfl (lv_at hl 3 rfl) ?_
  refine lv_iconst (v := nI 0) hx hb dL_send_1 (by decide) ?_
  refine lv_aload_n hx hb dL_send_2 rfl (lv_at hl 0 rfl) ?_
  refine lv_iload_n hx hb dL_send_3 rfl (lv_at hl 1 rfl) ?_
  refine lv_iload_n hx hb dL_send_4 rfl (lv_at hl 2 rfl) ?_
  refine j_callt (pre := [(oo, oC lc f)]) (w1 := cW E x) (As := [.int a, .int b]) (rest := [.int (nI 0), .ref oo]) ⟨hx, hb, hml, hown, hts⟩ hC (cwV 2 hts gL_send_X2_send rfl h1 h2 (by decide +kernel) ⟨by have := h3; show rm0.frames + 1 ≤ 8; omega, by have := h4; show 8 + (5 + 11) + rm0.locals ≤ 170; omega⟩) (va_recv hK hP (ci := 3) (q0 := 1) rfl rfl) hK hX hP hD hS hA rfl hl.1 rfl (Nat.le_of_ble_eq_true rfl) dL_send_5 ⟨Nat.le_of_ble_eq_true rfl, Nat.le_of_ble_eq_true rfl⟩ (fun q9 ce H locs hP hS hcell hv hcl => ?_)
  refine vx_catch (own := RL) (name := "java/lang/IllegalStateException") (E := "java/lang/IllegalStateException") hown [(⟨0, 17, 20, 13⟩ : ExceptionTableEntry)] ⟨0, 17, 24, 25⟩ [] (ht.trans rfl) (fun z hz => by rw [List.mem_singleton.mp hz]; exact Or.inr ⟨by decide, "java/lang/IndexOutOfBoundsException", hts (.classLink RL 13 "java/lang/IndexOutOfBoundsException") (by decide +kernel), hN ("java/lang/IllegalStateException", "java/lang/IndexOutOfBoundsException") (by decide)⟩) (by decide) (by decide) (hts (.classLink RL 25 "java/lang/IllegalStateException") (by decide +kernel)) (va_Nw.use rfl (hX.2.1 ("java/lang/IllegalStateException", "java/lang/IllegalStateException") (by decide))) hcell hv hcl ?_
  refine lv_astore (lv' := [(4, .ref q9), (0, .ref (eO E)), (1, .int a), (2, .int b), (3, .ref oo)]) hx hb dL_send_24 hl (by decide) rfl (fun ls hl => ?_)
  refine lv_iconst (v := nI 2) hx hb dL_send_26 (by decide) ?_
  exact W.iret hx hb hr (fun t ht hW => ⟨⟨_, (), rfl, rfl, by rw [ht]; exact hP, va_K.moved hW.alike hK, hD⟩, hS.F ht⟩) hS.2.2 dL_send_27

set_option maxHeartbeats 4000000 in
set_option maxRecDepth 100000 in
theorem j_reprint_t1  (l : Launch) (D : va_G) (E : cE) (tl : gTy) (lc : ClassId) (oo : Nat) (f : Nat → Int64) (x : Nat → Nat → Int32) (a : Int32) (rm0 : Room) (h1 : rm0.cells = 1) (h2 : rm0.slots = 6) (h3 : rm0.frames ≤ 7) (h4 : rm0.locals ≤ 135) (hC : hT l yX2_reprint wsX2_reprint rm0 D E ((lc, .long) :: tl) (cW E x) [.ref (eO E), .int a] "java/lang/IllegalArgumentException") : jI l yL_reprint wsL_reprint ({ frames := 8, cells := 1, slots := 6, locals := 170 } : Room) D E ((lc, .long) :: tl) ([(oo, oC lc f)] ++ cW E x) [.ref (eO E), .int a, .ref oo] (fun r (u : Unit) => r = nI 1) (fun _ => [(oo, oC lc f)] ++ cW E x) 1 6 := by
  refine jI.start (cc := cL_reprint) (maxL := 4) (ret := some .int) (own := RL) (hh := [(0, 9, 12, 15)]) rfl (by decide) rfl (Nat.le_of_ble_eq_true rfl) ?_
  intro pr e s m args below meth c A ls H locs hx hb hml hr ht hts hown hlocks hA hK hX hN hP hD hS hl
  replace hl : lv_has ls 4 [(0, .ref (eO E)), (1, .int a), (2, .ref oo)] := hl
  refine lv_aload_n hx hb dL_reprint_0 rfl (lv_at hl 2 rfl) ?_
  refine lv_iconst (v := nI 0) hx hb dL_reprint_1 (by decide) ?_
  refine lv_aload_n hx hb dL_reprint_2 rfl (lv_at hl 0 rfl) ?_
  refine lv_iload_n hx hb dL_reprint_3 rfl (lv_at hl 1 rfl) ?_
  refine j_callt (pre := [(oo, oC lc f)]) (w1 := cW E x) (As := [.int a]) (rest := [.int (nI 0), .ref oo]) ⟨hx, hb, hml, hown, hts⟩ hC (cwV 1 hts gL_reprint_X2_reprint rfl h1 h2 (by decide +kernel) ⟨by have := h3; show rm0.frames + 1 ≤ 8; omega, by have := h4; show 8 + (7 + 11) + rm0.locals ≤ 170; omega⟩) (va_recv hK hP (ci := 3) (q0 := 1) rfl rfl) hK hX hP hD hS hA rfl hl.1 rfl (Nat.le_of_ble_eq_true rfl) dL_reprint_4 ⟨Nat.le_of_ble_eq_true rfl, Nat.le_of_ble_eq_true rfl⟩ (fun q9 ce H locs hP hS hcell hv hcl => ?_)
  refine vx_catch (own := RL) (name := "java/lang/IllegalArgumentException") (E := "java/lang/IllegalArgumentException") hown [] ⟨0, 9, 12, 15⟩ [] (ht.trans rfl) (fun z hz => by cases hz) (by decide) (by decide) (hts (.classLink RL 15 "java/lang/IllegalArgumentException") (by decide +kernel)) (va_Nw.use rfl (hX.2.1 ("java/lang/IllegalArgumentException", "java/lang/IllegalArgumentException") (by decide))) hcell hv hcl ?_
  refine lv_astore_n (lv' := [(3, .ref q9), (0, .ref (eO E)), (1, .int a), (2, .ref oo)]) hx hb dL_reprint_12 rfl hl (by decide) rfl (fun ls hl => ?_)
  refine lv_iconst (v := nI 1) hx hb dL_reprint_13 (by decide) ?_
  exact W.iret hx hb hr (fun t ht hW => ⟨⟨_, (), rfl, rfl, by rw [ht]; exact hP, va_K.moved hW.alike hK, hD⟩, hS.F ht⟩) hS.2.2 dL_reprint_14

set_option maxHeartbeats 4000000 in
set_option maxRecDepth 100000 in
theorem j_stateOf_t1  (l : Launch) (D : va_G) (E : cE) (tl : gTy) (lc : ClassId) (oo : Nat) (f : Nat → Int64) (x : Nat → Nat → Int32) (a : Int32) (rm0 : Room) (h1 : rm0.cells = 1) (h2 : rm0.slots = 6) (h3 : rm0.frames ≤ 7) (h4 : rm0.locals ≤ 135) (hC : hT l yX2_stateOf wsX2_stateOf rm0 D E ((lc, .long) :: tl) (cW E x) [.ref (eO E), .int a] "java/lang/IndexOutOfBoundsException") : jI l yL_stateOf wsL_stateOf ({ frames := 8, cells := 1, slots := 6, locals := 170 } : Room) D E ((lc, .long) :: tl) ([(oo, oC lc f)] ++ cW E x) [.ref (eO E), .int a, .ref oo] (fun r (u : Unit) => r = nI 1) (fun _ => [(oo, oC lc f)] ++ cW E x) 1 6 := by
  refine jI.start (cc := cL_stateOf) (maxL := 4) (ret := some .int) (own := RL) (hh := [(0, 9, 12, 13)]) rfl (by decide) rfl (Nat.le_of_ble_eq_true rfl) ?_
  intro pr e s m args below meth c A ls H locs hx hb hml hr ht hts hown hlocks hA hK hX hN hP hD hS hl
  replace hl : lv_has ls 4 [(0, .ref (eO E)), (1, .int a), (2, .ref oo)] := hl
  refine lv_aload_n hx hb dL_stateOf_0 rfl (lv_at hl 2 rfl) ?_
  refine lv_iconst (v := nI 0) hx hb dL_stateOf_1 (by decide) ?_
  refine lv_aload_n hx hb dL_stateOf_2 rfl (lv_at hl 0 rfl) ?_
  refine lv_iload_n hx hb dL_stateOf_3 rfl (lv_at hl 1 rfl) ?_
  refine j_callt (pre := [(oo, oC lc f)]) (w1 := cW E x) (As := [.int a]) (rest := [.int (nI 0), .ref oo]) ⟨hx, hb, hml, hown, hts⟩ hC (cwV 1 hts gL_stateOf_X2_stateOf rfl h1 h2 (by decide +kernel) ⟨by have := h3; show rm0.frames + 1 ≤ 8; omega, by have := h4; show 8 + (2 + 11) + rm0.locals ≤ 170; omega⟩) (va_recv hK hP (ci := 3) (q0 := 1) rfl rfl) hK hX hP hD hS hA rfl hl.1 rfl (Nat.le_of_ble_eq_true rfl) dL_stateOf_4 ⟨Nat.le_of_ble_eq_true rfl, Nat.le_of_ble_eq_true rfl⟩ (fun q9 ce H locs hP hS hcell hv hcl => ?_)
  refine vx_catch (own := RL) (name := "java/lang/IndexOutOfBoundsException") (E := "java/lang/IndexOutOfBoundsException") hown [] ⟨0, 9, 12, 13⟩ [] (ht.trans rfl) (fun z hz => by cases hz) (by decide) (by decide) (hts (.classLink RL 13 "java/lang/IndexOutOfBoundsException") (by decide +kernel)) (va_Nw.use rfl (hX.2.1 ("java/lang/IndexOutOfBoundsException", "java/lang/IndexOutOfBoundsException") (by decide))) hcell hv hcl ?_
  refine lv_astore_n (lv' := [(3, .ref q9), (0, .ref (eO E)), (1, .int a), (2, .ref oo)]) hx hb dL_stateOf_12 rfl hl (by decide) rfl (fun ls hl => ?_)
  refine lv_iconst (v := nI 1) hx hb dL_stateOf_13 (by decide) ?_
  exact W.iret hx hb hr (fun t ht hW => ⟨⟨_, (), rfl, rfl, by rw [ht]; exact hP, va_K.moved hW.alike hK, hD⟩, hS.F ht⟩) hS.2.2 dL_stateOf_14

set_option maxHeartbeats 4000000 in
set_option maxRecDepth 100000 in
theorem j_whereIs_t1  (l : Launch) (D : va_G) (E : cE) (tl : gTy) (lc : ClassId) (oo : Nat) (f : Nat → Int64) (x : Nat → Nat → Int32) (a : Int32) (rm0 : Room) (h1 : rm0.cells = 1) (h2 : rm0.slots = 6) (h3 : rm0.frames ≤ 7) (h4 : rm0.locals ≤ 135) (hC : hT l yX2_whereIs wsX2_whereIs rm0 D E ((lc, .long) :: tl) (cW E x) [.ref (eO E), .int a] "java/lang/IndexOutOfBoundsException") : jI l yL_whereIs wsL_whereIs ({ frames := 8, cells := 1, slots := 6, locals := 170 } : Room) D E ((lc, .long) :: tl) ([(oo, oC lc f)] ++ cW E x) [.ref (eO E), .int a, .ref oo] (fun r (u : Unit) => r = nI 1) (fun _ => [(oo, oC lc f)] ++ cW E x) 1 6 := by
  refine jI.start (cc := cL_whereIs) (maxL := 4) (ret := some .int) (own := RL) (hh := [(0, 9, 12, 13)]) rfl (by decide) rfl (Nat.le_of_ble_eq_true rfl) ?_
  intro pr e s m args below meth c A ls H locs hx hb hml hr ht hts hown hlocks hA hK hX hN hP hD hS hl
  replace hl : lv_has ls 4 [(0, .ref (eO E)), (1, .int a), (2, .ref oo)] := hl
  refine lv_aload_n hx hb dL_whereIs_0 rfl (lv_at hl 2 rfl) ?_
  refine lv_iconst (v := nI 0) hx hb dL_whereIs_1 (by decide) ?_
  refine lv_aload_n hx hb dL_whereIs_2 rfl (lv_at hl 0 rfl) ?_
  refine lv_iload_n hx hb dL_whereIs_3 rfl (lv_at hl 1 rfl) ?_
  refine j_callt (pre := [(oo, oC lc f)]) (w1 := cW E x) (As := [.int a]) (rest := [.int (nI 0), .ref oo]) ⟨hx, hb, hml, hown, hts⟩ hC (cwV 1 hts gL_whereIs_X2_whereIs rfl h1 h2 (by decide +kernel) ⟨by have := h3; show rm0.frames + 1 ≤ 8; omega, by have := h4; show 8 + (2 + 11) + rm0.locals ≤ 170; omega⟩) (va_recv hK hP (ci := 3) (q0 := 1) rfl rfl) hK hX hP hD hS hA rfl hl.1 rfl (Nat.le_of_ble_eq_true rfl) dL_whereIs_4 ⟨Nat.le_of_ble_eq_true rfl, Nat.le_of_ble_eq_true rfl⟩ (fun q9 ce H locs hP hS hcell hv hcl => ?_)
  refine vx_catch (own := RL) (name := "java/lang/IndexOutOfBoundsException") (E := "java/lang/IndexOutOfBoundsException") hown [] ⟨0, 9, 12, 13⟩ [] (ht.trans rfl) (fun z hz => by cases hz) (by decide) (by decide) (hts (.classLink RL 13 "java/lang/IndexOutOfBoundsException") (by decide +kernel)) (va_Nw.use rfl (hX.2.1 ("java/lang/IndexOutOfBoundsException", "java/lang/IndexOutOfBoundsException") (by decide))) hcell hv hcl ?_
  refine lv_astore_n (lv' := [(3, .ref q9), (0, .ref (eO E)), (1, .int a), (2, .ref oo)]) hx hb dL_whereIs_12 rfl hl (by decide) rfl (fun ls hl => ?_)
  refine lv_iconst (v := nI 1) hx hb dL_whereIs_13 (by decide) ?_
  exact W.iret hx hb hr (fun t ht hW => ⟨⟨_, (), rfl, rfl, by rw [ht]; exact hP, va_K.moved hW.alike hK, hD⟩, hS.F ht⟩) hS.2.2 dL_whereIs_14

set_option maxHeartbeats 4000000 in
set_option maxRecDepth 100000 in
theorem j_placeOf_t1  (l : Launch) (D : va_G) (E : cE) (tl : gTy) (lc : ClassId) (oo : Nat) (f : Nat → Int64) (x : Nat → Nat → Int32) (a : Int32) (rm0 : Room) (h1 : rm0.cells = 1) (h2 : rm0.slots = 6) (h3 : rm0.frames ≤ 7) (h4 : rm0.locals ≤ 135) (hC : hT l yX2_placeOf wsX2_placeOf rm0 D E ((lc, .long) :: tl) (cW E x) [.ref (eO E), .int a] "java/lang/IndexOutOfBoundsException") : jI l yL_placeOf wsL_placeOf ({ frames := 8, cells := 1, slots := 6, locals := 170 } : Room) D E ((lc, .long) :: tl) ([(oo, oC lc f)] ++ cW E x) [.ref (eO E), .int a, .ref oo] (fun r (u : Unit) => r = nI 1) (fun _ => [(oo, oC lc f)] ++ cW E x) 1 6 := by
  refine jI.start (cc := cL_placeOf) (maxL := 4) (ret := some .int) (own := RL) (hh := [(0, 9, 12, 13)]) rfl (by decide) rfl (Nat.le_of_ble_eq_true rfl) ?_
  intro pr e s m args below meth c A ls H locs hx hb hml hr ht hts hown hlocks hA hK hX hN hP hD hS hl
  replace hl : lv_has ls 4 [(0, .ref (eO E)), (1, .int a), (2, .ref oo)] := hl
  refine lv_aload_n hx hb dL_placeOf_0 rfl (lv_at hl 2 rfl) ?_
  refine lv_iconst (v := nI 0) hx hb dL_placeOf_1 (by decide) ?_
  refine lv_aload_n hx hb dL_placeOf_2 rfl (lv_at hl 0 rfl) ?_
  refine lv_iload_n hx hb dL_placeOf_3 rfl (lv_at hl 1 rfl) ?_
  refine j_callt (pre := [(oo, oC lc f)]) (w1 := cW E x) (As := [.int a]) (rest := [.int (nI 0), .ref oo]) ⟨hx, hb, hml, hown, hts⟩ hC (cwV 1 hts gL_placeOf_X2_placeOf rfl h1 h2 (by decide +kernel) ⟨by have := h3; show rm0.frames + 1 ≤ 8; omega, by have := h4; show 8 + (2 + 11) + rm0.locals ≤ 170; omega⟩) (va_recv hK hP (ci := 3) (q0 := 1) rfl rfl) hK hX hP hD hS hA rfl hl.1 rfl (Nat.le_of_ble_eq_true rfl) dL_placeOf_4 ⟨Nat.le_of_ble_eq_true rfl, Nat.le_of_ble_eq_true rfl⟩ (fun q9 ce H locs hP hS hcell hv hcl => ?_)
  refine vx_catch (own := RL) (name := "java/lang/IndexOutOfBoundsException") (E := "java/lang/IndexOutOfBoundsException") hown [] ⟨0, 9, 12, 13⟩ [] (ht.trans rfl) (fun z hz => by cases hz) (by decide) (by decide) (hts (.classLink RL 13 "java/lang/IndexOutOfBoundsException") (by decide +kernel)) (va_Nw.use rfl (hX.2.1 ("java/lang/IndexOutOfBoundsException", "java/lang/IndexOutOfBoundsException") (by decide))) hcell hv hcl ?_
  refine lv_astore_n (lv' := [(3, .ref q9), (0, .ref (eO E)), (1, .int a), (2, .ref oo)]) hx hb dL_placeOf_12 rfl hl (by decide) rfl (fun ls hl => ?_)
  refine lv_iconst (v := nI 1) hx hb dL_placeOf_13 (by decide) ?_
  exact W.iret hx hb hr (fun t ht hW => ⟨⟨_, (), rfl, rfl, by rw [ht]; exact hP, va_K.moved hW.alike hK, hD⟩, hS.F ht⟩) hS.2.2 dL_placeOf_14

set_option maxHeartbeats 4000000 in
set_option maxRecDepth 100000 in
theorem j_turnOf_t1  (l : Launch) (D : va_G) (E : cE) (tl : gTy) (lc : ClassId) (oo : Nat) (f : Nat → Int64) (x : Nat → Nat → Int32) (a : Int32) (rm0 : Room) (h1 : rm0.cells = 1) (h2 : rm0.slots = 6) (h3 : rm0.frames ≤ 7) (h4 : rm0.locals ≤ 135) (hC : hT l yX2_turnOf wsX2_turnOf rm0 D E ((lc, .long) :: tl) (cW E x) [.ref (eO E), .int a] "java/lang/IndexOutOfBoundsException") : jI l yL_turnOf wsL_turnOf ({ frames := 8, cells := 1, slots := 6, locals := 170 } : Room) D E ((lc, .long) :: tl) ([(oo, oC lc f)] ++ cW E x) [.ref (eO E), .int a, .ref oo] (fun r (u : Unit) => r = nI 1) (fun _ => [(oo, oC lc f)] ++ cW E x) 1 6 := by
  refine jI.start (cc := cL_turnOf) (maxL := 4) (ret := some .int) (own := RL) (hh := [(0, 9, 12, 13)]) rfl (by decide) rfl (Nat.le_of_ble_eq_true rfl) ?_
  intro pr e s m args below meth c A ls H locs hx hb hml hr ht hts hown hlocks hA hK hX hN hP hD hS hl
  replace hl : lv_has ls 4 [(0, .ref (eO E)), (1, .int a), (2, .ref oo)] := hl
  refine lv_aload_n hx hb dL_turnOf_0 rfl (lv_at hl 2 rfl) ?_
  refine lv_iconst (v := nI 0) hx hb dL_turnOf_1 (by decide) ?_
  refine lv_aload_n hx hb dL_turnOf_2 rfl (lv_at hl 0 rfl) ?_
  refine lv_iload_n hx hb dL_turnOf_3 rfl (lv_at hl 1 rfl) ?_
  refine j_callt (pre := [(oo, oC lc f)]) (w1 := cW E x) (As := [.int a]) (rest := [.int (nI 0), .ref oo]) ⟨hx, hb, hml, hown, hts⟩ hC (cwV 1 hts gL_turnOf_X2_turnOf rfl h1 h2 (by decide +kernel) ⟨by have := h3; show rm0.frames + 1 ≤ 8; omega, by have := h4; show 8 + (2 + 11) + rm0.locals ≤ 170; omega⟩) (va_recv hK hP (ci := 3) (q0 := 1) rfl rfl) hK hX hP hD hS hA rfl hl.1 rfl (Nat.le_of_ble_eq_true rfl) dL_turnOf_4 ⟨Nat.le_of_ble_eq_true rfl, Nat.le_of_ble_eq_true rfl⟩ (fun q9 ce H locs hP hS hcell hv hcl => ?_)
  refine vx_catch (own := RL) (name := "java/lang/IndexOutOfBoundsException") (E := "java/lang/IndexOutOfBoundsException") hown [] ⟨0, 9, 12, 13⟩ [] (ht.trans rfl) (fun z hz => by cases hz) (by decide) (by decide) (hts (.classLink RL 13 "java/lang/IndexOutOfBoundsException") (by decide +kernel)) (va_Nw.use rfl (hX.2.1 ("java/lang/IndexOutOfBoundsException", "java/lang/IndexOutOfBoundsException") (by decide))) hcell hv hcl ?_
  refine lv_astore_n (lv' := [(3, .ref q9), (0, .ref (eO E)), (1, .int a), (2, .ref oo)]) hx hb dL_turnOf_12 rfl hl (by decide) rfl (fun ls hl => ?_)
  refine lv_iconst (v := nI 1) hx hb dL_turnOf_13 (by decide) ?_
  exact W.iret hx hb hr (fun t ht hW => ⟨⟨_, (), rfl, rfl, by rw [ht]; exact hP, va_K.moved hW.alike hK, hD⟩, hS.F ht⟩) hS.2.2 dL_turnOf_14

set_option maxHeartbeats 4000000 in
set_option maxRecDepth 100000 in
theorem j_stamps_t1  (l : Launch) (D : va_G) (E : cE) (tl : gTy) (lc : ClassId) (oo : Nat) (f : Nat → Int64) (x : Nat → Nat → Int32) (a : Int32) (rm0 : Room) (h1 : rm0.cells = 1) (h2 : rm0.slots = 6) (h3 : rm0.frames ≤ 7) (h4 : rm0.locals ≤ 135) (hC : hT l yX2_stamps wsX2_stamps rm0 D E ((lc, .long) :: tl) (cW E x) [.ref (eO E), .int a] "java/lang/IndexOutOfBoundsException") : jI l yL_stamps wsL_stamps ({ frames := 8, cells := 1, slots := 6, locals := 170 } : Room) D E ((lc, .long) :: tl) ([(oo, oC lc f)] ++ cW E x) [.ref (eO E), .int a, .ref oo] (fun r (u : Unit) => r = nI 1) (fun _ => [(oo, oC lc f)] ++ cW E x) 1 6 := by
  refine jI.start (cc := cL_stamps) (maxL := 4) (ret := some .int) (own := RL) (hh := [(0, 9, 12, 13)]) rfl (by decide) rfl (Nat.le_of_ble_eq_true rfl) ?_
  intro pr e s m args below meth c A ls H locs hx hb hml hr ht hts hown hlocks hA hK hX hN hP hD hS hl
  replace hl : lv_has ls 4 [(0, .ref (eO E)), (1, .int a), (2, .ref oo)] := hl
  refine lv_aload_n hx hb dL_stamps_0 rfl (lv_at hl 2 rfl) ?_
  refine lv_iconst (v := nI 0) hx hb dL_stamps_1 (by decide) ?_
  refine lv_aload_n hx hb dL_stamps_2 rfl (lv_at hl 0 rfl) ?_
  refine lv_iload_n hx hb dL_stamps_3 rfl (lv_at hl 1 rfl) ?_
  refine j_callt (pre := [(oo, oC lc f)]) (w1 := cW E x) (As := [.int a]) (rest := [.int (nI 0), .ref oo]) ⟨hx, hb, hml, hown, hts⟩ hC (cwV 1 hts gL_stamps_X2_stamps rfl h1 h2 (by decide +kernel) ⟨by have := h3; show rm0.frames + 1 ≤ 8; omega, by have := h4; show 8 + (2 + 11) + rm0.locals ≤ 170; omega⟩) (va_recv hK hP (ci := 3) (q0 := 1) rfl rfl) hK hX hP hD hS hA rfl hl.1 rfl (Nat.le_of_ble_eq_true rfl) dL_stamps_4 ⟨Nat.le_of_ble_eq_true rfl, Nat.le_of_ble_eq_true rfl⟩ (fun q9 ce H locs hP hS hcell hv hcl => ?_)
  refine vx_catch (own := RL) (name := "java/lang/IndexOutOfBoundsException") (E := "java/lang/IndexOutOfBoundsException") hown [] ⟨0, 9, 12, 13⟩ [] (ht.trans rfl) (fun z hz => by cases hz) (by decide) (by decide) (hts (.classLink RL 13 "java/lang/IndexOutOfBoundsException") (by decide +kernel)) (va_Nw.use rfl (hX.2.1 ("java/lang/IndexOutOfBoundsException", "java/lang/IndexOutOfBoundsException") (by decide))) hcell hv hcl ?_
  refine lv_astore_n (lv' := [(3, .ref q9), (0, .ref (eO E)), (1, .int a), (2, .ref oo)]) hx hb dL_stamps_12 rfl hl (by decide) rfl (fun ls hl => ?_)
  refine lv_iconst (v := nI 1) hx hb dL_stamps_13 (by decide) ?_
  exact W.iret hx hb hr (fun t ht hW => ⟨⟨_, (), rfl, rfl, by rw [ht]; exact hP, va_K.moved hW.alike hK, hD⟩, hS.F ht⟩) hS.2.2 dL_stamps_14

set_option maxHeartbeats 4000000 in
set_option maxRecDepth 100000 in
theorem j_queue_t1  (l : Launch) (D : va_G) (E : cE) (tl : gTy) (lc : ClassId) (oo : Nat) (f : Nat → Int64) (x : Nat → Nat → Int32) (a : Int32) (rm0 : Room) (h1 : rm0.cells = 1) (h2 : rm0.slots = 6) (h3 : rm0.frames ≤ 7) (h4 : rm0.locals ≤ 135) (hC : hT l yX2_queue wsX2_queue rm0 D E ((lc, .long) :: tl) (cW E x) [.ref (eO E), .int a] "java/lang/IndexOutOfBoundsException") : jI l yL_queue wsL_queue ({ frames := 8, cells := 1, slots := 6, locals := 170 } : Room) D E ((lc, .long) :: tl) ([(oo, oC lc f)] ++ cW E x) [.ref (eO E), .int a, .ref oo] (fun r (u : Unit) => r = nI 1) (fun _ => [(oo, oC lc f)] ++ cW E x) 1 6 := by
  refine jI.start (cc := cL_queue) (maxL := 4) (ret := some .int) (own := RL) (hh := [(0, 9, 12, 13)]) rfl (by decide) rfl (Nat.le_of_ble_eq_true rfl) ?_
  intro pr e s m args below meth c A ls H locs hx hb hml hr ht hts hown hlocks hA hK hX hN hP hD hS hl
  replace hl : lv_has ls 4 [(0, .ref (eO E)), (1, .int a), (2, .ref oo)] := hl
  refine lv_aload_n hx hb dL_queue_0 rfl (lv_at hl 2 rfl) ?_
  refine lv_iconst (v := nI 0) hx hb dL_queue_1 (by decide) ?_
  refine lv_aload_n hx hb dL_queue_2 rfl (lv_at hl 0 rfl) ?_
  refine lv_iload_n hx hb dL_queue_3 rfl (lv_at hl 1 rfl) ?_
  refine j_callt (pre := [(oo, oC lc f)]) (w1 := cW E x) (As := [.int a]) (rest := [.int (nI 0), .ref oo]) ⟨hx, hb, hml, hown, hts⟩ hC (cwV 1 hts gL_queue_X2_queue rfl h1 h2 (by decide +kernel) ⟨by have := h3; show rm0.frames + 1 ≤ 8; omega, by have := h4; show 8 + (2 + 11) + rm0.locals ≤ 170; omega⟩) (va_recv hK hP (ci := 3) (q0 := 1) rfl rfl) hK hX hP hD hS hA rfl hl.1 rfl (Nat.le_of_ble_eq_true rfl) dL_queue_4 ⟨Nat.le_of_ble_eq_true rfl, Nat.le_of_ble_eq_true rfl⟩ (fun q9 ce H locs hP hS hcell hv hcl => ?_)
  refine vx_catch (own := RL) (name := "java/lang/IndexOutOfBoundsException") (E := "java/lang/IndexOutOfBoundsException") hown [] ⟨0, 9, 12, 13⟩ [] (ht.trans rfl) (fun z hz => by cases hz) (by decide) (by decide) (hts (.classLink RL 13 "java/lang/IndexOutOfBoundsException") (by decide +kernel)) (va_Nw.use rfl (hX.2.1 ("java/lang/IndexOutOfBoundsException", "java/lang/IndexOutOfBoundsException") (by decide))) hcell hv hcl ?_
  refine lv_astore_n (lv' := [(3, .ref q9), (0, .ref (eO E)), (1, .int a), (2, .ref oo)]) hx hb dL_queue_12 rfl hl (by decide) rfl (fun ls hl => ?_)
  refine lv_iconst (v := nI 1) hx hb dL_queue_13 (by decide) ?_
  exact W.iret hx hb hr (fun t ht hW => ⟨⟨_, (), rfl, rfl, by rw [ht]; exact hP, va_K.moved hW.alike hK, hD⟩, hS.F ht⟩) hS.2.2 dL_queue_14

set_option maxHeartbeats 4000000 in
set_option maxRecDepth 100000 in
theorem j_inside_t1  (l : Launch) (D : va_G) (E : cE) (tl : gTy) (lc : ClassId) (oo : Nat) (f : Nat → Int64) (x : Nat → Nat → Int32) (a : Int32) (rm0 : Room) (h1 : rm0.cells = 1) (h2 : rm0.slots = 6) (h3 : rm0.frames ≤ 7) (h4 : rm0.locals ≤ 135) (hC : hT l yX2_inside wsX2_inside rm0 D E ((lc, .long) :: tl) (cW E x) [.ref (eO E), .int a] "java/lang/IndexOutOfBoundsException") : jI l yL_inside wsL_inside ({ frames := 8, cells := 1, slots := 6, locals := 170 } : Room) D E ((lc, .long) :: tl) ([(oo, oC lc f)] ++ cW E x) [.ref (eO E), .int a, .ref oo] (fun r (u : Unit) => r = nI 1) (fun _ => [(oo, oC lc f)] ++ cW E x) 1 6 := by
  refine jI.start (cc := cL_inside) (maxL := 4) (ret := some .int) (own := RL) (hh := [(0, 9, 12, 13)]) rfl (by decide) rfl (Nat.le_of_ble_eq_true rfl) ?_
  intro pr e s m args below meth c A ls H locs hx hb hml hr ht hts hown hlocks hA hK hX hN hP hD hS hl
  replace hl : lv_has ls 4 [(0, .ref (eO E)), (1, .int a), (2, .ref oo)] := hl
  refine lv_aload_n hx hb dL_inside_0 rfl (lv_at hl 2 rfl) ?_
  refine lv_iconst (v := nI 0) hx hb dL_inside_1 (by decide) ?_
  refine lv_aload_n hx hb dL_inside_2 rfl (lv_at hl 0 rfl) ?_
  refine lv_iload_n hx hb dL_inside_3 rfl (lv_at hl 1 rfl) ?_
  refine j_callt (pre := [(oo, oC lc f)]) (w1 := cW E x) (As := [.int a]) (rest := [.int (nI 0), .ref oo]) ⟨hx, hb, hml, hown, hts⟩ hC (cwV 1 hts gL_inside_X2_inside rfl h1 h2 (by decide +kernel) ⟨by have := h3; show rm0.frames + 1 ≤ 8; omega, by have := h4; show 8 + (2 + 11) + rm0.locals ≤ 170; omega⟩) (va_recv hK hP (ci := 3) (q0 := 1) rfl rfl) hK hX hP hD hS hA rfl hl.1 rfl (Nat.le_of_ble_eq_true rfl) dL_inside_4 ⟨Nat.le_of_ble_eq_true rfl, Nat.le_of_ble_eq_true rfl⟩ (fun q9 ce H locs hP hS hcell hv hcl => ?_)
  refine vx_catch (own := RL) (name := "java/lang/IndexOutOfBoundsException") (E := "java/lang/IndexOutOfBoundsException") hown [] ⟨0, 9, 12, 13⟩ [] (ht.trans rfl) (fun z hz => by cases hz) (by decide) (by decide) (hts (.classLink RL 13 "java/lang/IndexOutOfBoundsException") (by decide +kernel)) (va_Nw.use rfl (hX.2.1 ("java/lang/IndexOutOfBoundsException", "java/lang/IndexOutOfBoundsException") (by decide))) hcell hv hcl ?_
  refine lv_astore_n (lv' := [(3, .ref q9), (0, .ref (eO E)), (1, .int a), (2, .ref oo)]) hx hb dL_inside_12 rfl hl (by decide) rfl (fun ls hl => ?_)
  refine lv_iconst (v := nI 1) hx hb dL_inside_13 (by decide) ?_
  exact W.iret hx hb hr (fun t ht hW => ⟨⟨_, (), rfl, rfl, by rw [ht]; exact hP, va_K.moved hW.alike hK, hD⟩, hS.F ht⟩) hS.2.2 dL_inside_14

set_option maxHeartbeats 4000000 in
set_option maxRecDepth 100000 in
theorem j_stock_t1  (l : Launch) (D : va_G) (E : cE) (tl : gTy) (lc : ClassId) (oo : Nat) (f : Nat → Int64) (x : Nat → Nat → Int32) (a : Int32) (rm0 : Room) (h1 : rm0.cells = 1) (h2 : rm0.slots = 6) (h3 : rm0.frames ≤ 7) (h4 : rm0.locals ≤ 135) (hC : hT l yX2_stock wsX2_stock rm0 D E ((lc, .long) :: tl) (cW E x) [.ref (eO E), .int a] "java/lang/IndexOutOfBoundsException") : jI l yL_stock wsL_stock ({ frames := 8, cells := 1, slots := 6, locals := 170 } : Room) D E ((lc, .long) :: tl) ([(oo, oC lc f)] ++ cW E x) [.ref (eO E), .int a, .ref oo] (fun r (u : Unit) => r = nI 1) (fun _ => [(oo, oC lc f)] ++ cW E x) 1 6 := by
  refine jI.start (cc := cL_stock) (maxL := 4) (ret := some .int) (own := RL) (hh := [(0, 9, 12, 13)]) rfl (by decide) rfl (Nat.le_of_ble_eq_true rfl) ?_
  intro pr e s m args below meth c A ls H locs hx hb hml hr ht hts hown hlocks hA hK hX hN hP hD hS hl
  replace hl : lv_has ls 4 [(0, .ref (eO E)), (1, .int a), (2, .ref oo)] := hl
  refine lv_aload_n hx hb dL_stock_0 rfl (lv_at hl 2 rfl) ?_
  refine lv_iconst (v := nI 0) hx hb dL_stock_1 (by decide) ?_
  refine lv_aload_n hx hb dL_stock_2 rfl (lv_at hl 0 rfl) ?_
  refine lv_iload_n hx hb dL_stock_3 rfl (lv_at hl 1 rfl) ?_
  refine j_callt (pre := [(oo, oC lc f)]) (w1 := cW E x) (As := [.int a]) (rest := [.int (nI 0), .ref oo]) ⟨hx, hb, hml, hown, hts⟩ hC (cwV 1 hts gL_stock_X2_stock rfl h1 h2 (by decide +kernel) ⟨by have := h3; show rm0.frames + 1 ≤ 8; omega, by have := h4; show 8 + (2 + 11) + rm0.locals ≤ 170; omega⟩) (va_recv hK hP (ci := 3) (q0 := 1) rfl rfl) hK hX hP hD hS hA rfl hl.1 rfl (Nat.le_of_ble_eq_true rfl) dL_stock_4 ⟨Nat.le_of_ble_eq_true rfl, Nat.le_of_ble_eq_true rfl⟩ (fun q9 ce H locs hP hS hcell hv hcl => ?_)
  refine vx_catch (own := RL) (name := "java/lang/IndexOutOfBoundsException") (E := "java/lang/IndexOutOfBoundsException") hown [] ⟨0, 9, 12, 13⟩ [] (ht.trans rfl) (fun z hz => by cases hz) (by decide) (by decide) (hts (.classLink RL 13 "java/lang/IndexOutOfBoundsException") (by decide +kernel)) (va_Nw.use rfl (hX.2.1 ("java/lang/IndexOutOfBoundsException", "java/lang/IndexOutOfBoundsException") (by decide))) hcell hv hcl ?_
  refine lv_astore_n (lv' := [(3, .ref q9), (0, .ref (eO E)), (1, .int a), (2, .ref oo)]) hx hb dL_stock_12 rfl hl (by decide) rfl (fun ls hl => ?_)
  refine lv_iconst (v := nI 1) hx hb dL_stock_13 (by decide) ?_
  exact W.iret hx hb hr (fun t ht hW => ⟨⟨_, (), rfl, rfl, by rw [ht]; exact hP, va_K.moved hW.alike hK, hD⟩, hS.F ht⟩) hS.2.2 dL_stock_14

set_option maxHeartbeats 4000000 in
set_option maxRecDepth 100000 in
theorem j_demand_t1  (l : Launch) (D : va_G) (E : cE) (tl : gTy) (lc : ClassId) (oo : Nat) (f : Nat → Int64) (x : Nat → Nat → Int32) (a : Int32) (rm0 : Room) (h1 : rm0.cells = 1) (h2 : rm0.slots = 6) (h3 : rm0.frames ≤ 7) (h4 : rm0.locals ≤ 135) (hC : hT l yX2_demand wsX2_demand rm0 D E ((lc, .long) :: tl) (cW E x) [.ref (eO E), .int a] "java/lang/IndexOutOfBoundsException") : jI l yL_demand wsL_demand ({ frames := 8, cells := 1, slots := 6, locals := 170 } : Room) D E ((lc, .long) :: tl) ([(oo, oC lc f)] ++ cW E x) [.ref (eO E), .int a, .ref oo] (fun r (u : Unit) => r = nI 1) (fun _ => [(oo, oC lc f)] ++ cW E x) 1 6 := by
  refine jI.start (cc := cL_demand) (maxL := 4) (ret := some .int) (own := RL) (hh := [(0, 9, 12, 13)]) rfl (by decide) rfl (Nat.le_of_ble_eq_true rfl) ?_
  intro pr e s m args below meth c A ls H locs hx hb hml hr ht hts hown hlocks hA hK hX hN hP hD hS hl
  replace hl : lv_has ls 4 [(0, .ref (eO E)), (1, .int a), (2, .ref oo)] := hl
  refine lv_aload_n hx hb dL_demand_0 rfl (lv_at hl 2 rfl) ?_
  refine lv_iconst (v := nI 0) hx hb dL_demand_1 (by decide) ?_
  refine lv_aload_n hx hb dL_demand_2 rfl (lv_at hl 0 rfl) ?_
  refine lv_iload_n hx hb dL_demand_3 rfl (lv_at hl 1 rfl) ?_
  refine j_callt (pre := [(oo, oC lc f)]) (w1 := cW E x) (As := [.int a]) (rest := [.int (nI 0), .ref oo]) ⟨hx, hb, hml, hown, hts⟩ hC (cwV 1 hts gL_demand_X2_demand rfl h1 h2 (by decide +kernel) ⟨by have := h3; show rm0.frames + 1 ≤ 8; omega, by have := h4; show 8 + (2 + 11) + rm0.locals ≤ 170; omega⟩) (va_recv hK hP (ci := 3) (q0 := 1) rfl rfl) hK hX hP hD hS hA rfl hl.1 rfl (Nat.le_of_ble_eq_true rfl) dL_demand_4 ⟨Nat.le_of_ble_eq_true rfl, Nat.le_of_ble_eq_true rfl⟩ (fun q9 ce H locs hP hS hcell hv hcl => ?_)
  refine vx_catch (own := RL) (name := "java/lang/IndexOutOfBoundsException") (E := "java/lang/IndexOutOfBoundsException") hown [] ⟨0, 9, 12, 13⟩ [] (ht.trans rfl) (fun z hz => by cases hz) (by decide) (by decide) (hts (.classLink RL 13 "java/lang/IndexOutOfBoundsException") (by decide +kernel)) (va_Nw.use rfl (hX.2.1 ("java/lang/IndexOutOfBoundsException", "java/lang/IndexOutOfBoundsException") (by decide))) hcell hv hcl ?_
  refine lv_astore_n (lv' := [(3, .ref q9), (0, .ref (eO E)), (1, .int a), (2, .ref oo)]) hx hb dL_demand_12 rfl hl (by decide) rfl (fun ls hl => ?_)
  refine lv_iconst (v := nI 1) hx hb dL_demand_13 (by decide) ?_
  exact W.iret hx hb hr (fun t ht hW => ⟨⟨_, (), rfl, rfl, by rw [ht]; exact hP, va_K.moved hW.alike hK, hD⟩, hS.F ht⟩) hS.2.2 dL_demand_14

set_option maxHeartbeats 4000000 in
set_option maxRecDepth 100000 in
theorem j_sent_t1  (l : Launch) (D : va_G) (E : cE) (tl : gTy) (lc : ClassId) (oo : Nat) (f : Nat → Int64) (x : Nat → Nat → Int32) (a b : Int32) (rm0 : Room) (h1 : rm0.cells = 1) (h2 : rm0.slots = 6) (h3 : rm0.frames ≤ 7) (h4 : rm0.locals ≤ 135) (hC : hT l yX2_sent wsX2_sent rm0 D E ((lc, .long) :: tl) (cW E x) [.ref (eO E), .int a, .int b] "java/lang/IndexOutOfBoundsException") : jI l yL_sent wsL_sent ({ frames := 8, cells := 1, slots := 6, locals := 170 } : Room) D E ((lc, .long) :: tl) ([(oo, oC lc f)] ++ cW E x) [.ref (eO E), .int a, .int b, .ref oo] (fun r (u : Unit) => r = nI 1) (fun _ => [(oo, oC lc f)] ++ cW E x) 1 6 := by
  refine jI.start (cc := cL_sent) (maxL := 5) (ret := some .int) (own := RL) (hh := [(0, 10, 13, 13)]) rfl (by decide) rfl (Nat.le_of_ble_eq_true rfl) ?_
  intro pr e s m args below meth c A ls H locs hx hb hml hr ht hts hown hlocks hA hK hX hN hP hD hS hl
  replace hl : lv_has ls 5 [(0, .ref (eO E)), (1, .int a), (2, .int b), (3, .ref oo)] := hl
  refine lv_aload_n hx hb dL_sent_0 rfl (lv_at hl 3 rfl) ?_
  refine lv_iconst (v := nI 0) hx hb dL_sent_1 (by decide) ?_
  refine lv_aload_n hx hb dL_sent_2 rfl (lv_at hl 0 rfl) ?_
  refine lv_iload_n hx hb dL_sent_3 rfl (lv_at hl 1 rfl) ?_
  refine lv_iload_n hx hb dL_sent_4 rfl (lv_at hl 2 rfl) ?_
  refine j_callt (pre := [(oo, oC lc f)]) (w1 := cW E x) (As := [.int a, .int b]) (rest := [.int (nI 0), .ref oo]) ⟨hx, hb, hml, hown, hts⟩ hC (cwV 2 hts gL_sent_X2_sent rfl h1 h2 (by decide +kernel) ⟨by have := h3; show rm0.frames + 1 ≤ 8; omega, by have := h4; show 8 + (5 + 11) + rm0.locals ≤ 170; omega⟩) (va_recv hK hP (ci := 3) (q0 := 1) rfl rfl) hK hX hP hD hS hA rfl hl.1 rfl (Nat.le_of_ble_eq_true rfl) dL_sent_5 ⟨Nat.le_of_ble_eq_true rfl, Nat.le_of_ble_eq_true rfl⟩ (fun q9 ce H locs hP hS hcell hv hcl => ?_)
  refine vx_catch (own := RL) (name := "java/lang/IndexOutOfBoundsException") (E := "java/lang/IndexOutOfBoundsException") hown [] ⟨0, 10, 13, 13⟩ [] (ht.trans rfl) (fun z hz => by cases hz) (by decide) (by decide) (hts (.classLink RL 13 "java/lang/IndexOutOfBoundsException") (by decide +kernel)) (va_Nw.use rfl (hX.2.1 ("java/lang/IndexOutOfBoundsException", "java/lang/IndexOutOfBoundsException") (by decide))) hcell hv hcl ?_
  refine lv_astore (lv' := [(4, .ref q9), (0, .ref (eO E)), (1, .int a), (2, .int b), (3, .ref oo)]) hx hb dL_sent_13 hl (by decide) rfl (fun ls hl => ?_)
  refine lv_iconst (v := nI 1) hx hb dL_sent_15 (by decide) ?_
  exact W.iret hx hb hr (fun t ht hW => ⟨⟨_, (), rfl, rfl, by rw [ht]; exact hP, va_K.moved hW.alike hK, hD⟩, hS.F ht⟩) hS.2.2 dL_sent_16

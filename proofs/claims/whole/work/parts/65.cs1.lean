set_option maxHeartbeats 4000000 in
set_option maxRecDepth 100000 in
theorem cs_stateOf {p : Program} {e : Env} {s : State} {m : MethodId} {below : List Frame} {meth : Method} {c : Code} {b L : Nat} {xs : Nat → Int32} {D : va_G} {ou : Nat × (Nat → Nat)} {oo : Nat} {lc : ClassId} {E : cE} {x y : T2} {f : Nat → Int64} {cells slots : Nat} {ls : Array Slot} {H : Heap} {locs : List Loc} {q : Nat → List Nat} {mm : Nat} (l : Launch) (hL : L ≤ 2048) (C0 : lw_At p s m meth c b L xs) (hN : jNc s) (hKX : lwKX D lc s E) {i : Nat} (hi : i + 4 ≤ L) (hcl : cells + 1 ≤ 601024) (hsl : slots + 10 ≤ 7293034) (hl0 : l.stackTraces = false) (hR0 : rI E x y q mm) (hn : lwN p l e s m b below meth c D ou oo lc (eO E) (nI i) cells slots) (hP : va_P D vwCl (lwG ou E y oo lc f x) H) (hD : va_D (fun q : Nat => s.heap.size ≤ q) (lwG ou E y oo lc f x)) (hS : va_S (fun q : Nat => s.heap.size ≤ q) s.heap H locs) (hl : lv_has ls 7 [(0, .ref b), (1, .ref (eO E)), (2, .ref ou.1), (3, .ref oo), (4, .int (nI i))]) : W p l e room_1 s m #[Value.ref b] below meth c H locs cells slots (lw_Z below #[Value.ref b] s) (F0 m 676 ls []) := by
  have h0 := hR0.1
  obtain ⟨⟨hQ9, hC9, hN9⟩, ⟨hV9, hT9, hB9⟩, ⟨hF9, hG9⟩, hL9, hS9⟩ := hR0.1
  rcases arg_nI (z := xs (i + 1)) (n := 8) (by decide) with ⟨v, hv, hz⟩ | ⟨hz1, hz2⟩
  · have hJ := j_stateOf_ok 0 0 l D E [] lc oo f x (nI v) ({ frames := 1, cells := 0, slots := 0, locals := 21 } : Room) rfl rfl (by decide) (by decide) (c_X2_stateOf l D E [(lc, .long)] x v hv) (fun _ _ _ => hm_x0)
    have hM := c_X3_stateOf l D (ou, (eI E, eZ E)) (lwT E lc) y v hv
    exact br_stateOf l hL C0 hN hKX hi hcl hsl (mc := 0) (ms := 0) (by decide) (by decide) (rmm := ({ frames := 1, cells := 0, slots := 0, locals := 22 } : Room)) rfl rfl (by decide) (by decide) hz hJ (fun _ _ _ => hm_c hm_x0) hM (fun k u r y1 hw hw2 => fin_ok (q1 := q) (m1 := mm) hKX rfl rfl rfl hw.1 (hw.2.1.trans ((hC9 v hv).1.trans hw2.1.symm)) (by rw [hw2.2]; exact up2_s _ _ _ _) (by rw [hw.2.2, hw2.2]; exact rI_18 hR0 _)) hn hP hD hS hl
  · have hJ := j_stateOf_t1 l D E [] lc oo f x (xs (i + 1)) ({ frames := 7, cells := 1, slots := 6, locals := 103 } : Room) rfl rfl (by decide) (by decide) (c_X2_stateOf_t l hl0 D E [(lc, .long)] x (xs (i + 1)) hz1)
    have hM := c_X3_stateOf_n l D (ou, (eI E, eZ E)) (lwT E lc) y (xs (i + 1)) hz2
    exact br_stateOf l hL C0 hN hKX hi hcl hsl (mc := 1) (ms := 6) (by decide) (by decide) (rmm := ({ frames := 1, cells := 0, slots := 0, locals := 22 } : Room)) rfl rfl (by decide) (by decide) rfl hJ (fun _ _ _ => hm_t) hM (fun k u r y1 hw hw2 => fin_t (Or.inl rfl) hKX hR0 hw hw2) hn hP hD hS hl

set_option maxHeartbeats 4000000 in
set_option maxRecDepth 100000 in
theorem cs_whereIs {p : Program} {e : Env} {s : State} {m : MethodId} {below : List Frame} {meth : Method} {c : Code} {b L : Nat} {xs : Nat → Int32} {D : va_G} {ou : Nat × (Nat → Nat)} {oo : Nat} {lc : ClassId} {E : cE} {x y : T2} {f : Nat → Int64} {cells slots : Nat} {ls : Array Slot} {H : Heap} {locs : List Loc} {q : Nat → List Nat} {mm : Nat} (l : Launch) (hL : L ≤ 2048) (C0 : lw_At p s m meth c b L xs) (hN : jNc s) (hKX : lwKX D lc s E) {i : Nat} (hi : i + 4 ≤ L) (hcl : cells + 1 ≤ 601024) (hsl : slots + 10 ≤ 7293034) (hl0 : l.stackTraces = false) (hR0 : rI E x y q mm) (hn : lwN p l e s m b below meth c D ou oo lc (eO E) (nI i) cells slots) (hP : va_P D vwCl (lwG ou E y oo lc f x) H) (hD : va_D (fun q : Nat => s.heap.size ≤ q) (lwG ou E y oo lc f x)) (hS : va_S (fun q : Nat => s.heap.size ≤ q) s.heap H locs) (hl : lv_has ls 7 [(0, .ref b), (1, .ref (eO E)), (2, .ref ou.1), (3, .ref oo), (4, .int (nI i))]) : W p l e room_1 s m #[Value.ref b] below meth c H locs cells slots (lw_Z below #[Value.ref b] s) (F0 m 732 ls []) := by
  have h0 := hR0.1
  obtain ⟨⟨hQ9, hC9, hN9⟩, ⟨hV9, hT9, hB9⟩, ⟨hF9, hG9⟩, hL9, hS9⟩ := hR0.1
  rcases arg_nI (z := xs (i + 1)) (n := 8) (by decide) with ⟨v, hv, hz⟩ | ⟨hz1, hz2⟩
  · have hJ := j_whereIs_ok 0 0 l D E [] lc oo f x (nI v) ({ frames := 1, cells := 0, slots := 0, locals := 21 } : Room) rfl rfl (by decide) (by decide) (c_X2_whereIs l D E [(lc, .long)] x v hv) (fun _ _ _ => hm_x0)
    have hM := c_X3_whereIs l D (ou, (eI E, eZ E)) (lwT E lc) y v hv
    exact br_whereIs l hL C0 hN hKX hi hcl hsl (mc := 0) (ms := 0) (by decide) (by decide) (rmm := ({ frames := 1, cells := 0, slots := 0, locals := 22 } : Room)) rfl rfl (by decide) (by decide) hz hJ (fun _ _ _ => hm_c hm_x0) hM (fun k u r y1 hw hw2 => fin_ok (q1 := q) (m1 := mm) hKX rfl rfl rfl hw.1 (hw.2.1.trans ((hC9 v hv).2.trans hw2.1.symm)) (by rw [hw2.2]; exact up2_s _ _ _ _) (by rw [hw.2.2, hw2.2]; exact rI_18 hR0 _)) hn hP hD hS hl
  · have hJ := j_whereIs_t1 l D E [] lc oo f x (xs (i + 1)) ({ frames := 7, cells := 1, slots := 6, locals := 103 } : Room) rfl rfl (by decide) (by decide) (c_X2_whereIs_t l hl0 D E [(lc, .long)] x (xs (i + 1)) hz1)
    have hM := c_X3_whereIs_n l D (ou, (eI E, eZ E)) (lwT E lc) y (xs (i + 1)) hz2
    exact br_whereIs l hL C0 hN hKX hi hcl hsl (mc := 1) (ms := 6) (by decide) (by decide) (rmm := ({ frames := 1, cells := 0, slots := 0, locals := 22 } : Room)) rfl rfl (by decide) (by decide) rfl hJ (fun _ _ _ => hm_t) hM (fun k u r y1 hw hw2 => fin_t (Or.inl rfl) hKX hR0 hw hw2) hn hP hD hS hl

set_option maxHeartbeats 4000000 in
set_option maxRecDepth 100000 in
theorem cs_turnOf {p : Program} {e : Env} {s : State} {m : MethodId} {below : List Frame} {meth : Method} {c : Code} {b L : Nat} {xs : Nat → Int32} {D : va_G} {ou : Nat × (Nat → Nat)} {oo : Nat} {lc : ClassId} {E : cE} {x y : T2} {f : Nat → Int64} {cells slots : Nat} {ls : Array Slot} {H : Heap} {locs : List Loc} {q : Nat → List Nat} {mm : Nat} (l : Launch) (hL : L ≤ 2048) (C0 : lw_At p s m meth c b L xs) (hN : jNc s) (hKX : lwKX D lc s E) {i : Nat} (hi : i + 4 ≤ L) (hcl : cells + 1 ≤ 601024) (hsl : slots + 10 ≤ 7293034) (hl0 : l.stackTraces = false) (hR0 : rI E x y q mm) (hn : lwN p l e s m b below meth c D ou oo lc (eO E) (nI i) cells slots) (hP : va_P D vwCl (lwG ou E y oo lc f x) H) (hD : va_D (fun q : Nat => s.heap.size ≤ q) (lwG ou E y oo lc f x)) (hS : va_S (fun q : Nat => s.heap.size ≤ q) s.heap H locs) (hl : lv_has ls 7 [(0, .ref b), (1, .ref (eO E)), (2, .ref ou.1), (3, .ref oo), (4, .int (nI i))]) : W p l e room_1 s m #[Value.ref b] below meth c H locs cells slots (lw_Z below #[Value.ref b] s) (F0 m 844 ls []) := by
  have h0 := hR0.1
  obtain ⟨⟨hQ9, hC9, hN9⟩, ⟨hV9, hT9, hB9⟩, ⟨hF9, hG9⟩, hL9, hS9⟩ := hR0.1
  rcases arg_nI (z := xs (i + 1)) (n := 8) (by decide) with ⟨v, hv, hz⟩ | ⟨hz1, hz2⟩
  · have hJ := j_turnOf_ok 0 0 l D E [] lc oo f x (nI v) ({ frames := 1, cells := 0, slots := 0, locals := 21 } : Room) rfl rfl (by decide) (by decide) (c_X2_turnOf l D E [(lc, .long)] x v hv) (fun _ _ _ => hm_x0)
    have hM := c_X3_turnOf l D (ou, (eI E, eZ E)) (lwT E lc) y v hv
    exact br_turnOf l hL C0 hN hKX hi hcl hsl (mc := 0) (ms := 0) (by decide) (by decide) (rmm := ({ frames := 1, cells := 0, slots := 0, locals := 22 } : Room)) rfl rfl (by decide) (by decide) hz hJ (fun _ _ _ => hm_c hm_x0) hM (fun k u r y1 hw hw2 => fin_ok (q1 := q) (m1 := mm) hKX rfl rfl rfl hw.1 (hw.2.1.trans ((hG9 v hv).2.2.1.trans hw2.1.symm)) (by rw [hw2.2]; exact up2_s _ _ _ _) (by rw [hw.2.2, hw2.2]; exact rI_18 hR0 _)) hn hP hD hS hl
  · have hJ := j_turnOf_t1 l D E [] lc oo f x (xs (i + 1)) ({ frames := 7, cells := 1, slots := 6, locals := 103 } : Room) rfl rfl (by decide) (by decide) (c_X2_turnOf_t l hl0 D E [(lc, .long)] x (xs (i + 1)) hz1)
    have hM := c_X3_turnOf_n l D (ou, (eI E, eZ E)) (lwT E lc) y (xs (i + 1)) hz2
    exact br_turnOf l hL C0 hN hKX hi hcl hsl (mc := 1) (ms := 6) (by decide) (by decide) (rmm := ({ frames := 1, cells := 0, slots := 0, locals := 22 } : Room)) rfl rfl (by decide) (by decide) rfl hJ (fun _ _ _ => hm_t) hM (fun k u r y1 hw hw2 => fin_t (Or.inl rfl) hKX hR0 hw hw2) hn hP hD hS hl

set_option maxHeartbeats 4000000 in
set_option maxRecDepth 100000 in
theorem cs_stamps {p : Program} {e : Env} {s : State} {m : MethodId} {below : List Frame} {meth : Method} {c : Code} {b L : Nat} {xs : Nat → Int32} {D : va_G} {ou : Nat × (Nat → Nat)} {oo : Nat} {lc : ClassId} {E : cE} {x y : T2} {f : Nat → Int64} {cells slots : Nat} {ls : Array Slot} {H : Heap} {locs : List Loc} {q : Nat → List Nat} {mm : Nat} (l : Launch) (hL : L ≤ 2048) (C0 : lw_At p s m meth c b L xs) (hN : jNc s) (hKX : lwKX D lc s E) {i : Nat} (hi : i + 4 ≤ L) (hcl : cells + 1 ≤ 601024) (hsl : slots + 10 ≤ 7293034) (hl0 : l.stackTraces = false) (hR0 : rI E x y q mm) (hn : lwN p l e s m b below meth c D ou oo lc (eO E) (nI i) cells slots) (hP : va_P D vwCl (lwG ou E y oo lc f x) H) (hD : va_D (fun q : Nat => s.heap.size ≤ q) (lwG ou E y oo lc f x)) (hS : va_S (fun q : Nat => s.heap.size ≤ q) s.heap H locs) (hl : lv_has ls 7 [(0, .ref b), (1, .ref (eO E)), (2, .ref ou.1), (3, .ref oo), (4, .int (nI i))]) : W p l e room_1 s m #[Value.ref b] below meth c H locs cells slots (lw_Z below #[Value.ref b] s) (F0 m 900 ls []) := by
  have h0 := hR0.1
  obtain ⟨⟨hQ9, hC9, hN9⟩, ⟨hV9, hT9, hB9⟩, ⟨hF9, hG9⟩, hL9, hS9⟩ := hR0.1
  rcases arg_nI (z := xs (i + 1)) (n := 8) (by decide) with ⟨v, hv, hz⟩ | ⟨hz1, hz2⟩
  · have hJ := j_stamps_ok 0 0 l D E [] lc oo f x (nI v) ({ frames := 1, cells := 0, slots := 0, locals := 21 } : Room) rfl rfl (by decide) (by decide) (c_X2_stamps l D E [(lc, .long)] x v hv) (fun _ _ _ => hm_x0)
    have hM := c_X3_stamps l D (ou, (eI E, eZ E)) (lwT E lc) y v hv
    exact br_stamps l hL C0 hN hKX hi hcl hsl (mc := 0) (ms := 0) (by decide) (by decide) (rmm := ({ frames := 1, cells := 0, slots := 0, locals := 22 } : Room)) rfl rfl (by decide) (by decide) hz hJ (fun _ _ _ => hm_c hm_x0) hM (fun k u r y1 hw hw2 => fin_ok (q1 := q) (m1 := mm) hKX rfl rfl rfl hw.1 (hw.2.1.trans ((hG9 v hv).2.1.trans hw2.1.symm)) (by rw [hw2.2]; exact up2_s _ _ _ _) (by rw [hw.2.2, hw2.2]; exact rI_18 hR0 _)) hn hP hD hS hl
  · have hJ := j_stamps_t1 l D E [] lc oo f x (xs (i + 1)) ({ frames := 7, cells := 1, slots := 6, locals := 103 } : Room) rfl rfl (by decide) (by decide) (c_X2_stamps_t l hl0 D E [(lc, .long)] x (xs (i + 1)) hz1)
    have hM := c_X3_stamps_n l D (ou, (eI E, eZ E)) (lwT E lc) y (xs (i + 1)) hz2
    exact br_stamps l hL C0 hN hKX hi hcl hsl (mc := 1) (ms := 6) (by decide) (by decide) (rmm := ({ frames := 1, cells := 0, slots := 0, locals := 22 } : Room)) rfl rfl (by decide) (by decide) rfl hJ (fun _ _ _ => hm_t) hM (fun k u r y1 hw hw2 => fin_t (Or.inl rfl) hKX hR0 hw hw2) hn hP hD hS hl

set_option maxHeartbeats 4000000 in
set_option maxRecDepth 100000 in
theorem cs_queue {p : Program} {e : Env} {s : State} {m : MethodId} {below : List Frame} {meth : Method} {c : Code} {b L : Nat} {xs : Nat → Int32} {D : va_G} {ou : Nat × (Nat → Nat)} {oo : Nat} {lc : ClassId} {E : cE} {x y : T2} {f : Nat → Int64} {cells slots : Nat} {ls : Array Slot} {H : Heap} {locs : List Loc} {q : Nat → List Nat} {mm : Nat} (l : Launch) (hL : L ≤ 2048) (C0 : lw_At p s m meth c b L xs) (hN : jNc s) (hKX : lwKX D lc s E) {i : Nat} (hi : i + 4 ≤ L) (hcl : cells + 1 ≤ 601024) (hsl : slots + 10 ≤ 7293034) (hl0 : l.stackTraces = false) (hR0 : rI E x y q mm) (hn : lwN p l e s m b below meth c D ou oo lc (eO E) (nI i) cells slots) (hP : va_P D vwCl (lwG ou E y oo lc f x) H) (hD : va_D (fun q : Nat => s.heap.size ≤ q) (lwG ou E y oo lc f x)) (hS : va_S (fun q : Nat => s.heap.size ≤ q) s.heap H locs) (hl : lv_has ls 7 [(0, .ref b), (1, .ref (eO E)), (2, .ref ou.1), (3, .ref oo), (4, .int (nI i))]) : W p l e room_1 s m #[Value.ref b] below meth c H locs cells slots (lw_Z below #[Value.ref b] s) (F0 m 956 ls []) := by
  have h0 := hR0.1
  obtain ⟨⟨hQ9, hC9, hN9⟩, ⟨hV9, hT9, hB9⟩, ⟨hF9, hG9⟩, hL9, hS9⟩ := hR0.1
  rcases arg_nI (z := xs (i + 1)) (n := 6) (by decide) with ⟨v, hv, hz⟩ | ⟨hz1, hz2⟩
  · have hJ := j_queue_ok 0 0 l D E [] lc oo f x (nI v) ({ frames := 2, cells := 0, slots := 0, locals := 50 } : Room) rfl rfl (by decide) (by decide) (c_X2_queue l D E [(lc, .long)] x v hv) (fun _ _ _ => hm_x0)
    have hM := c_X3_queue l D (ou, (eI E, eZ E)) (lwT E lc) y v hv
    exact br_queue l hL C0 hN hKX hi hcl hsl (mc := 0) (ms := 0) (by decide) (by decide) (rmm := ({ frames := 1, cells := 0, slots := 0, locals := 22 } : Room)) rfl rfl (by decide) (by decide) hz hJ (fun _ _ _ => hm_c hm_x0) hM (fun k u r y1 hw hw2 => fin_ok (q1 := q) (m1 := mm) hKX rfl rfl rfl hw.1 (hw.2.1.trans ((congrArg nI (w_cnt h0 hv)).trans ((hQ9 v hv).2.1.symm.trans hw2.1.symm))) (by rw [hw2.2]; exact up2_s _ _ _ _) (by rw [hw.2.2, hw2.2]; exact rI_18 hR0 _)) hn hP hD hS hl
  · have hJ := j_queue_t1 l D E [] lc oo f x (xs (i + 1)) ({ frames := 7, cells := 1, slots := 6, locals := 103 } : Room) rfl rfl (by decide) (by decide) (c_X2_queue_t l hl0 D E [(lc, .long)] x (xs (i + 1)) hz1)
    have hM := c_X3_queue_n l D (ou, (eI E, eZ E)) (lwT E lc) y (xs (i + 1)) hz2
    exact br_queue l hL C0 hN hKX hi hcl hsl (mc := 1) (ms := 6) (by decide) (by decide) (rmm := ({ frames := 1, cells := 0, slots := 0, locals := 22 } : Room)) rfl rfl (by decide) (by decide) rfl hJ (fun _ _ _ => hm_t) hM (fun k u r y1 hw hw2 => fin_t (Or.inl rfl) hKX hR0 hw hw2) hn hP hD hS hl

set_option maxHeartbeats 4000000 in
set_option maxRecDepth 100000 in
theorem cs_inside {p : Program} {e : Env} {s : State} {m : MethodId} {below : List Frame} {meth : Method} {c : Code} {b L : Nat} {xs : Nat → Int32} {D : va_G} {ou : Nat × (Nat → Nat)} {oo : Nat} {lc : ClassId} {E : cE} {x y : T2} {f : Nat → Int64} {cells slots : Nat} {ls : Array Slot} {H : Heap} {locs : List Loc} {q : Nat → List Nat} {mm : Nat} (l : Launch) (hL : L ≤ 2048) (C0 : lw_At p s m meth c b L xs) (hN : jNc s) (hKX : lwKX D lc s E) {i : Nat} (hi : i + 4 ≤ L) (hcl : cells + 1 ≤ 601024) (hsl : slots + 10 ≤ 7293034) (hl0 : l.stackTraces = false) (hR0 : rI E x y q mm) (hn : lwN p l e s m b below meth c D ou oo lc (eO E) (nI i) cells slots) (hP : va_P D vwCl (lwG ou E y oo lc f x) H) (hD : va_D (fun q : Nat => s.heap.size ≤ q) (lwG ou E y oo lc f x)) (hS : va_S (fun q : Nat => s.heap.size ≤ q) s.heap H locs) (hl : lv_has ls 7 [(0, .ref b), (1, .ref (eO E)), (2, .ref ou.1), (3, .ref oo), (4, .int (nI i))]) : W p l e room_1 s m #[Value.ref b] below meth c H locs cells slots (lw_Z below #[Value.ref b] s) (F0 m 1012 ls []) := by
  have h0 := hR0.1
  obtain ⟨⟨hQ9, hC9, hN9⟩, ⟨hV9, hT9, hB9⟩, ⟨hF9, hG9⟩, hL9, hS9⟩ := hR0.1
  rcases arg_nI (z := xs (i + 1)) (n := 6) (by decide) with ⟨v, hv, hz⟩ | ⟨hz1, hz2⟩
  · have hJ := j_inside_ok 0 0 l D E [] lc oo f x (nI v) ({ frames := 2, cells := 0, slots := 0, locals := 50 } : Room) rfl rfl (by decide) (by decide) (c_X2_inside l D E [(lc, .long)] x v hv) (fun _ _ _ => hm_x0)
    have hM := c_X3_inside l D (ou, (eI E, eZ E)) (lwT E lc) y v hv
    exact br_inside l hL C0 hN hKX hi hcl hsl (mc := 0) (ms := 0) (by decide) (by decide) (rmm := ({ frames := 1, cells := 0, slots := 0, locals := 23 } : Room)) rfl rfl (by decide) (by decide) hz hJ (fun _ _ _ => hm_c hm_x0) hM (fun k u r y1 hw hw2 => fin_ok (q1 := q) (m1 := mm) hKX rfl rfl rfl hw.1 (hw.2.1.trans ((congrArg nI (w_ins hC9 v 8 (Nat.le_refl 8))).trans hw2.1.symm)) (by rw [hw2.2]; exact up2_s _ _ _ _) (by rw [hw.2.2, hw2.2]; exact rI_18 hR0 _)) hn hP hD hS hl
  · have hJ := j_inside_t1 l D E [] lc oo f x (xs (i + 1)) ({ frames := 7, cells := 1, slots := 6, locals := 103 } : Room) rfl rfl (by decide) (by decide) (c_X2_inside_t l hl0 D E [(lc, .long)] x (xs (i + 1)) hz1)
    have hM := c_X3_inside_n l D (ou, (eI E, eZ E)) (lwT E lc) y (xs (i + 1)) hz2
    exact br_inside l hL C0 hN hKX hi hcl hsl (mc := 1) (ms := 6) (by decide) (by decide) (rmm := ({ frames := 1, cells := 0, slots := 0, locals := 23 } : Room)) rfl rfl (by decide) (by decide) rfl hJ (fun _ _ _ => hm_t) hM (fun k u r y1 hw hw2 => fin_t (Or.inl rfl) hKX hR0 hw hw2) hn hP hD hS hl

set_option maxHeartbeats 4000000 in
set_option maxRecDepth 100000 in
theorem cs_stock {p : Program} {e : Env} {s : State} {m : MethodId} {below : List Frame} {meth : Method} {c : Code} {b L : Nat} {xs : Nat → Int32} {D : va_G} {ou : Nat × (Nat → Nat)} {oo : Nat} {lc : ClassId} {E : cE} {x y : T2} {f : Nat → Int64} {cells slots : Nat} {ls : Array Slot} {H : Heap} {locs : List Loc} {q : Nat → List Nat} {mm : Nat} (l : Launch) (hL : L ≤ 2048) (C0 : lw_At p s m meth c b L xs) (hN : jNc s) (hKX : lwKX D lc s E) {i : Nat} (hi : i + 4 ≤ L) (hcl : cells + 1 ≤ 601024) (hsl : slots + 10 ≤ 7293034) (hl0 : l.stackTraces = false) (hR0 : rI E x y q mm) (hn : lwN p l e s m b below meth c D ou oo lc (eO E) (nI i) cells slots) (hP : va_P D vwCl (lwG ou E y oo lc f x) H) (hD : va_D (fun q : Nat => s.heap.size ≤ q) (lwG ou E y oo lc f x)) (hS : va_S (fun q : Nat => s.heap.size ≤ q) s.heap H locs) (hl : lv_has ls 7 [(0, .ref b), (1, .ref (eO E)), (2, .ref ou.1), (3, .ref oo), (4, .int (nI i))]) : W p l e room_1 s m #[Value.ref b] below meth c H locs cells slots (lw_Z below #[Value.ref b] s) (F0 m 1068 ls []) := by
  have h0 := hR0.1
  obtain ⟨⟨hQ9, hC9, hN9⟩, ⟨hV9, hT9, hB9⟩, ⟨hF9, hG9⟩, hL9, hS9⟩ := hR0.1
  rcases arg_nI (z := xs (i + 1)) (n := 6) (by decide) with ⟨v, hv, hz⟩ | ⟨hz1, hz2⟩
  · have hJ := j_stock_ok 0 0 l D E [] lc oo f x (nI v) ({ frames := 1, cells := 0, slots := 0, locals := 21 } : Room) rfl rfl (by decide) (by decide) (c_X2_stock l D E [(lc, .long)] x v hv) (fun _ _ _ => hm_x0)
    have hM := c_X3_stock l D (ou, (eI E, eZ E)) (lwT E lc) y v hv
    exact br_stock l hL C0 hN hKX hi hcl hsl (mc := 0) (ms := 0) (by decide) (by decide) (rmm := ({ frames := 1, cells := 0, slots := 0, locals := 22 } : Room)) rfl rfl (by decide) (by decide) hz hJ (fun _ _ _ => hm_c hm_x0) hM (fun k u r y1 hw hw2 => fin_ok (q1 := q) (m1 := mm) hKX rfl rfl rfl hw.1 (hw.2.1.trans ((hF9.2 v hv).2.2.2.1.trans hw2.1.symm)) (by rw [hw2.2]; exact up2_s _ _ _ _) (by rw [hw.2.2, hw2.2]; exact rI_18 hR0 _)) hn hP hD hS hl
  · have hJ := j_stock_t1 l D E [] lc oo f x (xs (i + 1)) ({ frames := 7, cells := 1, slots := 6, locals := 103 } : Room) rfl rfl (by decide) (by decide) (c_X2_stock_t l hl0 D E [(lc, .long)] x (xs (i + 1)) hz1)
    have hM := c_X3_stock_n l D (ou, (eI E, eZ E)) (lwT E lc) y (xs (i + 1)) hz2
    exact br_stock l hL C0 hN hKX hi hcl hsl (mc := 1) (ms := 6) (by decide) (by decide) (rmm := ({ frames := 1, cells := 0, slots := 0, locals := 22 } : Room)) rfl rfl (by decide) (by decide) rfl hJ (fun _ _ _ => hm_t) hM (fun k u r y1 hw hw2 => fin_t (Or.inl rfl) hKX hR0 hw hw2) hn hP hD hS hl

set_option maxHeartbeats 4000000 in
set_option maxRecDepth 100000 in
theorem cs_demand {p : Program} {e : Env} {s : State} {m : MethodId} {below : List Frame} {meth : Method} {c : Code} {b L : Nat} {xs : Nat → Int32} {D : va_G} {ou : Nat × (Nat → Nat)} {oo : Nat} {lc : ClassId} {E : cE} {x y : T2} {f : Nat → Int64} {cells slots : Nat} {ls : Array Slot} {H : Heap} {locs : List Loc} {q : Nat → List Nat} {mm : Nat} (l : Launch) (hL : L ≤ 2048) (C0 : lw_At p s m meth c b L xs) (hN : jNc s) (hKX : lwKX D lc s E) {i : Nat} (hi : i + 4 ≤ L) (hcl : cells + 1 ≤ 601024) (hsl : slots + 10 ≤ 7293034) (hl0 : l.stackTraces = false) (hR0 : rI E x y q mm) (hn : lwN p l e s m b below meth c D ou oo lc (eO E) (nI i) cells slots) (hP : va_P D vwCl (lwG ou E y oo lc f x) H) (hD : va_D (fun q : Nat => s.heap.size ≤ q) (lwG ou E y oo lc f x)) (hS : va_S (fun q : Nat => s.heap.size ≤ q) s.heap H locs) (hl : lv_has ls 7 [(0, .ref b), (1, .ref (eO E)), (2, .ref ou.1), (3, .ref oo), (4, .int (nI i))]) : W p l e room_1 s m #[Value.ref b] below meth c H locs cells slots (lw_Z below #[Value.ref b] s) (F0 m 1124 ls []) := by
  have h0 := hR0.1
  obtain ⟨⟨hQ9, hC9, hN9⟩, ⟨hV9, hT9, hB9⟩, ⟨hF9, hG9⟩, hL9, hS9⟩ := hR0.1
  rcases arg_nI (z := xs (i + 1)) (n := 6) (by decide) with ⟨v, hv, hz⟩ | ⟨hz1, hz2⟩
  · have hJ := j_demand_ok 0 0 l D E [] lc oo f x (nI v) ({ frames := 1, cells := 0, slots := 0, locals := 21 } : Room) rfl rfl (by decide) (by decide) (c_X2_demand l D E [(lc, .long)] x v hv) (fun _ _ _ => hm_x0)
    have hM := c_X3_demand l D (ou, (eI E, eZ E)) (lwT E lc) y v hv
    exact br_demand l hL C0 hN hKX hi hcl hsl (mc := 0) (ms := 0) (by decide) (by decide) (rmm := ({ frames := 1, cells := 0, slots := 0, locals := 22 } : Room)) rfl rfl (by decide) (by decide) hz hJ (fun _ _ _ => hm_c hm_x0) hM (fun k u r y1 hw hw2 => fin_ok (q1 := q) (m1 := mm) hKX rfl rfl rfl hw.1 (hw.2.1.trans ((hF9.2 v hv).2.2.2.2.trans hw2.1.symm)) (by rw [hw2.2]; exact up2_s _ _ _ _) (by rw [hw.2.2, hw2.2]; exact rI_18 hR0 _)) hn hP hD hS hl
  · have hJ := j_demand_t1 l D E [] lc oo f x (xs (i + 1)) ({ frames := 7, cells := 1, slots := 6, locals := 103 } : Room) rfl rfl (by decide) (by decide) (c_X2_demand_t l hl0 D E [(lc, .long)] x (xs (i + 1)) hz1)
    have hM := c_X3_demand_n l D (ou, (eI E, eZ E)) (lwT E lc) y (xs (i + 1)) hz2
    exact br_demand l hL C0 hN hKX hi hcl hsl (mc := 1) (ms := 6) (by decide) (by decide) (rmm := ({ frames := 1, cells := 0, slots := 0, locals := 22 } : Room)) rfl rfl (by decide) (by decide) rfl hJ (fun _ _ _ => hm_t) hM (fun k u r y1 hw hw2 => fin_t (Or.inl rfl) hKX hR0 hw hw2) hn hP hD hS hl

set_option maxHeartbeats 4000000 in
set_option maxRecDepth 100000 in
theorem cs_placeOf {p : Program} {e : Env} {s : State} {m : MethodId} {below : List Frame} {meth : Method} {c : Code} {b L : Nat} {xs : Nat → Int32} {D : va_G} {ou : Nat × (Nat → Nat)} {oo : Nat} {lc : ClassId} {E : cE} {x y : T2} {f : Nat → Int64} {cells slots : Nat} {ls : Array Slot} {H : Heap} {locs : List Loc} {q : Nat → List Nat} {mm : Nat} (l : Launch) (hL : L ≤ 2048) (C0 : lw_At p s m meth c b L xs) (hN : jNc s) (hKX : lwKX D lc s E) {i : Nat} (hi : i + 4 ≤ L) (hcl : cells + 1 ≤ 601024) (hsl : slots + 10 ≤ 7293034) (hl0 : l.stackTraces = false) (hR0 : rI E x y q mm) (hn : lwN p l e s m b below meth c D ou oo lc (eO E) (nI i) cells slots) (hP : va_P D vwCl (lwG ou E y oo lc f x) H) (hD : va_D (fun q : Nat => s.heap.size ≤ q) (lwG ou E y oo lc f x)) (hS : va_S (fun q : Nat => s.heap.size ≤ q) s.heap H locs) (hl : lv_has ls 7 [(0, .ref b), (1, .ref (eO E)), (2, .ref ou.1), (3, .ref oo), (4, .int (nI i))]) : W p l e room_1 s m #[Value.ref b] below meth c H locs cells slots (lw_Z below #[Value.ref b] s) (F0 m 788 ls []) := by
  have h0 := hR0.1
  obtain ⟨⟨hQ9, hC9, hN9⟩, ⟨hV9, hT9, hB9⟩, ⟨hF9, hG9⟩, hL9, hS9⟩ := hR0.1
  rcases arg_nI (z := xs (i + 1)) (n := 8) (by decide) with ⟨v, hv, hz⟩ | ⟨hz1, hz2⟩
  · by_cases h8 : y 8 v = nI 1
    · obtain ⟨p9, hp9, h9, hm9⟩ : ∃ p9, p9 < 6 ∧ y 9 v = nI p9 ∧ v ∈ q p9 := by
        rcases hV9 v hv with g | ⟨-, g⟩ | g
        · exact absurd (g.1.symm.trans h8) nI_01
        · exact g
        · exact absurd (h8.symm.trans g.1) nI_12
      obtain ⟨a9, ha9⟩ := List.getElem?_of_mem hm9
      have hlt9 : a9 < (q p9).length := (List.getElem?_eq_some_iff.mp ha9).1
      have hla := mLast_of (wQ_mQ hQ9 hp9).2.2.2 ((hQ9 p9 hp9).2.2 a9 v ha9).2.1 _ hlt9 (Nat.le_refl _)
      have hJ := j_placeOf_ok 0 0 l D E [] lc oo f x (nI v) ({ frames := 1, cells := 0, slots := 0, locals := 21 } : Room) rfl rfl (by decide) (by decide) (c_X2_placeOf l D E [(lc, .long)] x v hv) (fun _ _ _ => hm_x0)
      have hM := c_X3_placeOf_w l D (ou, (eI E, eZ E)) (lwT E lc) y v p9 (q p9).length a9 hv hp9 (wQ_len hQ9 hp9) h8 h9 (hQ9 p9 hp9).2.1 hla
      exact br_placeOf l hL C0 hN hKX hi hcl hsl (mc := 0) (ms := 0) (by decide) (by decide) (rmm := ({ frames := 1, cells := 0, slots := 0, locals := 24 } : Room)) rfl rfl (by decide) (by decide) hz hJ (fun _ _ _ => hm_c hm_x0) hM (fun k u r y1 hw hw2 => fin_ok (q1 := q) (m1 := mm) hKX rfl rfl rfl hw.1 (hw.2.1.trans ((hN9 p9 hp9 a9 v ha9).trans hw2.1.symm)) (by rw [hw2.2]; exact up2_s _ _ _ _) (by rw [hw.2.2, hw2.2]; exact rI_18 hR0 _)) hn hP hD hS hl
    · have hJ := j_placeOf_ok 0 0 l D E [] lc oo f x (nI v) ({ frames := 1, cells := 0, slots := 0, locals := 21 } : Room) rfl rfl (by decide) (by decide) (c_X2_placeOf l D E [(lc, .long)] x v hv) (fun _ _ _ => hm_x0)
      have hM := c_X3_placeOf_i l D (ou, (eI E, eZ E)) (lwT E lc) y v hv h8
      exact br_placeOf l hL C0 hN hKX hi hcl hsl (mc := 0) (ms := 0) (by decide) (by decide) (rmm := ({ frames := 1, cells := 0, slots := 0, locals := 22 } : Room)) rfl rfl (by decide) (by decide) hz hJ (fun _ _ _ => hm_c hm_x0) hM (fun k u r y1 hw hw2 => fin_ok (q1 := q) (m1 := mm) hKX rfl rfl rfl hw.1 (hw.2.1.trans (((hG9 v hv).2.2.2.2.2 h8).trans hw2.1.symm)) (by rw [hw2.2]; exact up2_s _ _ _ _) (by rw [hw.2.2, hw2.2]; exact rI_18 hR0 _)) hn hP hD hS hl
  · have hJ := j_placeOf_t1 l D E [] lc oo f x (xs (i + 1)) ({ frames := 7, cells := 1, slots := 6, locals := 103 } : Room) rfl rfl (by decide) (by decide) (c_X2_placeOf_t l hl0 D E [(lc, .long)] x (xs (i + 1)) hz1)
    have hM := c_X3_placeOf_n l D (ou, (eI E, eZ E)) (lwT E lc) y (xs (i + 1)) hz2
    exact br_placeOf l hL C0 hN hKX hi hcl hsl (mc := 1) (ms := 6) (by decide) (by decide) (rmm := ({ frames := 1, cells := 0, slots := 0, locals := 24 } : Room)) rfl rfl (by decide) (by decide) rfl hJ (fun _ _ _ => hm_t) hM (fun k u r y1 hw hw2 => fin_t (Or.inl rfl) hKX hR0 hw hw2) hn hP hD hS hl

set_option maxHeartbeats 4000000 in
set_option maxRecDepth 100000 in
theorem cs_sent {p : Program} {e : Env} {s : State} {m : MethodId} {below : List Frame} {meth : Method} {c : Code} {b L : Nat} {xs : Nat → Int32} {D : va_G} {ou : Nat × (Nat → Nat)} {oo : Nat} {lc : ClassId} {E : cE} {x y : T2} {f : Nat → Int64} {cells slots : Nat} {ls : Array Slot} {H : Heap} {locs : List Loc} {q : Nat → List Nat} {mm : Nat} (l : Launch) (hL : L ≤ 2048) (C0 : lw_At p s m meth c b L xs) (hN : jNc s) (hKX : lwKX D lc s E) {i : Nat} (hi : i + 4 ≤ L) (hcl : cells + 1 ≤ 601024) (hsl : slots + 10 ≤ 7293034) (hl0 : l.stackTraces = false) (hR0 : rI E x y q mm) (hn : lwN p l e s m b below meth c D ou oo lc (eO E) (nI i) cells slots) (hP : va_P D vwCl (lwG ou E y oo lc f x) H) (hD : va_D (fun q : Nat => s.heap.size ≤ q) (lwG ou E y oo lc f x)) (hS : va_S (fun q : Nat => s.heap.size ≤ q) s.heap H locs) (hl : lv_has ls 7 [(0, .ref b), (1, .ref (eO E)), (2, .ref ou.1), (3, .ref oo), (4, .int (nI i))]) : W p l e room_1 s m #[Value.ref b] below meth c H locs cells slots (lw_Z below #[Value.ref b] s) (F0 m 1180 ls []) := by
  have h0 := hR0.1
  obtain ⟨⟨hQ9, hC9, hN9⟩, ⟨hV9, hT9, hB9⟩, ⟨hF9, hG9⟩, hL9, hS9⟩ := hR0.1
  rcases arg_nI (z := xs (i + 1)) (n := 8) (by decide) with ⟨v, hv, hz⟩ | ⟨hz1, hz2⟩
  · rcases arg_nI (z := xs (i + 2)) (n := 6) (by decide) with ⟨w, hw6, hy⟩ | ⟨hy1, hy2⟩
    · have hJ := j_sent_ok 0 0 l D E [] lc oo f x (nI v) (nI w) ({ frames := 1, cells := 0, slots := 0, locals := 21 } : Room) rfl rfl (by decide) (by decide) (c_X2_sent l D E [(lc, .long)] x v w hv hw6) (fun _ _ _ => hm_x0)
      have hM := c_X3_sent l D (ou, (eI E, eZ E)) (lwT E lc) y v w hv hw6
      exact br_sent l hL C0 hN hKX hi hcl hsl (mc := 0) (ms := 0) (by decide) (by decide) (rmm := ({ frames := 1, cells := 0, slots := 0, locals := 22 } : Room)) rfl rfl (by decide) (by decide) hz hy hJ (fun _ _ _ => hm_c hm_x0) hM (fun k u r y1 hw hw2 => fin_ok (q1 := q) (m1 := mm) hKX rfl rfl rfl hw.1 (hw.2.1.trans ((hS9 v w hv hw6).trans hw2.1.symm)) (by rw [hw2.2]; exact up2_s _ _ _ _) (by rw [hw.2.2, hw2.2]; exact rI_18 hR0 _)) hn hP hD hS hl
    · have hJ := j_sent_t1 l D E [] lc oo f x (nI v) (xs (i + 2)) ({ frames := 7, cells := 1, slots := 6, locals := 103 } : Room) rfl rfl (by decide) (by decide) (c_X2_sent_p l hl0 D E [(lc, .long)] x v (xs (i + 2)) hv hy1)
      have hM := c_X3_sent_np l D (ou, (eI E, eZ E)) (lwT E lc) y v (xs (i + 2)) hv hy2
      exact br_sent l hL C0 hN hKX hi hcl hsl (mc := 1) (ms := 6) (by decide) (by decide) (rmm := ({ frames := 1, cells := 0, slots := 0, locals := 22 } : Room)) rfl rfl (by decide) (by decide) hz rfl hJ (fun _ _ _ => hm_t) hM (fun k u r y1 hw hw2 => fin_t (Or.inl rfl) hKX hR0 hw hw2) hn hP hD hS hl
  · have hJ := j_sent_t1 l D E [] lc oo f x (xs (i + 1)) (xs (i + 2)) ({ frames := 7, cells := 1, slots := 6, locals := 103 } : Room) rfl rfl (by decide) (by decide) (c_X2_sent_v l hl0 D E [(lc, .long)] x (xs (i + 1)) (xs (i + 2)) hz1)
    have hM := c_X3_sent_nv l D (ou, (eI E, eZ E)) (lwT E lc) y (xs (i + 1)) (xs (i + 2)) hz2
    exact br_sent l hL C0 hN hKX hi hcl hsl (mc := 1) (ms := 6) (by decide) (by decide) (rmm := ({ frames := 1, cells := 0, slots := 0, locals := 22 } : Room)) rfl rfl (by decide) (by decide) rfl rfl hJ (fun _ _ _ => hm_t) hM (fun k u r y1 hw hw2 => fin_t (Or.inl rfl) hKX hR0 hw hw2) hn hP hD hS hl

set_option maxHeartbeats 4000000 in
set_option maxRecDepth 100000 in
theorem cs_minute {p : Program} {e : Env} {s : State} {m : MethodId} {below : List Frame} {meth : Method} {c : Code} {b L : Nat} {xs : Nat → Int32} {D : va_G} {ou : Nat × (Nat → Nat)} {oo : Nat} {lc : ClassId} {E : cE} {x y : T2} {f : Nat → Int64} {cells slots : Nat} {ls : Array Slot} {H : Heap} {locs : List Loc} {q : Nat → List Nat} {mm : Nat} (l : Launch) (hL : L ≤ 2048) (C0 : lw_At p s m meth c b L xs) (hN : jNc s) (hKX : lwKX D lc s E) {i : Nat} (hi : i + 4 ≤ L) (hcl : cells + 1 ≤ 601024) (hsl : slots + 10 ≤ 7293034) (hl0 : l.stackTraces = false) (hR0 : rI E x y q mm) (hn : lwN p l e s m b below meth c D ou oo lc (eO E) (nI i) cells slots) (hP : va_P D vwCl (lwG ou E y oo lc f x) H) (hD : va_D (fun q : Nat => s.heap.size ≤ q) (lwG ou E y oo lc f x)) (hS : va_S (fun q : Nat => s.heap.size ≤ q) s.heap H locs) (hl : lv_has ls 7 [(0, .ref b), (1, .ref (eO E)), (2, .ref ou.1), (3, .ref oo), (4, .int (nI i))]) : W p l e room_1 s m #[Value.ref b] below meth c H locs cells slots (lw_Z below #[Value.ref b] s) (F0 m 663 ls []) := by
  have h0 := hR0.1
  obtain ⟨⟨hQ9, hC9, hN9⟩, ⟨hV9, hT9, hB9⟩, ⟨hF9, hG9⟩, hL9, hS9⟩ := hR0.1
  exact br_minute l hL C0 hN hKX hi hcl hsl (fun y1 hy => ⟨hF9.1, q, mm, by rw [hy]; exact rI_18 hR0 _⟩) hn hP hD hS hl

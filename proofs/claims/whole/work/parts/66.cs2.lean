set_option maxHeartbeats 4000000 in
set_option maxRecDepth 100000 in
theorem cs_setPavilion {p : Program} {e : Env} {s : State} {m : MethodId} {below : List Frame} {meth : Method} {c : Code} {b L : Nat} {xs : Nat → Int32} {D : va_G} {ou : Nat × (Nat → Nat)} {oo : Nat} {lc : ClassId} {E : cE} {x y : T2} {f : Nat → Int64} {cells slots : Nat} {ls : Array Slot} {H : Heap} {locs : List Loc} {q : Nat → List Nat} {mm : Nat} (l : Launch) (hL : L ≤ 2048) (C0 : lw_At p s m meth c b L xs) (hN : jNc s) (hKX : lwKX D lc s E) {i : Nat} (hi : i + 4 ≤ L) (hcl : cells + 1 ≤ 601024) (hsl : slots + 10 ≤ 7293034) (hl0 : l.stackTraces = false) (hR0 : rI E x y q mm) (hn : lwN p l e s m b below meth c D ou oo lc (eO E) (nI i) cells slots) (hP : va_P D vwCl (lwG ou E y oo lc f x) H) (hD : va_D (fun q : Nat => s.heap.size ≤ q) (lwG ou E y oo lc f x)) (hS : va_S (fun q : Nat => s.heap.size ≤ q) s.heap H locs) (hl : lv_has ls 7 [(0, .ref b), (1, .ref (eO E)), (2, .ref ou.1), (3, .ref oo), (4, .int (nI i))]) : W p l e room_1 s m #[Value.ref b] below meth c H locs cells slots (lw_Z below #[Value.ref b] s) (F0 m 128 ls []) := by
  have h0 := hR0.1
  obtain ⟨⟨hQ9, hC9, hN9⟩, ⟨hV9, hT9, hB9⟩, ⟨hF9, hG9⟩, hL9, hS9⟩ := hR0.1
  rcases arg_nI (z := xs (i + 1)) (n := 6) (by decide) with ⟨v, hv, hz⟩ | ⟨hz1, hz2⟩
  · by_cases hok : sOK (xs (i + 2)) (xs (i + 3))
    · obtain ⟨r9, hr9, hr8⟩ := sOK_r hok
      have hJ := j_setPavilion_ok 0 0 l D E [] lc oo f x (nI v) (xs (i + 2)) (xs (i + 3)) ({ frames := 1, cells := 0, slots := 0, locals := 21 } : Room) rfl rfl (by decide) (by decide) (c_X2_setPavilion l D E [(lc, .long)] x v (xs (i + 2)) (xs (i + 3)) hv hok) (fun _ _ => hm_x0)
      have hM := c_X3_setPavilion l D (ou, (eI E, eZ E)) (lwT E lc) y v (xs (i + 2)) (xs (i + 3)) hv hok
      exact br_setPavilion l hL C0 hN hKX hi hcl hsl (mc := 0) (ms := 0) (by decide) (by decide) (rmm := ({ frames := 1, cells := 0, slots := 0, locals := 22 } : Room)) rfl rfl (by decide) (by decide) hz rfl rfl hJ (fun _ _ _ => hm_c hm_x0) hM (fun k u y1 hw hw2 => fin_v (q1 := q) (m1 := mm) (E1 := E) hKX rfl rfl rfl (by rw [hw2, up2_k _ _ _ _ (by decide), up2_k _ _ _ _ (by decide), up2_s]; exact hw.1.symm) (by rw [hw.2, hw2]; exact ⟨w_setp h0 v _ _, by rw [up2_k _ _ _ _ (by decide), up2_k _ _ _ _ (by decide), up2_k _ _ _ _ (by decide)]; exact hR0.2.1, hR0.2.2.1, fun p hp => by
          rw [up2_k _ _ _ _ (by decide)]
          by_cases hpv : p = v
          · exact ⟨r9, hr9, by rw [hpv, up2_s]; exact hr8⟩
          · rw [up2_n _ _ _ _ hpv, up2_k _ _ _ _ (by decide)]; exact hR0.2.2.2 p hp⟩)) hn hP hD hS hl
    · have hJ := j_setPavilion_t2 l D E [] lc oo f x (nI v) (xs (i + 2)) (xs (i + 3)) ({ frames := 6, cells := 1, slots := 6, locals := 82 } : Room) rfl rfl (by decide) (by decide) (c_X2_setPavilion_r l hl0 D E [(lc, .long)] x v (xs (i + 2)) (xs (i + 3)) hv hok)
      have hM := c_X3_setPavilion_b l D (ou, (eI E, eZ E)) (lwT E lc) y v (xs (i + 2)) (xs (i + 3)) hv hok
      exact br_setPavilion l hL C0 hN hKX hi hcl hsl (mc := 1) (ms := 6) (by decide) (by decide) (rmm := ({ frames := 1, cells := 0, slots := 0, locals := 22 } : Room)) rfl rfl (by decide) (by decide) hz rfl rfl hJ (fun _ _ _ => hm_t) hM (fun k u y1 hw hw2 => fin_v (q1 := q) (m1 := mm) (E1 := E) hKX rfl rfl rfl (by rw [hw2, up2_s]; exact hw.symm) (by rw [hw2]; exact rI_18 hR0 _)) hn hP hD hS hl
  · have hJ := j_setPavilion_t1 l D E [] lc oo f x (xs (i + 1)) (xs (i + 2)) (xs (i + 3)) ({ frames := 7, cells := 1, slots := 6, locals := 103 } : Room) rfl rfl (by decide) (by decide) (c_X2_setPavilion_p l hl0 D E [(lc, .long)] x (xs (i + 1)) (xs (i + 2)) (xs (i + 3)) hz1)
    have hM := c_X3_setPavilion_n l D (ou, (eI E, eZ E)) (lwT E lc) y (xs (i + 1)) (xs (i + 2)) (xs (i + 3)) hz2
    exact br_setPavilion l hL C0 hN hKX hi hcl hsl (mc := 1) (ms := 6) (by decide) (by decide) (rmm := ({ frames := 1, cells := 0, slots := 0, locals := 22 } : Room)) rfl rfl (by decide) (by decide) rfl rfl rfl hJ (fun _ _ _ => hm_t) hM (fun k u y1 hw hw2 => fin_v (q1 := q) (m1 := mm) (E1 := E) hKX rfl rfl rfl (by rw [hw2, up2_s]; exact hw.symm) (by rw [hw2]; exact rI_18 hR0 _)) hn hP hD hS hl

set_option maxHeartbeats 4000000 in
set_option maxRecDepth 100000 in
theorem cs_open {p : Program} {e : Env} {s : State} {m : MethodId} {below : List Frame} {meth : Method} {c : Code} {b L : Nat} {xs : Nat → Int32} {D : va_G} {ou : Nat × (Nat → Nat)} {oo : Nat} {lc : ClassId} {E : cE} {x y : T2} {f : Nat → Int64} {cells slots : Nat} {ls : Array Slot} {H : Heap} {locs : List Loc} {q : Nat → List Nat} {mm : Nat} (l : Launch) (hL : L ≤ 2048) (C0 : lw_At p s m meth c b L xs) (hN : jNc s) (hKX : lwKX D lc s E) {i : Nat} (hi : i + 4 ≤ L) (hcl : cells + 1 ≤ 601024) (hsl : slots + 10 ≤ 7293034) (hl0 : l.stackTraces = false) (hR0 : rI E x y q mm) (hn : lwN p l e s m b below meth c D ou oo lc (eO E) (nI i) cells slots) (hP : va_P D vwCl (lwG ou E y oo lc f x) H) (hD : va_D (fun q : Nat => s.heap.size ≤ q) (lwG ou E y oo lc f x)) (hS : va_S (fun q : Nat => s.heap.size ≤ q) s.heap H locs) (hl : lv_has ls 7 [(0, .ref b), (1, .ref (eO E)), (2, .ref ou.1), (3, .ref oo), (4, .int (nI i))]) : W p l e room_1 s m #[Value.ref b] below meth c H locs cells slots (lw_Z below #[Value.ref b] s) (F0 m 188 ls []) := by
  have h0 := hR0.1
  obtain ⟨⟨hQ9, hC9, hN9⟩, ⟨hV9, hT9, hB9⟩, ⟨hF9, hG9⟩, hL9, hS9⟩ := hR0.1
  obtain ⟨ob, hob⟩ : ∃ ob : Nat, (xs (i + 2) = 0 ∧ ob = 0) ∨ (¬ xs (i + 2) = 0 ∧ ob = 1) := by
    by_cases h : xs (i + 2) = 0
    · exact ⟨0, Or.inl ⟨h, rfl⟩⟩
    · exact ⟨1, Or.inr ⟨h, rfl⟩⟩
  rcases arg_nI (z := xs (i + 1)) (n := 6) (by decide) with ⟨v, hv, hz⟩ | ⟨hz1, hz2⟩
  · rcases (show ob = 0 ∨ ob = 1 by omega) with ho9 | ho9
    · subst ho9
      obtain ⟨y9, hdr, hR9, hn9, hy9⟩ := w_close hv (w_clo h0 v)
      have hJ := j_open_ok 0 0 l D E [] lc oo f x (nI v) (nI 0) ({ frames := 3, cells := 0, slots := 0, locals := 72 } : Room) rfl rfl (by decide) (by decide) (c_X2_open_c l D E [(lc, .long)] x v hv) (fun _ _ _ => hm_x0)
      have hM := c_X3_open_c l D (ou, (eI E, eZ E)) (lwT E lc) y v hv _ y9 hdr
      exact br_open l hL C0 hN hKX hi hcl hsl (mc := 0) (ms := 0) (by decide) (by decide) (rmm := ({ frames := 2, cells := 0, slots := 0, locals := 48 } : Room)) rfl rfl (by decide) (by decide) hz hob hJ (fun _ _ _ => hm_c hm_x0) hM (fun k u r y1 hw hw2 => fin_ok (q1 := qEmp q v) (m1 := mm) (E1 := E) hKX rfl rfl rfl hw.1 (hw.2.1.trans ((congrArg nI hn9).trans hw2.1.symm)) (by rw [hw2.2, hy9 18 0 (by decide), up2_k _ _ _ _ (by decide)]; exact up2_s _ _ _ _) (by rw [hw.2.2, hw2.2]; exact rI_s hR0 hR9 (fun f i hf => by rw [hy9 f i (by omega), up2_k _ _ _ _ (by omega), up2_k _ _ _ _ (by omega)]))) hn hP hD hS hl
    · subst ho9
      have hJ := j_open_ok 0 0 l D E [] lc oo f x (nI v) (nI 1) ({ frames := 1, cells := 0, slots := 0, locals := 21 } : Room) rfl rfl (by decide) (by decide) (c_X2_open_o l D E [(lc, .long)] x v hv) (fun _ _ _ => hm_x0)
      have hM := c_X3_open_o l D (ou, (eI E, eZ E)) (lwT E lc) y v hv
      exact br_open l hL C0 hN hKX hi hcl hsl (mc := 0) (ms := 0) (by decide) (by decide) (rmm := ({ frames := 1, cells := 0, slots := 0, locals := 22 } : Room)) rfl rfl (by decide) (by decide) hz hob hJ (fun _ _ _ => hm_c hm_x0) hM (fun k u r y1 hw hw2 => fin_ok (q1 := q) (m1 := mm) (E1 := E) hKX rfl rfl rfl hw.1 (hw.2.1.trans hw2.1.symm) (by rw [hw2.2, up2_k _ _ _ _ (by decide)]; exact up2_s _ _ _ _) (by rw [hw.2.2, hw2.2]; exact rI_s hR0 (w_openo h0 v) (fun f i hf => by rw [up2_k _ _ _ _ (by omega), up2_k _ _ _ _ (by omega)]))) hn hP hD hS hl
  · have hJ := j_open_t1 l D E [] lc oo f x (xs (i + 1)) (nI ob) ({ frames := 7, cells := 1, slots := 6, locals := 103 } : Room) rfl rfl (by decide) (by decide) (c_X2_open_p l hl0 D E [(lc, .long)] x (xs (i + 1)) (nI ob) hz1)
    have hM := c_X3_open_n l D (ou, (eI E, eZ E)) (lwT E lc) y (xs (i + 1)) ob hz2
    exact br_open l hL C0 hN hKX hi hcl hsl (mc := 1) (ms := 6) (by decide) (by decide) (rmm := ({ frames := 2, cells := 0, slots := 0, locals := 48 } : Room)) rfl rfl (by decide) (by decide) rfl hob hJ (fun _ _ _ => hm_t) hM (fun k u r y1 hw hw2 => fin_t (Or.inl rfl) hKX hR0 hw hw2) hn hP hD hS hl

set_option maxHeartbeats 4000000 in
set_option maxRecDepth 100000 in
theorem cs_plan {p : Program} {e : Env} {s : State} {m : MethodId} {below : List Frame} {meth : Method} {c : Code} {b L : Nat} {xs : Nat → Int32} {D : va_G} {ou : Nat × (Nat → Nat)} {oo : Nat} {lc : ClassId} {E : cE} {x y : T2} {f : Nat → Int64} {cells slots : Nat} {ls : Array Slot} {H : Heap} {locs : List Loc} {q : Nat → List Nat} {mm : Nat} (l : Launch) (hL : L ≤ 2048) (C0 : lw_At p s m meth c b L xs) (hN : jNc s) (hKX : lwKX D lc s E) {i : Nat} (hi : i + 4 ≤ L) (hcl : cells + 1 ≤ 601024) (hsl : slots + 10 ≤ 7293034) (hl0 : l.stackTraces = false) (hR0 : rI E x y q mm) (hn : lwN p l e s m b below meth c D ou oo lc (eO E) (nI i) cells slots) (hP : va_P D vwCl (lwG ou E y oo lc f x) H) (hD : va_D (fun q : Nat => s.heap.size ≤ q) (lwG ou E y oo lc f x)) (hS : va_S (fun q : Nat => s.heap.size ≤ q) s.heap H locs) (hl : lv_has ls 7 [(0, .ref b), (1, .ref (eO E)), (2, .ref ou.1), (3, .ref oo), (4, .int (nI i))]) : W p l e room_1 s m #[Value.ref b] below meth c H locs cells slots (lw_Z below #[Value.ref b] s) (F0 m 272 ls []) := by
  have h0 := hR0.1
  obtain ⟨⟨hQ9, hC9, hN9⟩, ⟨hV9, hT9, hB9⟩, ⟨hF9, hG9⟩, hL9, hS9⟩ := hR0.1
  rcases arg_nI (z := xs (i + 1)) (n := 8) (by decide) with ⟨v, hv, hz⟩ | ⟨hz1, hz2⟩
  · rcases arg_nI (z := xs (i + 2)) (n := 6) (by decide) with ⟨w, hw6, hy⟩ | ⟨hy1, hy2⟩
    · obtain ⟨n9, hn6, h7, h15, hpc, hLP, hLq, hix⟩ := w_idx hL9 hv hw6
      rcases hix with ⟨hn5, hcx, hmx, hne⟩ | ⟨a9, ha9, hpa, hcx, hmx⟩
      · rcases hLq with hmem | ⟨hn0, hnm, hed⟩
        · have hJ := j_plan_ok 0 0 l D E [] lc oo f x (nI v) (nI w) ({ frames := 5, cells := 0, slots := 0, locals := 130 } : Room) rfl rfl (by decide) (by decide) (c_X2_plan_m l D E [(lc, .long)] x v w n9 hv hw6 (by omega) h15 hmem hpc hcx) (fun _ _ _ => hm_p)
          have hM := c_X3_plan l D (ou, (eI E, eZ E)) (lwT E lc) y v w n9 hv hw6 hn5 h7 hmx
          exact br_plan l hL C0 hN hKX hi hcl hsl (mc := 0) (ms := 0) (by decide) (by decide) (rmm := ({ frames := 1, cells := 0, slots := 0, locals := 24 } : Room)) rfl rfl (by decide) (by decide) hz hy hJ (fun _ _ _ => hm_c hm_p) hM (fun k u r y1 hw hw2 => fin_ok (q1 := q) (m1 := mm) (E1 := _) hKX rfl rfl rfl hw.1 (hw.2.trans hw2.1.symm) (by rw [hw2.2, up2_k _ _ _ _ (by decide), up2_k _ _ _ _ (by decide)]; exact up2_s _ _ _ _) (by rw [hw2.2]; exact rI_s hR0 (w_plan h0 hv hw6 hn5 h7 hne ⟨hmem, fun _ _ => ⟨Iff.rfl, rfl⟩⟩) (fun f i hf => by rw [up2_k _ _ _ _ (by omega), up2_k _ _ _ _ (by omega), up2_k _ _ _ _ (by omega)]))) hn hP hD hS hl
        · subst hn0
          have hJ := j_plan_ok 1 10 l D E [] lc oo f x (nI v) (nI w) ({ frames := 5, cells := 1, slots := 10, locals := 130 } : Room) rfl rfl (by decide) (by decide) (c_X2_plan_f l D E [(lc, .long)] x v w hv hw6 h15 hnm hed) (fun _ _ _ => hm_f hnm)
          have hM := c_X3_plan l D (ou, (eI E, eZ E)) (lwT E lc) y v w 0 hv hw6 hn5 h7 hmx
          exact br_plan l hL C0 hN hKX hi hcl hsl (mc := 1) (ms := 10) (by decide) (by decide) (rmm := ({ frames := 1, cells := 0, slots := 0, locals := 24 } : Room)) rfl rfl (by decide) (by decide) hz hy hJ (fun _ _ _ => hm_c (hm_f hnm)) hM (fun k u r y1 hw hw2 => fin_ok (q1 := q) (m1 := mm) (E1 := _) hKX rfl rfl rfl hw.1 (hw.2.trans hw2.1.symm) (by rw [hw2.2, up2_k _ _ _ _ (by decide), up2_k _ _ _ _ (by decide)]; exact up2_s _ _ _ _) (by rw [hw2.2]; exact rI_s hR0 (w_plan h0 hv hw6 hn5 h7 hne ⟨List.mem_append_right _ List.mem_cons_self, fun j9 hj9 => ⟨⟨fun c => (List.mem_append.mp c).resolve_right (fun d => hj9 (List.mem_singleton.mp d)), fun c => List.mem_append_left _ c⟩, if_neg hj9⟩⟩) (fun f i hf => by rw [up2_k _ _ _ _ (by omega), up2_k _ _ _ _ (by omega), up2_k _ _ _ _ (by omega)]))) hn hP hD hS hl
      · have hmem : v ∈ eLP E := hLP.resolve_left (by omega)
        have hJ := j_plan_t2 l D E [] lc oo f x (nI v) (nI w) ({ frames := 6, cells := 1, slots := 6, locals := 87 } : Room) rfl rfl (by decide) (by decide) (c_X2_plan_s l hl0 D E [(lc, .long)] x v w n9 a9 hv hw6 hn6 h15 hmem hpc ha9 hcx)
        have hM := c_X3_plan_b l D (ou, (eI E, eZ E)) (lwT E lc) y v w n9 a9 hv hw6 hn6 ha9 h7 hmx
        exact br_plan l hL C0 hN hKX hi hcl hsl (mc := 1) (ms := 6) (by decide) (by decide) (rmm := ({ frames := 1, cells := 0, slots := 0, locals := 24 } : Room)) rfl rfl (by decide) (by decide) hz hy hJ (fun _ _ _ => hm_t) hM (fun k u r y1 hw hw2 => fin_t (Or.inr rfl) hKX hR0 hw hw2) hn hP hD hS hl
    · have hJ := j_plan_t1 l D E [] lc oo f x (nI v) (xs (i + 2)) ({ frames := 7, cells := 1, slots := 6, locals := 103 } : Room) rfl rfl (by decide) (by decide) (c_X2_plan_p l hl0 D E [(lc, .long)] x v (xs (i + 2)) hv hy1)
      have hM := c_X3_plan_np l D (ou, (eI E, eZ E)) (lwT E lc) y v (xs (i + 2)) hv hy2
      exact br_plan l hL C0 hN hKX hi hcl hsl (mc := 1) (ms := 6) (by decide) (by decide) (rmm := ({ frames := 1, cells := 0, slots := 0, locals := 24 } : Room)) rfl rfl (by decide) (by decide) hz rfl hJ (fun _ _ _ => hm_t) hM (fun k u r y1 hw hw2 => fin_t (Or.inl rfl) hKX hR0 hw hw2) hn hP hD hS hl
  · have hJ := j_plan_t1 l D E [] lc oo f x (xs (i + 1)) (xs (i + 2)) ({ frames := 7, cells := 1, slots := 6, locals := 103 } : Room) rfl rfl (by decide) (by decide) (c_X2_plan_v l hl0 D E [(lc, .long)] x (xs (i + 1)) (xs (i + 2)) hz1)
    have hM := c_X3_plan_nv l D (ou, (eI E, eZ E)) (lwT E lc) y (xs (i + 1)) (xs (i + 2)) hz2
    exact br_plan l hL C0 hN hKX hi hcl hsl (mc := 1) (ms := 6) (by decide) (by decide) (rmm := ({ frames := 1, cells := 0, slots := 0, locals := 24 } : Room)) rfl rfl (by decide) (by decide) rfl rfl hJ (fun _ _ _ => hm_t) hM (fun k u r y1 hw hw2 => fin_t (Or.inl rfl) hKX hR0 hw hw2) hn hP hD hS hl

set_option maxHeartbeats 4000000 in
set_option maxRecDepth 100000 in
theorem cs_drop {p : Program} {e : Env} {s : State} {m : MethodId} {below : List Frame} {meth : Method} {c : Code} {b L : Nat} {xs : Nat → Int32} {D : va_G} {ou : Nat × (Nat → Nat)} {oo : Nat} {lc : ClassId} {E : cE} {x y : T2} {f : Nat → Int64} {cells slots : Nat} {ls : Array Slot} {H : Heap} {locs : List Loc} {q : Nat → List Nat} {mm : Nat} (l : Launch) (hL : L ≤ 2048) (C0 : lw_At p s m meth c b L xs) (hN : jNc s) (hKX : lwKX D lc s E) {i : Nat} (hi : i + 4 ≤ L) (hcl : cells + 1 ≤ 601024) (hsl : slots + 10 ≤ 7293034) (hl0 : l.stackTraces = false) (hR0 : rI E x y q mm) (hn : lwN p l e s m b below meth c D ou oo lc (eO E) (nI i) cells slots) (hP : va_P D vwCl (lwG ou E y oo lc f x) H) (hD : va_D (fun q : Nat => s.heap.size ≤ q) (lwG ou E y oo lc f x)) (hS : va_S (fun q : Nat => s.heap.size ≤ q) s.heap H locs) (hl : lv_has ls 7 [(0, .ref b), (1, .ref (eO E)), (2, .ref ou.1), (3, .ref oo), (4, .int (nI i))]) : W p l e room_1 s m #[Value.ref b] below meth c H locs cells slots (lw_Z below #[Value.ref b] s) (F0 m 340 ls []) := by
  have h0 := hR0.1
  obtain ⟨⟨hQ9, hC9, hN9⟩, ⟨hV9, hT9, hB9⟩, ⟨hF9, hG9⟩, hL9, hS9⟩ := hR0.1
  rcases arg_nI (z := xs (i + 1)) (n := 8) (by decide) with ⟨v, hv, hz⟩ | ⟨hz1, hz2⟩
  · rcases arg_nI (z := xs (i + 2)) (n := 6) (by decide) with ⟨w, hw6, hy⟩ | ⟨hy1, hy2⟩
    · obtain ⟨n9, hn6, h7, h15, hpc, hLP, hLq, hix⟩ := w_idx hL9 hv hw6
      rcases hix with ⟨hn5, hcx, hmx, hne⟩ | ⟨a9, ha9, hpa, hcx, hmx⟩
      · have hJ := j_drop_t2 l D E [] lc oo f x (nI v) (nI w) ({ frames := 6, cells := 1, slots := 6, locals := 87 } : Room) rfl rfl (by decide) (by decide) (c_X2_drop_s l hl0 D E [(lc, .long)] x v w n9 hv hw6 hn6 h15 hLP hpc hcx)
        have hM := c_X3_drop_b l D (ou, (eI E, eZ E)) (lwT E lc) y v w n9 hv hw6 hn6 h7 hmx
        exact br_drop l hL C0 hN hKX hi hcl hsl (mc := 1) (ms := 6) (by decide) (by decide) (rmm := ({ frames := 1, cells := 0, slots := 0, locals := 24 } : Room)) rfl rfl (by decide) (by decide) hz hy hJ (fun _ _ _ => hm_t) hM (fun k u r y1 hw hw2 => fin_t (Or.inr rfl) hKX hR0 hw hw2) hn hP hD hS hl
      · have hmem : v ∈ eLP E := hLP.resolve_left (by omega)
        obtain ⟨y9, q9, hdr, hR9, hy9⟩ := w_drop h0 hv hw6 ha9 hn6 h7
        have hJ := j_drop_ok 0 0 l D E [] lc oo f x (nI v) (nI w) ({ frames := 4, cells := 0, slots := 0, locals := 90 } : Room) rfl rfl (by decide) (by decide) (c_X2_drop l D E [(lc, .long)] x v w n9 a9 hv hw6 hn6 h15 hmem hpc ha9 hcx) (fun _ _ _ => hm_p)
        have hM := c_X3_drop l D (ou, (eI E, eZ E)) (lwT E lc) y v w n9 a9 y9 hv hw6 hn6 ha9 h7 hmx hdr
        exact br_drop l hL C0 hN hKX hi hcl hsl (mc := 0) (ms := 0) (by decide) (by decide) (rmm := ({ frames := 2, cells := 0, slots := 0, locals := 48 } : Room)) rfl rfl (by decide) (by decide) hz hy hJ (fun _ _ _ => hm_c hm_p) hM (fun k u r y1 hw hw2 => fin_ok (q1 := q9) (m1 := mm) (E1 := _) hKX rfl rfl rfl hw.1 (hw.2.1.trans hw2.1.symm) (by rw [hw2.2, hy9 18 0 (by omega)]; exact up2_s _ _ _ _) (by rw [hw.2.2, hw2.2]; exact rI_s hR0 hR9 (fun f i hf => by rw [hy9 f i (by omega), up2_k _ _ _ _ (by omega)]))) hn hP hD hS hl
    · have hJ := j_drop_t1 l D E [] lc oo f x (nI v) (xs (i + 2)) ({ frames := 7, cells := 1, slots := 6, locals := 103 } : Room) rfl rfl (by decide) (by decide) (c_X2_drop_p l hl0 D E [(lc, .long)] x v (xs (i + 2)) hv hy1)
      have hM := c_X3_drop_np l D (ou, (eI E, eZ E)) (lwT E lc) y v (xs (i + 2)) hv hy2
      exact br_drop l hL C0 hN hKX hi hcl hsl (mc := 1) (ms := 6) (by decide) (by decide) (rmm := ({ frames := 2, cells := 0, slots := 0, locals := 48 } : Room)) rfl rfl (by decide) (by decide) hz rfl hJ (fun _ _ _ => hm_t) hM (fun k u r y1 hw hw2 => fin_t (Or.inl rfl) hKX hR0 hw hw2) hn hP hD hS hl
  · have hJ := j_drop_t1 l D E [] lc oo f x (xs (i + 1)) (xs (i + 2)) ({ frames := 7, cells := 1, slots := 6, locals := 103 } : Room) rfl rfl (by decide) (by decide) (c_X2_drop_v l hl0 D E [(lc, .long)] x (xs (i + 1)) (xs (i + 2)) hz1)
    have hM := c_X3_drop_nv l D (ou, (eI E, eZ E)) (lwT E lc) y (xs (i + 1)) (xs (i + 2)) hz2
    exact br_drop l hL C0 hN hKX hi hcl hsl (mc := 1) (ms := 6) (by decide) (by decide) (rmm := ({ frames := 2, cells := 0, slots := 0, locals := 48 } : Room)) rfl rfl (by decide) (by decide) rfl rfl hJ (fun _ _ _ => hm_t) hM (fun k u r y1 hw hw2 => fin_t (Or.inl rfl) hKX hR0 hw hw2) hn hP hD hS hl

set_option maxHeartbeats 4000000 in
set_option maxRecDepth 100000 in
theorem cs_ask {p : Program} {e : Env} {s : State} {m : MethodId} {below : List Frame} {meth : Method} {c : Code} {b L : Nat} {xs : Nat → Int32} {D : va_G} {ou : Nat × (Nat → Nat)} {oo : Nat} {lc : ClassId} {E : cE} {x y : T2} {f : Nat → Int64} {cells slots : Nat} {ls : Array Slot} {H : Heap} {locs : List Loc} {q : Nat → List Nat} {mm : Nat} (l : Launch) (hL : L ≤ 2048) (C0 : lw_At p s m meth c b L xs) (hN : jNc s) (hKX : lwKX D lc s E) {i : Nat} (hi : i + 4 ≤ L) (hcl : cells + 1 ≤ 601024) (hsl : slots + 10 ≤ 7293034) (hl0 : l.stackTraces = false) (hR0 : rI E x y q mm) (hn : lwN p l e s m b below meth c D ou oo lc (eO E) (nI i) cells slots) (hP : va_P D vwCl (lwG ou E y oo lc f x) H) (hD : va_D (fun q : Nat => s.heap.size ≤ q) (lwG ou E y oo lc f x)) (hS : va_S (fun q : Nat => s.heap.size ≤ q) s.heap H locs) (hl : lv_has ls 7 [(0, .ref b), (1, .ref (eO E)), (2, .ref ou.1), (3, .ref oo), (4, .int (nI i))]) : W p l e room_1 s m #[Value.ref b] below meth c H locs cells slots (lw_Z below #[Value.ref b] s) (F0 m 408 ls []) := by
  have h0 := hR0.1
  obtain ⟨⟨hQ9, hC9, hN9⟩, ⟨hV9, hT9, hB9⟩, ⟨hF9, hG9⟩, hL9, hS9⟩ := hR0.1
  rcases arg_nI (z := xs (i + 1)) (n := 8) (by decide) with ⟨v, hv, hz⟩ | ⟨hz1, hz2⟩
  · rcases arg_nI (z := xs (i + 2)) (n := 6) (by decide) with ⟨w, hw6, hy⟩ | ⟨hy1, hy2⟩
    · rcases (hT9 v hv).2 with h12 | ⟨t9, k9, ht9, hk9, h12, h13⟩
      · rcases (hF9.2 w hw6).2.2.1 with h3 | h3
        · have h1 := rI_18 hR0 (nI 0)
          obtain ⟨n9, k9, hmA, hcF, hR9⟩ := w_ask h1.1 h1.2.1 h1.2.2.1 h1.2.2.1 hv hw6 (show up2 y 18 0 (nI 0) 12 v = -1 by rw [up2_k _ _ _ _ (by decide)]; exact h12)
          rw [show up2 y 18 0 (nI 0) 0 0 = y 0 0 from up2_k _ _ _ _ (by decide)] at hmA
          have hJ := j_ask_ok 0 0 l D E [] lc oo f x (nI v) (nI w) ({ frames := 2, cells := 0, slots := 0, locals := 49 } : Room) rfl rfl (by decide) (by decide) (c_X2_ask l D E [(lc, .long)] x v w hv hw6 (cTOk_of h0) ((hG9 v hv).2.2.1.trans h12) (by rw [h3.1]; exact fun e => nI_01 e.symm)) (fun _ _ _ => hm_x0)
          have hM := c_X3_ask l D (ou, (eI E, eZ E)) (lwT E lc) y v w n9 (nI k9) hv hw6 (by rw [h12]; decide) h3.2 hmA
          exact br_ask l hL C0 hN hKX hi hcl hsl (mc := 0) (ms := 0) (by decide) (by decide) (rmm := ({ frames := 1, cells := 0, slots := 0, locals := 22 } : Room)) rfl rfl (by decide) (by decide) hz hy hJ (fun _ _ _ => hm_c hm_x0) hM (fun k u r y1 hw hw2 => fin_ok (q1 := q) (m1 := mm) (E1 := E) hKX rfl rfl rfl hw.1 ((cFreeR_one 8 _ _ _ hw.2.1 hcF).trans hw2.1.symm) (by rw [hw2.2, up2_k _ _ _ _ (by decide), up2_k _ _ _ _ (by decide), up2_k _ _ _ _ (by decide)]; exact up2_s _ _ _ _) (by rw [hw.2.2, hw2.2, cFreeR_one 8 _ _ _ hw.2.1 hcF]; exact rI_s hR0 hR9 (fun f i hf => by rw [up2_k _ _ _ _ (by omega), up2_k _ _ _ _ (by omega), up2_k _ _ _ _ (by omega), up2_k _ _ _ _ (by omega)]))) hn hP hD hS hl
        · have hJ := j_ask_t2 l D E [] lc oo f x (nI v) (nI w) ({ frames := 6, cells := 1, slots := 6, locals := 82 } : Room) rfl rfl (by decide) (by decide) (c_X2_ask_s l hl0 D E [(lc, .long)] x v w hv hw6 (Or.inr h3.1))
          have hM := c_X3_ask_b l D (ou, (eI E, eZ E)) (lwT E lc) y v w hv hw6 (Or.inr (by rw [h3.2]; exact fun e => nI_01 e.symm))
          exact br_ask l hL C0 hN hKX hi hcl hsl (mc := 1) (ms := 6) (by decide) (by decide) (rmm := ({ frames := 1, cells := 0, slots := 0, locals := 22 } : Room)) rfl rfl (by decide) (by decide) hz hy hJ (fun _ _ _ => hm_t) hM (fun k u r y1 hw hw2 => fin_t (Or.inr rfl) hKX hR0 hw hw2) hn hP hD hS hl
      · have hJ := j_ask_t2 l D E [] lc oo f x (nI v) (nI w) ({ frames := 6, cells := 1, slots := 6, locals := 82 } : Room) rfl rfl (by decide) (by decide) (c_X2_ask_s l hl0 D E [(lc, .long)] x v w hv hw6 (Or.inl (by rw [(hG9 v hv).2.2.1, h12]; exact nI_nem1 (by omega))))
        have hM := c_X3_ask_b l D (ou, (eI E, eZ E)) (lwT E lc) y v w hv hw6 (Or.inl (by rw [h12]; exact nI_pos' (by omega)))
        exact br_ask l hL C0 hN hKX hi hcl hsl (mc := 1) (ms := 6) (by decide) (by decide) (rmm := ({ frames := 1, cells := 0, slots := 0, locals := 22 } : Room)) rfl rfl (by decide) (by decide) hz hy hJ (fun _ _ _ => hm_t) hM (fun k u r y1 hw hw2 => fin_t (Or.inr rfl) hKX hR0 hw hw2) hn hP hD hS hl
    · have hJ := j_ask_t1 l D E [] lc oo f x (nI v) (xs (i + 2)) ({ frames := 7, cells := 1, slots := 6, locals := 103 } : Room) rfl rfl (by decide) (by decide) (c_X2_ask_p l hl0 D E [(lc, .long)] x v (xs (i + 2)) hv hy1)
      have hM := c_X3_ask_np l D (ou, (eI E, eZ E)) (lwT E lc) y v (xs (i + 2)) hv hy2
      exact br_ask l hL C0 hN hKX hi hcl hsl (mc := 1) (ms := 6) (by decide) (by decide) (rmm := ({ frames := 1, cells := 0, slots := 0, locals := 22 } : Room)) rfl rfl (by decide) (by decide) hz rfl hJ (fun _ _ _ => hm_t) hM (fun k u r y1 hw hw2 => fin_t (Or.inl rfl) hKX hR0 hw hw2) hn hP hD hS hl
  · have hJ := j_ask_t1 l D E [] lc oo f x (xs (i + 1)) (xs (i + 2)) ({ frames := 7, cells := 1, slots := 6, locals := 103 } : Room) rfl rfl (by decide) (by decide) (c_X2_ask_v l hl0 D E [(lc, .long)] x (xs (i + 1)) (xs (i + 2)) hz1)
    have hM := c_X3_ask_nv l D (ou, (eI E, eZ E)) (lwT E lc) y (xs (i + 1)) (xs (i + 2)) hz2
    exact br_ask l hL C0 hN hKX hi hcl hsl (mc := 1) (ms := 6) (by decide) (by decide) (rmm := ({ frames := 1, cells := 0, slots := 0, locals := 22 } : Room)) rfl rfl (by decide) (by decide) rfl rfl hJ (fun _ _ _ => hm_t) hM (fun k u r y1 hw hw2 => fin_t (Or.inl rfl) hKX hR0 hw hw2) hn hP hD hS hl

set_option maxHeartbeats 4000000 in
set_option maxRecDepth 100000 in
theorem cs_advance {p : Program} {e : Env} {s : State} {m : MethodId} {below : List Frame} {meth : Method} {c : Code} {b L : Nat} {xs : Nat → Int32} {D : va_G} {ou : Nat × (Nat → Nat)} {oo : Nat} {lc : ClassId} {E : cE} {x y : T2} {f : Nat → Int64} {cells slots : Nat} {ls : Array Slot} {H : Heap} {locs : List Loc} {q : Nat → List Nat} {mm : Nat} (l : Launch) (hL : L ≤ 2048) (C0 : lw_At p s m meth c b L xs) (hN : jNc s) (hKX : lwKX D lc s E) {i : Nat} (hi : i + 4 ≤ L) (hcl : cells + 1 ≤ 601024) (hsl : slots + 10 ≤ 7293034) (hl0 : l.stackTraces = false) (hR0 : rI E x y q mm) (hn : lwN p l e s m b below meth c D ou oo lc (eO E) (nI i) cells slots) (hP : va_P D vwCl (lwG ou E y oo lc f x) H) (hD : va_D (fun q : Nat => s.heap.size ≤ q) (lwG ou E y oo lc f x)) (hS : va_S (fun q : Nat => s.heap.size ≤ q) s.heap H locs) (hl : lv_has ls 7 [(0, .ref b), (1, .ref (eO E)), (2, .ref ou.1), (3, .ref oo), (4, .int (nI i))]) : W p l e room_1 s m #[Value.ref b] below meth c H locs cells slots (lw_Z below #[Value.ref b] s) (F0 m 476 ls []) := by
  have h0 := hR0.1
  obtain ⟨⟨hQ9, hC9, hN9⟩, ⟨hV9, hT9, hB9⟩, ⟨hF9, hG9⟩, hL9, hS9⟩ := hR0.1
  by_cases hlo : xs (i + 1) < nI 1
  · have hJ := j_advance_t1 l D E [] lc oo f x (xs (i + 1)) ({ frames := 6, cells := 1, slots := 6, locals := 82 } : Room) rfl rfl (by decide) (by decide) (c_X2_advance_r l hl0 D E [(lc, .long)] x (xs (i + 1)) (Or.inl hlo))
    have hM := c_X3_advance_n l D (ou, (eI E, eZ E)) (lwT E lc) y (xs (i + 1)) (Or.inl hlo)
    exact br_advance l hL C0 hN hKX hi hcl hsl (mc := 1) (ms := 6) (by decide) (by decide) (rmm := ({ frames := 1, cells := 0, slots := 0, locals := 22 } : Room)) rfl rfl (by decide) (by decide) rfl hJ (fun _ _ _ => hm_t) hM (fun k u r y1 hw hw2 => fin_t (Or.inl rfl) hKX hR0 hw hw2) hn hP hD hS hl
  · by_cases hhi : nI 60 < xs (i + 1)
    · have hJ := j_advance_t1 l D E [] lc oo f x (xs (i + 1)) ({ frames := 6, cells := 1, slots := 6, locals := 82 } : Room) rfl rfl (by decide) (by decide) (c_X2_advance_r l hl0 D E [(lc, .long)] x (xs (i + 1)) (Or.inr hhi))
      have hM := c_X3_advance_n l D (ou, (eI E, eZ E)) (lwT E lc) y (xs (i + 1)) (Or.inr hhi)
      exact br_advance l hL C0 hN hKX hi hcl hsl (mc := 1) (ms := 6) (by decide) (by decide) (rmm := ({ frames := 1, cells := 0, slots := 0, locals := 22 } : Room)) rfl rfl (by decide) (by decide) rfl hJ (fun _ _ _ => hm_t) hM (fun k u r y1 hw hw2 => fin_t (Or.inl rfl) hKX hR0 hw hw2) hn hP hD hS hl
    · obtain ⟨n9, hn1, hn60, hz⟩ := rng_nI (a := 1) (b := 60) (by decide) hlo hhi
      have h00 : x 0 0 = y 0 0 := hF9.1
      have hm9 := hR0.2.1
      have hm12 := hR0.2.2.1
      by_cases hb : mm + n9 ≤ 1200
      · have h1 := rI_18 hR0 (nI 0)
        obtain ⟨x9, y9, q9, hcM, hmM, hR9, hy9, hr9⟩ := w_mins n9 x _ q mm h1.1 h1.2.1 hb h1.2.2.2
        have hlim : ¬ nI 1200 < y 0 0 + nI n9 := by
          rw [hm9, nI_add]
          exact fun c => absurd ((nI_ltI (by decide) (by omega)).mp c) (by omega)
        have hJ := j_advance_ok 0 0 l D E [] lc oo f x (nI n9) ({ frames := 6, cells := 0, slots := 0, locals := 135 } : Room) rfl rfl (by decide) (by decide) (c_X2_advance l D E [(lc, .long)] x n9 x9 hn1 hn60 (by rw [h00]; exact hlim) hcM) (fun _ _ _ => hm_x0)
        have hM := c_X3_advance l D (ou, (eI E, eZ E)) (lwT E lc) y n9 y9 hn1 hn60 hlim hmM
        exact br_advance l hL C0 hN hKX hi hcl hsl (mc := 0) (ms := 0) (by decide) (by decide) (rmm := ({ frames := 3, cells := 0, slots := 0, locals := 71 } : Room)) rfl rfl (by decide) (by decide) hz hJ (fun _ _ _ => hm_c hm_x0) hM (fun k u r y1 hw hw2 => fin_ok (q1 := q9) (m1 := mm + n9) (E1 := E) hKX rfl rfl rfl hw.1 (hw.2.1.trans (hR9.2.2.1.1.1.trans hw2.1.symm)) (by rw [hw2.2, k18_mins 0 n9 _ _ hmM]; exact up2_s _ _ _ _) (by rw [hw.2.2, hw2.2]; exact ⟨hR9, hy9, hb, hr9⟩)) hn hP hD hS hl
      · have hlim : nI 1200 < y 0 0 + nI n9 := by
          rw [hm9, nI_add]
          exact nI_lt (by omega) (by omega)
        have hJ := j_advance_t2 l D E [] lc oo f x (nI n9) ({ frames := 6, cells := 1, slots := 6, locals := 82 } : Room) rfl rfl (by decide) (by decide) (c_X2_advance_s l hl0 D E [(lc, .long)] x n9 hn1 hn60 (by rw [h00]; exact hlim))
        have hM := c_X3_advance_b l D (ou, (eI E, eZ E)) (lwT E lc) y (nI n9) (fun c => hlo (by rw [hz]; exact c)) (fun c => hhi (by rw [hz]; exact c)) hlim
        exact br_advance l hL C0 hN hKX hi hcl hsl (mc := 1) (ms := 6) (by decide) (by decide) (rmm := ({ frames := 1, cells := 0, slots := 0, locals := 22 } : Room)) rfl rfl (by decide) (by decide) hz hJ (fun _ _ _ => hm_t) hM (fun k u r y1 hw hw2 => fin_t (Or.inr rfl) hKX hR0 hw hw2) hn hP hD hS hl

set_option maxHeartbeats 4000000 in
set_option maxRecDepth 100000 in
theorem cs_send {p : Program} {e : Env} {s : State} {m : MethodId} {below : List Frame} {meth : Method} {c : Code} {b L : Nat} {xs : Nat → Int32} {D : va_G} {ou : Nat × (Nat → Nat)} {oo : Nat} {lc : ClassId} {E : cE} {x y : T2} {f : Nat → Int64} {cells slots : Nat} {ls : Array Slot} {H : Heap} {locs : List Loc} {q : Nat → List Nat} {mm : Nat} (l : Launch) (hL : L ≤ 2048) (C0 : lw_At p s m meth c b L xs) (hN : jNc s) (hKX : lwKX D lc s E) {i : Nat} (hi : i + 4 ≤ L) (hcl : cells + 1 ≤ 601024) (hsl : slots + 10 ≤ 7293034) (hl0 : l.stackTraces = false) (hR0 : rI E x y q mm) (hn : lwN p l e s m b below meth c D ou oo lc (eO E) (nI i) cells slots) (hP : va_P D vwCl (lwG ou E y oo lc f x) H) (hD : va_D (fun q : Nat => s.heap.size ≤ q) (lwG ou E y oo lc f x)) (hS : va_S (fun q : Nat => s.heap.size ≤ q) s.heap H locs) (hl : lv_has ls 7 [(0, .ref b), (1, .ref (eO E)), (2, .ref ou.1), (3, .ref oo), (4, .int (nI i))]) : W p l e room_1 s m #[Value.ref b] below meth c H locs cells slots (lw_Z below #[Value.ref b] s) (F0 m 532 ls []) := by
  have h0 := hR0.1
  obtain ⟨⟨hQ9, hC9, hN9⟩, ⟨hV9, hT9, hB9⟩, ⟨hF9, hG9⟩, hL9, hS9⟩ := hR0.1
  rcases arg_nI (z := xs (i + 1)) (n := 8) (by decide) with ⟨v, hv, hz⟩ | ⟨hz1, hz2⟩
  · rcases arg_nI (z := xs (i + 2)) (n := 6) (by decide) with ⟨w, hw6, hy⟩ | ⟨hy1, hy2⟩
    · have h10 : x 10 v = y 11 v := (hG9 v hv).2.1
      by_cases hbit : (y 11 v >>> (nI w &&& 31)) &&& nI 1 = nI 0
      · have hh : cHas x v w = 0 := by
          unfold cHas
          rw [h10, if_pos ((w_bit _ hw6).mp hbit)]
        have hJ := j_send_t2 l D E [] lc oo f x (nI v) (nI w) ({ frames := 6, cells := 1, slots := 6, locals := 82 } : Room) rfl rfl (by decide) (by decide) (c_X2_send_x l hl0 D E [(lc, .long)] x v w hv hw6 hh)
        have hM := c_X3_send_b l D (ou, (eI E, eZ E)) (lwT E lc) y v w hv hw6 (by rw [hbit]; exact nI_01)
        exact br_send l hL C0 hN hKX hi hcl hsl (mc := 1) (ms := 6) (by decide) (by decide) (rmm := ({ frames := 1, cells := 0, slots := 0, locals := 22 } : Room)) rfl rfl (by decide) (by decide) hz hy hJ (fun _ _ _ => hm_t) hM (fun k u r y1 hw hw2 => fin_t (Or.inr rfl) hKX hR0 hw hw2) hn hP hD hS hl
      · have hh : cHas x v w = 1 := by
          unfold cHas
          rw [h10, if_neg (fun e => hbit ((w_bit _ hw6).mpr e))]
        have hb1 := bit_01 _ hw6 hbit
        have h4 : x 4 w = y 15 w := (hF9.2 w hw6).2.2.2.1
        by_cases h15 : y 15 w = nI 0
        · have hJ := j_send_ok 0 0 l D E [] lc oo f x (nI v) (nI w) ({ frames := 1, cells := 0, slots := 0, locals := 22 } : Room) rfl rfl (by decide) (by decide) (c_X2_send_e l D E [(lc, .long)] x v w hv hw6 hh (h4.trans h15)) (fun _ _ _ => hm_x0)
          have hM := c_X3_send_e l D (ou, (eI E, eZ E)) (lwT E lc) y v w hv hw6 hb1 h15
          exact br_send l hL C0 hN hKX hi hcl hsl (mc := 0) (ms := 0) (by decide) (by decide) (rmm := ({ frames := 1, cells := 0, slots := 0, locals := 22 } : Room)) rfl rfl (by decide) (by decide) hz hy hJ (fun _ _ _ => hm_c hm_x0) hM (fun k u r y1 hw hw2 => fin_sL (q1 := q) (m1 := mm) (E1 := E) hKX rfl rfl rfl hw.1 (hw.2.1.trans hw2.1.symm) (by rw [hw2.2, up2_k _ _ _ _ (by decide)]; exact up2_s _ _ _ _) (by rw [hw.2.2, hw2.2]; exact rI_s hR0 (w_sende h0 hw6) (fun f i hf => by rw [up2_k _ _ _ _ (by omega), up2_k _ _ _ _ (by omega)]))) hn hP hD hS hl
        · have hJ := j_send_ok 0 0 l D E [] lc oo f x (nI v) (nI w) ({ frames := 1, cells := 0, slots := 0, locals := 22 } : Room) rfl rfl (by decide) (by decide) (c_X2_send_s l D E [(lc, .long)] x v w hv hw6 hh (by rw [h4]; exact h15)) (fun _ _ _ => hm_s)
          have hM := c_X3_send l D (ou, (eI E, eZ E)) (lwT E lc) y v w hv hw6 hb1 h15
          exact br_send l hL C0 hN hKX hi hcl hsl (mc := 0) (ms := 0) (by decide) (by decide) (rmm := ({ frames := 1, cells := 0, slots := 0, locals := 22 } : Room)) rfl rfl (by decide) (by decide) hz hy hJ (fun _ _ _ => hm_c hm_s) hM (fun k u r y1 hw hw2 => fin_sL (q1 := q) (m1 := mm) (E1 := _) hKX rfl rfl rfl hw.1 (hw.2.trans hw2.1.symm) (by rw [hw2.2, up2_k _ _ _ _ (by decide), up2_k _ _ _ _ (by decide)]; exact up2_s _ _ _ _) (by rw [hw2.2]; exact rI_s hR0 (w_card h0 hv hw6) (fun f i hf => by rw [up2_k _ _ _ _ (by omega), up2_k _ _ _ _ (by omega), up2_k _ _ _ _ (by omega)]))) hn hP hD hS hl
    · have hJ := j_send_t1 l D E [] lc oo f x (nI v) (xs (i + 2)) ({ frames := 7, cells := 1, slots := 6, locals := 103 } : Room) rfl rfl (by decide) (by decide) (c_X2_send_p l hl0 D E [(lc, .long)] x v (xs (i + 2)) hv hy1)
      have hM := c_X3_send_np l D (ou, (eI E, eZ E)) (lwT E lc) y v (xs (i + 2)) hv hy2
      exact br_send l hL C0 hN hKX hi hcl hsl (mc := 1) (ms := 6) (by decide) (by decide) (rmm := ({ frames := 1, cells := 0, slots := 0, locals := 22 } : Room)) rfl rfl (by decide) (by decide) hz rfl hJ (fun _ _ _ => hm_t) hM (fun k u r y1 hw hw2 => fin_t (Or.inl rfl) hKX hR0 hw hw2) hn hP hD hS hl
  · have hJ := j_send_t1 l D E [] lc oo f x (xs (i + 1)) (xs (i + 2)) ({ frames := 7, cells := 1, slots := 6, locals := 103 } : Room) rfl rfl (by decide) (by decide) (c_X2_send_v l hl0 D E [(lc, .long)] x (xs (i + 1)) (xs (i + 2)) hz1)
    have hM := c_X3_send_nv l D (ou, (eI E, eZ E)) (lwT E lc) y (xs (i + 1)) (xs (i + 2)) hz2
    exact br_send l hL C0 hN hKX hi hcl hsl (mc := 1) (ms := 6) (by decide) (by decide) (rmm := ({ frames := 1, cells := 0, slots := 0, locals := 22 } : Room)) rfl rfl (by decide) (by decide) rfl rfl hJ (fun _ _ _ => hm_t) hM (fun k u r y1 hw hw2 => fin_t (Or.inl rfl) hKX hR0 hw hw2) hn hP hD hS hl

set_option maxHeartbeats 4000000 in
set_option maxRecDepth 100000 in
theorem cs_reprint {p : Program} {e : Env} {s : State} {m : MethodId} {below : List Frame} {meth : Method} {c : Code} {b L : Nat} {xs : Nat → Int32} {D : va_G} {ou : Nat × (Nat → Nat)} {oo : Nat} {lc : ClassId} {E : cE} {x y : T2} {f : Nat → Int64} {cells slots : Nat} {ls : Array Slot} {H : Heap} {locs : List Loc} {q : Nat → List Nat} {mm : Nat} (l : Launch) (hL : L ≤ 2048) (C0 : lw_At p s m meth c b L xs) (hN : jNc s) (hKX : lwKX D lc s E) {i : Nat} (hi : i + 4 ≤ L) (hcl : cells + 1 ≤ 601024) (hsl : slots + 10 ≤ 7293034) (hl0 : l.stackTraces = false) (hR0 : rI E x y q mm) (hn : lwN p l e s m b below meth c D ou oo lc (eO E) (nI i) cells slots) (hP : va_P D vwCl (lwG ou E y oo lc f x) H) (hD : va_D (fun q : Nat => s.heap.size ≤ q) (lwG ou E y oo lc f x)) (hS : va_S (fun q : Nat => s.heap.size ≤ q) s.heap H locs) (hl : lv_has ls 7 [(0, .ref b), (1, .ref (eO E)), (2, .ref ou.1), (3, .ref oo), (4, .int (nI i))]) : W p l e room_1 s m #[Value.ref b] below meth c H locs cells slots (lw_Z below #[Value.ref b] s) (F0 m 607 ls []) := by
  have h0 := hR0.1
  obtain ⟨⟨hQ9, hC9, hN9⟩, ⟨hV9, hT9, hB9⟩, ⟨hF9, hG9⟩, hL9, hS9⟩ := hR0.1
  by_cases hlo : xs (i + 1) < nI 1
  · have hJ := j_reprint_t1 l D E [] lc oo f x (xs (i + 1)) ({ frames := 6, cells := 1, slots := 6, locals := 82 } : Room) rfl rfl (by decide) (by decide) (c_X2_reprint_r l hl0 D E [(lc, .long)] x (xs (i + 1)) (Or.inl hlo))
    have hM := c_X3_reprint_n l D (ou, (eI E, eZ E)) (lwT E lc) y (xs (i + 1)) (Or.inl hlo)
    exact br_reprint l hL C0 hN hKX hi hcl hsl (mc := 1) (ms := 6) (by decide) (by decide) (rmm := ({ frames := 1, cells := 0, slots := 0, locals := 22 } : Room)) rfl rfl (by decide) (by decide) rfl hJ (fun _ _ _ => hm_t) hM (fun k u r y1 hw hw2 => fin_t (Or.inl rfl) hKX hR0 hw hw2) hn hP hD hS hl
  · by_cases hhi : nI 1000 < xs (i + 1)
    · have hJ := j_reprint_t1 l D E [] lc oo f x (xs (i + 1)) ({ frames := 6, cells := 1, slots := 6, locals := 82 } : Room) rfl rfl (by decide) (by decide) (c_X2_reprint_r l hl0 D E [(lc, .long)] x (xs (i + 1)) (Or.inr hhi))
      have hM := c_X3_reprint_n l D (ou, (eI E, eZ E)) (lwT E lc) y (xs (i + 1)) (Or.inr hhi)
      exact br_reprint l hL C0 hN hKX hi hcl hsl (mc := 1) (ms := 6) (by decide) (by decide) (rmm := ({ frames := 1, cells := 0, slots := 0, locals := 22 } : Room)) rfl rfl (by decide) (by decide) rfl hJ (fun _ _ _ => hm_t) hM (fun k u r y1 hw hw2 => fin_t (Or.inl rfl) hKX hR0 hw hw2) hn hP hD hS hl
    · have h1 := rI_18 hR0 (nI 0)
      obtain ⟨hR9, hv9, hy9⟩ := w_rep h1.1 (xs (i + 1)) 6 (Nat.le_refl 6)
      have hJ := j_reprint_ok 0 0 l D E [] lc oo f x (xs (i + 1)) ({ frames := 0, cells := 0, slots := 0, locals := 0 } : Room) rfl rfl (by decide) (by decide) (c_X2_reprint l D E [(lc, .long)] x (xs (i + 1)) hlo hhi) (fun _ _ _ => hm_x0)
      have hM := c_X3_reprint l D (ou, (eI E, eZ E)) (lwT E lc) y (xs (i + 1)) hlo hhi
      exact br_reprint l hL C0 hN hKX hi hcl hsl (mc := 0) (ms := 0) (by decide) (by decide) (rmm := ({ frames := 1, cells := 0, slots := 0, locals := 22 } : Room)) rfl rfl (by decide) (by decide) rfl hJ (fun _ _ _ => hm_c hm_x0) hM (fun k u r y1 hw hw2 => fin_ok (q1 := q) (m1 := mm) (E1 := E) hKX rfl rfl rfl hw.1 (hw.2.1.trans (hv9.trans hw2.1.symm)) (by rw [hw2.2, hy9 18 0 (by decide)]; exact up2_s _ _ _ _) (by rw [hw.2.2, hw2.2]; exact rI_s hR0 hR9 (fun f i hf => by rw [hy9 f i (by omega), up2_k _ _ _ _ (by omega)]))) hn hP hD hS hl

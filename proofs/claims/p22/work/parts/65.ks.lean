/-! the law's calls over what holds between two steps -/
theorem cW_fstx {E : cE} {x x' : T2} : (cW E x').map Prod.fst = (cW E x).map Prod.fst :=
  (cW_fst (E := E) (x := x) (x' := x') (pc' := ePc E) (ed' := eEd E) (LP' := eLP E)).trans cW_fst0.symm
theorem cF_fstS {E : cE} {x : T2} {g : Nat → Nat → Int32} : (cF (eSetS E g) x).map Prod.fst = (cF E x).map Prod.fst := by
  unfold cF
  simp only [List.map_append, List.map_map]
  rfl
theorem hm_x0 {E : cE} {x x' : T2} : ∃ new : List Nat, (cW E x').map Prod.fst = (cW E x).map Prod.fst ++ new ∧ new.length ≤ 1 := ⟨[], by rw [List.append_nil]; exact cW_fstx, Nat.zero_le _⟩
theorem hm_p {E : cE} {x x' : T2} {pc : Nat → Nat → Nat} : ∃ new : List Nat, (cW (eSetP E pc (eEd E) (eLP E)) x').map Prod.fst = (cW E x).map Prod.fst ++ new ∧ new.length ≤ 1 := ⟨[], by rw [List.append_nil]; exact cW_fst.trans cW_fst0.symm, Nat.zero_le _⟩
theorem hm_f {E : cE} {x x' : T2} {pc : Nat → Nat → Nat} {i u : Nat} (hi : i ∉ eLP E) : ∃ new : List Nat, (cW (eSetP E pc (edAdd (eEd E) i u) (eLP E ++ [i])) x').map Prod.fst = (cW E x).map Prod.fst ++ new ∧ new.length ≤ 1 := by
  refine ⟨[u], ?_, Nat.le_refl _⟩
  rw [cW_fst (E := E) (x := x), cW_fst0, List.map_append, List.append_assoc]
  congr 1
  have h1 : (eLP E).map (edAdd (eEd E) i u) = (eLP E).map (eEd E) := List.map_congr_left (fun a ha => (if_neg (fun e : a = i => hi (e ▸ ha)) : (if a = i then u else eEd E a) = eEd E a))
  rw [h1]
  show _ ++ [edAdd (eEd E) i u i] = _
  rw [show edAdd (eEd E) i u i = u from if_pos rfl]
theorem hm_s {E : cE} {x x' : T2} {g : Nat → Nat → Int32} : ∃ new : List Nat, (cW (eSetS E g) x').map Prod.fst = (cW E x).map Prod.fst ++ new ∧ new.length ≤ 1 := by
  refine ⟨[], ?_, Nat.zero_le _⟩
  rw [List.append_nil, cW_fstx (x := x), cW_fst0 (E := eSetS E g) (x := x), cW_fst0 (E := E) (x := x), cF_fstS]
  rfl
theorem kQ_g {E : cE} {x : T2} {a : Int32} : kQ E x (fun (r : Int32) (u : Nat → Nat → Int32) => r = a ∧ u = x) (cW E) (kG E x a) := fun r u h => ⟨E, x, by rw [h.2], ⟨h.1, rfl, rfl⟩, pS_rf, [], (List.append_nil _).symm, Nat.zero_le _⟩
theorem kg_state (l : Launch) (D : va_G) (E : cE) (x : T2) {o v : Nat} (hO : eO E = o) (hv : v < 8) : kI l yL_state wsL_state 0 0 D E x [.ref o, .int (nI v)] (kG E x (x 6 v)) := by
  subst hO
  exact j_state_ok 0 0 l D E x _ rfl (nI v) ({ frames := 1, cells := 0, slots := 0, locals := 21 } : Room) rfl rfl (by decide) (by decide) (c_X2_stateOf l D E [] x v hv) kQ_g
theorem kg_where (l : Launch) (D : va_G) (E : cE) (x : T2) {o v : Nat} (hO : eO E = o) (hv : v < 8) : kI l yL_where wsL_where 0 0 D E x [.ref o, .int (nI v)] (kG E x (x 7 v)) := by
  subst hO
  exact j_where_ok 0 0 l D E x _ rfl (nI v) ({ frames := 1, cells := 0, slots := 0, locals := 21 } : Room) rfl rfl (by decide) (by decide) (c_X2_whereIs l D E [] x v hv) kQ_g
theorem kg_place (l : Launch) (D : va_G) (E : cE) (x : T2) {o v : Nat} (hO : eO E = o) (hv : v < 8) : kI l yL_place wsL_place 0 0 D E x [.ref o, .int (nI v)] (kG E x (x 8 v)) := by
  subst hO
  exact j_place_ok 0 0 l D E x _ rfl (nI v) ({ frames := 1, cells := 0, slots := 0, locals := 21 } : Room) rfl rfl (by decide) (by decide) (c_X2_placeOf l D E [] x v hv) kQ_g
theorem kg_turn (l : Launch) (D : va_G) (E : cE) (x : T2) {o v : Nat} (hO : eO E = o) (hv : v < 8) : kI l yL_turn wsL_turn 0 0 D E x [.ref o, .int (nI v)] (kG E x (x 11 v)) := by
  subst hO
  exact j_turn_ok 0 0 l D E x _ rfl (nI v) ({ frames := 1, cells := 0, slots := 0, locals := 21 } : Room) rfl rfl (by decide) (by decide) (c_X2_turnOf l D E [] x v hv) kQ_g
theorem kg_stamps (l : Launch) (D : va_G) (E : cE) (x : T2) {o v : Nat} (hO : eO E = o) (hv : v < 8) : kI l yL_stamps wsL_stamps 0 0 D E x [.ref o, .int (nI v)] (kG E x (x 10 v)) := by
  subst hO
  exact j_stamps_ok 0 0 l D E x _ rfl (nI v) ({ frames := 1, cells := 0, slots := 0, locals := 21 } : Room) rfl rfl (by decide) (by decide) (c_X2_stamps l D E [] x v hv) kQ_g
theorem kg_stock (l : Launch) (D : va_G) (E : cE) (x : T2) {o j : Nat} (hO : eO E = o) (hj : j < 6) : kI l yL_stock wsL_stock 0 0 D E x [.ref o, .int (nI j)] (kG E x (x 4 j)) := by
  subst hO
  exact j_stock_ok 0 0 l D E x _ rfl (nI j) ({ frames := 1, cells := 0, slots := 0, locals := 21 } : Room) rfl rfl (by decide) (by decide) (c_X2_stock l D E [] x j hj) kQ_g
theorem kg_demand (l : Launch) (D : va_G) (E : cE) (x : T2) {o j : Nat} (hO : eO E = o) (hj : j < 6) : kI l yL_demand wsL_demand 0 0 D E x [.ref o, .int (nI j)] (kG E x (x 5 j)) := by
  subst hO
  exact j_demand_ok 0 0 l D E x _ rfl (nI j) ({ frames := 1, cells := 0, slots := 0, locals := 21 } : Room) rfl rfl (by decide) (by decide) (c_X2_demand l D E [] x j hj) kQ_g
theorem kg_queue (l : Launch) (D : va_G) (E : cE) (x : T2) {o j : Nat} (hO : eO E = o) (hj : j < 6) : kI l yL_queue wsL_queue 0 0 D E x [.ref o, .int (nI j)] (kG E x (nI (cCnt x (nI 1) j 8))) := by
  subst hO
  exact j_queue_ok 0 0 l D E x _ rfl (nI j) ({ frames := 2, cells := 0, slots := 0, locals := 50 } : Room) rfl rfl (by decide) (by decide) (c_X2_queue l D E [] x j hj) kQ_g
theorem kg_inside (l : Launch) (D : va_G) (E : cE) (x : T2) {o j : Nat} (hO : eO E = o) (hj : j < 6) : kI l yL_inside wsL_inside 0 0 D E x [.ref o, .int (nI j)] (kG E x (nI (cCnt x (nI 2) j 8))) := by
  subst hO
  exact j_inside_ok 0 0 l D E x _ rfl (nI j) ({ frames := 2, cells := 0, slots := 0, locals := 50 } : Room) rfl rfl (by decide) (by decide) (c_X2_inside l D E [] x j hj) kQ_g
theorem kg_sent (l : Launch) (D : va_G) (E : cE) (x : T2) {o v j : Nat} (hO : eO E = o) (hv : v < 8) (hj : j < 6) : kI l yL_sent wsL_sent 0 0 D E x [.ref o, .int (nI v), .int (nI j)] (kG E x (eS E v j)) := by
  subst hO
  exact j_sent_ok 0 0 l D E x _ rfl (nI v) (nI j) ({ frames := 1, cells := 0, slots := 0, locals := 21 } : Room) rfl rfl (by decide) (by decide) (c_X2_sent l D E [] x v j hv hj) kQ_g
theorem pI_now {E : cE} {x : T2} {m n : Nat} {pr : Int32} (h : pI E x m n pr) : x 0 0 = nI m := by
  obtain ⟨⟨y, q, w1, w2, -⟩, -⟩ := h
  exact w1.2.2.1.1.1.trans w2
theorem pI_S {E : cE} {x : T2} {m n : Nat} {pr : Int32} (h : pI E x m n pr) : zS x := h.2.2.1
section KS
variable (l : Launch) (D : va_G) {E : cE} {x : T2} {o m n v p k a : Nat} {pr : Int32}
theorem ks_plan_no (hO : eO E = o) (h : pI E x m n pr) (hv : v < 8) (hp : p < 6) (hk : pNo E x v p k) : ∃ mc ms, mc ≤ 1 ∧ ms ≤ 10 ∧ kI l yL_plan wsL_plan mc ms D E x [.ref o, .int (nI v), .int (nI p)] (fun r E1 x1 => r = nI (k + 1) ∧ pI E1 x1 m n pr ∧ (∃ a, pYes E1 x1 v p (k + 1) a) ∧ zM x x1) := by
  subst hO
  have hk0 := hk
  obtain ⟨k1, k2, k3, k4, k5, k6, k7⟩ := hk0
  have hz : zM x (xLen x v (k + 1)) := zM_eq (pI_S h) (fun w => xLen_o (by decide) (by decide))
  rcases k5 with c | ⟨c0, c1, c2⟩
  · refine ⟨0, 0, by decide, by decide, j_plan_ok 0 0 l D E x _ rfl (nI v) (nI p) ({ frames := 5, cells := 0, slots := 0, locals := 130 } : Room) rfl rfl (by decide) (by decide) (c_X2_plan_m l D E [] x v p k hv hp (by omega) k2 c k3 k6) (fun r u hr => ?_)⟩
    obtain ⟨g1, g2⟩ := p_add h hv hp hk (ed := eEd E) (LP := eLP E) ⟨c, fun i _ => ⟨Iff.rfl, rfl⟩⟩
    exact ⟨_, _, rfl, ⟨hr, g1, g2, hz⟩, ⟨rfl, rfl, rfl⟩, hm_p⟩
  · subst c0
    refine ⟨1, 10, by decide, by decide, j_plan_ok 1 10 l D E x _ rfl (nI v) (nI p) ({ frames := 5, cells := 1, slots := 10, locals := 130 } : Room) rfl rfl (by decide) (by decide) (c_X2_plan_f l D E [] x v p hv hp k2 c1 c2) (fun r u hr => ?_)⟩
    obtain ⟨g1, g2⟩ := p_add h hv hp hk (ed := edAdd (eEd E) v u) (LP := eLP E ++ [v]) ⟨List.mem_append_right _ List.mem_cons_self, fun i hi => ⟨by simp [hi], if_neg hi⟩⟩
    exact ⟨_, _, rfl, ⟨hr, g1, g2, hz⟩, ⟨rfl, rfl, rfl⟩, hm_f c1⟩
theorem ks_plan_yes (hl0 : l.stackTraces = false) (hO : eO E = o) (hv : v < 8) (hp : p < 6) (hk : pYes E x v p k a) : kI l yL_plan wsL_plan 1 6 D E x [.ref o, .int (nI v), .int (nI p)] (kG E x (-103)) := by
  subst hO
  obtain ⟨k1, k2, k3, k4, k5, k6, k7, k8⟩ := hk
  exact j_plan_t l D E x _ rfl (nI v) (nI p) ({ frames := 6, cells := 1, slots := 6, locals := 87 } : Room) rfl rfl (by decide) (by decide) (c_X2_plan_s l hl0 D E [] x v p k a hv hp k1 k3 k5 k4 k2 k6)
theorem ks_drop_yes (hO : eO E = o) (h : pI E x m n pr) (hv : v < 8) (hp : p < 6) (hk : pYes E x v p k a) : kI l yL_drop wsL_drop 0 0 D E x [.ref o, .int (nI v), .int (nI p)] (fun r E1 x1 => r = nI (k - 1) ∧ pI E1 x1 m n pr ∧ pNo E1 x1 v p (k - 1) ∧ (x1 6 v = x 6 v ∨ (x 6 v = nI 1 ∧ x1 6 v = nI 0)) ∧ zM x x1) := by
  subst hO
  obtain ⟨g1, g2, g3, g4⟩ := p_del h hv hp hk
  obtain ⟨k1, k2, k3, k4, k5, k6, k7, k8⟩ := hk
  refine j_drop_ok 0 0 l D E x _ rfl (nI v) (nI p) ({ frames := 4, cells := 0, slots := 0, locals := 90 } : Room) rfl rfl (by decide) (by decide) (c_X2_drop l D E [] x v p k a hv hp k1 k3 k5 k4 k2 k6) (fun r u hr => ?_)
  exact ⟨_, _, by rw [hr.2], ⟨hr.1, g1, g2, g3, zM_eq (pI_S h) g4⟩, ⟨rfl, rfl, rfl⟩, hm_p⟩
theorem ks_drop_no (hl0 : l.stackTraces = false) (hO : eO E = o) (hv : v < 8) (hp : p < 6) (hk : pNo E x v p k) : kI l yL_drop wsL_drop 1 6 D E x [.ref o, .int (nI v), .int (nI p)] (kG E x (-103)) := by
  subst hO
  obtain ⟨k1, k2, k3, k4, k5, k6, k7⟩ := hk
  exact j_drop_t l D E x _ rfl (nI v) (nI p) ({ frames := 6, cells := 1, slots := 6, locals := 87 } : Room) rfl rfl (by decide) (by decide) (c_X2_drop_s l hl0 D E [] x v p k hv hp (by omega) k2 k4 k3 k6)
theorem ks_ask_ok (hO : eO E = o) (h : pI E x m n pr) (hv : v < 8) (hp : p < 6) (h11 : x 11 v = -1) (h3 : ¬ x 3 p = nI 0) : kI l yL_ask wsL_ask 0 0 D E x [.ref o, .int (nI v), .int (nI p)] (fun r E1 x1 => (∃ t, r = nI t ∧ m < t ∧ t % 5 = 0 ∧ t ≤ 2000) ∧ pI E1 x1 m n pr ∧ x1 11 v = r ∧ zM x x1) := by
  subst hO
  have hok : cTOk x := by
    obtain ⟨⟨y, q, w1, -, -⟩, -⟩ := h
    exact cTOk_of w1
  refine j_ask_ok 0 0 l D E x _ rfl (nI v) (nI p) ({ frames := 2, cells := 0, slots := 0, locals := 49 } : Room) rfl rfl (by decide) (by decide) (c_X2_ask l D E [] x v p hv hp hok h11 h3) (fun r u hr => ?_)
  obtain ⟨g1, g2⟩ := p_ask h hv hp h11 hr.1
  refine ⟨E, _, by rw [hr.2], ⟨g1, g2, ?_, zM_eq (pI_S h) (fun w => ?_)⟩, pS_rf, hm_x0⟩
  · rw [up2_k _ _ _ _ (by decide), up2_s]
  · rw [up2_k _ _ _ _ (by decide), up2_k _ _ _ _ (by decide)]
theorem ks_ask_no (hl0 : l.stackTraces = false) (hO : eO E = o) (hv : v < 8) (hp : p < 6) (hs : ¬ x 11 v = -1 ∨ x 3 p = nI 0) : kI l yL_ask wsL_ask 1 6 D E x [.ref o, .int (nI v), .int (nI p)] (kG E x (-103)) := by
  subst hO
  exact j_ask_t l D E x _ rfl (nI v) (nI p) ({ frames := 6, cells := 1, slots := 6, locals := 82 } : Room) rfl rfl (by decide) (by decide) (c_X2_ask_s l hl0 D E [] x v p hv hp hs)
theorem ks_open_o (hO : eO E = o) (h : pI E x m n pr) (hp : p < 6) : kI l yL_open wsL_open 0 0 D E x [.ref o, .int (nI p), .int (nI 1)] (fun r E1 x1 => r = nI 0 ∧ pI E1 x1 m n pr ∧ cCnt x1 (nI 1) p 8 = cCnt x (nI 1) p 8 ∧ cCnt x1 (nI 2) p 8 = cCnt x (nI 2) p 8 ∧ zM x x1) := by
  subst hO
  refine j_open_ok 0 0 l D E x _ rfl (nI p) (nI 1) ({ frames := 1, cells := 0, slots := 0, locals := 21 } : Room) rfl rfl (by decide) (by decide) (c_X2_open_o l D E [] x p hp) (fun r u hr => ?_)
  have e : ∀ i, up2 x 3 p (nI 1) 6 i = x 6 i ∧ up2 x 3 p (nI 1) 7 i = x 7 i := fun i => ⟨up2_k _ _ _ _ (by decide), up2_k _ _ _ _ (by decide)⟩
  exact ⟨E, _, by rw [hr.2], ⟨hr.1, p_open h p, cCnt_e e 8, cCnt_e e 8, zM_eq (pI_S h) (fun w => up2_k _ _ _ _ (by decide))⟩, pS_rf, hm_x0⟩
theorem ks_open_c (hO : eO E = o) (h : pI E x m n pr) (hp : p < 6) : kI l yL_open wsL_open 0 0 D E x [.ref o, .int (nI p), .int (nI 0)] (fun r E1 x1 => r = nI (cCnt x (nI 1) p 8) ∧ pI E1 x1 m n pr ∧ cCnt x1 (nI 1) p 8 = 0 ∧ cCnt x1 (nI 2) p 8 = cCnt x (nI 2) p 8 ∧ zM x x1) := by
  subst hO
  refine j_open_ok 0 0 l D E x _ rfl (nI p) (nI 0) ({ frames := 3, cells := 0, slots := 0, locals := 72 } : Room) rfl rfl (by decide) (by decide) (c_X2_open_c l D E [] x p hp) (fun r u hr => ?_)
  obtain ⟨g1, g2, g3, g4, g5⟩ := p_close h hp
  exact ⟨E, _, by rw [hr.2], ⟨by rw [hr.1, g2], g1, g3, g4, zM_eq (pI_S h) g5⟩, pS_rf, hm_x0⟩
theorem ks_setp (hO : eO E = o) (h : pI E x m n pr) (hp : p < 6) {r t : Nat} (hr1 : 1 ≤ r) (hr2 : r ≤ 8) (ht1 : 1 ≤ t) (ht2 : t ≤ 60) : kI l yL_setPavilion wsL_setPavilion 0 0 D E x [.ref o, .int (nI p), .int (nI r), .int (nI t)] (fun z E1 x1 => z = nI 0 ∧ pI E1 x1 m n pr ∧ cCnt x1 (nI 2) p 8 = cCnt x (nI 2) p 8 ∧ zM x x1) := by
  subst hO
  have hok : sOK (nI r) (nI t) := ⟨nI_nlt hr1 (by omega), nI_nlt hr2 (by decide), nI_nlt ht1 (by omega), nI_nlt ht2 (by decide)⟩
  refine j_setPavilion_ok (p2 := fun z E1 x1 => z = nI 0 ∧ pI E1 x1 m n pr ∧ cCnt x1 (nI 2) p 8 = cCnt x (nI 2) p 8 ∧ zM x x1) 0 0 l D E x _ rfl (nI p) (nI r) (nI t) ({ frames := 1, cells := 0, slots := 0, locals := 21 } : Room) rfl rfl (by decide) (by decide) (c_X2_setPavilion l D E [] x p (nI r) (nI t) hp hok) (fun z u hu0 => ?_)
  obtain ⟨hz0, hu⟩ := hu0
  have e : ∀ f i, f ≠ 1 → f ≠ 2 → up2 (up2 x 1 p (nI r)) 2 p (nI t) f i = x f i := fun f i h1 h2 => by rw [up2_k _ _ _ _ h2, up2_k _ _ _ _ h1]
  exact ⟨E, _, by rw [hu], ⟨hz0, p_setp h p (by omega) _, cCnt_e (fun i => ⟨e 6 i (by decide) (by decide), e 7 i (by decide) (by decide)⟩) 8, zM_eq (pI_S h) (fun w => e 10 w (by decide) (by decide))⟩, pS_rf, hm_x0⟩
theorem ks_send_x (hl0 : l.stackTraces = false) (hO : eO E = o) (hv : v < 8) (hp : p < 6) (hst : cHas x v p = 0) : kI l yL_send wsL_send 1 6 D E x [.ref o, .int (nI v), .int (nI p)] (kG E x (-103)) := by
  subst hO
  exact j_send_t l D E x _ rfl (nI v) (nI p) ({ frames := 6, cells := 1, slots := 6, locals := 82 } : Room) rfl rfl (by decide) (by decide) (c_X2_send_x l hl0 D E [] x v p hv hp hst)
theorem ks_send_e (hO : eO E = o) (h : pI E x m n pr) (hv : v < 8) (hp : p < 6) (hst : cHas x v p = 1) (h4 : x 4 p = nI 0) : kI l yL_send wsL_send 0 0 D E x [.ref o, .int (nI v), .int (nI p)] (fun r E1 x1 => r = nI 0 ∧ pI E1 x1 m (n + 1) pr ∧ x1 5 p = x 5 p + nI 1 ∧ x1 4 p = nI 0 ∧ x1 10 v = x 10 v ∧ zM x x1) := by
  subst hO
  refine j_send_ok 0 0 l D E x _ rfl (nI v) (nI p) ({ frames := 1, cells := 0, slots := 0, locals := 22 } : Room) rfl rfl (by decide) (by decide) (c_X2_send_e l D E [] x v p hv hp hst h4) (fun r u hr => ?_)
  exact ⟨E, _, by rw [hr.2], ⟨⟨hr.1, p_want h hp, up2_s _ _ _ _, (up2_k _ _ _ _ (by decide)).trans h4, up2_k _ _ _ _ (by decide), zM_eq (pI_S h) (fun w => up2_k _ _ _ _ (by decide))⟩, Or.inl hr.1⟩, pS_rf, hm_x0⟩
theorem ks_send_s (hO : eO E = o) (h : pI E x m n pr) (hv : v < 8) (hp : p < 6) (hst : cHas x v p = 1) (h4 : ¬ x 4 p = nI 0) : kI l yL_send wsL_send 0 0 D E x [.ref o, .int (nI v), .int (nI p)] (fun r E1 x1 => r = nI 1 ∧ pI E1 x1 m n pr ∧ x1 4 p = x 4 p - nI 1 ∧ eS E1 v p = eS E v p + nI 1 ∧ x1 5 p = x 5 p ∧ x1 10 v = x 10 v ∧ zM x x1) := by
  subst hO
  refine j_send_ok 0 0 l D E x _ rfl (nI v) (nI p) ({ frames := 1, cells := 0, slots := 0, locals := 22 } : Room) rfl rfl (by decide) (by decide) (c_X2_send_s l D E [] x v p hv hp hst h4) (fun r u hr => ?_)
  exact ⟨_, _, rfl, ⟨⟨hr, p_card h hv hp h4, up2_s _ _ _ _, up2_s _ _ _ _, up2_k _ _ _ _ (by decide), up2_k _ _ _ _ (by decide), zM_eq (pI_S h) (fun w => up2_k _ _ _ _ (by decide))⟩, Or.inr hr⟩, ⟨rfl, rfl, rfl⟩, hm_s⟩
theorem ks_rep (hO : eO E = o) (h : pI E x m n pr) {t : Nat} (ht1 : 1 ≤ t) (ht2 : t ≤ 1000) : kI l yL_reprint wsL_reprint 0 0 D E x [.ref o, .int (nI t)] (fun r E1 x1 => r = cRepV x (nI t) 6 ∧ pI E1 x1 m n (pr + cRepV x (nI t) 6) ∧ x1 = cRepX x (nI t) 6 ∧ zM x x1) := by
  subst hO
  refine j_reprint_ok 0 0 l D E x _ rfl (nI t) ({ frames := 0, cells := 0, slots := 0, locals := 0 } : Room) rfl rfl (by decide) (by decide) (c_X2_reprint l D E [] x (nI t) (nI_nlt ht1 (by omega)) (nI_nlt ht2 (by decide))) (fun r u hr => ?_)
  exact ⟨E, _, by rw [hr.2], ⟨hr.1, p_rep h (nI t), rfl, zM_eq (pI_S h) (fun w => rpX_o (by decide) w 6)⟩, pS_rf, hm_x0⟩
theorem ks_adv (hO : eO E = o) (h : pI E x m n pr) {d : Nat} (hd1 : 1 ≤ d) (hd2 : d ≤ 60) (hd : m + d ≤ 1200) : kI l yL_advance wsL_advance 0 0 D E x [.ref o, .int (nI d)] (fun r E1 x1 => r = nI (m + d) ∧ pI E1 x1 (m + d) n pr ∧ E1 = E ∧ zM x x1) := by
  subst hO
  obtain ⟨x', h1, h2, h3, h4⟩ := p_adv h hd
  refine j_advance_ok 0 0 l D E x _ rfl (nI d) ({ frames := 6, cells := 0, slots := 0, locals := 135 } : Room) rfl rfl (by decide) (by decide) (c_X2_advance l D E [] x d x' hd1 hd2 (by rw [pI_now h, nI_add]; exact nI_nlt hd (by decide)) h1) (fun r u hr => ?_)
  exact ⟨E, _, by rw [hr.2], ⟨hr.1.trans h4, h2, rfl, h3⟩, pS_rf, hm_x0⟩
end KS

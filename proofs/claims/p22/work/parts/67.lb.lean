/-! the law's body: what its cases share -/
theorem nI_ne103 {n : Nat} (h : n < 2 ^ 31) : ¬ nI n = -103 := by
  intro q
  have h1 : (nI n).toInt = (-103 : Int32).toInt := by rw [q]
  rw [nI_toInt h, show (-103 : Int32).toInt = -103 from by decide] at h1
  omega
/-- what stands through the whole law: the classes, the object's place, the class of int rows -/
def lS (D : va_G) (s : State) (o : Nat) (ci : ClassId) (E : cE) : Prop := va_K D vwCl (cT E []) s ∧ cX (eDf E) (fun q : Nat => s.heap.size ≤ q) s ∧ eO E = o ∧ eI E = ci
theorem lS_s {D : va_G} {s : State} {o : Nat} {ci : ClassId} {E E1 : cE} (h : lS D s o ci E) (g : pS E E1) : lS D s o ci E1 := by
  obtain ⟨h1, h2, h3, h4⟩ := h
  obtain ⟨g1, g2, g3⟩ := g
  refine ⟨?_, ?_, g3.trans h3, ?_⟩
  · have e : cT E1 [] = cT E [] := by
      unfold cT eI eP eV eB
      rw [g1]
    rw [e]; exact h1
  · rw [g2]; exact h2
  · unfold eI
    rw [g1]; exact h4
abbrev lW (ha : Nat) (ci : ClassId) (f : Nat → Int32) (E : cE) (x : T2) : va_W := [(ha, .inl (ci, 8, .inl f))] ++ cW E x
section LREF
variable {p : Program} {l : Launch} {e : Env} {R : Room} {s : State} {m : MethodId} {args : Array Value} {below : List Frame} {meth : Method} {c : Code} {H : Heap} {locs : List Loc} {cells slots : Nat} {Q : State → Prop}
variable {cc : ByteArray} {pc nL n index maxL : Nat} {ls : Array Slot} {rest st0 As : List Value} {D : va_G} {A : Nat → Prop} {E : cE} {x : T2} {pre : va_W} {y : MethodName} {bytes : ByteArray} {ret : Option FieldType} {hh : List (Nat × Nat × Nat × Nat)} {wsy Ts : List Cond} {rm : Room} {own : String} {o : Nat}
/-- a call that the class refuses -/
theorem x_ref {v : Int32} (F : CallFix p m c cc nL s args Ts own) (hC : kI l y wsy 1 6 D E x As (kG E x v)) (cw : vx_CSW R s args own index y bytes maxL ret hh wsy (R8 1 6) 1 6 n)
    (hK : va_K D vwCl (cT E []) s) (hX : cX (eDf E) A s) (hN : jNc s) (hP : va_P D vwCl (pre ++ cW E x) H) (hD : va_D A (pre ++ cW E x)) (hS : va_S A s.heap H locs) (hA : ∀ q : Nat, s.heap.size ≤ q → A q)
    (hn : As.length = n) (hl : ls.size = nL) (hst : st0 = As.reverse ++ rest) (hW : (rest.map fun v => v.category).sum ≤ 8) (hdg : decode cc pc = .ok (.invokestatic index, 3)) (hf : cells + 1 ≤ R.cells ∧ slots + 10 ≤ R.slots)
    (kk : ∀ (H1 : Heap) (locs1 : List Loc), va_P D vwCl (pre ++ cW E x) H1 → va_D A (pre ++ cW E x) → va_S A s.heap H1 locs1 → W p l e R s m args below meth c H1 locs1 (cells + 1) (slots + 10) Q (F0 m (pc + 3) ls (.int v :: rest))) : W p l e R s m args below meth c H locs cells slots Q (F0 m pc ls st0) := by
  refine x_call F hC (by decide) (by decide) cw hK hX hN hP hD hS hA hn hl hst hW hdg hf (fun r E1 x1 H1 locs1 hw hg hP1 hD1 hS1 => ?_)
  obtain ⟨h1, h2, h3⟩ := hw
  rw [h2, h3] at hP1 hD1
  rw [h1]
  exact kk H1 locs1 hP1 hD1 hS1
/-- the minute -/
theorem x_min (F : CallFix p m c cc nL s args Ts own) (hO : eO E = o) (cw : CallW R s args own RX2 index yX2_minute cX2_minute 1 (some .int) wsX2_minute ({ frames := 0, cells := 0, slots := 0, locals := 0 } : Room) 0 0 0)
    (hK : va_K D vwCl (cT E []) s) (hX : cX (eDf E) A s) (hP : va_P D vwCl (pre ++ cW E x) H) (hD : va_D A (pre ++ cW E x)) (hS : va_S A s.heap H locs) (hA : ∀ q : Nat, s.heap.size ≤ q → A q)
    (hl : ls.size = nL) (hW : (rest.map fun v => v.category).sum ≤ 8) (hdg : decode cc pc = .ok (.invokevirtual index, 3)) (hf : cells + 0 ≤ R.cells ∧ slots + 0 ≤ R.slots)
    (kk : ∀ (H1 : Heap) (locs1 : List Loc), va_P D vwCl (pre ++ cW E x) H1 → va_D A (pre ++ cW E x) → va_S A s.heap H1 locs1 → W p l e R s m args below meth c H1 locs1 cells slots Q (F0 m (pc + 3) ls (.int (x 0 0) :: rest))) : W p l e R s m args below meth c H locs cells slots Q (F0 m pc ls (.ref o :: rest)) := by
  subst hO
  refine j_calli (pre := pre) (w1 := cW E x) (As := []) (rest := rest) F (c_X2_minute l D E [] x) cw (va_recv hK hP (ci := 3) (q0 := pre.length + 0) rfl (by rw [app_at]; rfl)) hK hX hP hD hS hA (fun r u h => ⟨[], by rw [h.2, List.append_nil], Nat.zero_le _⟩) rfl hl rfl hW hdg hf (fun r u H1 locs1 hw hP1 hD1 hS1 => ?_)
  obtain ⟨h1, h2⟩ := hw
  rw [h2] at hP1 hD1
  rw [h1]
  exact kk H1 locs1 hP1 hD1 hS1
/-- fits looks the state through, and finds it as it should be -/
theorem x_fits {mi n9 : Nat} {pd : Int32} (F : CallFix p m c cc nL s args Ts own) (hO : eO E = o) (hn9 : n9 ≤ 1000) (h : pI E x mi n9 pd) (cw : CallB R s args own index yL_fits cL_fits 10 (some .boolean) wsL_fits RF 0 0 2 ∧ (Cond.static yL_fits).before args s = true)
    (hK : va_K D vwCl (cT E []) s) (hX : cX (eDf E) A s) (hN : jNc s) (hP : va_P D vwCl (pre ++ cW E x) H) (hD : va_D A (pre ++ cW E x)) (hS : va_S A s.heap H locs) (hA : ∀ q : Nat, s.heap.size ≤ q → A q)
    (hl : ls.size = nL) (hW : (rest.map fun v => v.category).sum ≤ 8) (hdg : decode cc pc = .ok (.invokestatic index, 3)) (hf : cells + 0 ≤ R.cells ∧ slots + 0 ≤ R.slots)
    (kk : ∀ (H1 : Heap) (locs1 : List Loc), va_P D vwCl (pre ++ cW E x) H1 → va_D A (pre ++ cW E x) → va_S A s.heap H1 locs1 → W p l e R s m args below meth c H1 locs1 cells slots Q (F0 m (pc + 3) ls (.int (nI 1) :: rest))) : W p l e R s m args below meth c H locs cells slots Q (F0 m pc ls (.int pd :: .ref o :: rest)) := by
  refine w_callC (pre := pre) (As := [.ref o, .int pd]) (rest := rest) F (k_fits l D hO hn9 h) cw hK hX hN hP hD hS hA (fun r u h => ⟨[], by rw [h.2, List.append_nil], Nat.zero_le _⟩) rfl hl rfl hW hdg hf (fun r u H1 locs1 hw hP1 hD1 hS1 => ?_)
  obtain ⟨h1, h2⟩ := hw
  rw [h2] at hP1 hD1
  rw [h1]
  exact kk H1 locs1 hP1 hD1 hS1
/-- a cell of the script -/
theorem x_cell {ws : va_W} {b L k : Nat} {xs : Nat → Int32} (F : CallFix p m c cc nL s args Ts own) (hL : L < 2 ^ 31) (hk : k < 2 ^ 31) (hsc : va_X b L xs s s.heap) (hbl : b < s.heap.size) (hbA : ¬ A b) (cw : CallB R s args own index yL_cell cL_cell 2 (some .int) wsL_cell ({ frames := 0, cells := 0, slots := 0, locals := 0 } : Room) 0 0 2 ∧ (Cond.static yL_cell).before args s = true)
    (hP : va_P D vwCl ws H) (hS : va_S A s.heap H locs)
    (hl : ls.size = nL) (hW : (rest.map fun v => v.category).sum ≤ 8) (hdg : decode cc pc = .ok (.invokestatic index, 3)) (hf : cells + 0 ≤ R.cells ∧ slots + 0 ≤ R.slots)
    (kk : ∀ (z : Nat) (H1 : Heap) (locs1 : List Loc), z < 2 ^ 31 → va_P D vwCl ws H1 → va_S A s.heap H1 locs1 → W p l e R s m args below meth c H1 locs1 cells slots Q (F0 m (pc + 3) ls (.int (nI z) :: rest))) : W p l e R s m args below meth c H locs cells slots Q (F0 m pc ls (.int (nI k) :: .ref b :: rest)) := by
  refine va_calli (va_runS (As := [.ref b, .int (nI k)]) (rest := rest) F (c_cell l (b := b) (xs := xs) hL hk) cw ⟨clPre_blind, fun U hU hW => ⟨rfl, ?_, ?_⟩⟩ rfl rfl hl rfl (lv_room hW) hdg hf) hS (fun q _ h => h.elim) (fun q h => h.elim) (fun r u t H1 locs1 ht hvm hw hB hz1 hk1 hS1 => ?_)
  · rw [hU]
    exact va_X.moved hW.alike (hsc.kept (hS.2.1 b hbl hbA))
  · rw [hU]
    exact Nat.lt_of_lt_of_le hbl hS.1
  · obtain ⟨z, h1, h2⟩ := hw
    rw [h2]
    exact kk z H1 locs1 h1 (hP.kept (fun k q hq => hk1 q.1 (hP k q hq).lt (fun h => h))) hS1
end LREF
/-- where all cases meet again: the call has kept the state, and the stamps have stayed -/
def lwN (p : Program) (l : Launch) (e : Env) (s : State) (m : MethodId) (b : Nat) (below : List Frame) (meth : Method) (c : Code) (D : va_G) (o ha : Nat) (ci : ClassId) (f : Nat → Int32) (i cells slots : Nat) : Prop :=
  ∀ (E : cE) (x : T2) (mi : Nat) (pd : Int32) (ls : Array Slot) (H : Heap) (locs : List Loc), lS D s o ci E → pI E x mi (i + 1) pd → mi ≤ 9 * (i + 1) → (∀ v, v < 8 → f v &&& (x 10 v ^^^ -1) = nI 0) → va_P D vwCl (lW ha ci f E x) H → va_D (fun q : Nat => s.heap.size ≤ q) (lW ha ci f E x) → va_S (fun q : Nat => s.heap.size ≤ q) s.heap H locs → lv_has ls 17 [(0, .ref b), (1, .ref o), (2, .ref ha), (3, .int pd), (4, .int (nI mi)), (5, .int (nI 1)), (6, .int (nI i))] →
    W p l e room_1 s m #[Value.ref b] below meth c H locs (cells + 12) (slots + 120) (lw_Z below #[Value.ref b] s) (F0 m 911 ls [])
theorem had_of {x x1 : T2} {f : Nat → Int32} (hf : ∀ v, v < 8 → f v = x 10 v) (h : zM x x1) : ∀ v, v < 8 → f v &&& (x1 10 v ^^^ -1) = nI 0 := fun v hv => by
  rw [hf v hv]
  exact zM_had h hv

/-! the class's methods where they throw: they always do, and leave the world as it is -/
def tX (D : va_G) (E : cE) (tl : gTy) (w0 : va_W) (C : String) (A : Nat → Prop) : String → State → State → Prop :=
  vx_X (S := Unit) (fun _ => True) (fun C' _ t => C' = C ∧ gB D (cT E tl) (fun _ : Unit => w0) A () t) A
def hT (l : Launch) (y : MethodName) (ws : List Cond) (rm : Room) (D : va_G) (E : cE) (tl : gTy) (w0 : va_W) (av : List Value) (C : String) : Prop :=
  ∀ sz : Nat, vx_Met l y ws rm (hPre D E tl w0 sz av) (fun _ _ _ _ => False) (tX D E tl w0 C (va_A w0 sz)) 1 6 (va_A w0 sz)
theorem hT.start {l : Launch} {y : MethodName} {ws ws' : List Cond} {rm : Room} {D : va_G} {E : cE} {tl : gTy} {w0 : va_W} {av : List Value} {C : String} {cc : ByteArray} {maxL : Nat} {ret : Option FieldType} {own : String}
    (hc : y.cls = own) (hy : plainName y.cls = true) (hw : ws = Cond.code y cc maxL ret :: ws') (hn : (lg_sl av).length ≤ maxL)
    (k : ∀ (p : Program) (e : Env) (s : State) (m : MethodId) (args : Array Value) (below : List Frame) (meth : Method) (c : Code) (A : Nat → Prop) (ls : Array Slot) (H : Heap) (locs : List Loc), p.tables.exec = Jvm.exec → c.code = cc → c.maxLocals = maxL → (∀ x ∈ c.exceptionTable.toList, False) → (∀ w ∈ ws, w.before args s = true) → s.vm.findClass own = some m.cls → meth.locks = false → (∀ q : Nat, s.heap.size ≤ q → A q) → va_K D vwCl (cT E tl) s → cX (eDf E) A s → va_P D vwCl w0 H → va_D A w0 → va_S A s.heap H locs → lv_has ls maxL (lv_args 0 av) →
      W p l e rm s m args below meth c H locs 0 0 (vx_MQ below (fun _ _ _ _ => False) (tX D E tl w0 C A) args s 1 6 A) (F0 m 0 ls [])) : hT l y ws rm D E tl w0 av C := by
  intro sz
  refine vx_ofW (cc := cc) (maxL := maxL) (ret := ret) hy hw ?_
  intro p e s m args below meth c s₁ B hml ht hv
  obtain ⟨⟨rfl, hsz, hP, hK, hD0⟩, hX⟩ := hv
  have hown : s.vm.findClass own = some m.cls := hc ▸ findClass_of_methodNamed B.named
  subst hsz
  rw [lg_entry_eq]
  exact k p e s m _ below meth c _ _ s.heap [] B.exec B.bytes hml ht (atoms_spec (ws := ws) B.pre) hown B.notSynchronized (fun q h => Or.inr h) hK hX hP (hD0.self (sz := s.heap.size)) va_S.rf (lv_entry av hn)
section TCALL
variable {p : Program} {l : Launch} {e : Env} {R : Room} {s : State} {m : MethodId} {args : Array Value} {below : List Frame} {meth : Method} {c : Code} {H : Heap} {locs : List Loc} {cells slots : Nat}
variable {cc : ByteArray} {pc nL n index maxL : Nat} {ls : Array Slot} {rest st0 As : List Value} {D : va_G} {A : Nat → Prop} {E : cE} {tl : gTy} {w0 : va_W} {y : MethodName} {bytes : ByteArray} {ret : Option FieldType} {wsy Ts : List Cond} {rm : Room} {own C : String} {b : Addr} {X0 : String} {Qc : Array Value → State → Outcome → State → Prop}
theorem t_call (hxt : ∀ x ∈ c.exceptionTable.toList, False) (hlocks : meth.locks = false) (F : CallFix p m c cc nL s args Ts own) (hC : hT l y wsy rm D E tl w0 (.ref b :: As) X0) (cw : CallW R s args own C index y bytes maxL ret wsy rm 1 6 n) (hr : ∃ cell : Cell, H[b]? = some cell ∧ cell.vm.isStatics = false ∧ s.vm.findClass C = some cell.cls)
    (hK : va_K D vwCl (cT E tl) s) (hX : cX (eDf E) A s) (hP : va_P D vwCl w0 H) (hD : va_D A w0) (hS : va_S A s.heap H locs) (hA : ∀ q : Nat, s.heap.size ≤ q → A q) (hn : As.length = n) (hl : ls.size = nL) (hst : st0 = As.reverse ++ .ref b :: rest) (hW : (rest.map fun v => v.category).sum ≤ 8) (hdg : decode cc pc = .ok (.invokevirtual index, 3)) (hf : cells + 1 ≤ R.cells ∧ slots + 6 ≤ R.slots) (hf2 : cells + 1 ≤ 1 ∧ slots + 6 ≤ 6) :
    W p l e R s m args below meth c H locs cells slots (vx_MQ below Qc (tX D E tl w0 X0 A) args s 1 6 A) (F0 m pc ls st0) := by
  intro T hT X
  rcases (vx_runV F (hC H.size) cw ⟨hPre_blind, hr, hPre_at hK hX hP hD hS hA _⟩ rfl hn hl hst (lv_room hW) hdg hf) T hT X with ⟨v, st₀, t, T', L, h0, X', hL, e1, e2, hF, st⟩ | ⟨q, st₀, t, T', L, E9, ce, h0, X', hL, e1, e2, ⟨u, -, ⟨hE, hB⟩, hF⟩, hce, hcv, hcl, st⟩
  · exact hF.elim
  · obtain ⟨k1, k2, k3⟩ := vx_keep h0 e1 hS (fun q _ h => gFree hD hS hA q h) (gFree hD hS hA) hL hF
    obtain ⟨hP1, hK1, hD1⟩ := hB
    have hP2 : va_P D vwCl w0 T'.heap := by rw [e1]; exact hP1
    obtain ⟨t2, a1, b1⟩ := vx_out (p := p) (l := l) (e := e) (R := R) (s := s) (m := m) (args := args) (below := below) (meth := meth) (c := c) (H := T'.heap) (locs := locs ++ L) (cells := cells + 1) (slots := slots + 6) (pc := pc) (ls := ls) (rest := rest) (Qc := Qc) (XC := tX D E tl w0 X0 A) (mc := 1) (ms := 6) (free := A) (E := E9) (ce := ce) (q := q) (fun x hx => (hxt x hx).elim) hlocks (by rw [e1]; exact hce) hcv hcl
      (fun t9 h1 h2 => ⟨(), trivial, ⟨hE, by rw [h1]; exact hP2, va_K.moved h2 hK, hD⟩, k3.F h1⟩) k3.2.2 hf2.1 hf2.2 T' rfl X'
    exact ⟨t2, st.trans a1, b1⟩
theorem t_throw (hexec : p.tables.exec = Jvm.exec) (hb : c.code = cc) (hl : l.stackTraces = false) {cls text : String} {names : List String} {ik is ic : Nat} (hown : s.vm.findClass RX2 = some m.cls) (hcls : Bundle.fit cls = true) (hnames : ∀ n ∈ names, Bundle.fit n = true)
    (hk : (Cond.classLink RX2 ik cls).before args s = true) (hini : (Cond.initialized cls).before args s = true) (his : (is, text) ∈ cStr) (hcc : (cls, cls) ∈ cCl) (hgw : ∀ w ∈ (vx_atS RX2 ic cls names).filter goodWord, w.before args s = true) (hng : ∀ w ∈ (vx_atS RX2 ic cls names).filter (fun w => !goodWord w), w ∈ [Cond.castable cls cls, Cond.declares (Bundle.initS "java/lang/RuntimeException"), Cond.declares (Bundle.initS "java/lang/Exception"), Cond.declares (Bundle.initS Bundle.tN)])
    (hgood : ∀ w ∈ Cond.classLink RX2 ik cls :: Cond.initialized cls :: vx_atS RX2 ic cls names, vx_ot w = true) (hxt : ∀ x ∈ c.exceptionTable.toList, False) (hlocks : meth.locks = false)
    (hK : va_K D vwCl (cT E tl) s) (hX : cX (eDf E) A s) (hP : va_P D vwCl w0 H) (hD : va_D A w0) (hS : va_S A s.heap H locs) (hsize : ls.size = c.maxLocals)
    (d0 : decode cc pc = .ok (.new ik, 3)) (d3 : decode cc (pc + 3) = .ok (.dup, 1)) (d4 : decode cc (pc + 4) = .ok (.ldc is, 2)) (d6 : decode cc (pc + 6) = .ok (.invokespecial ic, 3)) (d9 : decode cc (pc + 9) = .ok (.athrow, 1))
    (hRframes : names.length + 3 < R.frames) (hRlocals : (rest.map fun v => v.category).sum + (13 * (names.length + 1) + 43) ≤ R.locals) (hf : cells + 1 ≤ R.cells ∧ slots + 6 ≤ R.slots) (hf2 : cells + 1 ≤ 1 ∧ slots + 6 ≤ 6) :
    W p l e R s m args below meth c H locs cells slots (vx_MQ below Qc (tX D E tl w0 cls A) args s 1 6 A) (F0 m pc ls rest) := by
  obtain ⟨sa, hstr⟩ := hX.2.2.1 (is, text) his
  refine vx_throwS hexec hb hl hown hcls hnames hk hini hstr (vx_hat hgw hng (vx_c (va_Nw.use rfl (hX.2.1 (cls, cls) hcc)) (vx_c (va_Nw.use rfl (hX.2.2.2.2.2.2.2.2 _ (by decide))) (vx_c (va_Nw.use rfl (hX.2.2.2.2.2.2.2.2 _ (by decide))) (vx_c (va_Nw.use rfl (hX.2.2.2.2.2.2.2.2 _ (by decide))) vx_n))))) hgood hX.2.2.2.1 hX.2.2.2.2.1 hS hsize d0 d3 d4 d6 d9 (fun x hx => (hxt x hx).elim) hRframes hRlocals hf.1 hf.2 hlocks (fun t h1 h2 h3 => ?_) hS.2.2 hf2.1 hf2.2
  refine ⟨(), trivial, ⟨rfl, hP.kept (fun k q hq => h3 q.1 (hP k q hq).lt), va_K.moved h1 hK, hD⟩, Nat.le_trans hS.1 h2, fun q g1 g2 => (h3 q (Nat.lt_of_lt_of_le g1 hS.1)).trans (hS.2.1 q g1 g2)⟩
end TCALL

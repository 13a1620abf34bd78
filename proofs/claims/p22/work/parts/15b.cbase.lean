/-! the class: its object's cell and all cells that hang on it, told by a table of numbers x and by what most methods leave as it is -/
abbrev cE : Type := (Nat × Nat × Nat × Nat) × ((Nat → Nat) × (Nat → Nat) × (Nat → Nat) × (Nat → Nat)) × (ClassId × ClassId × ClassId × ClassId × ClassId) × (Nat → Nat → Int32) × (Nat → Nat → Nat) × (Nat → Nat) × List Nat
def eO (E : cE) : Nat := E.1.1
def ePa (E : cE) : Nat := E.1.2.1
def eVa (E : cE) : Nat := E.1.2.2.1
/-- the empty row that all new lists share -/
def eDf (E : cE) : Nat := E.1.2.2.2
def ePad (E : cE) : Nat → Nat := E.2.1.1
def eVad (E : cE) : Nat → Nat := E.2.1.2.1
def eLad (E : cE) : Nat → Nat := E.2.1.2.2.1
def eSad (E : cE) : Nat → Nat := E.2.1.2.2.2
def eI (E : cE) : ClassId := E.2.2.1.1
def eZ (E : cE) : ClassId := E.2.2.1.2.1
def eP (E : cE) : ClassId := E.2.2.1.2.2.1
def eV (E : cE) : ClassId := E.2.2.1.2.2.2.1
def eB (E : cE) : ClassId := E.2.2.1.2.2.2.2
def eS (E : cE) : Nat → Nat → Int32 := E.2.2.2.1
def ePc (E : cE) : Nat → Nat → Nat := E.2.2.2.2.1
def eEd (E : cE) : Nat → Nat := E.2.2.2.2.2.1
def eLP (E : cE) : List Nat := E.2.2.2.2.2.2
/-- other cards sent; other plans -/
def eSetS (E : cE) (f : Nat → Nat → Int32) : cE := (E.1, E.2.1, E.2.2.1, f, E.2.2.2.2)
def eSetP (E : cE) (pc : Nat → Nat → Nat) (ed : Nat → Nat) (LP : List Nat) : cE := (E.1, E.2.1, E.2.2.1, E.2.2.2.1, pc, ed, LP)
def tpO (E : cE) (z : Int32) : Option Nat := if z < 0 then none else some (ePad E z.toNatClampNeg)
theorem tpO_n (E : cE) : tpO E (-1) = none := rfl
theorem tpO_s (E : cE) {j : Nat} (h : j < 6) : tpO E (nI j) = some (ePad E j) := by
  unfold tpO
  rw [if_neg (nI_pos (by omega)), nI_clamp (by omega)]
def cP (E : cE) (x : Nat → Nat → Int32) (j : Nat) : List Value := [.int (nI j), .int (x 1 j), .int (x 2 j), .int (x 3 j), .int (x 4 j), .int (x 5 j)]
def cV (E : cE) (x : Nat → Nat → Int32) (i : Nat) : List Value := [.ref (eLad E i), .ref (eSad E i), .int (x 6 i), .int (x 7 i), .int (x 8 i), .int (x 9 i), .int (x 10 i), .int (x 11 i), va_rf (tpO E (x 12 i)), .int (x 13 i)]
def cL (E : cE) (x : Nat → Nat → Int32) (i : Nat) : List Value := [.int (x 14 i), .ref (eEd E i), .int (x 15 i)]
def cO (E : cE) (x : Nat → Nat → Int32) : List Value := [.ref (ePa E), .ref (eVa E), .int (x 0 0)]
/-- the row behind a list of n pavilions -/
def pRow (E : cE) (n : Int32) (i : Nat) : Nat → Option Nat := fun k => if k < n.toNatClampNeg then some (ePad E (ePc E i k)) else none
def cPool (E : cE) (x : Nat → Nat → Int32) : va_W := (eLP E).map (fun i => (eEd E i, .inl (eB E, 10, .inr (.inr (.inr (.inr (pRow E (x 15 i) i)))))))
def cF (E : cE) (x : Nat → Nat → Int32) : va_W := [(eO E, .inr (3, cO E x)), (ePa E, .inl (eP E, 6, .inr (.inr (.inr (.inr (fun j => if j < 6 then some (ePad E j) else none)))))), (eVa E, .inl (eV E, 8, .inr (.inr (.inr (.inr (fun i => if i < 8 then some (eVad E i) else none))))))] ++ ((List.range 6).map (fun j => (ePad E j, .inr (1, cP E x j))) ++ ((List.range 8).map (fun i => (eVad E i, .inr (2, cV E x i))) ++ ((List.range 8).map (fun i => (eLad E i, .inr (0, cL E x i))) ++ (List.range 8).map (fun i => (eSad E i, .inl (eI E, 6, .inl (eS E i)))))))
def cW (E : cE) (x : Nat → Nat → Int32) : va_W := cF E x ++ cPool E x
def cT (E : cE) (tl : gTy) : gTy := (eI E, .int) :: (eI E, .int) :: (eP E, .object "FairFolio$Pavilion") :: (eV E, .object "FairFolio$Visitor") :: (eB E, .object "java/lang/Object") :: tl
theorem lt6 {P : Nat → Prop} (h0 : P 0) (h1 : P 1) (h2 : P 2) (h3 : P 3) (h4 : P 4) (h5 : P 5) {i : Nat} (h : i < 6) : P i := by
  rcases (show i = 0 ∨ i = 1 ∨ i = 2 ∨ i = 3 ∨ i = 4 ∨ i = 5 by omega) with rfl | rfl | rfl | rfl | rfl | rfl <;> assumption
theorem lt8 {P : Nat → Prop} (h0 : P 0) (h1 : P 1) (h2 : P 2) (h3 : P 3) (h4 : P 4) (h5 : P 5) (h6 : P 6) (h7 : P 7) {i : Nat} (h : i < 8) : P i := by
  rcases (show i = 0 ∨ i = 1 ∨ i = 2 ∨ i = 3 ∨ i = 4 ∨ i = 5 ∨ i = 6 ∨ i = 7 by omega) with rfl | rfl | rfl | rfl | rfl | rfl | rfl | rfl <;> assumption
theorem cW_O (E : cE) (x : Nat → Nat → Int32) : (cW E x)[0]? = some (eO E, .inr (3, cO E x)) := rfl
theorem cW_Pa (E : cE) (x : Nat → Nat → Int32) : (cW E x)[1]? = some (ePa E, .inl (eP E, 6, .inr (.inr (.inr (.inr (fun j => if j < 6 then some (ePad E j) else none)))))) := rfl
theorem cW_Va (E : cE) (x : Nat → Nat → Int32) : (cW E x)[2]? = some (eVa E, .inl (eV E, 8, .inr (.inr (.inr (.inr (fun i => if i < 8 then some (eVad E i) else none)))))) := rfl
theorem cW_P (E : cE) (x : Nat → Nat → Int32) {j : Nat} (h : j < 6) : (cW E x)[3 + j]? = some (ePad E j, .inr (1, cP E x j)) :=
  lt6 (P := fun j => (cW E x)[3 + j]? = some (ePad E j, .inr (1, cP E x j))) rfl rfl rfl rfl rfl rfl h
theorem cW_V (E : cE) (x : Nat → Nat → Int32) {i : Nat} (h : i < 8) : (cW E x)[9 + i]? = some (eVad E i, .inr (2, cV E x i)) :=
  lt8 (P := fun i => (cW E x)[9 + i]? = some (eVad E i, .inr (2, cV E x i))) rfl rfl rfl rfl rfl rfl rfl rfl h
theorem cW_L (E : cE) (x : Nat → Nat → Int32) {i : Nat} (h : i < 8) : (cW E x)[17 + i]? = some (eLad E i, .inr (0, cL E x i)) :=
  lt8 (P := fun i => (cW E x)[17 + i]? = some (eLad E i, .inr (0, cL E x i))) rfl rfl rfl rfl rfl rfl rfl rfl h
theorem cW_S (E : cE) (x : Nat → Nat → Int32) {i : Nat} (h : i < 8) : (cW E x)[25 + i]? = some (eSad E i, .inl (eI E, 6, .inl (eS E i))) :=
  lt8 (P := fun i => (cW E x)[25 + i]? = some (eSad E i, .inl (eI E, 6, .inl (eS E i)))) rfl rfl rfl rfl rfl rfl rfl rfl h
theorem cW_setO (E : cE) (x : Nat → Nat → Int32) (v : Int32) : (cW E x).set 0 (eO E, .inr (3, (cO E x).set 2 (.int v))) = cW E (up2 x 0 0 v) := rfl
theorem cW_setP1 (E : cE) (x : Nat → Nat → Int32) (v : Int32) {j : Nat} (h : j < 6) : (cW E x).set (3 + j) (ePad E j, .inr (1, (cP E x j).set 1 (.int v))) = cW E (up2 x 1 j v) :=
  lt6 (P := fun j => (cW E x).set (3 + j) (ePad E j, .inr (1, (cP E x j).set 1 (.int v))) = cW E (up2 x 1 j v)) rfl rfl rfl rfl rfl rfl h
theorem cW_setP2 (E : cE) (x : Nat → Nat → Int32) (v : Int32) {j : Nat} (h : j < 6) : (cW E x).set (3 + j) (ePad E j, .inr (1, (cP E x j).set 2 (.int v))) = cW E (up2 x 2 j v) :=
  lt6 (P := fun j => (cW E x).set (3 + j) (ePad E j, .inr (1, (cP E x j).set 2 (.int v))) = cW E (up2 x 2 j v)) rfl rfl rfl rfl rfl rfl h
theorem cW_setP3 (E : cE) (x : Nat → Nat → Int32) (v : Int32) {j : Nat} (h : j < 6) : (cW E x).set (3 + j) (ePad E j, .inr (1, (cP E x j).set 3 (.int v))) = cW E (up2 x 3 j v) :=
  lt6 (P := fun j => (cW E x).set (3 + j) (ePad E j, .inr (1, (cP E x j).set 3 (.int v))) = cW E (up2 x 3 j v)) rfl rfl rfl rfl rfl rfl h
theorem cW_setP4 (E : cE) (x : Nat → Nat → Int32) (v : Int32) {j : Nat} (h : j < 6) : (cW E x).set (3 + j) (ePad E j, .inr (1, (cP E x j).set 4 (.int v))) = cW E (up2 x 4 j v) :=
  lt6 (P := fun j => (cW E x).set (3 + j) (ePad E j, .inr (1, (cP E x j).set 4 (.int v))) = cW E (up2 x 4 j v)) rfl rfl rfl rfl rfl rfl h
theorem cW_setP5 (E : cE) (x : Nat → Nat → Int32) (v : Int32) {j : Nat} (h : j < 6) : (cW E x).set (3 + j) (ePad E j, .inr (1, (cP E x j).set 5 (.int v))) = cW E (up2 x 5 j v) :=
  lt6 (P := fun j => (cW E x).set (3 + j) (ePad E j, .inr (1, (cP E x j).set 5 (.int v))) = cW E (up2 x 5 j v)) rfl rfl rfl rfl rfl rfl h
theorem cW_setV6 (E : cE) (x : Nat → Nat → Int32) (v : Int32) {i : Nat} (h : i < 8) : (cW E x).set (9 + i) (eVad E i, .inr (2, (cV E x i).set 2 (.int v))) = cW E (up2 x 6 i v) :=
  lt8 (P := fun i => (cW E x).set (9 + i) (eVad E i, .inr (2, (cV E x i).set 2 (.int v))) = cW E (up2 x 6 i v)) rfl rfl rfl rfl rfl rfl rfl rfl h
theorem cW_setV7 (E : cE) (x : Nat → Nat → Int32) (v : Int32) {i : Nat} (h : i < 8) : (cW E x).set (9 + i) (eVad E i, .inr (2, (cV E x i).set 3 (.int v))) = cW E (up2 x 7 i v) :=
  lt8 (P := fun i => (cW E x).set (9 + i) (eVad E i, .inr (2, (cV E x i).set 3 (.int v))) = cW E (up2 x 7 i v)) rfl rfl rfl rfl rfl rfl rfl rfl h
theorem cW_setV8 (E : cE) (x : Nat → Nat → Int32) (v : Int32) {i : Nat} (h : i < 8) : (cW E x).set (9 + i) (eVad E i, .inr (2, (cV E x i).set 4 (.int v))) = cW E (up2 x 8 i v) :=
  lt8 (P := fun i => (cW E x).set (9 + i) (eVad E i, .inr (2, (cV E x i).set 4 (.int v))) = cW E (up2 x 8 i v)) rfl rfl rfl rfl rfl rfl rfl rfl h
theorem cW_setV9 (E : cE) (x : Nat → Nat → Int32) (v : Int32) {i : Nat} (h : i < 8) : (cW E x).set (9 + i) (eVad E i, .inr (2, (cV E x i).set 5 (.int v))) = cW E (up2 x 9 i v) :=
  lt8 (P := fun i => (cW E x).set (9 + i) (eVad E i, .inr (2, (cV E x i).set 5 (.int v))) = cW E (up2 x 9 i v)) rfl rfl rfl rfl rfl rfl rfl rfl h
theorem cW_setV10 (E : cE) (x : Nat → Nat → Int32) (v : Int32) {i : Nat} (h : i < 8) : (cW E x).set (9 + i) (eVad E i, .inr (2, (cV E x i).set 6 (.int v))) = cW E (up2 x 10 i v) :=
  lt8 (P := fun i => (cW E x).set (9 + i) (eVad E i, .inr (2, (cV E x i).set 6 (.int v))) = cW E (up2 x 10 i v)) rfl rfl rfl rfl rfl rfl rfl rfl h
theorem cW_setV11 (E : cE) (x : Nat → Nat → Int32) (v : Int32) {i : Nat} (h : i < 8) : (cW E x).set (9 + i) (eVad E i, .inr (2, (cV E x i).set 7 (.int v))) = cW E (up2 x 11 i v) :=
  lt8 (P := fun i => (cW E x).set (9 + i) (eVad E i, .inr (2, (cV E x i).set 7 (.int v))) = cW E (up2 x 11 i v)) rfl rfl rfl rfl rfl rfl rfl rfl h
theorem cW_setV13 (E : cE) (x : Nat → Nat → Int32) (v : Int32) {i : Nat} (h : i < 8) : (cW E x).set (9 + i) (eVad E i, .inr (2, (cV E x i).set 9 (.int v))) = cW E (up2 x 13 i v) :=
  lt8 (P := fun i => (cW E x).set (9 + i) (eVad E i, .inr (2, (cV E x i).set 9 (.int v))) = cW E (up2 x 13 i v)) rfl rfl rfl rfl rfl rfl rfl rfl h
theorem cW_setV12 (E : cE) (x : Nat → Nat → Int32) (v : Int32) {i : Nat} (h : i < 8) : (cW E x).set (9 + i) (eVad E i, .inr (2, (cV E x i).set 8 (va_rf (tpO E v)))) = cW E (up2 x 12 i v) :=
  lt8 (P := fun i => (cW E x).set (9 + i) (eVad E i, .inr (2, (cV E x i).set 8 (va_rf (tpO E v)))) = cW E (up2 x 12 i v)) rfl rfl rfl rfl rfl rfl rfl rfl h
theorem cW_setL14 (E : cE) (x : Nat → Nat → Int32) (v : Int32) {i : Nat} (h : i < 8) : (cW E x).set (17 + i) (eLad E i, .inr (0, (cL E x i).set 0 (.int v))) = cW E (up2 x 14 i v) :=
  lt8 (P := fun i => (cW E x).set (17 + i) (eLad E i, .inr (0, (cL E x i).set 0 (.int v))) = cW E (up2 x 14 i v)) rfl rfl rfl rfl rfl rfl rfl rfl h
section CROWS
variable {p : Program} {l : Launch} {e : Env} {R : Room} {s : State} {m : MethodId} {args : Array Value} {below : List Frame} {meth : Method} {c : Code} {H : Heap} {locs : List Loc} {cells slots : Nat} {Q : State → Prop}
variable {cc : ByteArray} {pc index : Nat} {ls : Array Slot} {rest : List Value} {D : va_G} {A : Nat → Prop} {tl : gTy} {tys : gTy} {Ts : List Cond} {E : cE} {x : Nat → Nat → Int32}
theorem c_getO (hexec : p.tables.exec = Jvm.exec) (hb : c.code = cc) (hts : ∀ w ∈ Ts, w.before args s = true) (hin : ∀ w ∈ wsX20, w ∈ Ts) (hown : s.vm.findClass RX2 = some m.cls) (hK : va_K D vwCl tys s) (hP : va_P D vwCl (cW E x) H)  (k : Nat) (hk : k < 3) (hlink : (Cond.fieldLink RX2 index "FairFolio" (TX2 k).2.1 (TX2 k).2.2.1).before args s = true) (hsame : (TX2 k).1 = "FairFolio") {v : Value} (hv : (cO E x)[k]? = some v) (hdg : decode cc pc = .ok (.getfield index, 3))
    (kk : W p l e R s m args below meth c H locs cells slots Q (F0 m (pc + 3) ls (v :: rest))) : W p l e R s m args below meth c H locs cells slots Q (F0 m pc ls (.ref (eO E) :: rest)) :=
  va_get (ci := 3) (C := RX2) (T := TX2) (N := 3) hexec hb hts hin hown hK hP 0 (cW_O E x) rfl k hk hlink (fun _ h => by rw [hsame] at h; exact h) hv hdg kk
theorem c_getP (hexec : p.tables.exec = Jvm.exec) (hb : c.code = cc) (hts : ∀ w ∈ Ts, w.before args s = true) (hin : ∀ w ∈ wsX00, w ∈ Ts) (hown : s.vm.findClass RX2 = some m.cls) (hK : va_K D vwCl tys s) (hP : va_P D vwCl (cW E x) H) {j : Nat} (hj : j < 6) (k : Nat) (hk : k < 6) (hlink : (Cond.fieldLinkNest RX2 index "FairFolio$Pavilion" (TX0 k).2.1 (TX0 k).2.2.1 "FairFolio").before args s = true) (hsame : (TX0 k).1 = "FairFolio$Pavilion") {v : Value} (hv : (cP E x j)[k]? = some v) (hdg : decode cc pc = .ok (.getfield index, 3))
    (kk : W p l e R s m args below meth c H locs cells slots Q (F0 m (pc + 3) ls (v :: rest))) : W p l e R s m args below meth c H locs cells slots Q (F0 m pc ls (.ref (ePad E j) :: rest)) :=
  va_getN (ci := 1) (C := RX0) (T := TX0) (N := 6) hexec hb hts hin hown hK hP (3 + j) (cW_P E x hj) rfl k hk hlink (fun _ h => by rw [hsame] at h; exact h) hv hdg kk
theorem c_getV (hexec : p.tables.exec = Jvm.exec) (hb : c.code = cc) (hts : ∀ w ∈ Ts, w.before args s = true) (hin : ∀ w ∈ wsX10, w ∈ Ts) (hown : s.vm.findClass RX2 = some m.cls) (hK : va_K D vwCl tys s) (hP : va_P D vwCl (cW E x) H) {i : Nat} (hi : i < 8) (k : Nat) (hk : k < 10) (hlink : (Cond.fieldLinkNest RX2 index "FairFolio$Visitor" (TX1 k).2.1 (TX1 k).2.2.1 "FairFolio").before args s = true) (hsame : (TX1 k).1 = "FairFolio$Visitor") {v : Value} (hv : (cV E x i)[k]? = some v) (hdg : decode cc pc = .ok (.getfield index, 3))
    (kk : W p l e R s m args below meth c H locs cells slots Q (F0 m (pc + 3) ls (v :: rest))) : W p l e R s m args below meth c H locs cells slots Q (F0 m pc ls (.ref (eVad E i) :: rest)) :=
  va_getN (ci := 2) (C := RX1) (T := TX1) (N := 10) hexec hb hts hin hown hK hP (9 + i) (cW_V E x hi) rfl k hk hlink (fun _ h => by rw [hsame] at h; exact h) hv hdg kk
theorem c_putO (hexec : p.tables.exec = Jvm.exec) (hb : c.code = cc) (hts : ∀ w ∈ Ts, w.before args s = true) (hin : ∀ w ∈ wsX20, w ∈ Ts) (hown : s.vm.findClass RX2 = some m.cls) (hK : va_K D vwCl tys s) (hP : va_P D vwCl (cW E x) H) (hD : va_D A (cW E x)) (hS : va_S A s.heap H locs)  (k f : Nat) (hk : k < 3) {v : Int32} (hset : (cW E x).set 0 ((eO E), .inr (3, (cO E x).set k (.int v))) = cW E (up2 x f 0 v)) (hlink : (Cond.fieldLink RX2 index "FairFolio" (TX2 k).2.1 (TX2 k).2.2.1).before args s = true) (hsame : (TX2 k).1 = "FairFolio") (hfin : (TX2 k).2.2.2 = false) {ty : FieldType} (hd : parseFieldDescriptor (TX2 k).2.2.1 = some ty) (hn : narrow ty (.int v) = .int v) (hfit : fits ty (.int v) = true) (hdg : decode cc pc = .ok (.putfield index, 3))
    (kk : ∀ (H1 : Heap) (locs1 : List Loc), va_P D vwCl (cW E (up2 x f 0 v)) H1 → va_D A (cW E (up2 x f 0 v)) → va_S A s.heap H1 locs1 → W p l e R s m args below meth c H1 locs1 cells slots Q (F0 m (pc + 3) ls rest)) : W p l e R s m args below meth c H locs cells slots Q (F0 m pc ls (.int v :: .ref (eO E) :: rest)) := by
  refine va_put (ci := 3) (C := RX2) (T := TX2) (N := 3) hexec hb hts hin tyX2 tyX2_ok nmX2 hown hK hP hD hS 0 (cW_O E x) rfl k hk hlink (fun _ h => by rw [hsame] at h; exact h) hfin hd hn hfit hk hdg ?_
  rw [hset]
  exact kk
theorem c_putP (hexec : p.tables.exec = Jvm.exec) (hb : c.code = cc) (hts : ∀ w ∈ Ts, w.before args s = true) (hin : ∀ w ∈ wsX00, w ∈ Ts) (hown : s.vm.findClass RX2 = some m.cls) (hK : va_K D vwCl tys s) (hP : va_P D vwCl (cW E x) H) (hD : va_D A (cW E x)) (hS : va_S A s.heap H locs) {j : Nat} (hj : j < 6) (k f : Nat) (hk : k < 6) {v : Int32} (hset : (cW E x).set (3 + j) ((ePad E j), .inr (1, (cP E x j).set k (.int v))) = cW E (up2 x f j v)) (hlink : (Cond.fieldLinkNest RX2 index "FairFolio$Pavilion" (TX0 k).2.1 (TX0 k).2.2.1 "FairFolio").before args s = true) (hsame : (TX0 k).1 = "FairFolio$Pavilion") (hfin : (TX0 k).2.2.2 = false) {ty : FieldType} (hd : parseFieldDescriptor (TX0 k).2.2.1 = some ty) (hn : narrow ty (.int v) = .int v) (hfit : fits ty (.int v) = true) (hdg : decode cc pc = .ok (.putfield index, 3))
    (kk : ∀ (H1 : Heap) (locs1 : List Loc), va_P D vwCl (cW E (up2 x f j v)) H1 → va_D A (cW E (up2 x f j v)) → va_S A s.heap H1 locs1 → W p l e R s m args below meth c H1 locs1 cells slots Q (F0 m (pc + 3) ls rest)) : W p l e R s m args below meth c H locs cells slots Q (F0 m pc ls (.int v :: .ref (ePad E j) :: rest)) := by
  refine va_putN (ci := 1) (C := RX0) (T := TX0) (N := 6) hexec hb hts hin tyX0 tyX0_ok nmX0 hown hK hP hD hS (3 + j) (cW_P E x hj) rfl k hk hlink (fun _ h => by rw [hsame] at h; exact h) hfin hd hn hfit hk hdg ?_
  rw [hset]
  exact kk
theorem c_putV (hexec : p.tables.exec = Jvm.exec) (hb : c.code = cc) (hts : ∀ w ∈ Ts, w.before args s = true) (hin : ∀ w ∈ wsX10, w ∈ Ts) (hown : s.vm.findClass RX2 = some m.cls) (hK : va_K D vwCl tys s) (hP : va_P D vwCl (cW E x) H) (hD : va_D A (cW E x)) (hS : va_S A s.heap H locs) {i : Nat} (hi : i < 8) (k f : Nat) (hk : k < 10) {v : Int32} (hset : (cW E x).set (9 + i) ((eVad E i), .inr (2, (cV E x i).set k (.int v))) = cW E (up2 x f i v)) (hlink : (Cond.fieldLinkNest RX2 index "FairFolio$Visitor" (TX1 k).2.1 (TX1 k).2.2.1 "FairFolio").before args s = true) (hsame : (TX1 k).1 = "FairFolio$Visitor") (hfin : (TX1 k).2.2.2 = false) {ty : FieldType} (hd : parseFieldDescriptor (TX1 k).2.2.1 = some ty) (hn : narrow ty (.int v) = .int v) (hfit : fits ty (.int v) = true) (hdg : decode cc pc = .ok (.putfield index, 3))
    (kk : ∀ (H1 : Heap) (locs1 : List Loc), va_P D vwCl (cW E (up2 x f i v)) H1 → va_D A (cW E (up2 x f i v)) → va_S A s.heap H1 locs1 → W p l e R s m args below meth c H1 locs1 cells slots Q (F0 m (pc + 3) ls rest)) : W p l e R s m args below meth c H locs cells slots Q (F0 m pc ls (.int v :: .ref (eVad E i) :: rest)) := by
  refine va_putN (ci := 2) (C := RX1) (T := TX1) (N := 10) hexec hb hts hin tyX1 tyX1_ok nmX1 hown hK hP hD hS (9 + i) (cW_V E x hi) rfl k hk hlink (fun _ h => by rw [hsame] at h; exact h) hfin hd hn hfit hk hdg ?_
  rw [hset]
  exact kk
/-- the pavilion of a visitor's turn is set: z is its number, or -1 -/
theorem c_putVT (hexec : p.tables.exec = Jvm.exec) (hb : c.code = cc) (hts : ∀ w ∈ Ts, w.before args s = true) (hin : ∀ w ∈ wsX10, w ∈ Ts) (hown : s.vm.findClass RX2 = some m.cls) (hK : va_K D vwCl tys s) (hP : va_P D vwCl (cW E x) H) (hD : va_D A (cW E x)) (hS : va_S A s.heap H locs) {i : Nat} (hi : i < 8) (z : Int32) {v : Value} (hv : v = va_rf (tpO E z)) (hlink : (Cond.fieldLinkNest RX2 index "FairFolio$Visitor" "turnPavilion" "LFairFolio$Pavilion;" "FairFolio").before args s = true) (hdg : decode cc pc = .ok (.putfield index, 3))
    (kk : ∀ (H1 : Heap) (locs1 : List Loc), va_P D vwCl (cW E (up2 x 12 i z)) H1 → va_D A (cW E (up2 x 12 i z)) → va_S A s.heap H1 locs1 → W p l e R s m args below meth c H1 locs1 cells slots Q (F0 m (pc + 3) ls rest)) : W p l e R s m args below meth c H locs cells slots Q (F0 m pc ls (v :: .ref (eVad E i) :: rest)) := by
  subst hv
  refine va_putN (ci := 2) (C := RX1) (T := TX1) (N := 10) (v := va_rf (tpO E z)) (ty := .object "FairFolio$Pavilion") hexec hb hts hin tyX1 tyX1_ok nmX1 hown hK hP hD hS (9 + i) (cW_V E x hi) rfl 8 (by decide) hlink (fun _ h => h) rfl (by decide +kernel) ?_ ?_ (by show 8 < 10; decide) hdg ?_
  · cases tpO E z <;> rfl
  · cases tpO E z <;> rfl
  · rw [cW_setV12 E x z hi]
    exact kk
theorem c_plen (hexec : p.tables.exec = Jvm.exec) (hb : c.code = cc) (hK : va_K D vwCl (cT E tl) s) (hP : va_P D vwCl (cW E x) H) (hdg : decode cc pc = .ok (.arraylength, 1)) (kk : W p l e R s m args below meth c H locs cells slots Q (F0 m (pc + 1) ls (.int (nI 6) :: rest))) : W p l e R s m args below meth c H locs cells slots Q (F0 m pc ls (.ref (ePa E) :: rest)) :=
  va_alen hexec hb hK hP 1 2 (cW_Pa E x) (ty := .object "FairFolio$Pavilion") rfl rfl hdg kk
theorem c_vlen (hexec : p.tables.exec = Jvm.exec) (hb : c.code = cc) (hK : va_K D vwCl (cT E tl) s) (hP : va_P D vwCl (cW E x) H) (hdg : decode cc pc = .ok (.arraylength, 1)) (kk : W p l e R s m args below meth c H locs cells slots Q (F0 m (pc + 1) ls (.int (nI 8) :: rest))) : W p l e R s m args below meth c H locs cells slots Q (F0 m pc ls (.ref (eVa E) :: rest)) :=
  va_alen hexec hb hK hP 2 3 (cW_Va E x) (ty := .object "FairFolio$Visitor") rfl rfl hdg kk
theorem c_pald (hexec : p.tables.exec = Jvm.exec) (hb : c.code = cc) (hK : va_K D vwCl (cT E tl) s) (hP : va_P D vwCl (cW E x) H) {j : Nat} (hj : j < 6) (hdg : decode cc pc = .ok (.aaload, 1)) (kk : W p l e R s m args below meth c H locs cells slots Q (F0 m (pc + 1) ls (.ref (ePad E j) :: rest))) : W p l e R s m args below meth c H locs cells slots Q (F0 m pc ls (.int (nI j) :: .ref (ePa E) :: rest)) := by
  refine va_aldq hexec hb hK hP 1 2 (C := "FairFolio$Pavilion") (cW_Pa E x) rfl (vp_in_nI hj (by decide)) hdg ?_
  rw [nI_clamp (by omega), if_pos hj]
  exact kk
theorem c_vald (hexec : p.tables.exec = Jvm.exec) (hb : c.code = cc) (hK : va_K D vwCl (cT E tl) s) (hP : va_P D vwCl (cW E x) H) {i : Nat} (hi : i < 8) (hdg : decode cc pc = .ok (.aaload, 1)) (kk : W p l e R s m args below meth c H locs cells slots Q (F0 m (pc + 1) ls (.ref (eVad E i) :: rest))) : W p l e R s m args below meth c H locs cells slots Q (F0 m pc ls (.int (nI i) :: .ref (eVa E) :: rest)) := by
  refine va_aldq hexec hb hK hP 2 3 (C := "FairFolio$Visitor") (cW_Va E x) rfl (vp_in_nI hi (by decide)) hdg ?_
  rw [nI_clamp (by omega), if_pos hi]
  exact kk
theorem c_recv (hK : va_K D vwCl tys s) (hP : va_P D vwCl (cW E x) H) : ∃ cell : Cell, H[eO E]? = some cell ∧ cell.vm.isStatics = false ∧ s.vm.findClass RX2 = some cell.cls := va_recv hK hP (ci := 3) (q0 := 0) rfl (cW_O E x)
theorem c_recvL (hK : va_K D vwCl tys s) (hP : va_P D vwCl (cW E x) H) {i : Nat} (hi : i < 8) : ∃ cell : Cell, H[eLad E i]? = some cell ∧ cell.vm.isStatics = false ∧ s.vm.findClass RJx4a65c = some cell.cls := va_recv hK hP (ci := 0) (q0 := 17 + i) rfl (cW_L E x hi)
theorem c_recvP (hK : va_K D vwCl tys s) (hP : va_P D vwCl (cW E x) H) {j : Nat} (hj : j < 6) : ∃ cell : Cell, H[ePad E j]? = some cell ∧ cell.vm.isStatics = false ∧ s.vm.findClass RX0 = some cell.cls := va_recv hK hP (ci := 1) (q0 := 3 + j) rfl (cW_P E x hj)
end CROWS

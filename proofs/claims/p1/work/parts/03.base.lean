def bsT : List (Nat × String) := [(78, "a number is out of range"), (89, "there are 8 bodies"), (409, "there is no such body"), (412, "both bodies are the same"), (414, "the heat is out of range"), (120, "heat does not go to the hotter by itself"), (416, "it may not run so"), (136, "the work is out of range"), (149, "a number is not greater"), (152, "there are 8 rows"), (431, "the pressure is beyond the rows"), (186, "there is no such part"), (189, "there are 8 parts"), (204, "there are no parts"), (210, "the ring is refused"), (214, "the ring does not close"), (433, "no state was solved"), (436, "there was no such part"), (254, "there is no such stroke"), (261, "there are 8 strokes"), (266, "there are no strokes"), (282, "there was no run"), (298, "the card has no such step"), (304, "there are 10 streams"), (438, "the approach is out of range"), (319, "no heat is needed"), (352, "the speed is above the limit"), (365, "every claim is refused"), (377, "there were no heats, engines and pumps"), (383, "there are no bodies")]
def ncT : List (String × String) := [("java/lang/UnsupportedOperationException", "java/lang/IllegalArgumentException"), ("java/util/NoSuchElementException", "java/lang/IllegalArgumentException"), ("java/lang/IllegalStateException", "java/lang/IllegalArgumentException"), ("java/lang/IndexOutOfBoundsException", "java/lang/IllegalArgumentException")]
/-! ===== the claim's own kit: one list of table words, one environment, contracts whose worlds are listed ===== -/
def okw (w : Cond) : Bool := goodWord w || (w.onTables && (w.keepsH || w.keepsFace))
def BT : List Cond := lw_tbl.filter okw
theorem bt_of {w : Cond} (h : w ∈ lw_tbl) (ho : okw w = true) : w ∈ BT := List.mem_filter.mpr ⟨h, ho⟩
theorem bt_tbl {w : Cond} (h : w ∈ tables_1) (ho : okw w = true) : w ∈ BT := bt_of (List.mem_append_right _ h) ho
theorem bt_sel {w : Cond} (h : w ∈ k2_sels lw_privs) (ho : okw w = true) : w ∈ BT := bt_of (List.mem_append_left _ h) ho
/-- the tables' words, whatever the arguments -/
def VB (U : State) : Prop := ∀ w ∈ BT, ∀ a : Array Value, w.before a U = true
theorem okw_cases {w : Cond} (h : okw w = true) : goodWord w = true ∨ (w.onTables = true ∧ (w.keepsH = true ∨ w.keepsFace = true)) := by
  unfold okw at h
  simp only [Bool.or_eq_true, Bool.and_eq_true] at h
  exact h
theorem VB_warm {s U : State} (hW : s.WarmedH U.vm) (h : VB s) : VB U := by
  intro w hw a
  have h0 := h w hw #[]
  rcases okw_cases (List.mem_filter.mp hw).2 with h1 | ⟨h2, h3 | h3⟩
  · exact word_at hW (good_of_word h1) h0
  · have h4 := Cond.onTables_warmH (T := U) (args' := a) hW h2 h3 h0
    rwa [State.setVm_self] at h4
  · have h4 := Cond.before_shiftedFace (State.Shifted.of_warmed hW) w h3 h0
    have e := Cond.onTables_vm (A := #[]) (A' := a) (U := s) (U' := U) U.vm w h2
    rw [State.setVm_self] at e
    rw [← e]
    exact h4
theorem VB_of {A0 : Array Value} {s : State} (hts : ∀ w ∈ lw_tbl, w.before A0 s = true) : VB s := by
  intro w hw a
  have h0 := hts w (List.mem_filter.mp hw).1
  rcases okw_cases (List.mem_filter.mp hw).2 with h1 | ⟨h2, -⟩
  · exact word_at (State.WarmedH.refl s) (good_of_word h1) h0
  · exact va_any h2 h0
abbrev TYS (cy : Nat → ClassId) : List (ClassId × FieldType) := [(cy 0, .char), (cy 1, .int), (cy 2, .long), (cy 3, .double), (cy 4, .object "Cycleworks$Whole"), (cy 5, .object "java/lang/Object")]
/-- the texts that are thrown, and the two that are searched -/
def STR (g : Nat → Nat) (U : State) : Prop := (∀ q ∈ bsT, ∃ a, vk_R RX9 q.1 q.2 a U) ∧ vk_R RX10 172 "phtcv" (g 1) U ∧ vk_R RX10 209 "aiv" (g 2) U
theorem STR_warm {g : Nat → Nat} {s U : State} (hW : s.WarmedH U.vm) (h : STR g s) : STR g U := ⟨fun q hq => by
  obtain ⟨a, ha⟩ := h.1 q hq
  exact ⟨a, ha.warm hW⟩, h.2.1.warm hW, h.2.2.warm hW⟩
def NCT (U : State) : Prop := ∀ q ∈ ncT, va_Nc q.1 q.2 U
theorem NCT_warm {s U : State} (hW : s.WarmedH U.vm) (h : NCT s) : NCT U := fun q hq => (h q hq).moved hW.alike
def AOT (U : State) : Prop := va_AO "Cycleworks$Whole" U ∧ va_AO "java/lang/Object" U
theorem AOT_warm {s U : State} (hW : s.WarmedH U.vm) (h : AOT s) : AOT U := ⟨h.1.moved hW.alike, h.2.moved hW.alike⟩
abbrev ksN : List Nat := [5, 3]
abbrev ksB : List (List Int32) := [[112, 104, 116, 99, 118], [97, 105, 118]]
/-- what the heap's old part says: statics, and the two texts' bytes -/
def SG (g : Nat → Nat) (A : Nat → Prop) (U : State) (H : Heap) : Prop :=
  vx_Zq Bundle.tN "UNASSIGNED_STACK" Bundle.steD A U H ∧ vx_Zq Bundle.tN "SUPPRESSED_SENTINEL" Bundle.listD A U H ∧
  va_Z "java/util/ArrayList" "DEFAULTCAPACITY_EMPTY_ELEMENTDATA" "[Ljava/lang/Object;" (.ref (g 0)) A U H ∧ va_T (.object "java/lang/Object") (g 0) 0 (fun _ => .null) A U H ∧
  va_Z "java/lang/String" "COMPACT_STRINGS" "Z" (.int 1) A U H ∧ vk_S 2 ksN ksB (fun i => g (i + 1)) (fun i => g (i + 3)) A U H
theorem SG_call {g : Nat → Nat} {A A1 : Nat → Prop} {s U : State} {H : Heap} {locs : List Loc} (h : SG g A s s.heap) (hS : va_S A s.heap H locs) (hf : ∀ q, A1 q → A q) (hU : U.heap = H) (hW : s.WarmedH U.vm) : SG g A1 U U.heap := by
  subst hU
  obtain ⟨h1, h2, h3, h4, h5, h6⟩ := h
  have hv := hW.alike
  exact ⟨((h1.moved hv).kept hS.2.1).narrow hf, ((h2.moved hv).kept hS.2.1).narrow hf, ((h3.moved hv).kept hS.2.1).narrow hf, ((h4.moved hv).kept hS.2.1).narrow hf, ((h5.moved hv).kept hS.2.1).narrow hf, ((h6.moved hv).kept hS.2.1).narrow hf⟩
def EV (D : va_G) (cy : Nat → ClassId) (g : Nat → Nat) (A : Nat → Prop) (U : State) (H : Heap) : Prop :=
  va_K D vwCl (TYS cy) U ∧ VB U ∧ STR g U ∧ NCT U ∧ AOT U ∧ SG g A U H
theorem EV_call {D : va_G} {cy : Nat → ClassId} {g : Nat → Nat} {A A1 : Nat → Prop} {s U : State} {H : Heap} {locs : List Loc} (h : EV D cy g A s s.heap) (hS : va_S A s.heap H locs) (hf : ∀ q, A1 q → A q) (hU : U.heap = H) (hW : s.WarmedH U.vm) : EV D cy g A1 U U.heap :=
  ⟨va_K.moved hW.alike h.1, VB_warm hW h.2.1, STR_warm hW h.2.2.1, NCT_warm hW h.2.2.2.1, AOT_warm hW h.2.2.2.2.1, SG_call h.2.2.2.2.2 hS hf hU hW⟩
theorem EV_words {D : va_G} {cy : Nat → ClassId} {g : Nat → Nat} {A : Nat → Prop} {s : State} {H : Heap} (h : EV D cy g A s H) (args : Array Value) : ∀ w ∈ BT, w.before args s = true := fun w hw => h.2.1 w hw args
/-- a contract's start -/
def PC (D : va_G) (cy : Nat → ClassId) (g : Nat → Nat) (ws : va_W) (sz : Nat) (av : List Value) : Array Value → State → Prop := fun v U =>
  v = av.toArray ∧ U.heap.size = sz ∧ va_P D vwCl ws U.heap ∧ va_D (fun _ => True) ws ∧ EV D cy g (va_A ws sz) U U.heap
theorem PC_blind {D : va_G} {cy : Nat → ClassId} {g : Nat → Nat} {ws : va_W} {sz : Nat} {av : List Value} : FrameBlind (PC D cy g ws sz av) := by
  intro a U j mk h
  obtain ⟨h1, h2, h3, h4, h5⟩ := h
  exact ⟨h1, h2, h3, h4, EV_call (s := U) (H := U.heap) (locs := []) h5 va_S.rf (fun _ h => h) rfl (State.WarmedH.refl U)⟩
/-- a contract's ends: the answer, and the cells behind it -/
abbrev QB (D : va_G) (W' : (Nat → Nat) → va_W) (A : Nat → Prop) : State → Prop := fun t => ∃ ad : Nat → Nat, va_P D vwCl (W' ad) t.heap ∧ va_D A (W' ad)
abbrev QI (D : va_G) (r : Int32) (W' : (Nat → Nat) → va_W) (A : Nat → Prop) : Array Value → State → Outcome → State → Prop := va_Qi (fun (x : Int32) (_ : Unit) => x = r) (fun _ t => QB D W' A t) A
abbrev QL (D : va_G) (r : Int64) (W' : (Nat → Nat) → va_W) (A : Nat → Prop) : Array Value → State → Outcome → State → Prop := va_Ql (fun (x : Int64) (_ : Unit) => x = r) (fun _ t => QB D W' A t) A
abbrev QF (D : va_G) (r : UInt32) (W' : (Nat → Nat) → va_W) (A : Nat → Prop) : Array Value → State → Outcome → State → Prop := va_Qf (fun (x : UInt32) (_ : Unit) => x = r) (fun _ t => QB D W' A t) A
abbrev QD (D : va_G) (r : UInt64) (W' : (Nat → Nat) → va_W) (A : Nat → Prop) : Array Value → State → Outcome → State → Prop := va_Qd (fun (x : UInt64) (_ : Unit) => x = r) (fun _ t => QB D W' A t) A
abbrev QV (D : va_G) (W' : (Nat → Nat) → va_W) (A : Nat → Prop) : Array Value → State → Outcome → State → Prop := va_Qv (fun (_ : Unit) => True) (fun _ t => QB D W' A t) A
abbrev QR (D : va_G) (r : (Nat → Nat) → Nat) (W' : (Nat → Nat) → va_W) (A : Nat → Prop) : Array Value → State → Outcome → State → Prop := va_Qr (fun (_ : Unit) => True) (fun _ a t => ∃ ad : Nat → Nat, a = r ad ∧ va_P D vwCl (W' ad) t.heap ∧ va_D A (W' ad)) A
abbrev XE (E0 : String) (A : Nat → Prop) : String → State → State → Prop := vx_X (fun (_ : Unit) => True) (fun E _ _ => E = E0) A
abbrev QN : Array Value → State → Outcome → State → Prop := fun _ _ _ _ => False
theorem fm_of {α β : Type} {f : α → Option β} {is : List α} {w : List β} (h : is.map f = w.map some) : is.filterMap f = w := by
  have h1 : is.filterMap f = (is.map f).filterMap id := by rw [List.filterMap_map]; rfl
  rw [h1, h, List.filterMap_map]
  simp
section MB
variable {p : Program} {l : Launch} {e : Env} {R : Room} {s : State} {m : MethodId} {args : Array Value} {below : List Frame} {meth : Method} {c : Code} {H : Heap} {locs : List Loc} {cells slots : Nat} {Q : State → Prop}
variable {cc : ByteArray} {pc nL : Nat} {ls : Array Slot} {rest st0 As : List Value} {D : va_G} {cy : Nat → ClassId} {g : Nat → Nat} {A : Nat → Prop} {ws wc wr : va_W} {isC isR : List Nat}
variable {y x : MethodName} {own C : String} {index n maxL mc ms : Nat} {bytes : ByteArray} {ret : Option FieldType} {rm : Room} {Qc : Array Value → State → Outcome → State → Prop} {W' : (Nat → Nat) → va_W} {b : Addr}
/-- a method's beginning -/
theorem st_i {QA : (Nat → Prop) → Array Value → State → Outcome → State → Prop} {av : List Value} {sz : Nat} (hy : plainName y.cls = true) (hlen : (lg_sl av).length ≤ maxL)
    (body : ∀ (p : Program) (e : Env) (s : State) (m : MethodId) (args : Array Value) (below : List Frame) (meth : Method) (c : Code) (A : Nat → Prop) (ls : Array Slot), p.tables.exec = Jvm.exec → c.code = cc → meth.sig.returnType = ret → c.maxLocals = maxL → s.vm.findClass y.cls = some m.cls → meth.locks = false → meth.name = y.name → s.heap.size = sz →
      va_P D vwCl ws s.heap → va_D A ws → (∀ q, s.heap.size ≤ q → A q) → EV D cy g A s s.heap → (∀ w ∈ BT, w.before args s = true) → va_S A s.heap s.heap [] → lv_has ls maxL (lv_args 0 av) →
      W p l e rm s m args below meth c s.heap [] 0 0 (MQ below (QA A) args s mc ms A) (F0 m 0 ls [])) :
    Met l y [.code y cc maxL ret] rm (PC D cy g ws sz av) (QA (va_A ws sz)) mc ms (va_A ws sz) := by
  refine Met.ofW (cc := cc) (maxL := maxL) (ret := ret) hy rfl ?_
  intro p e s m args below meth c s₁ B hml hv
  obtain ⟨rfl, hsz, hP, hD0, hE⟩ := hv
  subst hsz
  rw [lg_entry_eq]
  exact body p e s m _ below meth c (va_A ws s.heap.size) _ B.exec B.bytes B.returns hml (findClass_of_methodNamed B.named) B.notSynchronized (name_of_methodNamed B.named B.method).1 rfl hP (hD0.self (sz := s.heap.size)) (fun q h => Or.inr h) hE (EV_words hE _) va_S.rf (lv_entry av hlen)
/-- a method's beginning, where it throws -/
theorem st_x {XA : (Nat → Prop) → String → State → State → Prop} {av : List Value} {sz : Nat} (hy : plainName y.cls = true) (hlen : (lg_sl av).length ≤ maxL)
    (body : ∀ (p : Program) (e : Env) (s : State) (m : MethodId) (args : Array Value) (below : List Frame) (meth : Method) (c : Code) (A : Nat → Prop) (ls : Array Slot), p.tables.exec = Jvm.exec → c.code = cc → meth.sig.returnType = ret → c.maxLocals = maxL → s.vm.findClass y.cls = some m.cls → meth.locks = false → meth.name = y.name → s.heap.size = sz →
      va_P D vwCl ws s.heap → va_D A ws → (∀ q, s.heap.size ≤ q → A q) → EV D cy g A s s.heap → (∀ w ∈ BT, w.before args s = true) → va_S A s.heap s.heap [] → lv_has ls maxL (lv_args 0 av) → (∀ x ∈ c.exceptionTable.toList, False) →
      W p l e rm s m args below meth c s.heap [] 0 0 (vx_MQ below QN (XA A) args s mc ms A) (F0 m 0 ls [])) :
    vx_Met l y [.code y cc maxL ret] rm (PC D cy g ws sz av) QN (XA (va_A ws sz)) mc ms (va_A ws sz) := by
  refine vx_ofW (cc := cc) (maxL := maxL) (ret := ret) hy rfl ?_
  intro p e s m args below meth c s₁ B hml ht hv
  obtain ⟨rfl, hsz, hP, hD0, hE⟩ := hv
  subst hsz
  rw [lg_entry_eq]
  exact body p e s m _ below meth c (va_A ws s.heap.size) _ B.exec B.bytes B.returns hml (findClass_of_methodNamed B.named) B.notSynchronized (name_of_methodNamed B.named B.method).1 rfl hP (hD0.self (sz := s.heap.size)) (fun q h => Or.inr h) hE (EV_words hE _) va_S.rf (lv_entry av hlen) ht
/-- a method's beginning, with a table of handlers -/
theorem st_h {QA : (Nat → Prop) → Array Value → State → Outcome → State → Prop} {av : List Value} {sz : Nat} {hh : List (Nat × Nat × Nat × Nat)} (hy : plainName y.cls = true) (hlen : (lg_sl av).length ≤ maxL)
    (body : ∀ (p : Program) (e : Env) (s : State) (m : MethodId) (args : Array Value) (below : List Frame) (meth : Method) (c : Code) (A : Nat → Prop) (ls : Array Slot), p.tables.exec = Jvm.exec → c.code = cc → meth.sig.returnType = ret → c.maxLocals = maxL → s.vm.findClass y.cls = some m.cls → meth.locks = false → meth.name = y.name → s.heap.size = sz →
      va_P D vwCl ws s.heap → va_D A ws → (∀ q, s.heap.size ≤ q → A q) → EV D cy g A s s.heap → (∀ w ∈ BT, w.before args s = true) → va_S A s.heap s.heap [] → lv_has ls maxL (lv_args 0 av) → c.exceptionTable.toList = tableOf hh →
      W p l e rm s m args below meth c s.heap [] 0 0 (MQ below (QA A) args s mc ms A) (F0 m 0 ls [])) :
    Met l y [.codeWith y cc maxL ret hh] rm (PC D cy g ws sz av) (QA (va_A ws sz)) mc ms (va_A ws sz) := by
  refine va_MetW (cc := cc) (maxL := maxL) (ret := ret) (hh := hh) hy rfl ?_
  intro p e s m args below meth c s₁ B hml hv
  obtain ⟨rfl, hsz, hP, hD0, hE⟩ := hv
  subst hsz
  rw [lg_entry_eq]
  have ht : c.exceptionTable.toList = tableOf hh := vx_table (x := y) B (atoms_spec (ws := [.codeWith y cc maxL ret hh]) B.pre _ List.mem_cons_self)
  exact body p e s m _ below meth c (va_A ws s.heap.size) _ B.exec B.bytes B.returns hml (findClass_of_methodNamed B.named) B.notSynchronized (name_of_methodNamed B.named B.method).1 rfl hP (hD0.self (sz := s.heap.size)) (fun q h => Or.inr h) hE (EV_words hE _) va_S.rf (lv_entry av hlen) ht
/-- constants in short -/
theorem tp_i (v : Int32) {x : Int32} (h : x = v) (k : W p l e R s m args below meth c H locs cells slots Q (F0 m pc ls (.int v :: rest))) : W p l e R s m args below meth c H locs cells slots Q (F0 m pc ls (.int x :: rest)) := by rw [h]; exact k
theorem tp_l (v : Int64) {x : Int64} (h : x = v) (k : W p l e R s m args below meth c H locs cells slots Q (F0 m pc ls (.long v :: rest))) : W p l e R s m args below meth c H locs cells slots Q (F0 m pc ls (.long x :: rest)) := by rw [h]; exact k
/-- ends -/
theorem qb_of {H : Heap} {is : List Nat} (hP : va_P D vwCl ws H) (hD : va_D A ws) (ad : Nat → Nat) (hn : va_nd is = true) (hW' : is.map (fun i => ws[i]?) = (W' ad).map some) {t : State} (ht : t.heap = H) : QB D W' A t :=
  ⟨ad, by rw [ht]; exact hP.sub is (fm_of hW'), hD.sub is hn hW'⟩
theorem en_z {ty : FieldType} {v : Int32} {is : List Nat} (hx : p.tables.exec = Jvm.exec) (hb : c.code = cc) (hr : meth.sig.returnType = some ty) (hlk : meth.locks = false) (hP : va_P D vwCl ws H) (hD : va_D A ws) (hS : va_S A s.heap H locs) (hn0 : narrow ty (.int v) = .int v) (ad : Nat → Nat) (hn : va_nd is = true) (hW' : is.map (fun i => ws[i]?) = (W' ad).map some) (hc : cells ≤ mc) (hs : slots ≤ ms) (hdg : decode cc pc = .ok (.ireturn, 1)) :
    W p l e R s m args below meth c H locs cells slots (MQ below (QI D v W' A) args s mc ms A) (F0 m pc ls [.int v]) :=
  W.widen hc hs (W.zret hx hb hr hn0 (fun t ht _ => ⟨⟨v, (), rfl, rfl, qb_of hP hD ad hn hW' ht⟩, hS.F ht⟩) hS.2.2 hdg hlk)
theorem en_l {v : Int64} {is : List Nat} (hx : p.tables.exec = Jvm.exec) (hb : c.code = cc) (hr : meth.sig.returnType = some .long) (hlk : meth.locks = false) (hP : va_P D vwCl ws H) (hD : va_D A ws) (hS : va_S A s.heap H locs) (ad : Nat → Nat) (hn : va_nd is = true) (hW' : is.map (fun i => ws[i]?) = (W' ad).map some) (hc : cells ≤ mc) (hs : slots ≤ ms) (hdg : decode cc pc = .ok (.lreturn, 1)) :
    W p l e R s m args below meth c H locs cells slots (MQ below (QL D v W' A) args s mc ms A) (F0 m pc ls [.long v]) :=
  W.widen hc hs (W.lret hx hb hr (fun t ht _ => ⟨⟨v, (), rfl, rfl, qb_of hP hD ad hn hW' ht⟩, hS.F ht⟩) hS.2.2 hdg hlk)
theorem en_f {v : UInt32} {is : List Nat} (hx : p.tables.exec = Jvm.exec) (hb : c.code = cc) (hr : meth.sig.returnType = some .float) (hlk : meth.locks = false) (hP : va_P D vwCl ws H) (hD : va_D A ws) (hS : va_S A s.heap H locs) (ad : Nat → Nat) (hn : va_nd is = true) (hW' : is.map (fun i => ws[i]?) = (W' ad).map some) (hc : cells ≤ mc) (hs : slots ≤ ms) (hdg : decode cc pc = .ok (.freturn, 1)) :
    W p l e R s m args below meth c H locs cells slots (MQ below (QF D v W' A) args s mc ms A) (F0 m pc ls [.float v]) :=
  W.widen hc hs (W.fret hx hb hr (fun t ht _ => ⟨⟨v, (), rfl, rfl, qb_of hP hD ad hn hW' ht⟩, hS.F ht⟩) hS.2.2 hdg hlk)
theorem en_d {v : UInt64} {is : List Nat} (hx : p.tables.exec = Jvm.exec) (hb : c.code = cc) (hr : meth.sig.returnType = some .double) (hlk : meth.locks = false) (hP : va_P D vwCl ws H) (hD : va_D A ws) (hS : va_S A s.heap H locs) (ad : Nat → Nat) (hn : va_nd is = true) (hW' : is.map (fun i => ws[i]?) = (W' ad).map some) (hc : cells ≤ mc) (hs : slots ≤ ms) (hdg : decode cc pc = .ok (.dreturn, 1)) :
    W p l e R s m args below meth c H locs cells slots (MQ below (QD D v W' A) args s mc ms A) (F0 m pc ls [.double v]) :=
  W.widen hc hs (W.dret hx hb hr (fun t ht _ => ⟨⟨v, (), rfl, rfl, qb_of hP hD ad hn hW' ht⟩, hS.F ht⟩) hS.2.2 hdg hlk)
theorem en_v {is : List Nat} (hx : p.tables.exec = Jvm.exec) (hb : c.code = cc) (hr : meth.sig.returnType = none) (hlk : meth.locks = false) (hP : va_P D vwCl ws H) (hD : va_D A ws) (hS : va_S A s.heap H locs) (ad : Nat → Nat) (hn : va_nd is = true) (hW' : is.map (fun i => ws[i]?) = (W' ad).map some) (hc : cells ≤ mc) (hs : slots ≤ ms) (hdg : decode cc pc = .ok (.return_, 1)) :
    W p l e R s m args below meth c H locs cells slots (MQ below (QV D W' A) args s mc ms A) (F0 m pc ls []) :=
  W.widen hc hs (W.vret hx hb hr (fun t ht _ => ⟨⟨(), rfl, trivial, qb_of hP hD ad hn hW' ht⟩, hS.F ht⟩) hS.2.2 hdg hlk)
theorem en_r {a : Nat} {rt : FieldType} {r : (Nat → Nat) → Nat} {is : List Nat} (hx : p.tables.exec = Jvm.exec) (hb : c.code = cc) (hr : meth.sig.returnType = some rt) (hrt : (∃ n, rt = .object n) ∨ ∃ t, rt = .array t) (hlk : meth.locks = false) (hP : va_P D vwCl ws H) (hD : va_D A ws) (hS : va_S A s.heap H locs) (ad : Nat → Nat) (ha : a = r ad) (hn : va_nd is = true) (hW' : is.map (fun i => ws[i]?) = (W' ad).map some) (hc : cells ≤ mc) (hs : slots ≤ ms) (hdg : decode cc pc = .ok (.areturn, 1)) :
    W p l e R s m args below meth c H locs cells slots (MQ below (QR D r W' A) args s mc ms A) (F0 m pc ls [.ref a]) :=
  W.widen hc hs (W.aret hx hb hr hrt (Or.inr ⟨a, rfl⟩) (fun t ht _ => ⟨⟨(), a, rfl, trivial, ad, ha, by rw [ht]; exact hP.sub is (fm_of hW'), hD.sub is hn hW'⟩, hS.F ht⟩) hS.2.2 hdg hlk)
/-- what a callee is given -/
theorem pc_at (hE : EV D cy g A s s.heap) (hS : va_S A s.heap H locs) (hP : va_P D vwCl ws H) (hD : va_D A ws) (hA : ∀ q, s.heap.size ≤ q → A q) (hn : va_nd isC = true) (hC : isC.map (fun i => ws[i]?) = wc.map some) (av : List Value) : ∀ U : State, U.heap = H → s.WarmedH U.vm → PC D cy g wc H.size av av.toArray U := fun U hU hW =>
  ⟨rfl, by rw [hU], by rw [hU]; exact hP.sub isC (fm_of hC), (hD.sub isC hn hC).weaken (fun _ _ _ _ => trivial), EV_call hE hS (va_free hD hS hA isC hC) hU hW⟩
theorem gi_S (m1 : Cond.methodLink own index y ∈ BT) (m2 : Cond.static y ∈ BT) (m3 : Cond.initialized y.cls ∈ BT) (m4 : Cond.code y bytes maxL ret ∈ BT) : GoodIn BT (va_wsS own index y [.code y bytes maxL ret]) := by
  intro w hw
  simp only [va_wsS, List.cons_append, List.nil_append, List.mem_cons, List.not_mem_nil, or_false] at hw
  rcases hw with rfl | rfl | rfl | rfl
  · exact ⟨m1, Or.inl rfl⟩
  · exact ⟨m2, Or.inl rfl⟩
  · exact ⟨m3, Or.inl rfl⟩
  · exact ⟨m4, Or.inl rfl⟩
theorem gi_SW {hh : List (Nat × Nat × Nat × Nat)} (m1 : Cond.methodLink own index y ∈ BT) (m2 : Cond.static y ∈ BT) (m3 : Cond.initialized y.cls ∈ BT) (m4 : Cond.codeWith y bytes maxL ret hh ∈ BT) : GoodIn BT (va_wsS own index y [.codeWith y bytes maxL ret hh]) := by
  intro w hw
  simp only [va_wsS, List.cons_append, List.nil_append, List.mem_cons, List.not_mem_nil, or_false] at hw
  rcases hw with rfl | rfl | rfl | rfl
  · exact ⟨m1, Or.inl rfl⟩
  · exact ⟨m2, Or.inl rfl⟩
  · exact ⟨m3, Or.inl rfl⟩
  · exact ⟨m4, Or.inl rfl⟩
theorem gi_V (m1 : Cond.methodLink own index y ∈ BT) (m2 : Cond.instanceMethod y ∈ BT) (m3 : Cond.selects C y y ∈ BT) (m4 : Cond.initialized C ∈ BT) (m5 : Cond.code y bytes maxL ret ∈ BT) : GoodIn BT (wsV own index C y [.code y bytes maxL ret]) := by
  intro w hw
  simp only [wsV, List.cons_append, List.nil_append, List.mem_cons, List.not_mem_nil, or_false] at hw
  rcases hw with rfl | rfl | rfl | rfl | rfl
  · exact ⟨m1, Or.inl rfl⟩
  · exact ⟨m2, Or.inl rfl⟩
  · exact ⟨m3, Or.inl rfl⟩
  · exact ⟨m4, Or.inl rfl⟩
  · exact ⟨m5, Or.inl rfl⟩
theorem gi_F (m1 : Cond.methodLink own index x ∈ BT) (m2 : Cond.selects C x y ∈ BT) (m3 : Cond.instanceMethod y ∈ BT) (m4 : Cond.initialized y.cls ∈ BT) (m5 : Cond.code y bytes maxL ret ∈ BT) : GoodIn BT (va_wsF own index C x y [.code y bytes maxL ret]) := by
  intro w hw
  simp only [va_wsF, List.cons_append, List.nil_append, List.mem_cons, List.not_mem_nil, or_false] at hw
  rcases hw with rfl | rfl | rfl | rfl | rfl
  · exact ⟨m1, Or.inl rfl⟩
  · exact ⟨m2, Or.inl rfl⟩
  · exact ⟨m3, Or.inl rfl⟩
  · exact ⟨m4, Or.inl rfl⟩
  · exact ⟨m5, Or.inl rfl⟩
theorem gi_1 (m5 : Cond.code y bytes maxL ret ∈ BT) : GoodIn BT [.code y bytes maxL ret] := by
  intro w hw
  rcases List.mem_singleton.mp hw with rfl
  exact ⟨m5, Or.inl rfl⟩
/-- calls: what runs -/
theorem rn_S (hx : p.tables.exec = Jvm.exec) (hb : c.code = cc) (hml : c.maxLocals = nL) (hown : s.vm.findClass own = some m.cls) (hts : ∀ w ∈ BT, w.before args s = true) (hE : EV D cy g A s s.heap) (hS : va_S A s.heap H locs) (hP : va_P D vwCl ws H) (hD : va_D A ws) (hA : ∀ q, s.heap.size ≤ q → A q) (hl : ls.size = nL)
    (hM : Met l y [.code y bytes maxL ret] rm (PC D cy g wc H.size As) Qc mc ms (va_A wc H.size)) (hn : va_nd isC = true) (hC : isC.map (fun i => ws[i]?) = wc.map some)
    (hg : GoodIn BT (va_wsS own index y [.code y bytes maxL ret])) (hrc : rm.cells = mc) (hrs : rm.slots = ms) (hd : y.cls ≠ "java/lang/invoke/MethodHandle" ∧ y.cls ≠ "java/lang/invoke/VarHandle" ∧ (parseMethodDescriptor y.desc).map (fun d => d.parameters.length) = some n) (hR : rm.frames + 1 ≤ R.frames ∧ 8 + (maxL + 11) + rm.locals ≤ R.locals)
    (hAn : As.length = n) (hst : st0 = As.reverse ++ rest) (hw : (rest.map fun v => v.category).sum ≤ 8) (hdg : decode cc pc = .ok (.invokestatic index, 3)) (hf : cells + mc ≤ R.cells ∧ slots + ms ≤ R.slots) :
    va_Run p l e R s m args below meth c H locs cells slots mc ms (F0 m pc ls st0) rest (Qc As.toArray) (va_A wc H.size) :=
  va_runS ⟨hx, hb, hml, hown, hts⟩ hM (va_cwS n hts hg rfl hrc hrs hd hR) ⟨PC_blind, pc_at hE hS hP hD hA hn hC As⟩ rfl hAn hl hst (lv_room (pc := pc) (ls := ls) (rest := st0) hw) hdg hf
theorem rn_SW {hh : List (Nat × Nat × Nat × Nat)} (hx : p.tables.exec = Jvm.exec) (hb : c.code = cc) (hml : c.maxLocals = nL) (hown : s.vm.findClass own = some m.cls) (hts : ∀ w ∈ BT, w.before args s = true) (hE : EV D cy g A s s.heap) (hS : va_S A s.heap H locs) (hP : va_P D vwCl ws H) (hD : va_D A ws) (hA : ∀ q, s.heap.size ≤ q → A q) (hl : ls.size = nL)
    (hM : Met l y [.codeWith y bytes maxL ret hh] rm (PC D cy g wc H.size As) Qc mc ms (va_A wc H.size)) (hn : va_nd isC = true) (hC : isC.map (fun i => ws[i]?) = wc.map some)
    (hg : GoodIn BT (va_wsS own index y [.codeWith y bytes maxL ret hh])) (hrc : rm.cells = mc) (hrs : rm.slots = ms) (hd : y.cls ≠ "java/lang/invoke/MethodHandle" ∧ y.cls ≠ "java/lang/invoke/VarHandle" ∧ (parseMethodDescriptor y.desc).map (fun d => d.parameters.length) = some n) (hR : rm.frames + 1 ≤ R.frames ∧ 8 + (maxL + 11) + rm.locals ≤ R.locals)
    (hAn : As.length = n) (hst : st0 = As.reverse ++ rest) (hw : (rest.map fun v => v.category).sum ≤ 8) (hdg : decode cc pc = .ok (.invokestatic index, 3)) (hf : cells + mc ≤ R.cells ∧ slots + ms ≤ R.slots) :
    va_Run p l e R s m args below meth c H locs cells slots mc ms (F0 m pc ls st0) rest (Qc As.toArray) (va_A wc H.size) :=
  vx_runSW ⟨hx, hb, hml, hown, hts⟩ hM (vx_cwSW n hts hg rfl hrc hrs hd hR) ⟨PC_blind, pc_at hE hS hP hD hA hn hC As⟩ rfl hAn hl hst (lv_room (pc := pc) (ls := ls) (rest := st0) hw) hdg hf
theorem rn_V {ci q0 : Nat} {q : vw_C} {fs : List Value} (hx : p.tables.exec = Jvm.exec) (hb : c.code = cc) (hml : c.maxLocals = nL) (hown : s.vm.findClass own = some m.cls) (hts : ∀ w ∈ BT, w.before args s = true) (hE : EV D cy g A s s.heap) (hS : va_S A s.heap H locs) (hP : va_P D vwCl ws H) (hD : va_D A ws) (hA : ∀ q, s.heap.size ≤ q → A q) (hl : ls.size = nL)
    (hM : Met l y [.code y bytes maxL ret] rm (PC D cy g wc H.size (.ref b :: As)) Qc mc ms (va_A wc H.size)) (hn : va_nd isC = true) (hC : isC.map (fun i => ws[i]?) = wc.map some) (hci : vwCl[ci]? = some q) (hq0 : ws[q0]? = some (b, .inr (ci, fs))) (hqC : q.1 = C)
    (hg : GoodIn BT (wsV own index C y [.code y bytes maxL ret])) (hrc : rm.cells = mc) (hrs : rm.slots = ms) (hd : y.cls = C ∧ y.cls ≠ "java/lang/invoke/MethodHandle" ∧ y.cls ≠ "java/lang/invoke/VarHandle" ∧ (parseMethodDescriptor y.desc).map (fun d => d.parameters.length) = some n) (hR : rm.frames + 1 ≤ R.frames ∧ 8 + (maxL + 11) + rm.locals ≤ R.locals)
    (hAn : As.length = n) (hst : st0 = As.reverse ++ .ref b :: rest) (hw : (rest.map fun v => v.category).sum ≤ 8) (hdg : decode cc pc = .ok (.invokevirtual index, 3)) (hf : cells + mc ≤ R.cells ∧ slots + ms ≤ R.slots) :
    va_Run p l e R s m args below meth c H locs cells slots mc ms (F0 m pc ls st0) rest (Qc (Value.ref b :: As).toArray) (va_A wc H.size) :=
  va_runV ⟨hx, hb, hml, hown, hts⟩ hM (cwV n hts hg rfl hrc hrs hd hR) ⟨PC_blind, by rw [← hqC]; exact va_recv hE.1 hP hci hq0, pc_at hE hS hP hD hA hn hC (.ref b :: As)⟩ rfl hAn hl hst (lv_room (pc := pc) (ls := ls) (rest := st0) hw) hdg hf
/-- a call that throws -/
theorem rx_V {XC : String → State → State → Prop} {ci q0 : Nat} {q : vw_C} {fs : List Value} (hx : p.tables.exec = Jvm.exec) (hb : c.code = cc) (hml : c.maxLocals = nL) (hown : s.vm.findClass own = some m.cls) (hts : ∀ w ∈ BT, w.before args s = true) (hE : EV D cy g A s s.heap) (hS : va_S A s.heap H locs) (hP : va_P D vwCl ws H) (hD : va_D A ws) (hA : ∀ q, s.heap.size ≤ q → A q) (hl : ls.size = nL)
    (hM : vx_Met l y [.code y bytes maxL ret] rm (PC D cy g wc H.size (.ref b :: As)) Qc XC mc ms (va_A wc H.size)) (hn : va_nd isC = true) (hC : isC.map (fun i => ws[i]?) = wc.map some) (hci : vwCl[ci]? = some q) (hq0 : ws[q0]? = some (b, .inr (ci, fs))) (hqC : q.1 = C)
    (hg : GoodIn BT (wsV own index C y [.code y bytes maxL ret])) (hrc : rm.cells = mc) (hrs : rm.slots = ms) (hd : y.cls = C ∧ y.cls ≠ "java/lang/invoke/MethodHandle" ∧ y.cls ≠ "java/lang/invoke/VarHandle" ∧ (parseMethodDescriptor y.desc).map (fun d => d.parameters.length) = some n) (hR : rm.frames + 1 ≤ R.frames ∧ 8 + (maxL + 11) + rm.locals ≤ R.locals)
    (hAn : As.length = n) (hst : st0 = As.reverse ++ .ref b :: rest) (hw : (rest.map fun v => v.category).sum ≤ 8) (hdg : decode cc pc = .ok (.invokevirtual index, 3)) (hf : cells + mc ≤ R.cells ∧ slots + ms ≤ R.slots) :
    vx_Run p l e R s m args below meth c H locs cells slots mc ms (F0 m pc ls st0) rest (Qc (Value.ref b :: As).toArray) XC (va_A wc H.size) :=
  vx_runV ⟨hx, hb, hml, hown, hts⟩ hM (cwV n hts hg rfl hrc hrs hd hR) ⟨PC_blind, by rw [← hqC]; exact va_recv hE.1 hP hci hq0, pc_at hE hS hP hD hA hn hC (.ref b :: As)⟩ rfl hAn hl hst (lv_room (pc := pc) (ls := ls) (rest := st0) hw) hdg hf
theorem rn_I (hx : p.tables.exec = Jvm.exec) (hb : c.code = cc) (hml : c.maxLocals = nL) (hown : s.vm.findClass own = some m.cls) (hts : ∀ w ∈ BT, w.before args s = true) (hE : EV D cy g A s s.heap) (hS : va_S A s.heap H locs) (hP : va_P D vwCl ws H) (hD : va_D A ws) (hA : ∀ q, s.heap.size ≤ q → A q) (hl : ls.size = nL)
    (hM : Met l y [.code y bytes maxL none] rm (PC D cy g wc H.size (.ref b :: As)) Qc mc ms (va_A wc H.size)) (hn : va_nd isC = true) (hC : isC.map (fun i => ws[i]?) = wc.map some)
    (m1 : Cond.methodLink own index y ∈ BT) (m2 : Cond.instanceMethod y ∈ BT) (m3 : Cond.initialized y.cls ∈ BT) (m4 : Cond.code y bytes maxL none ∈ BT) (hy1 : y.name = "<init>") (hrc : rm.cells = mc) (hrs : rm.slots = ms) (hd : y.cls ≠ "java/lang/invoke/MethodHandle" ∧ y.cls ≠ "java/lang/invoke/VarHandle" ∧ (parseMethodDescriptor y.desc).map (fun d => d.parameters.length) = some n) (hR : rm.frames + 1 ≤ R.frames ∧ 8 + (maxL + 11) + rm.locals ≤ R.locals)
    (hAn : As.length = n) (hst : st0 = As.reverse ++ .ref b :: rest) (hw : (rest.map fun v => v.category).sum ≤ 8) (hdg : decode cc pc = .ok (.invokespecial index, 3)) (hf : cells + mc ≤ R.cells ∧ slots + ms ≤ R.slots) :
    va_Run p l e R s m args below meth c H locs cells slots mc ms (F0 m pc ls st0) rest (Qc (Value.ref b :: As).toArray) (va_A wc H.size) :=
  va_runI ⟨hx, hb, hml, hown, hts⟩ hM (cwI n hts (gi_1 m4) rfl hrc hrs (hts _ m3) (hts _ m1) (hts _ m2) hy1 hd hR) ⟨PC_blind, pc_at hE hS hP hD hA hn hC (.ref b :: As)⟩ rfl hAn hl hst (lv_room (pc := pc) (ls := ls) (rest := st0) hw) hdg hf
theorem rn_IN {host : String} (hx : p.tables.exec = Jvm.exec) (hb : c.code = cc) (hml : c.maxLocals = nL) (hown : s.vm.findClass own = some m.cls) (hts : ∀ w ∈ BT, w.before args s = true) (hE : EV D cy g A s s.heap) (hS : va_S A s.heap H locs) (hP : va_P D vwCl ws H) (hD : va_D A ws) (hA : ∀ q, s.heap.size ≤ q → A q) (hl : ls.size = nL)
    (hM : Met l y [.code y bytes maxL none] rm (PC D cy g wc H.size (.ref b :: As)) Qc mc ms (va_A wc H.size)) (hn : va_nd isC = true) (hC : isC.map (fun i => ws[i]?) = wc.map some)
    (m1 : Cond.methodLinkNest own index y host ∈ BT) (m2 : Cond.instanceMethod y ∈ BT) (m3 : Cond.initialized y.cls ∈ BT) (m4 : Cond.code y bytes maxL none ∈ BT) (hy1 : y.name = "<init>") (hrc : rm.cells = mc) (hrs : rm.slots = ms) (hd : y.cls ≠ "java/lang/invoke/MethodHandle" ∧ y.cls ≠ "java/lang/invoke/VarHandle" ∧ (parseMethodDescriptor y.desc).map (fun d => d.parameters.length) = some n) (hR : rm.frames + 1 ≤ R.frames ∧ 8 + (maxL + 11) + rm.locals ≤ R.locals)
    (hAn : As.length = n) (hst : st0 = As.reverse ++ .ref b :: rest) (hw : (rest.map fun v => v.category).sum ≤ 8) (hdg : decode cc pc = .ok (.invokespecial index, 3)) (hf : cells + mc ≤ R.cells ∧ slots + ms ≤ R.slots) :
    va_Run p l e R s m args below meth c H locs cells slots mc ms (F0 m pc ls st0) rest (Qc (Value.ref b :: As).toArray) (va_A wc H.size) :=
  va_runIN ⟨hx, hb, hml, hown, hts⟩ hM ⟨va_cnB n hts (gi_1 m4) rfl hrc hrs (va_Nw.of rfl (hts _ m1)) (hts _ m3) hd hR, hy1, hts _ m2⟩ ⟨PC_blind, pc_at hE hS hP hD hA hn hC (.ref b :: As)⟩ rfl hAn hl hst (lv_room (pc := pc) (ls := ls) (rest := st0) hw) hdg hf
theorem rn_F {ci q0 count : Nat} {q : vw_C} {fs : List Value} (hx : p.tables.exec = Jvm.exec) (hb : c.code = cc) (hml : c.maxLocals = nL) (hown : s.vm.findClass own = some m.cls) (hts : ∀ w ∈ BT, w.before args s = true) (hE : EV D cy g A s s.heap) (hS : va_S A s.heap H locs) (hP : va_P D vwCl ws H) (hD : va_D A ws) (hA : ∀ q, s.heap.size ≤ q → A q) (hl : ls.size = nL)
    (hM : Met l y [.code y bytes maxL ret] rm (PC D cy g wc H.size (.ref b :: As)) Qc mc ms (va_A wc H.size)) (hn : va_nd isC = true) (hC : isC.map (fun i => ws[i]?) = wc.map some) (hci : vwCl[ci]? = some q) (hq0 : ws[q0]? = some (b, .inr (ci, fs))) (hqC : q.1 = C)
    (hg : GoodIn BT (va_wsF own index C x y [.code y bytes maxL ret])) (f1 : Cond.declares x ∈ BT) (f2 : Cond.interfaceMethod x.cls x.cls x.name x.desc ∈ BT) (f3 : Cond.publicMethod y ∈ BT) (f4 : Cond.unhidden C x.name x.desc ∈ BT) (f5 : Cond.castable C x.cls ∈ BT)
    (hrc : rm.cells = mc) (hrs : rm.slots = ms) (hd : x.cls ≠ "java/lang/invoke/MethodHandle" ∧ x.cls ≠ "java/lang/invoke/VarHandle" ∧ (parseMethodDescriptor x.desc).map (fun d => d.parameters.length) = some n) (hR : rm.frames + 1 ≤ R.frames ∧ 8 + (maxL + 11) + rm.locals ≤ R.locals)
    (hAn : As.length = n) (hst : st0 = As.reverse ++ .ref b :: rest) (hw : (rest.map fun v => v.category).sum ≤ 8) (hdg : decode cc pc = .ok (.invokeinterface index count, 5)) (hf : cells + mc ≤ R.cells ∧ slots + ms ≤ R.slots) :
    va_Run5 p l e R s m args below meth c H locs cells slots mc ms (F0 m pc ls st0) rest (Qc (Value.ref b :: As).toArray) (va_A wc H.size) :=
  va_runF (C := C) (cC := D.1 ci) (by rw [← hqC]; exact (hE.1.1 ci q hci).2) ⟨hx, hb, hml, hown, hts⟩ hM (va_cwF n hts hg rfl hrc hrs (va_Fw.of (hts _ f1) (hts _ f2) (hts _ f3) (hts _ f4) (hts _ f5)) hd hR) ⟨PC_blind, by rw [← hqC]; exact va_recv hE.1 hP hci hq0, pc_at hE hS hP hD hA hn hC (.ref b :: As)⟩ rfl hAn hl hst (lv_room (pc := pc) (ls := ls) (rest := st0) hw) hdg hf
/-- calls: how it goes on -/
theorem jn {w1 : va_W} {H1 : Heap} (hP : va_P D vwCl ws H) (hD : va_D A ws) (hS : va_S A s.heap H locs) (hA : ∀ q, s.heap.size ≤ q → A q) (hC : isC.map (fun i => ws[i]?) = wc.map some) (hR : isR.map (fun i => ws[i]?) = wr.map some) (hnR : va_nd isR = true) (hdis : ∀ i ∈ isR, i ∉ isC)
    (hk : ∀ q : Nat, q < H.size → ¬ va_A wc H.size q → H1[q]? = H[q]?) (hP1 : va_P D vwCl w1 H1) (hD1 : va_D (va_A wc H.size) w1) : va_P D vwCl (wr ++ w1) H1 ∧ va_D A (wr ++ w1) :=
  va_join hP hD isC isR hC hR hnR hdis hk (va_free hD hS hA isC hC) hP1 hD1
theorem ca_i {a : Array Value} {r : Int32} (run : va_Run p l e R s m args below meth c H locs cells slots mc ms (F0 m pc ls st0) rest (QI D r W' (va_A wc H.size) a) (va_A wc H.size)) (hP : va_P D vwCl ws H) (hD : va_D A ws) (hS : va_S A s.heap H locs) (hA : ∀ q, s.heap.size ≤ q → A q) (hC : isC.map (fun i => ws[i]?) = wc.map some) (hR : isR.map (fun i => ws[i]?) = wr.map some) (hnR : va_nd isR = true) (hdis : ∀ i ∈ isR, i ∉ isC)
    (kk : ∀ (ad : Nat → Nat) (H1 : Heap) (locs1 : List Loc), va_P D vwCl (wr ++ W' ad) H1 → va_D A (wr ++ W' ad) → va_S A s.heap H1 locs1 → W p l e R s m args below meth c H1 locs1 (cells + mc) (slots + ms) Q (F0 m (pc + 3) ls (.int r :: rest))) : W p l e R s m args below meth c H locs cells slots Q (F0 m pc ls st0) := by
  have hF := va_free hD hS hA isC hC
  refine va_calli run hS (fun q _ h => hF q h) hF (fun r1 u t H1 locs1 ht hvm hp hB hz hk hS1 => ?_)
  obtain ⟨ad, hP1, hD1⟩ := hB
  rw [ht] at hP1
  obtain ⟨hP2, hD2⟩ := jn hP hD hS hA hC hR hnR hdis hk hP1 hD1
  rw [hp]
  exact kk ad H1 locs1 hP2 hD2 hS1
theorem ca_l {a : Array Value} {r : Int64} (run : va_Run p l e R s m args below meth c H locs cells slots mc ms (F0 m pc ls st0) rest (QL D r W' (va_A wc H.size) a) (va_A wc H.size)) (hP : va_P D vwCl ws H) (hD : va_D A ws) (hS : va_S A s.heap H locs) (hA : ∀ q, s.heap.size ≤ q → A q) (hC : isC.map (fun i => ws[i]?) = wc.map some) (hR : isR.map (fun i => ws[i]?) = wr.map some) (hnR : va_nd isR = true) (hdis : ∀ i ∈ isR, i ∉ isC)
    (kk : ∀ (ad : Nat → Nat) (H1 : Heap) (locs1 : List Loc), va_P D vwCl (wr ++ W' ad) H1 → va_D A (wr ++ W' ad) → va_S A s.heap H1 locs1 → W p l e R s m args below meth c H1 locs1 (cells + mc) (slots + ms) Q (F0 m (pc + 3) ls (.long r :: rest))) : W p l e R s m args below meth c H locs cells slots Q (F0 m pc ls st0) := by
  have hF := va_free hD hS hA isC hC
  refine va_calll run hS (fun q _ h => hF q h) hF (fun r1 u t H1 locs1 ht hvm hp hB hz hk hS1 => ?_)
  obtain ⟨ad, hP1, hD1⟩ := hB
  rw [ht] at hP1
  obtain ⟨hP2, hD2⟩ := jn hP hD hS hA hC hR hnR hdis hk hP1 hD1
  rw [hp]
  exact kk ad H1 locs1 hP2 hD2 hS1
theorem ca_f {a : Array Value} {r : UInt32} (run : va_Run p l e R s m args below meth c H locs cells slots mc ms (F0 m pc ls st0) rest (QF D r W' (va_A wc H.size) a) (va_A wc H.size)) (hP : va_P D vwCl ws H) (hD : va_D A ws) (hS : va_S A s.heap H locs) (hA : ∀ q, s.heap.size ≤ q → A q) (hC : isC.map (fun i => ws[i]?) = wc.map some) (hR : isR.map (fun i => ws[i]?) = wr.map some) (hnR : va_nd isR = true) (hdis : ∀ i ∈ isR, i ∉ isC)
    (kk : ∀ (ad : Nat → Nat) (H1 : Heap) (locs1 : List Loc), va_P D vwCl (wr ++ W' ad) H1 → va_D A (wr ++ W' ad) → va_S A s.heap H1 locs1 → W p l e R s m args below meth c H1 locs1 (cells + mc) (slots + ms) Q (F0 m (pc + 3) ls (.float r :: rest))) : W p l e R s m args below meth c H locs cells slots Q (F0 m pc ls st0) := by
  have hF := va_free hD hS hA isC hC
  refine va_callf run hS (fun q _ h => hF q h) hF (fun r1 u t H1 locs1 ht hvm hp hB hz hk hS1 => ?_)
  obtain ⟨ad, hP1, hD1⟩ := hB
  rw [ht] at hP1
  obtain ⟨hP2, hD2⟩ := jn hP hD hS hA hC hR hnR hdis hk hP1 hD1
  rw [hp]
  exact kk ad H1 locs1 hP2 hD2 hS1
theorem ca_d {a : Array Value} {r : UInt64} (run : va_Run p l e R s m args below meth c H locs cells slots mc ms (F0 m pc ls st0) rest (QD D r W' (va_A wc H.size) a) (va_A wc H.size)) (hP : va_P D vwCl ws H) (hD : va_D A ws) (hS : va_S A s.heap H locs) (hA : ∀ q, s.heap.size ≤ q → A q) (hC : isC.map (fun i => ws[i]?) = wc.map some) (hR : isR.map (fun i => ws[i]?) = wr.map some) (hnR : va_nd isR = true) (hdis : ∀ i ∈ isR, i ∉ isC)
    (kk : ∀ (ad : Nat → Nat) (H1 : Heap) (locs1 : List Loc), va_P D vwCl (wr ++ W' ad) H1 → va_D A (wr ++ W' ad) → va_S A s.heap H1 locs1 → W p l e R s m args below meth c H1 locs1 (cells + mc) (slots + ms) Q (F0 m (pc + 3) ls (.double r :: rest))) : W p l e R s m args below meth c H locs cells slots Q (F0 m pc ls st0) := by
  have hF := va_free hD hS hA isC hC
  refine va_calld run hS (fun q _ h => hF q h) hF (fun r1 u t H1 locs1 ht hvm hp hB hz hk hS1 => ?_)
  obtain ⟨ad, hP1, hD1⟩ := hB
  rw [ht] at hP1
  obtain ⟨hP2, hD2⟩ := jn hP hD hS hA hC hR hnR hdis hk hP1 hD1
  rw [hp]
  exact kk ad H1 locs1 hP2 hD2 hS1
theorem ca_v {a : Array Value} (run : va_Run p l e R s m args below meth c H locs cells slots mc ms (F0 m pc ls st0) rest (QV D W' (va_A wc H.size) a) (va_A wc H.size)) (hP : va_P D vwCl ws H) (hD : va_D A ws) (hS : va_S A s.heap H locs) (hA : ∀ q, s.heap.size ≤ q → A q) (hC : isC.map (fun i => ws[i]?) = wc.map some) (hR : isR.map (fun i => ws[i]?) = wr.map some) (hnR : va_nd isR = true) (hdis : ∀ i ∈ isR, i ∉ isC)
    (kk : ∀ (ad : Nat → Nat) (H1 : Heap) (locs1 : List Loc), va_P D vwCl (wr ++ W' ad) H1 → va_D A (wr ++ W' ad) → va_S A s.heap H1 locs1 → W p l e R s m args below meth c H1 locs1 (cells + mc) (slots + ms) Q (F0 m (pc + 3) ls rest)) : W p l e R s m args below meth c H locs cells slots Q (F0 m pc ls st0) := by
  have hF := va_free hD hS hA isC hC
  refine va_callv run hS (fun q _ h => hF q h) hF (fun u t H1 locs1 ht hvm hp hB hz hk hS1 => ?_)
  obtain ⟨ad, hP1, hD1⟩ := hB
  rw [ht] at hP1
  obtain ⟨hP2, hD2⟩ := jn hP hD hS hA hC hR hnR hdis hk hP1 hD1
  exact kk ad H1 locs1 hP2 hD2 hS1
theorem ca_r {a : Array Value} {r : (Nat → Nat) → Nat} (run : va_Run p l e R s m args below meth c H locs cells slots mc ms (F0 m pc ls st0) rest (QR D r W' (va_A wc H.size) a) (va_A wc H.size)) (hP : va_P D vwCl ws H) (hD : va_D A ws) (hS : va_S A s.heap H locs) (hA : ∀ q, s.heap.size ≤ q → A q) (hC : isC.map (fun i => ws[i]?) = wc.map some) (hR : isR.map (fun i => ws[i]?) = wr.map some) (hnR : va_nd isR = true) (hdis : ∀ i ∈ isR, i ∉ isC)
    (kk : ∀ (ad : Nat → Nat) (H1 : Heap) (locs1 : List Loc), va_P D vwCl (wr ++ W' ad) H1 → va_D A (wr ++ W' ad) → va_S A s.heap H1 locs1 → W p l e R s m args below meth c H1 locs1 (cells + mc) (slots + ms) Q (F0 m (pc + 3) ls (.ref (r ad) :: rest))) : W p l e R s m args below meth c H locs cells slots Q (F0 m pc ls st0) := by
  have hF := va_free hD hS hA isC hC
  refine va_callr run hS (fun q _ h => hF q h) hF (fun u ra t H1 locs1 ht hvm hp hB hz hk hS1 => ?_)
  obtain ⟨ad, hra, hP1, hD1⟩ := hB
  rw [ht] at hP1
  obtain ⟨hP2, hD2⟩ := jn hP hD hS hA hC hR hnR hdis hk hP1 hD1
  rw [hra]
  exact kk ad H1 locs1 hP2 hD2 hS1
theorem ca_Fi {a : Array Value} {r : Int32} (run : va_Run5 p l e R s m args below meth c H locs cells slots mc ms (F0 m pc ls st0) rest (QI D r W' (va_A wc H.size) a) (va_A wc H.size)) (hP : va_P D vwCl ws H) (hD : va_D A ws) (hS : va_S A s.heap H locs) (hA : ∀ q, s.heap.size ≤ q → A q) (hC : isC.map (fun i => ws[i]?) = wc.map some) (hR : isR.map (fun i => ws[i]?) = wr.map some) (hnR : va_nd isR = true) (hdis : ∀ i ∈ isR, i ∉ isC)
    (kk : ∀ (ad : Nat → Nat) (H1 : Heap) (locs1 : List Loc), va_P D vwCl (wr ++ W' ad) H1 → va_D A (wr ++ W' ad) → va_S A s.heap H1 locs1 → W p l e R s m args below meth c H1 locs1 (cells + mc) (slots + ms) Q (F0 m (pc + 5) ls (.int r :: rest))) : W p l e R s m args below meth c H locs cells slots Q (F0 m pc ls st0) := by
  have hF := va_free hD hS hA isC hC
  refine va_callFi run hS (fun q _ h => hF q h) hF (fun r1 u t H1 locs1 ht hvm hp hB hz hk hS1 => ?_)
  obtain ⟨ad, hP1, hD1⟩ := hB
  rw [ht] at hP1
  obtain ⟨hP2, hD2⟩ := jn hP hD hS hA hC hR hnR hdis hk hP1 hD1
  rw [hp]
  exact kk ad H1 locs1 hP2 hD2 hS1
theorem ca_Fv {a : Array Value} (run : va_Run5 p l e R s m args below meth c H locs cells slots mc ms (F0 m pc ls st0) rest (QV D W' (va_A wc H.size) a) (va_A wc H.size)) (hP : va_P D vwCl ws H) (hD : va_D A ws) (hS : va_S A s.heap H locs) (hA : ∀ q, s.heap.size ≤ q → A q) (hC : isC.map (fun i => ws[i]?) = wc.map some) (hR : isR.map (fun i => ws[i]?) = wr.map some) (hnR : va_nd isR = true) (hdis : ∀ i ∈ isR, i ∉ isC)
    (kk : ∀ (ad : Nat → Nat) (H1 : Heap) (locs1 : List Loc), va_P D vwCl (wr ++ W' ad) H1 → va_D A (wr ++ W' ad) → va_S A s.heap H1 locs1 → W p l e R s m args below meth c H1 locs1 (cells + mc) (slots + ms) Q (F0 m (pc + 5) ls rest)) : W p l e R s m args below meth c H locs cells slots Q (F0 m pc ls st0) := by
  have hF := va_free hD hS hA isC hC
  refine va_callFv run hS (fun q _ h => hF q h) hF (fun u t H1 locs1 ht hvm hp hB hz hk hS1 => ?_)
  obtain ⟨ad, hP1, hD1⟩ := hB
  rw [ht] at hP1
  obtain ⟨hP2, hD2⟩ := jn hP hD hS hA hC hR hnR hdis hk hP1 hD1
  exact kk ad H1 locs1 hP2 hD2 hS1
theorem ca_Fr {a : Array Value} {r : (Nat → Nat) → Nat} (run : va_Run5 p l e R s m args below meth c H locs cells slots mc ms (F0 m pc ls st0) rest (QR D r W' (va_A wc H.size) a) (va_A wc H.size)) (hP : va_P D vwCl ws H) (hD : va_D A ws) (hS : va_S A s.heap H locs) (hA : ∀ q, s.heap.size ≤ q → A q) (hC : isC.map (fun i => ws[i]?) = wc.map some) (hR : isR.map (fun i => ws[i]?) = wr.map some) (hnR : va_nd isR = true) (hdis : ∀ i ∈ isR, i ∉ isC)
    (kk : ∀ (ad : Nat → Nat) (H1 : Heap) (locs1 : List Loc), va_P D vwCl (wr ++ W' ad) H1 → va_D A (wr ++ W' ad) → va_S A s.heap H1 locs1 → W p l e R s m args below meth c H1 locs1 (cells + mc) (slots + ms) Q (F0 m (pc + 5) ls (.ref (r ad) :: rest))) : W p l e R s m args below meth c H locs cells slots Q (F0 m pc ls st0) := by
  have hF := va_free hD hS hA isC hC
  refine va_callFr run hS (fun q _ h => hF q h) hF (fun u ra t H1 locs1 ht hvm hp hB hz hk hS1 => ?_)
  obtain ⟨ad, hra, hP1, hD1⟩ := hB
  rw [ht] at hP1
  obtain ⟨hP2, hD2⟩ := jn hP hD hS hA hC hR hnR hdis hk hP1 hD1
  rw [hra]
  exact kk ad H1 locs1 hP2 hD2 hS1
/-- a callee that throws, not caught here -/
theorem cx_out {E0 : String} {a : Array Value} {Qd : Array Value → State → Outcome → State → Prop} {mc2 ms2 : Nat} (run : vx_Run p l e R s m args below meth c H locs cells slots mc2 ms2 (F0 m pc ls st0) rest (QN a) (XE E0 (va_A wc H.size)) (va_A wc H.size)) (hD : va_D A ws) (hS : va_S A s.heap H locs) (hA : ∀ q, s.heap.size ≤ q → A q) (hC : isC.map (fun i => ws[i]?) = wc.map some)
    (hout : ∀ x ∈ c.exceptionTable.toList, False) (hlk : meth.locks = false) (hc : cells + mc2 ≤ mc) (hs : slots + ms2 ≤ ms) :
    W p l e R s m args below meth c H locs cells slots (vx_MQ below Qd (XE E0 A) args s mc ms A) (F0 m pc ls st0) := by
  have hF := va_free hD hS hA isC hC
  intro T hT X
  rcases run T hT X with ⟨v, st₀, t, T', L, -, -, -, -, -, hq, -⟩ | ⟨q, st₀, t, T', L, E, ce, h0, X', hL, e1, e2, ⟨u, -, hb, hFr⟩, hce, hcv, hcl, st⟩
  · exact absurd hq (fun z => z)
  · obtain ⟨k1, k2, k3⟩ := vx_keep h0 e1 hS (fun q _ h => hF q h) hF hL hFr
    obtain ⟨t2, a1, b1⟩ := vx_out (Qc := Qd) (XC := XE E0 A) (free := A) (mc := mc) (ms := ms) (ls := ls) (rest := rest) (pc := pc) (E := E) (ce := ce) (q := q) (fun x hx => absurd (hout x hx) (fun z => z)) hlk (by rw [e1]; exact hce) hcv hcl (fun t3 ht3 _ => ⟨(), trivial, hb, k3.F ht3⟩) k3.2.2 hc hs T' rfl X'
    exact ⟨t2, st.trans a1, b1⟩
/-- a throw of an exception with a text -/
theorem th_S {is ik ic : Nat} {cls text : String} {mc ms : Nat} {Qd : Array Value → State → Outcome → State → Prop} (hx : p.tables.exec = Jvm.exec) (hb : c.code = cc) (hst : l.stackTraces = false) (hown : s.vm.findClass RX9 = some m.cls) (hts : ∀ w ∈ BT, w.before args s = true) (hE : EV D cy g A s s.heap) (hS : va_S A s.heap H locs) (hl : ls.size = c.maxLocals) (hout : ∀ x ∈ c.exceptionTable.toList, False) (hlk : meth.locks = false)
    (hcls : Bundle.fit cls = true) (hk : Cond.classLink RX9 ik cls ∈ BT) (hi : Cond.initialized cls ∈ BT) (hw : ∀ w ∈ vx_atS RX9 ic cls ["java/lang/RuntimeException", "java/lang/Exception"], w ∈ BT) (htx : (is, text) ∈ bsT)
    (d0 : decode cc pc = .ok (.new ik, 3)) (d3 : decode cc (pc + 3) = .ok (.dup, 1)) (d4 : decode cc (pc + 4) = .ok (.ldc is, 2)) (d6 : decode cc (pc + 6) = .ok (.invokespecial ic, 3)) (d9 : decode cc (pc + 9) = .ok (.athrow, 1))
    (hR : 5 < R.frames ∧ (rest.map fun v => v.category).sum + 82 ≤ R.locals ∧ cells + 1 ≤ R.cells ∧ slots + 6 ≤ R.slots) (hc : cells + 1 ≤ mc) (hs : slots + 6 ≤ ms) :
    W p l e R s m args below meth c H locs cells slots (vx_MQ below Qd (XE cls A) args s mc ms A) (F0 m pc ls rest) := by
  obtain ⟨sa, hsa⟩ := hE.2.2.1.1 _ htx
  have hSG := hE.2.2.2.2.2
  refine vx_throwS (A := A) (text := text) (names := ["java/lang/RuntimeException", "java/lang/Exception"]) (sa := sa) (ik := ik) (is := is) (ic := ic) hx hb hst hown hcls (by decide +kernel) (hts _ hk) (hts _ hi) hsa (fun w h => hts w (hw w h)) ?_ hSG.1 hSG.2.1 hS hl d0 d3 d4 d6 d9 (fun x hx => absurd (hout x hx) (fun z => z)) hR.1 hR.2.1 hR.2.2.1 hR.2.2.2 hlk (fun t _ h1 h2 => ⟨(), trivial, rfl, Nat.le_trans hS.1 h1, fun q h3 h4 => (h2 q (Nat.lt_of_lt_of_le h3 hS.1)).trans (hS.2.1 q h3 h4)⟩) hS.2.2 hc hs
  intro w hw1
  rcases List.mem_cons.mp hw1 with rfl | hw1
  · rfl
  · rcases List.mem_cons.mp hw1 with rfl | hw1
    · rfl
    · have h1 := okw_cases (List.mem_filter.mp (hw w hw1)).2
      unfold vx_ot
      rcases h1 with h1 | h1
      · rw [h1, Bool.or_true]
      · rw [h1.1, Bool.true_or]
/-- the same, the text by a wide index -/
theorem th_SW {is ik ic : Nat} {cls text : String} {mc ms : Nat} {Qd : Array Value → State → Outcome → State → Prop} (hx : p.tables.exec = Jvm.exec) (hb : c.code = cc) (hst : l.stackTraces = false) (hown : s.vm.findClass RX9 = some m.cls) (hts : ∀ w ∈ BT, w.before args s = true) (hE : EV D cy g A s s.heap) (hS : va_S A s.heap H locs) (hl : ls.size = c.maxLocals) (hout : ∀ x ∈ c.exceptionTable.toList, False) (hlk : meth.locks = false)
    (hcls : Bundle.fit cls = true) (hk : Cond.classLink RX9 ik cls ∈ BT) (hi : Cond.initialized cls ∈ BT) (hw : ∀ w ∈ vx_atS RX9 ic cls ["java/lang/RuntimeException", "java/lang/Exception"], w ∈ BT) (htx : (is, text) ∈ bsT)
    (d0 : decode cc pc = .ok (.new ik, 3)) (d3 : decode cc (pc + 3) = .ok (.dup, 1)) (d4 : decode cc (pc + 4) = .ok (.ldc_w is, 3)) (d6 : decode cc (pc + 7) = .ok (.invokespecial ic, 3)) (d9 : decode cc (pc + 10) = .ok (.athrow, 1))
    (hR : 5 < R.frames ∧ (rest.map fun v => v.category).sum + 82 ≤ R.locals ∧ cells + 1 ≤ R.cells ∧ slots + 6 ≤ R.slots) (hc : cells + 1 ≤ mc) (hs : slots + 6 ≤ ms) :
    W p l e R s m args below meth c H locs cells slots (vx_MQ below Qd (XE cls A) args s mc ms A) (F0 m pc ls rest) := by
  obtain ⟨sa, hsa⟩ := hE.2.2.1.1 _ htx
  have hSG := hE.2.2.2.2.2
  refine vx_throwSW (A := A) (text := text) (names := ["java/lang/RuntimeException", "java/lang/Exception"]) (sa := sa) (ik := ik) (is := is) (ic := ic) hx hb hst hown hcls (by decide +kernel) (hts _ hk) (hts _ hi) hsa (fun w h => hts w (hw w h)) ?_ hSG.1 hSG.2.1 hS hl d0 d3 d4 d6 d9 (fun x hx => absurd (hout x hx) (fun z => z)) hR.1 hR.2.1 hR.2.2.1 hR.2.2.2 hlk (fun t _ h1 h2 => ⟨(), trivial, rfl, Nat.le_trans hS.1 h1, fun q h3 h4 => (h2 q (Nat.lt_of_lt_of_le h3 hS.1)).trans (hS.2.1 q h3 h4)⟩) hS.2.2 hc hs
  intro w hw1
  rcases List.mem_cons.mp hw1 with rfl | hw1
  · rfl
  · rcases List.mem_cons.mp hw1 with rfl | hw1
    · rfl
    · have h1 := okw_cases (List.mem_filter.mp (hw w hw1)).2
      unfold vx_ot
      rcases h1 with h1 | h1
      · rw [h1, Bool.or_true]
      · rw [h1.1, Bool.true_or]
end MB

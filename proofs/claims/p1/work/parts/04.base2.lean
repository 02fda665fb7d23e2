/-! ===== order of ints, in all its forms, and through longs ===== -/
theorem fa_lt (a b : Int32) : a < b ↔ a.toInt < b.toInt := Int32.lt_iff_toInt_lt
theorem fa_le (a b : Int32) : a ≤ b ↔ a.toInt ≤ b.toInt := Int32.le_iff_toInt_le
theorem fa_eq (a b : Int32) : a = b ↔ a.toInt = b.toInt := Int32.toInt_inj.symm
theorem fa_lt64 (a b : Int64) : a < b ↔ a.toInt < b.toInt := Int64.lt_iff_toInt_lt
theorem fa_le64 (a b : Int64) : a ≤ b ↔ a.toInt ≤ b.toInt := Int64.le_iff_toInt_le
theorem fa_eq64 (a b : Int64) : a = b ↔ a.toInt = b.toInt := Int64.toInt_inj.symm
/-- a comparison of two ints taken as longs -/
theorem fa_wide_lt (a b : Int32) : a.toInt64 < b.toInt64 ↔ a < b := by rw [fa_lt64, fa_lt, Int32.toInt_toInt64, Int32.toInt_toInt64]
theorem fa_wide_le (a b : Int32) : a.toInt64 ≤ b.toInt64 ↔ a ≤ b := by rw [fa_le64, fa_le, Int32.toInt_toInt64, Int32.toInt_toInt64]
theorem fa_wide_eq (a b : Int32) : a.toInt64 = b.toInt64 ↔ a = b := by rw [fa_eq64, fa_eq, Int32.toInt_toInt64, Int32.toInt_toInt64]
/-- one strict comparison gives all the others -/
theorem fa_of_lt {a b : Int32} (h : a < b) : a ≤ b ∧ ¬ b ≤ a ∧ ¬ b < a ∧ a ≠ b ∧ b ≠ a := by
  rw [fa_lt] at h
  refine ⟨?_, ?_, ?_, ?_, ?_⟩
  · rw [fa_le]; omega
  · rw [fa_le]; omega
  · rw [fa_lt]; omega
  · intro e; rw [fa_eq] at e; omega
  · intro e; rw [fa_eq] at e; omega
theorem fa_of_nlt {a b : Int32} (h : ¬ a < b) : b ≤ a := by
  rw [fa_lt] at h
  rw [fa_le]
  omega
theorem fa_of_nle {a b : Int32} (h : ¬ a ≤ b) : b < a := by
  rw [fa_le] at h
  rw [fa_lt]
  omega
theorem fa_le_ne {a b : Int32} (h : a ≤ b) (h2 : a ≠ b) : a < b := by
  rw [fa_le] at h
  rw [fa_lt]
  have h3 : a.toInt ≠ b.toInt := fun e => h2 ((fa_eq a b).mpr e)
  omega
theorem fa_three (a b : Int32) : a < b ∨ a = b ∨ b < a := by
  rw [fa_lt, fa_lt, fa_eq]
  omega
theorem fa_trans {a b c : Int32} (h : a < b) (h2 : b ≤ c) : a < c := by
  rw [fa_lt] at *
  rw [fa_le] at h2
  omega
/-! ===== numbers in short ===== -/
theorem wl_lt {a b : Int32} {X Y : Int64} (hX : a.toInt64 = X) (hY : b.toInt64 = Y) (h : a < b) : X < Y := by
  rw [← hX, ← hY, fa_wide_lt]; exact h
theorem wl_nlt {a b : Int32} {X Y : Int64} (hX : a.toInt64 = X) (hY : b.toInt64 = Y) (h : ¬ a < b) : ¬ X < Y := by
  rw [← hX, ← hY, fa_wide_lt]; exact h
theorem wl_eq {a b : Int32} {X Y : Int64} (hX : a.toInt64 = X) (hY : b.toInt64 = Y) (h : a = b) : X = Y := by
  rw [← hX, ← hY, h]
theorem wl_neq {a b : Int32} {X Y : Int64} (hX : a.toInt64 = X) (hY : b.toInt64 = Y) (h : ¬ a = b) : ¬ X = Y := by
  rw [← hX, ← hY, fa_wide_eq]; exact h
theorem nlt64 {a b : Int64} (h : ¬ a < b) : b ≤ a := by
  rw [fa_lt64] at h
  rw [fa_le64]
  omega
theorem lt64n {a b : Int64} (h : a < b) : ¬ b ≤ a := by
  rw [fa_lt64] at h
  rw [fa_le64]
  omega
section MB2
variable {p : Program} {l : Launch} {e : Env} {R : Room} {s : State} {m : MethodId} {args : Array Value} {below : List Frame} {meth : Method} {c : Code} {H : Heap} {locs : List Loc} {cells slots : Nat} {Q : State → Prop}
variable {cc : ByteArray} {pc nL : Nat} {ls : Array Slot} {rest st0 As : List Value} {D : va_G} {cy : Nat → ClassId} {g : Nat → Nat} {A : Nat → Prop} {ws wc wr : va_W} {isC isR : List Nat}
variable {y : MethodName} {own C : String} {index n maxL mc ms : Nat} {bytes : ByteArray} {ret : Option FieldType} {rm : Room} {Qc : Array Value → State → Outcome → State → Prop}
theorem ra_same {s : State} {c1 c2 : ClassId} {ty : FieldType} (h1 : va_RA s c1 ty) (h2 : va_RA s c2 ty) : c1 = c2 := by
  cases ty with
  | object C =>
    obtain ⟨-, -, -, -, -, h3⟩ := h1
    obtain ⟨-, -, -, -, -, h4⟩ := h2
    exact Option.some.inj (h3.symm.trans h4)
  | _ => exact Option.some.inj (Eq.trans (Eq.symm h1) h2)
/-- a new array of numbers -/
theorem nw_p {atype : ArrayType} {ty : FieldType} {cA : ClassId} {a0 : vp_A} (t0 : Nat) {N' : Nat} (hx : p.tables.exec = Jvm.exec) (hb : c.code = cc) (hty : newarray.typeOf atype = ty) (hts : ∀ w ∈ BT, w.before args s = true) (hw : Cond.arrayClass ty ∈ BT) (hE : EV D cy g A s s.heap) (ht : (TYS cy)[t0]? = some (cA, ty)) (hP : va_P D vwCl ws H) (hD : va_D A ws) (hS : va_S A s.heap H locs) (hA : ∀ q, s.heap.size ≤ q → A q)
    (ha : ∀ cA : ClassId, vp_cell cA a0 = arrV cA N' (fun _ => defaultValue ty)) {n : Int32} (hn : ¬ n < 0) (hN : n.toNatClampNeg = N') (hby : N' * componentBytes ty ≤ 536870912) (hcells : cells + 1 ≤ R.cells) (hslots : slots + N' ≤ R.slots) (hdg : decode cc pc = .ok (.newarray atype, 2))
    (kk : ∀ (q : Nat) (H1 : Heap), va_P D vwCl (ws ++ [(q, .inl (cA, a0))]) H1 → va_D A (ws ++ [(q, .inl (cA, a0))]) → va_S A s.heap H1 locs → W p l e R s m args below meth c H1 locs (cells + 1) (slots + N') Q (F0 m (pc + 2) ls (.ref q :: rest))) : W p l e R s m args below meth c H locs cells slots Q (F0 m pc ls (.int n :: rest)) := by
  refine va_newa (N' := N') (a0 := a0) hx hb (by rw [hty]; exact hts _ hw) hty hE.1 hP hD hS hA ha hn hN hby hcells hslots hdg (fun q c1 H1 hK1 hP1 hD1 hS1 => ?_)
  have h1 : va_RA s c1 ty := (hK1.2 (TYS cy).length (c1, ty) (by rw [List.getElem?_append_right (Nat.le_refl _), Nat.sub_self]; rfl)).2
  cases ra_same h1 (hE.1.2 t0 _ ht).2
  exact kk q H1 hP1 hD1 hS1
theorem nw_q {C : String} {cA : ClassId} (t0 : Nat) {N' : Nat} (hx : p.tables.exec = Jvm.exec) (hb : c.code = cc) (hown : s.vm.findClass own = some m.cls) (hcl : (Cond.classLink own index C).before args s = true) (hov : va_AO C s) (hE : EV D cy g A s s.heap) (ht : (TYS cy)[t0]? = some (cA, .object C)) (hP : va_P D vwCl ws H) (hD : va_D A ws) (hS : va_S A s.heap H locs) (hA : ∀ q, s.heap.size ≤ q → A q)
    {n : Int32} (hn : ¬ n < 0) (hN : n.toNatClampNeg = N') (hby : N' * 4 ≤ 536870912) (hcells : cells + 1 ≤ R.cells) (hslots : slots + N' ≤ R.slots) (hdg : decode cc pc = .ok (.anewarray index, 3))
    (kk : ∀ (q : Nat) (H1 : Heap), va_P D vwCl (ws ++ [(q, .inl (cA, N', .inr (.inr (.inr (.inr (fun _ => none))))))]) H1 → va_D A (ws ++ [(q, .inl (cA, N', .inr (.inr (.inr (.inr (fun _ => none))))))]) → va_S A s.heap H1 locs → W p l e R s m args below meth c H1 locs (cells + 1) (slots + N') Q (F0 m (pc + 3) ls (.ref q :: rest))) : W p l e R s m args below meth c H locs cells slots Q (F0 m pc ls (.int n :: rest)) := by
  refine va_newq (N' := N') hx hb hown hcl hov hE.1 hP hD hS hA hn hN hby hcells hslots hdg (fun q c1 H1 hK1 hP1 hD1 hS1 => ?_)
  have h1 : va_RA s c1 (.object C) := (hK1.2 (TYS cy).length (c1, .object C) (by rw [List.getElem?_append_right (Nat.le_refl _), Nat.sub_self]; rfl)).2
  cases ra_same h1 (hE.1.2 t0 _ ht).2
  exact kk q H1 hP1 hD1 hS1
/-- an array of ints may lie in a row of objects -/
theorem any_ia {v k : Nat} {f : Nat → Int32} (hE : EV D cy g A s s.heap) (hP : va_P D vwCl ws H) (hts : ∀ w ∈ BT, w.before args s = true) (qk : Nat) (hv : ws[qk]? = some (v, .inl (cy 1, k, .inl f))) (hw : Cond.castable "[I" "java/lang/Object" ∈ BT) : va_Any "java/lang/Object" s H v := by
  have h1 : H[v]? = some (vp_cell (cy 1) (k, .inl f)) := hP qk _ hv
  have h2 : s.vm.findClass ("[" ++ FieldType.int.toString) = some (cy 1) := (hE.1.2 1 (cy 1, .int) rfl).2
  obtain ⟨c1, t1, h3, h4, h5⟩ := Cond.castable_spec (hts _ hw)
  have h6 : c1 = cy 1 := Option.some.inj (h3.symm.trans h2)
  subst h6
  obtain ⟨kC, hkC, -⟩ := Vm.findClass_spec h3
  exact ⟨_, h1, rfl, ⟨kC, hkC⟩, fun comp hc => by
    cases Option.some.inj (hc.symm.trans h4)
    exact h5⟩
/-- a call of a text's method -/
theorem rn_VS {i : Nat} (hx : p.tables.exec = Jvm.exec) (hb : c.code = cc) (hml : c.maxLocals = nL) (hown : s.vm.findClass own = some m.cls) (hts : ∀ w ∈ BT, w.before args s = true) (hE : EV D cy g A s s.heap) (hS : va_S A s.heap H locs) (hP : va_P D vwCl ws H) (hD : va_D A ws) (hA : ∀ q, s.heap.size ≤ q → A q) (hl : ls.size = nL)
    (hM : Met l y [.code y bytes maxL ret] rm (PC D cy g wc H.size (.ref (g (i + 1)) :: As)) Qc mc ms (va_A wc H.size)) (hn : va_nd isC = true) (hC : isC.map (fun i => ws[i]?) = wc.map some) (hi : i < 2) (hqC : "java/lang/String" = C)
    (hg : GoodIn BT (wsV own index C y [.code y bytes maxL ret])) (hrc : rm.cells = mc) (hrs : rm.slots = ms) (hd : y.cls = C ∧ y.cls ≠ "java/lang/invoke/MethodHandle" ∧ y.cls ≠ "java/lang/invoke/VarHandle" ∧ (parseMethodDescriptor y.desc).map (fun d => d.parameters.length) = some n) (hR : rm.frames + 1 ≤ R.frames ∧ 8 + (maxL + 11) + rm.locals ≤ R.locals)
    (hAn : As.length = n) (hst : st0 = As.reverse ++ .ref (g (i + 1)) :: rest) (hw : (rest.map fun v => v.category).sum ≤ 8) (hdg : decode cc pc = .ok (.invokevirtual index, 3)) (hf : cells + mc ≤ R.cells ∧ slots + ms ≤ R.slots) :
    va_Run p l e R s m args below meth c H locs cells slots mc ms (F0 m pc ls st0) rest (Qc (Value.ref (g (i + 1)) :: As).toArray) (va_A wc H.size) :=
  va_runV ⟨hx, hb, hml, hown, hts⟩ hM (cwV n hts hg rfl hrc hrs hd hR) ⟨PC_blind, by rw [← hqC]; exact vk_recv (adK := fun i => g (i + 1)) (i := i) hE.2.2.2.2.2.2.2.2.2.2 hi hS, pc_at hE hS hP hD hA hn hC (.ref (g (i + 1)) :: As)⟩ rfl hAn hl hst (lv_room (pc := pc) (ls := ls) (rest := st0) hw) hdg hf
theorem rn_SN {host : String} (hx : p.tables.exec = Jvm.exec) (hb : c.code = cc) (hml : c.maxLocals = nL) (hown : s.vm.findClass own = some m.cls) (hts : ∀ w ∈ BT, w.before args s = true) (hE : EV D cy g A s s.heap) (hS : va_S A s.heap H locs) (hP : va_P D vwCl ws H) (hD : va_D A ws) (hA : ∀ q, s.heap.size ≤ q → A q) (hl : ls.size = nL)
    (hM : Met l y [.code y bytes maxL ret] rm (PC D cy g wc H.size As) Qc mc ms (va_A wc H.size)) (hn : va_nd isC = true) (hC : isC.map (fun i => ws[i]?) = wc.map some)
    (m1 : Cond.methodLinkNest own index y host ∈ BT) (m2 : Cond.static y ∈ BT) (m3 : Cond.initialized y.cls ∈ BT) (m4 : Cond.code y bytes maxL ret ∈ BT) (hrc : rm.cells = mc) (hrs : rm.slots = ms) (hd : y.cls ≠ "java/lang/invoke/MethodHandle" ∧ y.cls ≠ "java/lang/invoke/VarHandle" ∧ (parseMethodDescriptor y.desc).map (fun d => d.parameters.length) = some n) (hR : rm.frames + 1 ≤ R.frames ∧ 8 + (maxL + 11) + rm.locals ≤ R.locals)
    (hAn : As.length = n) (hst : st0 = As.reverse ++ rest) (hw : (rest.map fun v => v.category).sum ≤ 8) (hdg : decode cc pc = .ok (.invokestatic index, 3)) (hf : cells + mc ≤ R.cells ∧ slots + ms ≤ R.slots) :
    va_Run p l e R s m args below meth c H locs cells slots mc ms (F0 m pc ls st0) rest (Qc As.toArray) (va_A wc H.size) :=
  va_runSN ⟨hx, hb, hml, hown, hts⟩ hM ⟨va_cnB n hts (gi_1 m4) rfl hrc hrs (va_Nw.of rfl (hts _ m1)) (hts _ m3) hd hR, hts _ m2, trivial⟩ ⟨PC_blind, pc_at hE hS hP hD hA hn hC As⟩ rfl hAn hl hst (lv_room (pc := pc) (ls := ls) (rest := st0) hw) hdg hf
/-- a callee that throws, caught by a row of this method's table -/
theorem cx_catch {E0 name : String} {a : Array Value} {mc2 ms2 : Nat} {hh hp hq : List (Nat × Nat × Nat × Nat)} {z : Nat × Nat × Nat × Nat} (run : vx_Run p l e R s m args below meth c H locs cells slots mc2 ms2 (F0 m pc ls st0) rest (QN a) (XE E0 (va_A wc H.size)) (va_A wc H.size)) (hP : va_P D vwCl ws H) (hD : va_D A ws) (hS : va_S A s.heap H locs) (hA : ∀ q, s.heap.size ≤ q → A q) (hown : s.vm.findClass own = some m.cls) (hts : ∀ w ∈ BT, w.before args s = true) (hE : EV D cy g A s s.heap) (htb : c.exceptionTable.toList = tableOf hh)
    (hC : isC.map (fun i => ws[i]?) = wc.map some) (hR : isR.map (fun i => ws[i]?) = wr.map some) (hnR : va_nd isR = true) (hhe : hh = hp ++ z :: hq) (hdis : ∀ i ∈ isR, i ∉ isC) (hpass : ∀ z ∈ hp, z.2.2.2 ≠ 0 ∧ ∃ nm : String, Cond.classLink own z.2.2.2 nm ∈ BT ∧ (E0, nm) ∈ ncT)
    (hcov : covers ⟨z.1, z.2.1, z.2.2.1, z.2.2.2⟩ pc = true) (h0 : z.2.2.2 ≠ 0) (hlink : Cond.classLink own z.2.2.2 name ∈ BT) (hcast : Cond.castable E0 name ∈ BT)
    (kk : ∀ (q : Nat) (H1 : Heap) (locs1 : List Loc), va_P D vwCl wr H1 → va_D A wr → va_S A s.heap H1 locs1 → W p l e R s m args below meth c H1 locs1 (cells + mc2) (slots + ms2) Q (F0 m z.2.2.1 ls [.ref q])) :
    W p l e R s m args below meth c H locs cells slots Q (F0 m pc ls st0) := by
  have hF := va_free hD hS hA isC hC
  intro T hT X
  rcases run T hT X with ⟨v, st₀, t, T', L, -, -, -, -, -, hq1, -⟩ | ⟨q, st₀, t, T', L, E, ce, h0', X', hL, e1, e2, ⟨u, -, hb, hFr⟩, hce, hcv, hcl, st⟩
  · exact absurd hq1 (fun z => z)
  · obtain ⟨k1, k2, k3⟩ := vx_keep h0' e1 hS (fun q _ h => hF q h) hF hL hFr
    subst hb
    obtain ⟨hP2, hD2⟩ := jn (w1 := []) hP hD hS hA hC hR hnR hdis k2 (fun k q h => by simp at h) ⟨fun i j p q h => by simp at h, fun k q h => by simp at h⟩
    rw [List.append_nil] at hP2 hD2
    have hsplit : c.exceptionTable.toList = tableOf hp ++ (⟨z.1, z.2.1, z.2.2.1, z.2.2.2⟩ : ExceptionTableEntry) :: tableOf hq := by
      rw [htb, hhe]; simp [tableOf]
    obtain ⟨t2, a1, b1⟩ := vx_catch (H := T'.heap) (locs := locs ++ L) (cells := cells + mc2) (slots := slots + ms2) (Q := Q) (ls := ls) (rest := rest) (pc := pc) (E := E) (ce := ce) (q := q) (name := name) (own := own) hown (tableOf hp) _ (tableOf hq) hsplit (fun w hw => by
        obtain ⟨z1, hz1, rfl⟩ := List.mem_map.mp hw
        obtain ⟨g1, nm, g2, g3⟩ := hpass z1 hz1
        exact Or.inr ⟨g1, nm, hts _ g2, hE.2.2.2.1 _ g3⟩) hcov h0 (hts _ hlink) (hts _ hcast) (by rw [e1]; exact hce) hcv hcl (kk q T'.heap (locs ++ L) hP2 hD2 k3) T' rfl X'
    exact ⟨t2, st.trans a1, b1⟩
/-- beginnings by the kind of the answer -/
theorem st_I {W' : (Nat → Nat) → va_W} {r : Int32} {av : List Value} {sz : Nat} (hy : plainName y.cls = true) (hlen : (lg_sl av).length ≤ maxL)
    (body : (∀ (p : Program) (e : Env) (s : State) (m : MethodId) (args : Array Value) (below : List Frame) (meth : Method) (c : Code) (A : Nat → Prop) (ls : Array Slot), p.tables.exec = Jvm.exec → c.code = cc → meth.sig.returnType = ret → c.maxLocals = maxL → s.vm.findClass y.cls = some m.cls → meth.locks = false → meth.name = y.name → s.heap.size = sz →
      va_P D vwCl ws s.heap → va_D A ws → (∀ q, s.heap.size ≤ q → A q) → EV D cy g A s s.heap → (∀ w ∈ BT, w.before args s = true) → va_S A s.heap s.heap [] → lv_has ls maxL (lv_args 0 av) →
      W p l e rm s m args below meth c s.heap [] 0 0 (MQ below (QI D r W' A) args s mc ms A) (F0 m 0 ls []))) :
    Met l y [.code y cc maxL ret] rm (PC D cy g ws sz av) (QI D r W' (va_A ws sz)) mc ms (va_A ws sz) := st_i (QA := fun A => QI D r W' A) hy hlen body
theorem sh_I {W' : (Nat → Nat) → va_W} {r : Int32} {av : List Value} {sz : Nat} {hh : List (Nat × Nat × Nat × Nat)} (hy : plainName y.cls = true) (hlen : (lg_sl av).length ≤ maxL)
    (body : (∀ (p : Program) (e : Env) (s : State) (m : MethodId) (args : Array Value) (below : List Frame) (meth : Method) (c : Code) (A : Nat → Prop) (ls : Array Slot), p.tables.exec = Jvm.exec → c.code = cc → meth.sig.returnType = ret → c.maxLocals = maxL → s.vm.findClass y.cls = some m.cls → meth.locks = false → meth.name = y.name → s.heap.size = sz →
      va_P D vwCl ws s.heap → va_D A ws → (∀ q, s.heap.size ≤ q → A q) → EV D cy g A s s.heap → (∀ w ∈ BT, w.before args s = true) → va_S A s.heap s.heap [] → lv_has ls maxL (lv_args 0 av) → c.exceptionTable.toList = tableOf hh →
      W p l e rm s m args below meth c s.heap [] 0 0 (MQ below (QI D r W' A) args s mc ms A) (F0 m 0 ls []))) :
    Met l y [.codeWith y cc maxL ret hh] rm (PC D cy g ws sz av) (QI D r W' (va_A ws sz)) mc ms (va_A ws sz) := st_h (QA := fun A => QI D r W' A) hy hlen body
theorem st_L {W' : (Nat → Nat) → va_W} {r : Int64} {av : List Value} {sz : Nat} (hy : plainName y.cls = true) (hlen : (lg_sl av).length ≤ maxL)
    (body : (∀ (p : Program) (e : Env) (s : State) (m : MethodId) (args : Array Value) (below : List Frame) (meth : Method) (c : Code) (A : Nat → Prop) (ls : Array Slot), p.tables.exec = Jvm.exec → c.code = cc → meth.sig.returnType = ret → c.maxLocals = maxL → s.vm.findClass y.cls = some m.cls → meth.locks = false → meth.name = y.name → s.heap.size = sz →
      va_P D vwCl ws s.heap → va_D A ws → (∀ q, s.heap.size ≤ q → A q) → EV D cy g A s s.heap → (∀ w ∈ BT, w.before args s = true) → va_S A s.heap s.heap [] → lv_has ls maxL (lv_args 0 av) →
      W p l e rm s m args below meth c s.heap [] 0 0 (MQ below (QL D r W' A) args s mc ms A) (F0 m 0 ls []))) :
    Met l y [.code y cc maxL ret] rm (PC D cy g ws sz av) (QL D r W' (va_A ws sz)) mc ms (va_A ws sz) := st_i (QA := fun A => QL D r W' A) hy hlen body
theorem sh_L {W' : (Nat → Nat) → va_W} {r : Int64} {av : List Value} {sz : Nat} {hh : List (Nat × Nat × Nat × Nat)} (hy : plainName y.cls = true) (hlen : (lg_sl av).length ≤ maxL)
    (body : (∀ (p : Program) (e : Env) (s : State) (m : MethodId) (args : Array Value) (below : List Frame) (meth : Method) (c : Code) (A : Nat → Prop) (ls : Array Slot), p.tables.exec = Jvm.exec → c.code = cc → meth.sig.returnType = ret → c.maxLocals = maxL → s.vm.findClass y.cls = some m.cls → meth.locks = false → meth.name = y.name → s.heap.size = sz →
      va_P D vwCl ws s.heap → va_D A ws → (∀ q, s.heap.size ≤ q → A q) → EV D cy g A s s.heap → (∀ w ∈ BT, w.before args s = true) → va_S A s.heap s.heap [] → lv_has ls maxL (lv_args 0 av) → c.exceptionTable.toList = tableOf hh →
      W p l e rm s m args below meth c s.heap [] 0 0 (MQ below (QL D r W' A) args s mc ms A) (F0 m 0 ls []))) :
    Met l y [.codeWith y cc maxL ret hh] rm (PC D cy g ws sz av) (QL D r W' (va_A ws sz)) mc ms (va_A ws sz) := st_h (QA := fun A => QL D r W' A) hy hlen body
theorem st_F {W' : (Nat → Nat) → va_W} {r : UInt32} {av : List Value} {sz : Nat} (hy : plainName y.cls = true) (hlen : (lg_sl av).length ≤ maxL)
    (body : (∀ (p : Program) (e : Env) (s : State) (m : MethodId) (args : Array Value) (below : List Frame) (meth : Method) (c : Code) (A : Nat → Prop) (ls : Array Slot), p.tables.exec = Jvm.exec → c.code = cc → meth.sig.returnType = ret → c.maxLocals = maxL → s.vm.findClass y.cls = some m.cls → meth.locks = false → meth.name = y.name → s.heap.size = sz →
      va_P D vwCl ws s.heap → va_D A ws → (∀ q, s.heap.size ≤ q → A q) → EV D cy g A s s.heap → (∀ w ∈ BT, w.before args s = true) → va_S A s.heap s.heap [] → lv_has ls maxL (lv_args 0 av) →
      W p l e rm s m args below meth c s.heap [] 0 0 (MQ below (QF D r W' A) args s mc ms A) (F0 m 0 ls []))) :
    Met l y [.code y cc maxL ret] rm (PC D cy g ws sz av) (QF D r W' (va_A ws sz)) mc ms (va_A ws sz) := st_i (QA := fun A => QF D r W' A) hy hlen body
theorem sh_F {W' : (Nat → Nat) → va_W} {r : UInt32} {av : List Value} {sz : Nat} {hh : List (Nat × Nat × Nat × Nat)} (hy : plainName y.cls = true) (hlen : (lg_sl av).length ≤ maxL)
    (body : (∀ (p : Program) (e : Env) (s : State) (m : MethodId) (args : Array Value) (below : List Frame) (meth : Method) (c : Code) (A : Nat → Prop) (ls : Array Slot), p.tables.exec = Jvm.exec → c.code = cc → meth.sig.returnType = ret → c.maxLocals = maxL → s.vm.findClass y.cls = some m.cls → meth.locks = false → meth.name = y.name → s.heap.size = sz →
      va_P D vwCl ws s.heap → va_D A ws → (∀ q, s.heap.size ≤ q → A q) → EV D cy g A s s.heap → (∀ w ∈ BT, w.before args s = true) → va_S A s.heap s.heap [] → lv_has ls maxL (lv_args 0 av) → c.exceptionTable.toList = tableOf hh →
      W p l e rm s m args below meth c s.heap [] 0 0 (MQ below (QF D r W' A) args s mc ms A) (F0 m 0 ls []))) :
    Met l y [.codeWith y cc maxL ret hh] rm (PC D cy g ws sz av) (QF D r W' (va_A ws sz)) mc ms (va_A ws sz) := st_h (QA := fun A => QF D r W' A) hy hlen body
theorem st_D {W' : (Nat → Nat) → va_W} {r : UInt64} {av : List Value} {sz : Nat} (hy : plainName y.cls = true) (hlen : (lg_sl av).length ≤ maxL)
    (body : (∀ (p : Program) (e : Env) (s : State) (m : MethodId) (args : Array Value) (below : List Frame) (meth : Method) (c : Code) (A : Nat → Prop) (ls : Array Slot), p.tables.exec = Jvm.exec → c.code = cc → meth.sig.returnType = ret → c.maxLocals = maxL → s.vm.findClass y.cls = some m.cls → meth.locks = false → meth.name = y.name → s.heap.size = sz →
      va_P D vwCl ws s.heap → va_D A ws → (∀ q, s.heap.size ≤ q → A q) → EV D cy g A s s.heap → (∀ w ∈ BT, w.before args s = true) → va_S A s.heap s.heap [] → lv_has ls maxL (lv_args 0 av) →
      W p l e rm s m args below meth c s.heap [] 0 0 (MQ below (QD D r W' A) args s mc ms A) (F0 m 0 ls []))) :
    Met l y [.code y cc maxL ret] rm (PC D cy g ws sz av) (QD D r W' (va_A ws sz)) mc ms (va_A ws sz) := st_i (QA := fun A => QD D r W' A) hy hlen body
theorem sh_D {W' : (Nat → Nat) → va_W} {r : UInt64} {av : List Value} {sz : Nat} {hh : List (Nat × Nat × Nat × Nat)} (hy : plainName y.cls = true) (hlen : (lg_sl av).length ≤ maxL)
    (body : (∀ (p : Program) (e : Env) (s : State) (m : MethodId) (args : Array Value) (below : List Frame) (meth : Method) (c : Code) (A : Nat → Prop) (ls : Array Slot), p.tables.exec = Jvm.exec → c.code = cc → meth.sig.returnType = ret → c.maxLocals = maxL → s.vm.findClass y.cls = some m.cls → meth.locks = false → meth.name = y.name → s.heap.size = sz →
      va_P D vwCl ws s.heap → va_D A ws → (∀ q, s.heap.size ≤ q → A q) → EV D cy g A s s.heap → (∀ w ∈ BT, w.before args s = true) → va_S A s.heap s.heap [] → lv_has ls maxL (lv_args 0 av) → c.exceptionTable.toList = tableOf hh →
      W p l e rm s m args below meth c s.heap [] 0 0 (MQ below (QD D r W' A) args s mc ms A) (F0 m 0 ls []))) :
    Met l y [.codeWith y cc maxL ret hh] rm (PC D cy g ws sz av) (QD D r W' (va_A ws sz)) mc ms (va_A ws sz) := st_h (QA := fun A => QD D r W' A) hy hlen body
theorem st_V {W' : (Nat → Nat) → va_W} {av : List Value} {sz : Nat} (hy : plainName y.cls = true) (hlen : (lg_sl av).length ≤ maxL)
    (body : (∀ (p : Program) (e : Env) (s : State) (m : MethodId) (args : Array Value) (below : List Frame) (meth : Method) (c : Code) (A : Nat → Prop) (ls : Array Slot), p.tables.exec = Jvm.exec → c.code = cc → meth.sig.returnType = ret → c.maxLocals = maxL → s.vm.findClass y.cls = some m.cls → meth.locks = false → meth.name = y.name → s.heap.size = sz →
      va_P D vwCl ws s.heap → va_D A ws → (∀ q, s.heap.size ≤ q → A q) → EV D cy g A s s.heap → (∀ w ∈ BT, w.before args s = true) → va_S A s.heap s.heap [] → lv_has ls maxL (lv_args 0 av) →
      W p l e rm s m args below meth c s.heap [] 0 0 (MQ below (QV D W' A) args s mc ms A) (F0 m 0 ls []))) :
    Met l y [.code y cc maxL ret] rm (PC D cy g ws sz av) (QV D W' (va_A ws sz)) mc ms (va_A ws sz) := st_i (QA := fun A => QV D W' A) hy hlen body
theorem sh_V {W' : (Nat → Nat) → va_W} {av : List Value} {sz : Nat} {hh : List (Nat × Nat × Nat × Nat)} (hy : plainName y.cls = true) (hlen : (lg_sl av).length ≤ maxL)
    (body : (∀ (p : Program) (e : Env) (s : State) (m : MethodId) (args : Array Value) (below : List Frame) (meth : Method) (c : Code) (A : Nat → Prop) (ls : Array Slot), p.tables.exec = Jvm.exec → c.code = cc → meth.sig.returnType = ret → c.maxLocals = maxL → s.vm.findClass y.cls = some m.cls → meth.locks = false → meth.name = y.name → s.heap.size = sz →
      va_P D vwCl ws s.heap → va_D A ws → (∀ q, s.heap.size ≤ q → A q) → EV D cy g A s s.heap → (∀ w ∈ BT, w.before args s = true) → va_S A s.heap s.heap [] → lv_has ls maxL (lv_args 0 av) → c.exceptionTable.toList = tableOf hh →
      W p l e rm s m args below meth c s.heap [] 0 0 (MQ below (QV D W' A) args s mc ms A) (F0 m 0 ls []))) :
    Met l y [.codeWith y cc maxL ret hh] rm (PC D cy g ws sz av) (QV D W' (va_A ws sz)) mc ms (va_A ws sz) := st_h (QA := fun A => QV D W' A) hy hlen body
theorem st_R {W' : (Nat → Nat) → va_W} {r : (Nat → Nat) → Nat} {av : List Value} {sz : Nat} (hy : plainName y.cls = true) (hlen : (lg_sl av).length ≤ maxL)
    (body : (∀ (p : Program) (e : Env) (s : State) (m : MethodId) (args : Array Value) (below : List Frame) (meth : Method) (c : Code) (A : Nat → Prop) (ls : Array Slot), p.tables.exec = Jvm.exec → c.code = cc → meth.sig.returnType = ret → c.maxLocals = maxL → s.vm.findClass y.cls = some m.cls → meth.locks = false → meth.name = y.name → s.heap.size = sz →
      va_P D vwCl ws s.heap → va_D A ws → (∀ q, s.heap.size ≤ q → A q) → EV D cy g A s s.heap → (∀ w ∈ BT, w.before args s = true) → va_S A s.heap s.heap [] → lv_has ls maxL (lv_args 0 av) →
      W p l e rm s m args below meth c s.heap [] 0 0 (MQ below (QR D r W' A) args s mc ms A) (F0 m 0 ls []))) :
    Met l y [.code y cc maxL ret] rm (PC D cy g ws sz av) (QR D r W' (va_A ws sz)) mc ms (va_A ws sz) := st_i (QA := fun A => QR D r W' A) hy hlen body
theorem sh_R {W' : (Nat → Nat) → va_W} {r : (Nat → Nat) → Nat} {av : List Value} {sz : Nat} {hh : List (Nat × Nat × Nat × Nat)} (hy : plainName y.cls = true) (hlen : (lg_sl av).length ≤ maxL)
    (body : (∀ (p : Program) (e : Env) (s : State) (m : MethodId) (args : Array Value) (below : List Frame) (meth : Method) (c : Code) (A : Nat → Prop) (ls : Array Slot), p.tables.exec = Jvm.exec → c.code = cc → meth.sig.returnType = ret → c.maxLocals = maxL → s.vm.findClass y.cls = some m.cls → meth.locks = false → meth.name = y.name → s.heap.size = sz →
      va_P D vwCl ws s.heap → va_D A ws → (∀ q, s.heap.size ≤ q → A q) → EV D cy g A s s.heap → (∀ w ∈ BT, w.before args s = true) → va_S A s.heap s.heap [] → lv_has ls maxL (lv_args 0 av) → c.exceptionTable.toList = tableOf hh →
      W p l e rm s m args below meth c s.heap [] 0 0 (MQ below (QR D r W' A) args s mc ms A) (F0 m 0 ls []))) :
    Met l y [.codeWith y cc maxL ret hh] rm (PC D cy g ws sz av) (QR D r W' (va_A ws sz)) mc ms (va_A ws sz) := st_h (QA := fun A => QR D r W' A) hy hlen body
theorem st_X {E0 : String} {av : List Value} {sz : Nat} (hy : plainName y.cls = true) (hlen : (lg_sl av).length ≤ maxL)
    (body : (∀ (p : Program) (e : Env) (s : State) (m : MethodId) (args : Array Value) (below : List Frame) (meth : Method) (c : Code) (A : Nat → Prop) (ls : Array Slot), p.tables.exec = Jvm.exec → c.code = cc → meth.sig.returnType = ret → c.maxLocals = maxL → s.vm.findClass y.cls = some m.cls → meth.locks = false → meth.name = y.name → s.heap.size = sz →
      va_P D vwCl ws s.heap → va_D A ws → (∀ q, s.heap.size ≤ q → A q) → EV D cy g A s s.heap → (∀ w ∈ BT, w.before args s = true) → va_S A s.heap s.heap [] → lv_has ls maxL (lv_args 0 av) → (∀ x ∈ c.exceptionTable.toList, False) →
      W p l e rm s m args below meth c s.heap [] 0 0 (vx_MQ below QN (XE E0 A) args s mc ms A) (F0 m 0 ls []))) :
    vx_Met l y [.code y cc maxL ret] rm (PC D cy g ws sz av) QN (XE E0 (va_A ws sz)) mc ms (va_A ws sz) := st_x (XA := fun A => XE E0 A) hy hlen body
end MB2
/-! ===== the law's own ground ===== -/
abbrev AL (s : State) : Nat → Prop := fun q => s.heap.size ≤ q
def LCtx (p : Program) (s : State) (m : MethodId) (meth : Method) (c : Code) (b : Nat) (xs : Nat → Int32) (D : va_G) (cy : Nat → ClassId) (g : Nat → Nat) : Prop :=
  p.tables.exec = Jvm.exec ∧ c.code = code ∧ meth.sig.returnType = ret ∧ c.maxLocals = 9 ∧ s.vm.findClass RL = some m.cls ∧ meth.locks = false ∧ (∀ w ∈ BT, w.before #[Value.ref b] s = true) ∧ EV D cy g (AL s) s s.heap ∧ va_X b 5 xs s s.heap ∧ b < s.heap.size
theorem i2b_ne {v k : Int32} (hd : ∀ j : Nat, j < 256 → (nI j).toInt8.toInt32 = k → nI j = k) (h1 : ¬ v < 0) (h2 : ¬ (255 : Int32) < v) (h3 : ¬ v = k) : ¬ v.toInt8.toInt32 = k := by
  obtain ⟨j, hj, rfl⟩ := nI_of2 (M := 255) (n := 255) (by decide) h1 (fa_of_nlt h2)
  exact fun h => h3 (hd j (by omega) h)
theorem tb_1 {w : Cond} (h : w ∈ tables_1_1) : w ∈ tables_1 := List.mem_append_left _ h
theorem tb_2 {w : Cond} (h : w ∈ tables_1_2) : w ∈ tables_1 := List.mem_append_right _ (List.mem_append_left _ h)
theorem tb_3 {w : Cond} (h : w ∈ tables_1_3) : w ∈ tables_1 := List.mem_append_right _ (List.mem_append_right _ (List.mem_append_left _ h))
theorem tb_4 {w : Cond} (h : w ∈ tables_1_4) : w ∈ tables_1 := List.mem_append_right _ (List.mem_append_right _ (List.mem_append_right _ (List.mem_append_left _ h)))
theorem tb_5 {w : Cond} (h : w ∈ tables_1_5) : w ∈ tables_1 := List.mem_append_right _ (List.mem_append_right _ (List.mem_append_right _ (List.mem_append_right _ (List.mem_append_left _ h))))
theorem tb_6 {w : Cond} (h : w ∈ tables_1_6) : w ∈ tables_1 := List.mem_append_right _ (List.mem_append_right _ (List.mem_append_right _ (List.mem_append_right _ (List.mem_append_right _ (List.mem_append_left _ h)))))
theorem tb_7 {w : Cond} (h : w ∈ tables_1_7) : w ∈ tables_1 := List.mem_append_right _ (List.mem_append_right _ (List.mem_append_right _ (List.mem_append_right _ (List.mem_append_right _ (List.mem_append_right _ (List.mem_append_left _ h))))))
theorem tb_8 {w : Cond} (h : w ∈ tables_1_8) : w ∈ tables_1 := List.mem_append_right _ (List.mem_append_right _ (List.mem_append_right _ (List.mem_append_right _ (List.mem_append_right _ (List.mem_append_right _ (List.mem_append_right _ (List.mem_append_left _ h)))))))
theorem tb_9 {w : Cond} (h : w ∈ tables_1_9) : w ∈ tables_1 := List.mem_append_right _ (List.mem_append_right _ (List.mem_append_right _ (List.mem_append_right _ (List.mem_append_right _ (List.mem_append_right _ (List.mem_append_right _ (List.mem_append_right _ (h))))))))
section MB3
variable {p : Program} {l : Launch} {e : Env} {R : Room} {s : State} {m : MethodId} {args : Array Value} {below : List Frame} {meth : Method} {c : Code} {H : Heap} {locs : List Loc} {cells slots : Nat} {Q : State → Prop}
variable {pc : Nat} {ls : Array Slot} {rest : List Value} {D : va_G} {cy : Nat → ClassId} {g : Nat → Nat} {b : Nat} {xs : Nat → Int32}
theorem tp_v {x v : Value} (h : x = v) (k : W p l e R s m args below meth c H locs cells slots Q (F0 m pc ls (v :: rest))) : W p l e R s m args below meth c H locs cells slots Q (F0 m pc ls (x :: rest)) := by rw [h]; exact k
end MB3
/-! ===== numbers of the loops ===== -/
theorem li (x : Int32) : x.toInt64.toInt32 = x := Int32.toInt32_toInt64 x
theorem nneg1 {x : Int32} (h : ¬ x < 1) : ¬ x < 0 := by
  have w1 : (1 : Int32).toInt = 1 := by decide
  have w0 : (0 : Int32).toInt = 0 := by decide
  rw [fa_lt] at *
  omega
theorem bm32 {n : Int} (h1 : -2147483648 ≤ n) (h2 : n < 2147483648) : n.bmod (2 ^ 32) = n := by
  refine Int.bmod_eq_of_le ?_ ?_
  · show -(4294967296 / 2 : Int) ≤ n
    omega
  · show n < ((4294967296 + 1) / 2 : Int)
    omega
theorem bm64 {n : Int} (h1 : -9223372036854775808 ≤ n) (h2 : n < 9223372036854775808) : n.bmod (2 ^ 64) = n := by
  refine Int.bmod_eq_of_le ?_ ?_
  · show -(18446744073709551616 / 2 : Int) ≤ n
    omega
  · show n < ((18446744073709551616 + 1) / 2 : Int)
    omega
theorem dec_i {i : Int32} (h1 : -1000000 ≤ i.toInt) (h2 : i.toInt ≤ 1000000) : (i + (-1)).toInt = i.toInt - 1 := by
  have w : (-1 : Int32).toInt = -1 := by decide
  rw [Int32.toInt_add, w, bm32 (by omega) (by omega)]
  omega
theorem sub_i {a b : Int32} (h1 : -1000000 ≤ a.toInt) (h2 : a.toInt ≤ 1000000) (h3 : -1000000 ≤ b.toInt) (h4 : b.toInt ≤ 1000000) : (a - b).toInt = a.toInt - b.toInt := by
  rw [Int32.toInt_sub, bm32 (by omega) (by omega)]
theorem add_i {a b : Int32} (h1 : -1000000000 ≤ a.toInt) (h2 : a.toInt ≤ 1000000000) (h3 : -1000000000 ≤ b.toInt) (h4 : b.toInt ≤ 1000000000) : (a + b).toInt = a.toInt + b.toInt := by
  rw [Int32.toInt_add, bm32 (by omega) (by omega)]
theorem mul_i {a b : Int32} (h1 : -2147483648 ≤ a.toInt * b.toInt) (h2 : a.toInt * b.toInt < 2147483648) : (a * b).toInt = a.toInt * b.toInt := by
  rw [Int32.toInt_mul, bm32 h1 h2]
theorem div_i {a b : Int32} (h1 : 0 ≤ a.toInt) (h2 : 0 < b.toInt) : (a / b).toInt = a.toInt / b.toInt := by
  rw [Int32.toInt_div_of_ne_right a b (by
    intro h
    have w : (-1 : Int32).toInt = -1 := by decide
    rw [h, w] at h2
    omega), Int.tdiv_eq_ediv_of_nonneg h1]
theorem div_l {a b : Int64} (h1 : 0 ≤ a.toInt) (h2 : 0 < b.toInt) : (a / b).toInt = a.toInt / b.toInt := by
  rw [Int64.toInt_div_of_ne_right a b (by
    intro h
    have w : (-1 : Int64).toInt = -1 := by decide
    rw [h, w] at h2
    omega), Int.tdiv_eq_ediv_of_nonneg h1]
def dU (a b : Int32) : Int32 := if a / b * b < a then a / b + 1 else a / b
theorem dU_ge {a b : Int32} (h : a ≤ a / b * b) : dU a b = a / b := by
  unfold dU
  rw [if_neg]
  rw [fa_le] at h
  rw [fa_lt]
  omega
theorem dU_lt {a b : Int32} (h : ¬ a ≤ a / b * b) : dU a b = a / b + 1 := by
  unfold dU
  rw [if_pos]
  rw [fa_le] at h
  rw [fa_lt]
  omega
/-- a quotient rounded up: the least whole number that reaches it -/
theorem dU_int {a b : Int32} (h1 : 0 ≤ a.toInt) (h2 : 0 < b.toInt) : (a.toInt ≤ (dU a b).toInt * b.toInt ∧ (dU a b).toInt * b.toInt < a.toInt + b.toInt) ∧ 0 ≤ (dU a b).toInt ∧ (dU a b).toInt ≤ a.toInt := by
  have ha := Int32.toInt_lt a
  have hq := div_i h1 h2
  have q0 : 0 ≤ a.toInt / b.toInt := Int.ediv_nonneg h1 (by omega)
  have q1 : a.toInt / b.toInt * b.toInt ≤ a.toInt := Int.ediv_mul_le _ (by omega)
  have q2 : a.toInt < (a.toInt / b.toInt + 1) * b.toInt := Int.lt_ediv_add_one_mul_self _ h2
  have q3 : a.toInt / b.toInt ≤ a.toInt := Int.ediv_le_self _ h1
  have q4 : 0 ≤ a.toInt / b.toInt * b.toInt := Int.mul_nonneg q0 (by omega)
  have hm : (a / b * b).toInt = a.toInt / b.toInt * b.toInt := by rw [mul_i (by rw [hq]; omega) (by rw [hq]; omega), hq]
  rw [Int.add_mul, Int.one_mul] at q2
  unfold dU
  split
  · rename_i h
    rw [fa_lt, hm] at h
    have q5 : a.toInt / b.toInt < a.toInt := by
      rcases Int.lt_or_le (a.toInt / b.toInt) a.toInt with h3 | h3
      · exact h3
      · have h4 : a.toInt / b.toInt * 1 ≤ a.toInt / b.toInt * b.toInt := Int.mul_le_mul_of_nonneg_left (by omega) q0
        omega
    have w1 : (1 : Int32).toInt = 1 := by decide
    have hs : (a / b + 1).toInt = a.toInt / b.toInt + 1 := by rw [Int32.toInt_add, w1, hq, bm32 (by omega) (by omega)]
    rw [hs, Int.add_mul, Int.one_mul]
    omega
  · rename_i h
    rw [fa_lt, hm] at h
    rw [hq]
    omega
/-- what stands between the bounds of three facts -/
theorem rng {x : Int32} {a b : Int32} {m n : Int} (ha : a.toInt = m) (hb : b.toInt = n) (h1 : ¬ x < a) (h2 : ¬ b < x) : m ≤ x.toInt ∧ x.toInt ≤ n := by
  rw [fa_lt] at h1 h2
  omega
theorem dis_eq {g c t h : Int32} (g1 : ¬ g < 0) (g2 : ¬ 100000 < g) (c1 : ¬ c < 50) (c2 : ¬ 2000 < c) (t1 : ¬ t < 1) (t2 : ¬ 100000 < t) (h1 : ¬ h < 50) (h2 : ¬ 2000 < h) :
    (1000 * g.toInt64 / c.toInt64 - (1000 * t.toInt64 + h.toInt64 - 1) / h.toInt64).toInt32 = (1000 * g) / c - dU (1000 * t) h := by
  obtain ⟨g3, g4⟩ := rng (m := 0) (n := 100000) (by decide) (by decide) g1 g2
  obtain ⟨c3, c4⟩ := rng (m := 50) (n := 2000) (by decide) (by decide) c1 c2
  obtain ⟨t3, t4⟩ := rng (m := 1) (n := 100000) (by decide) (by decide) t1 t2
  obtain ⟨h3, h4⟩ := rng (m := 50) (n := 2000) (by decide) (by decide) h1 h2
  have w : (1000 : Int32).toInt = 1000 := by decide
  have w4 : (1000 : Int64).toInt = 1000 := by decide
  have w1 : (1 : Int64).toInt = 1 := by decide
  have mg : (1000 * g).toInt = 1000 * g.toInt := by rw [mul_i (by rw [w]; omega) (by rw [w]; omega), w]
  have mt : (1000 * t).toInt = 1000 * t.toInt := by rw [mul_i (by rw [w]; omega) (by rw [w]; omega), w]
  have qg : (1000 * g / c).toInt = 1000 * g.toInt / c.toInt := by rw [div_i (by omega) (by omega), mg]
  obtain ⟨⟨k1, k2⟩, k3, k4⟩ := dU_int (a := 1000 * t) (b := h) (by omega) (by omega)
  rw [mt] at k1 k2 k4
  have lg : (1000 * g.toInt64).toInt = 1000 * g.toInt := by rw [Int64.toInt_mul, w4, Int32.toInt_toInt64, bm64 (by omega) (by omega)]
  have lt : (1000 * t.toInt64).toInt = 1000 * t.toInt := by rw [Int64.toInt_mul, w4, Int32.toInt_toInt64, bm64 (by omega) (by omega)]
  have la : (1000 * t.toInt64 + h.toInt64).toInt = 1000 * t.toInt + h.toInt := by rw [Int64.toInt_add, lt, Int32.toInt_toInt64, bm64 (by omega) (by omega)]
  have ls : (1000 * t.toInt64 + h.toInt64 - 1).toInt = 1000 * t.toInt + h.toInt - 1 := by rw [Int64.toInt_sub, la, w1, bm64 (by omega) (by omega)]
  have ld : ((1000 * t.toInt64 + h.toInt64 - 1) / h.toInt64).toInt = (1000 * t.toInt + h.toInt - 1) / h.toInt := by rw [div_l (by omega) (by rw [Int32.toInt_toInt64]; omega), ls, Int32.toInt_toInt64]
  have lq : (1000 * g.toInt64 / c.toInt64).toInt = 1000 * g.toInt / c.toInt := by rw [div_l (by omega) (by rw [Int32.toInt_toInt64]; omega), lg, Int32.toInt_toInt64]
  have e1 : (1000 * t.toInt + h.toInt - 1) / h.toInt = (dU (1000 * t) h).toInt := by
    have hle : (dU (1000 * t) h).toInt ≤ (1000 * t.toInt + h.toInt - 1) / h.toInt := (Int.le_ediv_iff_mul_le (by omega)).mpr (by omega)
    have hlt : (1000 * t.toInt + h.toInt - 1) / h.toInt < (dU (1000 * t) h).toInt + 1 := (Int.ediv_lt_iff_lt_mul (by omega)).mpr (by rw [Int.add_mul, Int.one_mul]; omega)
    omega
  have b1 : 0 ≤ 1000 * g.toInt / c.toInt := Int.ediv_nonneg (by omega) (by omega)
  have b2 : 1000 * g.toInt / c.toInt ≤ 1000 * g.toInt := Int.ediv_le_self _ (by omega)
  rw [fa_eq, Int64.toInt_toInt32, Int64.toInt_sub, lq, ld, e1, Int32.toInt_sub, qg, bm64 (by omega) (by omega)]
/-- the least heat that must be given -/
theorem bw_k {t h c : Int32} (t1 : ¬ t < 1) (t2 : ¬ 100000 < t) (h1 : ¬ h < 50) (h2 : ¬ 2000 < h) (c1 : ¬ c < 50) (c2 : ¬ 2000 < c) (ch : c < h) : ((1 ≤ t.toInt ∧ t.toInt ≤ 100000) ∧ 50 ≤ c.toInt ∧ c.toInt ≤ 2000) ∧ (0 ≤ (dU (1000 * t) h).toInt ∧ (dU (1000 * t) h).toInt ≤ 100000000) ∧ (0 ≤ (dU (1000 * t) h).toInt * c.toInt ∧ (dU (1000 * t) h).toInt * c.toInt < 100002000) := by
  obtain ⟨c3, c4⟩ := rng (m := 50) (n := 2000) (by decide) (by decide) c1 c2
  obtain ⟨t3, t4⟩ := rng (m := 1) (n := 100000) (by decide) (by decide) t1 t2
  obtain ⟨h3, h4⟩ := rng (m := 50) (n := 2000) (by decide) (by decide) h1 h2
  have w : (1000 : Int32).toInt = 1000 := by decide
  have mt : (1000 * t).toInt = 1000 * t.toInt := by rw [mul_i (by rw [w]; omega) (by rw [w]; omega), w]
  obtain ⟨⟨k1, k2⟩, k3, k4⟩ := dU_int (a := 1000 * t) (b := h) (by omega) (by omega)
  rw [mt] at k1 k2 k4
  rw [fa_lt] at ch
  have hm : (dU (1000 * t) h).toInt * c.toInt ≤ (dU (1000 * t) h).toInt * h.toInt := Int.mul_le_mul_of_nonneg_left (by omega) k3
  have h0 : 0 ≤ (dU (1000 * t) h).toInt * c.toInt := Int.mul_nonneg k3 (by omega)
  omega
theorem bw_g {t h c : Int32} (t1 : ¬ t < 1) (t2 : ¬ 100000 < t) (h1 : ¬ h < 50) (h2 : ¬ 2000 < h) (c1 : ¬ c < 50) (c2 : ¬ 2000 < c) (ch : c < h) : ((dU (1000 * t) h).toInt * c.toInt ≤ (dU (dU (1000 * t) h * c) 1000).toInt * 1000 ∧ (dU (dU (1000 * t) h * c) 1000).toInt * 1000 < (dU (1000 * t) h).toInt * c.toInt + 1000) ∧ 0 ≤ (dU (dU (1000 * t) h * c) 1000).toInt := by
  obtain ⟨-, -, k5, k6⟩ := bw_k t1 t2 h1 h2 c1 c2 ch
  have w : (1000 : Int32).toInt = 1000 := by decide
  have mk : (dU (1000 * t) h * c).toInt = (dU (1000 * t) h).toInt * c.toInt := mul_i (by omega) (by omega)
  obtain ⟨⟨m1, m2⟩, m3, m4⟩ := dU_int (a := dU (1000 * t) h * c) (b := 1000) (by omega) (by omega)
  rw [mk, w] at m1 m2
  omega
theorem bw_rng {t h c : Int32} (t1 : ¬ t < 1) (t2 : ¬ 100000 < t) (h1 : ¬ h < 50) (h2 : ¬ 2000 < h) (c1 : ¬ c < 50) (c2 : ¬ 2000 < c) (ch : c < h) : 1 ≤ t.toInt ∧ t.toInt ≤ 100000 ∧ 0 ≤ (dU (dU (1000 * t) h * c) 1000).toInt :=
  ⟨(bw_k t1 t2 h1 h2 c1 c2 ch).1.1.1, (bw_k t1 t2 h1 h2 c1 c2 ch).1.1.2, (bw_g t1 t2 h1 h2 c1 c2 ch).2⟩
theorem bw_at {t h c i : Int32} (t1 : ¬ t < 1) (t2 : ¬ 100000 < t) (h1 : ¬ h < 50) (h2 : ¬ 2000 < h) (c1 : ¬ c < 50) (c2 : ¬ 2000 < c) (ch : c < h) :
    (0 ≤ i.toInt → i.toInt ≤ t.toInt → t.toInt - i.toInt < (dU (dU (1000 * t) h * c) 1000).toInt → ¬ i < 0 ∧ (1000 * (t - i)) / c - dU (1000 * t) h < 0 ∧ ¬ t - i < 0 ∧ ¬ 100000 < t - i) ∧
    (0 ≤ i.toInt → i.toInt ≤ t.toInt → (dU (dU (1000 * t) h * c) 1000).toInt ≤ t.toInt - i.toInt → ¬ i < 0 ∧ ¬ (1000 * (t - i)) / c - dU (1000 * t) h < 0 ∧ ¬ t - i < 0 ∧ ¬ 100000 < t - i) := by
  obtain ⟨⟨⟨t3, t4⟩, c3, c4⟩, ⟨k1, k2⟩, k3, k4⟩ := bw_k t1 t2 h1 h2 c1 c2 ch
  obtain ⟨⟨m1, m2⟩, m3⟩ := bw_g t1 t2 h1 h2 c1 c2 ch
  have w : (1000 : Int32).toInt = 1000 := by decide
  have w0 : (0 : Int32).toInt = 0 := by decide
  have w5 : (100000 : Int32).toInt = 100000 := by decide
  have core : 0 ≤ i.toInt → i.toInt ≤ t.toInt → (t - i).toInt = t.toInt - i.toInt ∧ ((1000 * (t - i)) / c - dU (1000 * t) h).toInt = 1000 * (t.toInt - i.toInt) / c.toInt - (dU (1000 * t) h).toInt := by
    intro i1 i2
    have hs : (t - i).toInt = t.toInt - i.toInt := sub_i (by omega) (by omega) (by omega) (by omega)
    have mg : (1000 * (t - i)).toInt = 1000 * (t.toInt - i.toInt) := by rw [mul_i (by rw [w, hs]; omega) (by rw [w, hs]; omega), w, hs]
    have qg : (1000 * (t - i) / c).toInt = 1000 * (t.toInt - i.toInt) / c.toInt := by rw [div_i (by omega) (by omega), mg]
    have b1 : 0 ≤ 1000 * (t.toInt - i.toInt) / c.toInt := Int.ediv_nonneg (by omega) (by omega)
    have b2 : 1000 * (t.toInt - i.toInt) / c.toInt ≤ 1000 * (t.toInt - i.toInt) := Int.ediv_le_self _ (by omega)
    refine ⟨hs, ?_⟩
    rw [Int32.toInt_sub, qg, bm32 (by omega) (by omega)]
  refine ⟨fun i1 i2 i3 => ?_, fun i1 i2 i3 => ?_⟩
  · obtain ⟨hs, hd⟩ := core i1 i2
    have hq : 1000 * (t.toInt - i.toInt) / c.toInt < (dU (1000 * t) h).toInt := (Int.ediv_lt_iff_lt_mul (by omega)).mpr (by omega)
    refine ⟨?_, ?_, ?_, ?_⟩
    · rw [fa_lt]; omega
    · rw [fa_lt]; omega
    · rw [fa_lt]; omega
    · rw [fa_lt]; omega
  · obtain ⟨hs, hd⟩ := core i1 i2
    have hq : (dU (1000 * t) h).toInt ≤ 1000 * (t.toInt - i.toInt) / c.toInt := (Int.le_ediv_iff_mul_le (by omega)).mpr (by omega)
    refine ⟨?_, ?_, ?_, ?_⟩
    · rw [fa_lt]; omega
    · rw [fa_lt]; omega
    · rw [fa_lt]; omega
    · rw [fa_lt]; omega
/-! ===== an exception whose constructor hands on by another index than its neighbours' do ===== -/
def nsX : String := "java/util/NoSuchElementException"
def nsB : ByteArray := ⟨#[0x2a, 0x2b, 0xb7, 0x00, 0x0d, 0xb1]⟩
theorem nsB_0 : decode nsB 0 = .ok (.aload_n 0, 1) := by decide +kernel
theorem nsB_1 : decode nsB 1 = .ok (.aload_n 1, 1) := by decide +kernel
theorem nsB_2 : decode nsB 2 = .ok (.invokespecial 13, 3) := by decide +kernel
theorem nsB_5 : decode nsB 5 = .ok (.return_, 1) := by decide +kernel
def nsP : List Cond := Bundle.passSAtoms nsX "java/lang/RuntimeException" 13 nsB
def nsL : List Cond := (Bundle.ownAtoms RX9 216 nsX ["java/lang/RuntimeException", "java/lang/Exception"]).filter (fun w => decide (w ∉ Bundle.passSAtoms nsX "java/lang/RuntimeException" 7 Bundle.six)) ++ nsP
def nsN : List Cond := nsL.filter vx_no
theorem ns_bt : ∀ w ∈ nsN, w ∈ BT := fun w hw => bt_tbl ((by decide +kernel : ∀ w ∈ nsN, w ∈ tables_1) w hw) ((by decide +kernel : ∀ w ∈ nsN, okw w = true) w hw)
theorem ns_t : ∀ w ∈ Bundle.throwableAtoms, w ∈ nsL := by decide +kernel
theorem ns_s : ∀ w ∈ Bundle.throwableSAtoms, w ∈ nsL := by decide +kernel
theorem ns_c : ∀ w ∈ Bundle.chainSAtoms "java/lang/RuntimeException" ["java/lang/Exception"], w ∈ nsL := by decide +kernel
theorem ns_p : ∀ w ∈ Bundle.passSAtoms nsX "java/lang/RuntimeException" 13 nsB, w ∈ nsL := fun _ h => List.mem_append_right _ h
section NS
variable {p : Program} {l : Launch} {e : Env} {R : Room} {s : State} {m : MethodId} {args : Array Value} {below : List Frame} {meth : Method} {c : Code} {W : State} {cells slots : Nat}
set_option maxHeartbeats 4000000 in
theorem ns_ctor (X : Stand p l e R s m args below meth c W [] cells slots) (hx : p.tables.exec = Jvm.exec) (htr : e.platform.stackTraces = false) (hown : s.vm.findClass RX9 = some m.cls) (h : ∀ a ∈ nsL, a.before args s = true)
    {a : Addr} {cX : ClassId} {kX : Class} (hcX : s.vm.findClass nsX = some cX) (hkX : s.vm.classes[cX]? = some kX) (hcell : W.heap[a]? = some (freshCell cX kX)) (hnew : s.heap.size ≤ a) {msg : Value} (hmsg : msg.isRef = true)
    {f : JFrame} (hf : f.method = m) (hsize : f.locals.size = c.maxLocals) (hlocked : f.locked = none) (hentered : f.entered = []) {rest : List Value} (hst : f.stack = msg :: .ref a :: .ref a :: rest)
    (d6 : decode c.code f.pc = .ok (.invokespecial 216, 3)) (d9 : decode c.code (f.pc + 3) = .ok (.athrow, 1)) (hout : ∀ x ∈ c.exceptionTable.toList, covers x (f.pc + 3) = false)
    (hRf : 5 < R.frames) (hRl : 2 * f.monitorRoom + ((Value.ref a :: rest).map fun v => v.category).sum + 81 ≤ R.locals) (hlk : meth.locks = false) :
    ∃ U : State, Steps p.tables e below (W.setTop f) U ∧ U.status = .running ∧ Ended U below (.threw a) ∧ s.WarmedH U.vm ∧ s.sameButNew ({ U with vm := s.vm } : State) [] cells slots ∧ ∃ ce, U.heap[a]? = some ce ∧ ce.vm = .none ∧ s.vm.findClass nsX = some ce.cls := by
  have hpl : e.platform.magicAccessors = ({} : Platform).magicAccessors := by rw [X.admits.platform]
  obtain ⟨T, Z0, L, -, Y⟩ := ThrowableC.of_atoms (args := args) (s := s) (pl := e.platform) (by rw [X.admits.platform]) (by rw [X.admits.platform]) hpl (fun x hx => h x (ns_t x hx))
  obtain ⟨Z, M, LZ, LM, hnZ⟩ := Init0T.ofS_atoms (args := args) hpl L Y (fun x hx => h x (ns_s x hx))
  obtain ⟨P0, L0, hm0, hs0⟩ := PassC.ofS_atoms (args := args) (s := s) hpl (X := nsX) (Y := "java/lang/RuntimeException") (by decide +kernel) (by decide) nsB_0 nsB_1 nsB_2 nsB_5 (fun x hx => h x (ns_p x hx))
  obtain ⟨P1, Ps, hlen, L1, hLs, hm1, hsup, hpass⟩ := Bundle.chainS (args := args) hpl hnZ ["java/lang/Exception"] "java/lang/RuntimeException" (by decide +kernel) (by decide +kernel) (fun x hx => h x (ns_c x hx))
  have hlen1 : Ps.length = 1 := hlen
  have hfound : s.vm.findClass nsX = some P0.m.cls := findClass_of_methodNamed hm0
  cases Option.some.inj (hcX.symm.trans hfound)
  obtain ⟨c1, kI, hc1, hk, hord, -, -, -⟩ := Cond.instantiable_spec (h (.instantiable nsX 6) (by decide +kernel))
  cases Option.some.inj (hc1.symm.trans hfound)
  cases Option.some.inj (hkX.symm.trans hk)
  have sel : ∀ {x : MethodName} {g : MethodId}, (Cond.selects nsX x x).before args s = true → s.methodNamed? x = some g → x.cls ≠ "java/lang/invoke/MethodHandle" ∧ x.cls ≠ "java/lang/invoke/VarHandle" → selectMethod e.platform s.vm P0.m.cls g = .method g := by
    intro x g hw hg hn
    obtain ⟨c2, r2, m2, q1, q2, q3, q4, -⟩ := Cond.selects_spec hw
    cases Option.some.inj (q1.symm.trans hfound)
    cases Option.some.inj (q2.symm.trans (State.methodFound?_of_named hg hn))
    cases Option.some.inj (q3.symm.trans hg)
    rw [Launch.admits_selectMethod X.admits]; exact q4
  obtain ⟨cS, hcS, hiss⟩ := Y.statics
  obtain ⟨u0, hu0⟩ := Cond.staticRefV Y.unassigned L.unassignedStatic L.statics hcS hiss (h (.isRef (.static Bundle.tN "UNASSIGNED_STACK" Bundle.steD)) (by decide +kernel))
  obtain ⟨sen, hsen⟩ := Cond.staticRefV Y.sentinel L.sentinelStatic L.statics hcS hiss (h (.isRef (.static Bundle.tN "SUPPRESSED_SENTINEL" Bundle.listD)) (by decide +kernel))
  obtain ⟨ci, i1, fB, hk1, hg1, ha1, hsB, -, hnB, htB, hfB⟩ := Cond.ownField (t := .object "java/lang/Object") Y.found L.cls (by decide +kernel) (h (.fieldLink Bundle.tN 198 Bundle.tN "backtrace" "Ljava/lang/Object;") (by decide +kernel)) (h (.lays Bundle.tN Bundle.tN "backtrace" "Ljava/lang/Object;") (by decide +kernel)) e.platform hpl
  obtain ⟨cS1, hcS1, heS, -, hkeep⟩ := X.same.2.2.2.2.2 T.aS cS hcS
  have hknown : cS1.vm ≠ .unknown := by
    rw [heS]
    intro hu
    have hu1 : cS.vm = .unknown := hu
    rw [hu1] at hiss
    cases hiss
  have hne : T.aS ≠ a := Nat.ne_of_lt (Nat.lt_of_lt_of_le (Array.getElem?_eq_some_iff.mp hcS).1 hnew)
  obtain ⟨iM, hfM⟩ := Y.msg
  obtain ⟨tyC, dC, hdC, hnC⟩ := Cond.laysAt hfound hk Y.cause (h (.lays nsX Bundle.tN "cause" "Ljava/lang/Throwable;") (by decide +kernel))
  obtain ⟨tyS, dS, hdS, hnS⟩ := Cond.laysAt hfound hk Y.stack (h (.lays nsX Bundle.tN "stackTrace" Bundle.steD) (by decide +kernel))
  obtain ⟨tyP, dP, hdP, hnP⟩ := Cond.laysAt hfound hk Y.supp (h (.lays nsX Bundle.tN "suppressedExceptions" Bundle.listD) (by decide +kernel))
  obtain ⟨tyM, -, -, -⟩ := Cond.laysAt hfound hk hfM (h (.lays nsX Bundle.tN "detailMessage" "Ljava/lang/String;") (by decide +kernel))
  obtain ⟨tyB, dB, hdB, hnB1⟩ := Cond.laysAt hfound hk hfB (h (.lays nsX Bundle.tN "backtrace" "Ljava/lang/Object;") (by decide +kernel))
  have bC := Cond.laysApart hdB hdC hnB1 hnC (by rw [hnB, Y.causeName]; decide)
  have bS := Cond.laysApart hdB hdS hnB1 hnS (by rw [hnB, Y.stackName]; decide)
  have bP := Cond.laysApart hdB hdP hnB1 hnP (by rw [hnB, Y.suppName]; decide)
  have hskip : SkipFacts T e.platform s (fun u => u) u0 ((preparedCellV T.toThrowableT (freshCell P0.m.cls kX) a u0 sen).withEntry W.cur) :=
    ⟨{ ci198 := ci, i198 := i1, fBack := fB }, ⟨hk1, hg1, ha1, hsB⟩, by
      have h9 := fresh_default (c := P0.m.cls) tyB
      rw [htB] at h9
      simpa [preparedCellV, Cell.setSlot, Cell.withEntry, Array.getElem?_setIfInBounds, bC, bS, bP, bC.symm, bS.symm, bP.symm, defaultValue] using h9, fun _ _ => rfl⟩
  obtain ⟨tm, mC, cdC, kC, vm1, hnC1, -, -, -, -, -, -, -, hW1, st1⟩ := Steps.initColdS (tb := p.tables) (e := e) (below := below) (s := s) (U := W) X.here hx X.warmed hpl hown (t := Bundle.initS nsX) rfl rfl (by decide)
    (h (.methodLink RX9 216 (Bundle.initS nsX)) (by decide +kernel)) (h (.instanceMethod (Bundle.initS nsX)) (by decide +kernel)) (bytes := nsB) (maxL := 2) (h (.code (Bundle.initS nsX) nsB 2 none) (by decide +kernel)) (f := f) hf (a := a) (msg := msg) (rest := .ref a :: rest) hst d6
  cases Option.some.inj (hnC1.symm.trans hm0)
  obtain ⟨vm2, X2, st2⟩ := (X.noted hW1).ctorMessageOffV hx (g := { f with stack := .ref a :: rest }) hf hsize T L Z LZ M LM (P0 :: P1 :: Ps)
    (fun P hP => by
      rcases List.mem_cons.mp hP with rfl | hP
      · exact L0
      · rcases List.mem_cons.mp hP with rfl | hP
        · exact L1
        · exact hLs P hP) ⟨Option.some.inj (hs0.symm.trans hm1), hsup, hpass⟩ (u0 := u0) (sen := sen) (self := a) hmsg (cell := freshCell P0.m.cls kX) (cellS := cS1)
    hcell (fun _ => by simp) (by simp) rfl rfl (sel (h (.selects nsX Bundle.tFill0 Bundle.tFill0) (by decide +kernel)) Y.fill0 (by decide)) (sel (h (.selects nsX Bundle.tFill Bundle.tFill) (by decide +kernel)) Y.fill (by decide)) hcS1 hne hknown (by rw [hkeep _ (fun z => nomatch z)]; exact hu0) (by rw [hkeep _ (fun z => nomatch z)]; exact hsen)
    (Takes.of_laid hk hord tyC (by rw [Y.causeType]; rfl)) (Takes.of_laid hk hord tyS (by rw [Y.stackType]; exact fits_refV_array _ u0)) (Takes.of_laid hk hord tyP (by rw [Y.suppType]; exact fits_refV_object _ sen))
    (Takes.of_laid hk hord tyM (by rw [Y.msgType]; exact fits_refV_object _ ⟨msg, hmsg⟩)) Y.objLocals hskip htr [] d6 (by simp only [List.length_cons, hlen1]; omega) (by simp only [List.length_cons, hlen1]; exact hRl)
  obtain ⟨hwalk, hrun, hended, hWU, hsame⟩ := X2.athrowLeaves hx (g := { f with stack := .ref a :: rest, pc := f.pc + 3 }) hf hlocked hentered hout (a := a) (rest := rest) rfl d9 hlk
  have hlt : a < ((W.setVm vm1).setVm vm2).heap.size := (Array.getElem?_eq_some_iff.mp hcell).1
  refine ⟨_, st1 _ (fun acts => ?_), hrun, hended, hWU, hsame.weaken (fun y hy hlt' => ?_) (Nat.le_refl _) (Nat.le_refl _), _, heapAt_setCell_self (s := (W.setVm vm1).setVm vm2) (plainBareV T.toThrowableT (freshCell P0.m.cls kX) a u0 sen msg) hlt, rfl, hfound⟩
  · rw [doInvoke_state]
    exact st2 _ hwalk
  · exfalso
    have hb : y.base = a := by
      simp only [List.nil_append, List.mem_cons, List.not_mem_nil, or_false] at hy
      rcases hy with rfl | rfl | rfl | rfl | rfl <;> rfl
    rw [hb] at hlt'
    exact Nat.not_lt.mpr hnew hlt'
end NS
section NT
variable {p : Program} {l : Launch} {e : Env} {R : Room} {s : State} {m : MethodId} {args : Array Value} {below : List Frame} {meth : Method} {c : Code} {H : Heap} {locs : List Loc} {cells slots : Nat}
variable {cc : ByteArray} {pc is ik mc ms : Nat} {ls : Array Slot} {rest : List Value} {D : va_G} {cy : Nat → ClassId} {g : Nat → Nat} {A : Nat → Prop} {text : String} {Qd : Array Value → State → Outcome → State → Prop}
/-- 'throw new NoSuchElementException(text)': all but how the text comes to the stack -/
theorem ns_end {len : Nat} (hx : p.tables.exec = Jvm.exec) (hb : c.code = cc) (hst : l.stackTraces = false) (hown : s.vm.findClass RX9 = some m.cls) (hts : ∀ w ∈ BT, w.before args s = true) (hE : EV D cy g A s s.heap) (hS : va_S A s.heap H locs) (hl : ls.size = c.maxLocals) (hout : ∀ x ∈ c.exceptionTable.toList, False) (hlk : meth.locks = false)
    (hk : Cond.classLink RX9 ik nsX ∈ BT) (hi : Cond.initialized nsX ∈ BT) (htx : (is, text) ∈ bsT)
    (d0 : decode cc pc = .ok (.new ik, 3)) (d3 : decode cc (pc + 3) = .ok (.dup, 1)) (d6 : decode cc (pc + 4 + len) = .ok (.invokespecial 216, 3)) (d9 : decode cc (pc + 4 + len + 3) = .ok (.athrow, 1))
    (hld : ∀ (R1 : Room) (s1 T1 : State) (k n sa a : Nat), Stand p l e R1 s1 m args below meth c T1 [] k n → s1.vm.findClass RX9 = some m.cls → vk_R RX9 is text sa s1 → ∀ V, Steps p.tables e below (T1.setTop { method := m, pc := pc + 4 + len, locals := ls, stack := .ref sa :: .ref a :: .ref a :: rest, locked := none }) V → Steps p.tables e below (T1.setTop { method := m, pc := pc + 4, locals := ls, stack := .ref a :: .ref a :: rest, locked := none }) V)
    (hR : 5 < R.frames ∧ (rest.map fun v => v.category).sum + 82 ≤ R.locals ∧ cells + 1 ≤ R.cells ∧ slots + 6 ≤ R.slots) (hc : cells + 1 ≤ mc) (hs : slots + 6 ≤ ms) :
    W p l e R s m args below meth c H locs cells slots (vx_MQ below Qd (XE nsX A) args s mc ms A) (F0 m pc ls rest) := by
  obtain ⟨sa, hsa⟩ := hE.2.2.1.1 _ htx
  have hSG := hE.2.2.2.2.2
  intro T hT X
  have htr : e.platform.stackTraces = false := (show e.platform.stackTraces = l.stackTraces by rw [X.admits.platform]).trans hst
  have Y := vx_rebase X (R' := { frames := R.frames, locals := R.locals, cells := 1, slots := 6 }) (Nat.le_refl _) (Nat.le_refl _) hR.2.2.1 hR.2.2.2
  obtain ⟨s1, hA⟩ : ∃ z, z = (T.setVm s.vm).setFrames (.invoking m args :: below) := ⟨_, rfl⟩
  rw [← hA] at Y
  have hvm : s1.vm = s.vm := by rw [hA]; rfl
  have hhp : s1.heap = H := by rw [hA]; exact hT
  have hW0 : s.WarmedH s1.vm := by rw [hvm]; exact State.WarmedH.refl s
  have hg : ∀ w ∈ BT, w.before args s1 = true := fun w hw => vx_ot_at hW0 hvm.symm (by
    unfold vx_ot
    rcases okw_cases (List.mem_filter.mp hw).2 with h1 | h1
    · rw [h1]; exact Bool.or_true _
    · rw [h1.1]; rfl) (hts w hw)
  have hU1 : vx_Zq Bundle.tN "UNASSIGNED_STACK" Bundle.steD A s1 s1.heap := by rw [hhp]; exact vx_Zq.moved hW0.alike (hSG.1.kept hS.2.1)
  have hN1 : vx_Zq Bundle.tN "SUPPRESSED_SENTINEL" Bundle.listD A s1 s1.heap := by rw [hhp]; exact vx_Zq.moved hW0.alike (hSG.2.1.kept hS.2.1)
  have h : ∀ w ∈ nsL, w.before args s1 = true := vx_own (fun w hw => hg w (ns_bt w hw)) (vx_isRefq hU1.1) (vx_isRefq hN1.1) hU1.2.word hN1.2.word
  have hown1 : s1.vm.findClass RX9 = some m.cls := by rw [hvm]; exact hown
  obtain ⟨vm1, cX, kX, hfX, hkX, -, -, X1, st1⟩ := Y.newCold hx (own := RX9) (C := nsX) (index := ik) (n := 6) hown1 (hg _ hk) (h (.instantiable nsX 6) (by decide +kernel)) (hg _ hi)
    (g := F0 m pc ls rest) rfl (by rw [hb]; exact d0) (Nat.le_refl _) (Nat.le_refl _)
  generalize hT1 : (T.setVm vm1).pushCell { cls := cX, slots := kX.instanceTypes.map defaultValue, vm := .none } = T1 at X1 st1
  have hcat : (Value.ref T.heap.size).category = 1 := rfl
  have hcell : T1.heap[T.heap.size]? = some (freshCell cX kX) := by rw [← hT1]; exact State.heap_pushCell_size _ _
  have d3' : decode c.code (pc + 3) = .ok (.dup, 1) := by rw [hb]; exact d3
  obtain ⟨U, hsteps, hrun, hend, hW, hsame, ce, hce, hv, hcl⟩ := ns_ctor X1 hx htr hown1 h hfX hkX hcell (by rw [hhp, hT]; exact Nat.le_refl _) (msg := .ref sa) rfl
    (f := { method := m, pc := pc + 4 + len, locals := ls, stack := .ref sa :: .ref T.heap.size :: .ref T.heap.size :: rest, locked := none }) rfl hl rfl rfl (rest := rest) rfl
    (by rw [hb]; exact d6) (by rw [hb]; exact d9) (fun x hx => absurd (hout x hx) (fun z => z)) hR.1 (by have h7 := hR.2.1; simp only [List.map_cons, List.sum_cons, hcat]; omega) hlk
  obtain ⟨f1, f2⟩ := vx_frame hsame
  rw [hhp] at f1 f2
  have hWs : s.WarmedH U.vm := State.WarmedH.trans hW0 hW
  rw [hvm] at hcl
  have hall : s.sameButNew ({ U with vm := s.vm } : State) locs mc ms := by
    subst hA
    obtain ⟨e1, e2⟩ := hsame
    rw [State.setFrames_setFrames] at e1
    have h2 : (T.setVm s.vm).sameButNew ({ U with vm := s.vm } : State) [] (0 + 1) (0 + 6) := ⟨e1, e2⟩
    have h3 := X.same.trans h2
    rw [List.append_nil] at h3
    exact h3.mono hc hs
  refine ⟨U, ?_, .threw T.heap.size, hrun, hend, Or.inr ⟨T.heap.size, rfl, nsX, ce, locs, ⟨(), trivial, rfl, Nat.le_trans hS.1 f1, fun q h3 h4 => (f2 q (Nat.lt_of_lt_of_le h3 hS.1) (fun z hz => nomatch hz)).trans (hS.2.1 q h3 h4)⟩, hce, hv, hcl, hWs, hall, hS.2.2⟩⟩
  refine st1 _ ?_
  show Steps p.tables e below (T1.setTop { method := m, pc := pc + 3, locals := ls, stack := .ref T.heap.size :: rest, locked := none }) _
  jvm_step X1.here [X1.here.top, hx, d3', Value.category]
  exact hld _ _ _ _ _ sa T.heap.size X1 hown1 (vk_R.warm hW0 hsa) _ hsteps
theorem th_N (hx : p.tables.exec = Jvm.exec) (hb : c.code = cc) (hst : l.stackTraces = false) (hown : s.vm.findClass RX9 = some m.cls) (hts : ∀ w ∈ BT, w.before args s = true) (hE : EV D cy g A s s.heap) (hS : va_S A s.heap H locs) (hl : ls.size = c.maxLocals) (hout : ∀ x ∈ c.exceptionTable.toList, False) (hlk : meth.locks = false)
    (hk : Cond.classLink RX9 ik nsX ∈ BT) (hi : Cond.initialized nsX ∈ BT) (htx : (is, text) ∈ bsT)
    (d0 : decode cc pc = .ok (.new ik, 3)) (d3 : decode cc (pc + 3) = .ok (.dup, 1)) (d4 : decode cc (pc + 4) = .ok (.ldc is, 2)) (d6 : decode cc (pc + 4 + 2) = .ok (.invokespecial 216, 3)) (d9 : decode cc (pc + 4 + 2 + 3) = .ok (.athrow, 1))
    (hR : 5 < R.frames ∧ (rest.map fun v => v.category).sum + 82 ≤ R.locals ∧ cells + 1 ≤ R.cells ∧ slots + 6 ≤ R.slots) (hc : cells + 1 ≤ mc) (hs : slots + 6 ≤ ms) :
    W p l e R s m args below meth c H locs cells slots (vx_MQ below Qd (XE nsX A) args s mc ms A) (F0 m pc ls rest) :=
  ns_end (len := 2) hx hb hst hown hts hE hS hl hout hlk hk hi htx d0 d3 d6 d9 (fun R1 s1 T1 k n sa a X h1 h2 V h3 => X.ldcString hx (own := RX9) (text := text) (index := is) (a := sa) h1 h2.1 h2.2 (g := { method := m, pc := pc + 4, locals := ls, stack := .ref a :: .ref a :: rest, locked := none }) rfl (by rw [hb]; exact d4) V h3) hR hc hs
theorem th_NW (hx : p.tables.exec = Jvm.exec) (hb : c.code = cc) (hst : l.stackTraces = false) (hown : s.vm.findClass RX9 = some m.cls) (hts : ∀ w ∈ BT, w.before args s = true) (hE : EV D cy g A s s.heap) (hS : va_S A s.heap H locs) (hl : ls.size = c.maxLocals) (hout : ∀ x ∈ c.exceptionTable.toList, False) (hlk : meth.locks = false)
    (hk : Cond.classLink RX9 ik nsX ∈ BT) (hi : Cond.initialized nsX ∈ BT) (htx : (is, text) ∈ bsT)
    (d0 : decode cc pc = .ok (.new ik, 3)) (d3 : decode cc (pc + 3) = .ok (.dup, 1)) (d4 : decode cc (pc + 4) = .ok (.ldc_w is, 3)) (d6 : decode cc (pc + 4 + 3) = .ok (.invokespecial 216, 3)) (d9 : decode cc (pc + 4 + 3 + 3) = .ok (.athrow, 1))
    (hR : 5 < R.frames ∧ (rest.map fun v => v.category).sum + 82 ≤ R.locals ∧ cells + 1 ≤ R.cells ∧ slots + 6 ≤ R.slots) (hc : cells + 1 ≤ mc) (hs : slots + 6 ≤ ms) :
    W p l e R s m args below meth c H locs cells slots (vx_MQ below Qd (XE nsX A) args s mc ms A) (F0 m pc ls rest) :=
  ns_end (len := 3) hx hb hst hown hts hE hS hl hout hlk hk hi htx d0 d3 d6 d9 (fun R1 s1 T1 k n sa a X h1 h2 V h3 => X.ldcStringW hx (own := RX9) (text := text) (index := is) (a := sa) h1 h2.1 h2.2 (g := { method := m, pc := pc + 4, locals := ls, stack := .ref a :: .ref a :: rest, locked := none }) rfl (by rw [hb]; exact d4) V h3) hR hc hs
end NT

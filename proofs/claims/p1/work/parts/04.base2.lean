/-! ===== order of ints, in all its forms, and through longs ===== -/
theorem fa_lt (a b : Int32) : a < b ↔ a.toInt < b.toInt := Int32.lt_iff_toInt_lt
theorem fa_le (a b : Int32) : a ≤ b ↔ a.toInt ≤ b.toInt := Int32.le_iff_toInt_le
theorem fa_eq (a b : Int32) : a = b ↔ a.toInt = b.toInt := Int32.toInt_inj.symm
theorem fa_lt64 (a b : Int64) : a < b ↔ a.toInt < b.toInt := Int64.lt_iff_toInt_lt
theorem fa_le64 (a b : Int64) : a ≤ b ↔ a.toInt ≤ b.toInt := Int64.le_iff_toInt_le
theorem fa_eq64 (a b : Int64) : a = b ↔ a.toInt = b.toInt := Int64.toInt_inj.symm
/-- a comparison of two ints taken as longs -/
theorem fa_wide_lt (a b : Int32) : a.toInt64 < b.toInt64 ↔ a < b := by rw [fa_lt64, fa_lt, Int32.toInt_toInt64, Int32.toInt_toInt64]
theorem fa_wide_le (a b : Int32) : a.toInt64 ≤ b.toInt64 ↔ a ≤ b := by rw [fa_le64, fa_le, Int32.toInt_toInt64, Int32.toInt_toInt64]
theorem fa_wide_eq (a b : Int32) : a.toInt64 = b.toInt64 ↔ a = b := by rw [fa_eq64, fa_eq, Int32.toInt_toInt64, Int32.toInt_toInt64]
/-- one strict comparison gives all the others -/
theorem fa_of_lt {a b : Int32} (h : a < b) : a ≤ b ∧ ¬ b ≤ a ∧ ¬ b < a ∧ a ≠ b ∧ b ≠ a := by
  rw [fa_lt] at h
  refine ⟨?_, ?_, ?_, ?_, ?_⟩
  · rw [fa_le]; omega
  · rw [fa_le]; omega
  · rw [fa_lt]; omega
  · intro e; rw [fa_eq] at e; omega
  · intro e; rw [fa_eq] at e; omega
theorem fa_of_nlt {a b : Int32} (h : ¬ a < b) : b ≤ a := by
  rw [fa_lt] at h
  rw [fa_le]
  omega
theorem fa_of_nle {a b : Int32} (h : ¬ a ≤ b) : b < a := by
  rw [fa_le] at h
  rw [fa_lt]
  omega
theorem fa_le_ne {a b : Int32} (h : a ≤ b) (h2 : a ≠ b) : a < b := by
  rw [fa_le] at h
  rw [fa_lt]
  have h3 : a.toInt ≠ b.toInt := fun e => h2 ((fa_eq a b).mpr e)
  omega
theorem fa_three (a b : Int32) : a < b ∨ a = b ∨ b < a := by
  rw [fa_lt, fa_lt, fa_eq]
  omega
theorem fa_trans {a b c : Int32} (h : a < b) (h2 : b ≤ c) : a < c := by
  rw [fa_lt] at *
  rw [fa_le] at h2
  omega
/-! ===== numbers in short ===== -/
theorem wl_lt {a b : Int32} {X Y : Int64} (hX : a.toInt64 = X) (hY : b.toInt64 = Y) (h : a < b) : X < Y := by
  rw [← hX, ← hY, fa_wide_lt]; exact h
theorem wl_nlt {a b : Int32} {X Y : Int64} (hX : a.toInt64 = X) (hY : b.toInt64 = Y) (h : ¬ a < b) : ¬ X < Y := by
  rw [← hX, ← hY, fa_wide_lt]; exact h
theorem wl_eq {a b : Int32} {X Y : Int64} (hX : a.toInt64 = X) (hY : b.toInt64 = Y) (h : a = b) : X = Y := by
  rw [← hX, ← hY, h]
theorem wl_neq {a b : Int32} {X Y : Int64} (hX : a.toInt64 = X) (hY : b.toInt64 = Y) (h : ¬ a = b) : ¬ X = Y := by
  rw [← hX, ← hY, fa_wide_eq]; exact h
theorem nlt64 {a b : Int64} (h : ¬ a < b) : b ≤ a := by
  rw [fa_lt64] at h
  rw [fa_le64]
  omega
theorem lt64n {a b : Int64} (h : a < b) : ¬ b ≤ a := by
  rw [fa_lt64] at h
  rw [fa_le64]
  omega
section MB2
variable {p : Program} {l : Launch} {e : Env} {R : Room} {s : State} {m : MethodId} {args : Array Value} {below : List Frame} {meth : Method} {c : Code} {H : Heap} {locs : List Loc} {cells slots : Nat} {Q : State → Prop}
variable {cc : ByteArray} {pc nL : Nat} {ls : Array Slot} {rest st0 As : List Value} {D : va_G} {cy : Nat → ClassId} {g : Nat → Nat} {A : Nat → Prop} {ws wc wr : va_W} {isC isR : List Nat}
variable {y : MethodName} {own C : String} {index n maxL mc ms : Nat} {bytes : ByteArray} {ret : Option FieldType} {rm : Room} {Qc : Array Value → State → Outcome → State → Prop}
theorem ra_same {s : State} {c1 c2 : ClassId} {ty : FieldType} (h1 : va_RA s c1 ty) (h2 : va_RA s c2 ty) : c1 = c2 := by
  cases ty with
  | object C =>
    obtain ⟨-, -, -, -, -, h3⟩ := h1
    obtain ⟨-, -, -, -, -, h4⟩ := h2
    exact Option.some.inj (h3.symm.trans h4)
  | _ => exact Option.some.inj (Eq.trans (Eq.symm h1) h2)
/-- a new array of numbers -/
theorem nw_p {atype : ArrayType} {ty : FieldType} {cA : ClassId} {a0 : vp_A} (t0 : Nat) {N' : Nat} (hx : p.tables.exec = Jvm.exec) (hb : c.code = cc) (hty : newarray.typeOf atype = ty) (hts : ∀ w ∈ BT, w.before args s = true) (hw : Cond.arrayClass ty ∈ BT) (hE : EV D cy g A s s.heap) (ht : (TYS cy)[t0]? = some (cA, ty)) (hP : va_P D vwCl ws H) (hD : va_D A ws) (hS : va_S A s.heap H locs) (hA : ∀ q, s.heap.size ≤ q → A q)
    (ha : ∀ cA : ClassId, vp_cell cA a0 = arrV cA N' (fun _ => defaultValue ty)) {n : Int32} (hn : ¬ n < 0) (hN : n.toNatClampNeg = N') (hby : N' * componentBytes ty ≤ 536870912) (hcells : cells + 1 ≤ R.cells) (hslots : slots + N' ≤ R.slots) (hdg : decode cc pc = .ok (.newarray atype, 2))
    (kk : ∀ (q : Nat) (H1 : Heap), va_P D vwCl (ws ++ [(q, .inl (cA, a0))]) H1 → va_D A (ws ++ [(q, .inl (cA, a0))]) → va_S A s.heap H1 locs → W p l e R s m args below meth c H1 locs (cells + 1) (slots + N') Q (F0 m (pc + 2) ls (.ref q :: rest))) : W p l e R s m args below meth c H locs cells slots Q (F0 m pc ls (.int n :: rest)) := by
  refine va_newa (N' := N') (a0 := a0) hx hb (by rw [hty]; exact hts _ hw) hty hE.1 hP hD hS hA ha hn hN hby hcells hslots hdg (fun q c1 H1 hK1 hP1 hD1 hS1 => ?_)
  have h1 : va_RA s c1 ty := (hK1.2 (TYS cy).length (c1, ty) (by rw [List.getElem?_append_right (Nat.le_refl _), Nat.sub_self]; rfl)).2
  cases ra_same h1 (hE.1.2 t0 _ ht).2
  exact kk q H1 hP1 hD1 hS1
theorem nw_q {C : String} {cA : ClassId} (t0 : Nat) {N' : Nat} (hx : p.tables.exec = Jvm.exec) (hb : c.code = cc) (hown : s.vm.findClass own = some m.cls) (hcl : (Cond.classLink own index C).before args s = true) (hov : va_AO C s) (hE : EV D cy g A s s.heap) (ht : (TYS cy)[t0]? = some (cA, .object C)) (hP : va_P D vwCl ws H) (hD : va_D A ws) (hS : va_S A s.heap H locs) (hA : ∀ q, s.heap.size ≤ q → A q)
    {n : Int32} (hn : ¬ n < 0) (hN : n.toNatClampNeg = N') (hby : N' * 4 ≤ 536870912) (hcells : cells + 1 ≤ R.cells) (hslots : slots + N' ≤ R.slots) (hdg : decode cc pc = .ok (.anewarray index, 3))
    (kk : ∀ (q : Nat) (H1 : Heap), va_P D vwCl (ws ++ [(q, .inl (cA, N', .inr (.inr (.inr (.inr (fun _ => none))))))]) H1 → va_D A (ws ++ [(q, .inl (cA, N', .inr (.inr (.inr (.inr (fun _ => none))))))]) → va_S A s.heap H1 locs → W p l e R s m args below meth c H1 locs (cells + 1) (slots + N') Q (F0 m (pc + 3) ls (.ref q :: rest))) : W p l e R s m args below meth c H locs cells slots Q (F0 m pc ls (.int n :: rest)) := by
  refine va_newq (N' := N') hx hb hown hcl hov hE.1 hP hD hS hA hn hN hby hcells hslots hdg (fun q c1 H1 hK1 hP1 hD1 hS1 => ?_)
  have h1 : va_RA s c1 (.object C) := (hK1.2 (TYS cy).length (c1, .object C) (by rw [List.getElem?_append_right (Nat.le_refl _), Nat.sub_self]; rfl)).2
  cases ra_same h1 (hE.1.2 t0 _ ht).2
  exact kk q H1 hP1 hD1 hS1
/-- an array of ints may lie in a row of objects -/
theorem any_ia {v k : Nat} {f : Nat → Int32} (hE : EV D cy g A s s.heap) (hP : va_P D vwCl ws H) (hts : ∀ w ∈ BT, w.before args s = true) (qk : Nat) (hv : ws[qk]? = some (v, .inl (cy 1, k, .inl f))) (hw : Cond.castable "[I" "java/lang/Object" ∈ BT) : va_Any "java/lang/Object" s H v := by
  have h1 : H[v]? = some (vp_cell (cy 1) (k, .inl f)) := hP qk _ hv
  have h2 : s.vm.findClass ("[" ++ FieldType.int.toString) = some (cy 1) := (hE.1.2 1 (cy 1, .int) rfl).2
  obtain ⟨c1, t1, h3, h4, h5⟩ := Cond.castable_spec (hts _ hw)
  have h6 : c1 = cy 1 := Option.some.inj (h3.symm.trans h2)
  subst h6
  obtain ⟨kC, hkC, -⟩ := Vm.findClass_spec h3
  exact ⟨_, h1, rfl, ⟨kC, hkC⟩, fun comp hc => by
    cases Option.some.inj (hc.symm.trans h4)
    exact h5⟩
/-- a call of a text's method -/
theorem rn_VS {i : Nat} (hx : p.tables.exec = Jvm.exec) (hb : c.code = cc) (hml : c.maxLocals = nL) (hown : s.vm.findClass own = some m.cls) (hts : ∀ w ∈ BT, w.before args s = true) (hE : EV D cy g A s s.heap) (hS : va_S A s.heap H locs) (hP : va_P D vwCl ws H) (hD : va_D A ws) (hA : ∀ q, s.heap.size ≤ q → A q) (hl : ls.size = nL)
    (hM : Met l y [.code y bytes maxL ret] rm (PC D cy g wc H.size (.ref (g (i + 1)) :: As)) Qc mc ms (va_A wc H.size)) (hn : va_nd isC = true) (hC : isC.map (fun i => ws[i]?) = wc.map some) (hi : i < 2) (hqC : "java/lang/String" = C)
    (hg : GoodIn BT (wsV own index C y [.code y bytes maxL ret])) (hrc : rm.cells = mc) (hrs : rm.slots = ms) (hd : y.cls = C ∧ y.cls ≠ "java/lang/invoke/MethodHandle" ∧ y.cls ≠ "java/lang/invoke/VarHandle" ∧ (parseMethodDescriptor y.desc).map (fun d => d.parameters.length) = some n) (hR : rm.frames + 1 ≤ R.frames ∧ 8 + (maxL + 11) + rm.locals ≤ R.locals)
    (hAn : As.length = n) (hst : st0 = As.reverse ++ .ref (g (i + 1)) :: rest) (hw : (rest.map fun v => v.category).sum ≤ 8) (hdg : decode cc pc = .ok (.invokevirtual index, 3)) (hf : cells + mc ≤ R.cells ∧ slots + ms ≤ R.slots) :
    va_Run p l e R s m args below meth c H locs cells slots mc ms (F0 m pc ls st0) rest (Qc (Value.ref (g (i + 1)) :: As).toArray) (va_A wc H.size) :=
  va_runV ⟨hx, hb, hml, hown, hts⟩ hM (cwV n hts hg rfl hrc hrs hd hR) ⟨PC_blind, by rw [← hqC]; exact vk_recv (adK := fun i => g (i + 1)) (i := i) hE.2.2.2.2.2.2.2.2.2.2 hi hS, pc_at hE hS hP hD hA hn hC (.ref (g (i + 1)) :: As)⟩ rfl hAn hl hst (lv_room (pc := pc) (ls := ls) (rest := st0) hw) hdg hf
/-- a callee that throws, caught by a row of this method's table -/
theorem cx_catch {E0 name : String} {a : Array Value} {mc2 ms2 : Nat} {hh hp hq : List (Nat × Nat × Nat × Nat)} {z : Nat × Nat × Nat × Nat} (run : vx_Run p l e R s m args below meth c H locs cells slots mc2 ms2 (F0 m pc ls st0) rest (QN a) (XE E0 (va_A wc H.size)) (va_A wc H.size)) (hP : va_P D vwCl ws H) (hD : va_D A ws) (hS : va_S A s.heap H locs) (hA : ∀ q, s.heap.size ≤ q → A q) (hown : s.vm.findClass own = some m.cls) (hts : ∀ w ∈ BT, w.before args s = true) (hE : EV D cy g A s s.heap) (htb : c.exceptionTable.toList = tableOf hh)
    (hC : isC.map (fun i => ws[i]?) = wc.map some) (hR : isR.map (fun i => ws[i]?) = wr.map some) (hnR : va_nd isR = true) (hhe : hh = hp ++ z :: hq) (hdis : ∀ i ∈ isR, i ∉ isC) (hpass : ∀ z ∈ hp, z.2.2.2 ≠ 0 ∧ ∃ nm : String, Cond.classLink own z.2.2.2 nm ∈ BT ∧ (E0, nm) ∈ ncT)
    (hcov : covers ⟨z.1, z.2.1, z.2.2.1, z.2.2.2⟩ pc = true) (h0 : z.2.2.2 ≠ 0) (hlink : Cond.classLink own z.2.2.2 name ∈ BT) (hcast : Cond.castable E0 name ∈ BT)
    (kk : ∀ (q : Nat) (H1 : Heap) (locs1 : List Loc), va_P D vwCl wr H1 → va_D A wr → va_S A s.heap H1 locs1 → W p l e R s m args below meth c H1 locs1 (cells + mc2) (slots + ms2) Q (F0 m z.2.2.1 ls [.ref q])) :
    W p l e R s m args below meth c H locs cells slots Q (F0 m pc ls st0) := by
  have hF := va_free hD hS hA isC hC
  intro T hT X
  rcases run T hT X with ⟨v, st₀, t, T', L, -, -, -, -, -, hq1, -⟩ | ⟨q, st₀, t, T', L, E, ce, h0', X', hL, e1, e2, ⟨u, -, hb, hFr⟩, hce, hcv, hcl, st⟩
  · exact absurd hq1 (fun z => z)
  · obtain ⟨k1, k2, k3⟩ := vx_keep h0' e1 hS (fun q _ h => hF q h) hF hL hFr
    subst hb
    obtain ⟨hP2, hD2⟩ := jn (w1 := []) hP hD hS hA hC hR hnR hdis k2 (fun k q h => by simp at h) ⟨fun i j p q h => by simp at h, fun k q h => by simp at h⟩
    rw [List.append_nil] at hP2 hD2
    have hsplit : c.exceptionTable.toList = tableOf hp ++ (⟨z.1, z.2.1, z.2.2.1, z.2.2.2⟩ : ExceptionTableEntry) :: tableOf hq := by
      rw [htb, hhe]; simp [tableOf]
    obtain ⟨t2, a1, b1⟩ := vx_catch (H := T'.heap) (locs := locs ++ L) (cells := cells + mc2) (slots := slots + ms2) (Q := Q) (ls := ls) (rest := rest) (pc := pc) (E := E) (ce := ce) (q := q) (name := name) (own := own) hown (tableOf hp) _ (tableOf hq) hsplit (fun w hw => by
        obtain ⟨z1, hz1, rfl⟩ := List.mem_map.mp hw
        obtain ⟨g1, nm, g2, g3⟩ := hpass z1 hz1
        exact Or.inr ⟨g1, nm, hts _ g2, hE.2.2.2.1 _ g3⟩) hcov h0 (hts _ hlink) (hts _ hcast) (by rw [e1]; exact hce) hcv hcl (kk q T'.heap (locs ++ L) hP2 hD2 k3) T' rfl X'
    exact ⟨t2, st.trans a1, b1⟩
/-- beginnings by the kind of the answer -/
theorem st_I {W' : (Nat → Nat) → va_W} {r : Int32} {av : List Value} {sz : Nat} (hy : plainName y.cls = true) (hlen : (lg_sl av).length ≤ maxL)
    (body : (∀ (p : Program) (e : Env) (s : State) (m : MethodId) (args : Array Value) (below : List Frame) (meth : Method) (c : Code) (A : Nat → Prop) (ls : Array Slot), p.tables.exec = Jvm.exec → c.code = cc → meth.sig.returnType = ret → c.maxLocals = maxL → s.vm.findClass y.cls = some m.cls → meth.locks = false → meth.name = y.name → s.heap.size = sz →
      va_P D vwCl ws s.heap → va_D A ws → (∀ q, s.heap.size ≤ q → A q) → EV D cy g A s s.heap → (∀ w ∈ BT, w.before args s = true) → va_S A s.heap s.heap [] → lv_has ls maxL (lv_args 0 av) →
      W p l e rm s m args below meth c s.heap [] 0 0 (MQ below (QI D r W' A) args s mc ms A) (F0 m 0 ls []))) :
    Met l y [.code y cc maxL ret] rm (PC D cy g ws sz av) (QI D r W' (va_A ws sz)) mc ms (va_A ws sz) := st_i (QA := fun A => QI D r W' A) hy hlen body
theorem sh_I {W' : (Nat → Nat) → va_W} {r : Int32} {av : List Value} {sz : Nat} {hh : List (Nat × Nat × Nat × Nat)} (hy : plainName y.cls = true) (hlen : (lg_sl av).length ≤ maxL)
    (body : (∀ (p : Program) (e : Env) (s : State) (m : MethodId) (args : Array Value) (below : List Frame) (meth : Method) (c : Code) (A : Nat → Prop) (ls : Array Slot), p.tables.exec = Jvm.exec → c.code = cc → meth.sig.returnType = ret → c.maxLocals = maxL → s.vm.findClass y.cls = some m.cls → meth.locks = false → meth.name = y.name → s.heap.size = sz →
      va_P D vwCl ws s.heap → va_D A ws → (∀ q, s.heap.size ≤ q → A q) → EV D cy g A s s.heap → (∀ w ∈ BT, w.before args s = true) → va_S A s.heap s.heap [] → lv_has ls maxL (lv_args 0 av) → c.exceptionTable.toList = tableOf hh →
      W p l e rm s m args below meth c s.heap [] 0 0 (MQ below (QI D r W' A) args s mc ms A) (F0 m 0 ls []))) :
    Met l y [.codeWith y cc maxL ret hh] rm (PC D cy g ws sz av) (QI D r W' (va_A ws sz)) mc ms (va_A ws sz) := st_h (QA := fun A => QI D r W' A) hy hlen body
theorem st_L {W' : (Nat → Nat) → va_W} {r : Int64} {av : List Value} {sz : Nat} (hy : plainName y.cls = true) (hlen : (lg_sl av).length ≤ maxL)
    (body : (∀ (p : Program) (e : Env) (s : State) (m : MethodId) (args : Array Value) (below : List Frame) (meth : Method) (c : Code) (A : Nat → Prop) (ls : Array Slot), p.tables.exec = Jvm.exec → c.code = cc → meth.sig.returnType = ret → c.maxLocals = maxL → s.vm.findClass y.cls = some m.cls → meth.locks = false → meth.name = y.name → s.heap.size = sz →
      va_P D vwCl ws s.heap → va_D A ws → (∀ q, s.heap.size ≤ q → A q) → EV D cy g A s s.heap → (∀ w ∈ BT, w.before args s = true) → va_S A s.heap s.heap [] → lv_has ls maxL (lv_args 0 av) →
      W p l e rm s m args below meth c s.heap [] 0 0 (MQ below (QL D r W' A) args s mc ms A) (F0 m 0 ls []))) :
    Met l y [.code y cc maxL ret] rm (PC D cy g ws sz av) (QL D r W' (va_A ws sz)) mc ms (va_A ws sz) := st_i (QA := fun A => QL D r W' A) hy hlen body
theorem sh_L {W' : (Nat → Nat) → va_W} {r : Int64} {av : List Value} {sz : Nat} {hh : List (Nat × Nat × Nat × Nat)} (hy : plainName y.cls = true) (hlen : (lg_sl av).length ≤ maxL)
    (body : (∀ (p : Program) (e : Env) (s : State) (m : MethodId) (args : Array Value) (below : List Frame) (meth : Method) (c : Code) (A : Nat → Prop) (ls : Array Slot), p.tables.exec = Jvm.exec → c.code = cc → meth.sig.returnType = ret → c.maxLocals = maxL → s.vm.findClass y.cls = some m.cls → meth.locks = false → meth.name = y.name → s.heap.size = sz →
      va_P D vwCl ws s.heap → va_D A ws → (∀ q, s.heap.size ≤ q → A q) → EV D cy g A s s.heap → (∀ w ∈ BT, w.before args s = true) → va_S A s.heap s.heap [] → lv_has ls maxL (lv_args 0 av) → c.exceptionTable.toList = tableOf hh →
      W p l e rm s m args below meth c s.heap [] 0 0 (MQ below (QL D r W' A) args s mc ms A) (F0 m 0 ls []))) :
    Met l y [.codeWith y cc maxL ret hh] rm (PC D cy g ws sz av) (QL D r W' (va_A ws sz)) mc ms (va_A ws sz) := st_h (QA := fun A => QL D r W' A) hy hlen body
theorem st_F {W' : (Nat → Nat) → va_W} {r : UInt32} {av : List Value} {sz : Nat} (hy : plainName y.cls = true) (hlen : (lg_sl av).length ≤ maxL)
    (body : (∀ (p : Program) (e : Env) (s : State) (m : MethodId) (args : Array Value) (below : List Frame) (meth : Method) (c : Code) (A : Nat → Prop) (ls : Array Slot), p.tables.exec = Jvm.exec → c.code = cc → meth.sig.returnType = ret → c.maxLocals = maxL → s.vm.findClass y.cls = some m.cls → meth.locks = false → meth.name = y.name → s.heap.size = sz →
      va_P D vwCl ws s.heap → va_D A ws → (∀ q, s.heap.size ≤ q → A q) → EV D cy g A s s.heap → (∀ w ∈ BT, w.before args s = true) → va_S A s.heap s.heap [] → lv_has ls maxL (lv_args 0 av) →
      W p l e rm s m args below meth c s.heap [] 0 0 (MQ below (QF D r W' A) args s mc ms A) (F0 m 0 ls []))) :
    Met l y [.code y cc maxL ret] rm (PC D cy g ws sz av) (QF D r W' (va_A ws sz)) mc ms (va_A ws sz) := st_i (QA := fun A => QF D r W' A) hy hlen body
theorem sh_F {W' : (Nat → Nat) → va_W} {r : UInt32} {av : List Value} {sz : Nat} {hh : List (Nat × Nat × Nat × Nat)} (hy : plainName y.cls = true) (hlen : (lg_sl av).length ≤ maxL)
    (body : (∀ (p : Program) (e : Env) (s : State) (m : MethodId) (args : Array Value) (below : List Frame) (meth : Method) (c : Code) (A : Nat → Prop) (ls : Array Slot), p.tables.exec = Jvm.exec → c.code = cc → meth.sig.returnType = ret → c.maxLocals = maxL → s.vm.findClass y.cls = some m.cls → meth.locks = false → meth.name = y.name → s.heap.size = sz →
      va_P D vwCl ws s.heap → va_D A ws → (∀ q, s.heap.size ≤ q → A q) → EV D cy g A s s.heap → (∀ w ∈ BT, w.before args s = true) → va_S A s.heap s.heap [] → lv_has ls maxL (lv_args 0 av) → c.exceptionTable.toList = tableOf hh →
      W p l e rm s m args below meth c s.heap [] 0 0 (MQ below (QF D r W' A) args s mc ms A) (F0 m 0 ls []))) :
    Met l y [.codeWith y cc maxL ret hh] rm (PC D cy g ws sz av) (QF D r W' (va_A ws sz)) mc ms (va_A ws sz) := st_h (QA := fun A => QF D r W' A) hy hlen body
theorem st_D {W' : (Nat → Nat) → va_W} {r : UInt64} {av : List Value} {sz : Nat} (hy : plainName y.cls = true) (hlen : (lg_sl av).length ≤ maxL)
    (body : (∀ (p : Program) (e : Env) (s : State) (m : MethodId) (args : Array Value) (below : List Frame) (meth : Method) (c : Code) (A : Nat → Prop) (ls : Array Slot), p.tables.exec = Jvm.exec → c.code = cc → meth.sig.returnType = ret → c.maxLocals = maxL → s.vm.findClass y.cls = some m.cls → meth.locks = false → meth.name = y.name → s.heap.size = sz →
      va_P D vwCl ws s.heap → va_D A ws → (∀ q, s.heap.size ≤ q → A q) → EV D cy g A s s.heap → (∀ w ∈ BT, w.before args s = true) → va_S A s.heap s.heap [] → lv_has ls maxL (lv_args 0 av) →
      W p l e rm s m args below meth c s.heap [] 0 0 (MQ below (QD D r W' A) args s mc ms A) (F0 m 0 ls []))) :
    Met l y [.code y cc maxL ret] rm (PC D cy g ws sz av) (QD D r W' (va_A ws sz)) mc ms (va_A ws sz) := st_i (QA := fun A => QD D r W' A) hy hlen body
theorem sh_D {W' : (Nat → Nat) → va_W} {r : UInt64} {av : List Value} {sz : Nat} {hh : List (Nat × Nat × Nat × Nat)} (hy : plainName y.cls = true) (hlen : (lg_sl av).length ≤ maxL)
    (body : (∀ (p : Program) (e : Env) (s : State) (m : MethodId) (args : Array Value) (below : List Frame) (meth : Method) (c : Code) (A : Nat → Prop) (ls : Array Slot), p.tables.exec = Jvm.exec → c.code = cc → meth.sig.returnType = ret → c.maxLocals = maxL → s.vm.findClass y.cls = some m.cls → meth.locks = false → meth.name = y.name → s.heap.size = sz →
      va_P D vwCl ws s.heap → va_D A ws → (∀ q, s.heap.size ≤ q → A q) → EV D cy g A s s.heap → (∀ w ∈ BT, w.before args s = true) → va_S A s.heap s.heap [] → lv_has ls maxL (lv_args 0 av) → c.exceptionTable.toList = tableOf hh →
      W p l e rm s m args below meth c s.heap [] 0 0 (MQ below (QD D r W' A) args s mc ms A) (F0 m 0 ls []))) :
    Met l y [.codeWith y cc maxL ret hh] rm (PC D cy g ws sz av) (QD D r W' (va_A ws sz)) mc ms (va_A ws sz) := st_h (QA := fun A => QD D r W' A) hy hlen body
theorem st_V {W' : (Nat → Nat) → va_W} {av : List Value} {sz : Nat} (hy : plainName y.cls = true) (hlen : (lg_sl av).length ≤ maxL)
    (body : (∀ (p : Program) (e : Env) (s : State) (m : MethodId) (args : Array Value) (below : List Frame) (meth : Method) (c : Code) (A : Nat → Prop) (ls : Array Slot), p.tables.exec = Jvm.exec → c.code = cc → meth.sig.returnType = ret → c.maxLocals = maxL → s.vm.findClass y.cls = some m.cls → meth.locks = false → meth.name = y.name → s.heap.size = sz →
      va_P D vwCl ws s.heap → va_D A ws → (∀ q, s.heap.size ≤ q → A q) → EV D cy g A s s.heap → (∀ w ∈ BT, w.before args s = true) → va_S A s.heap s.heap [] → lv_has ls maxL (lv_args 0 av) →
      W p l e rm s m args below meth c s.heap [] 0 0 (MQ below (QV D W' A) args s mc ms A) (F0 m 0 ls []))) :
    Met l y [.code y cc maxL ret] rm (PC D cy g ws sz av) (QV D W' (va_A ws sz)) mc ms (va_A ws sz) := st_i (QA := fun A => QV D W' A) hy hlen body
theorem sh_V {W' : (Nat → Nat) → va_W} {av : List Value} {sz : Nat} {hh : List (Nat × Nat × Nat × Nat)} (hy : plainName y.cls = true) (hlen : (lg_sl av).length ≤ maxL)
    (body : (∀ (p : Program) (e : Env) (s : State) (m : MethodId) (args : Array Value) (below : List Frame) (meth : Method) (c : Code) (A : Nat → Prop) (ls : Array Slot), p.tables.exec = Jvm.exec → c.code = cc → meth.sig.returnType = ret → c.maxLocals = maxL → s.vm.findClass y.cls = some m.cls → meth.locks = false → meth.name = y.name → s.heap.size = sz →
      va_P D vwCl ws s.heap → va_D A ws → (∀ q, s.heap.size ≤ q → A q) → EV D cy g A s s.heap → (∀ w ∈ BT, w.before args s = true) → va_S A s.heap s.heap [] → lv_has ls maxL (lv_args 0 av) → c.exceptionTable.toList = tableOf hh →
      W p l e rm s m args below meth c s.heap [] 0 0 (MQ below (QV D W' A) args s mc ms A) (F0 m 0 ls []))) :
    Met l y [.codeWith y cc maxL ret hh] rm (PC D cy g ws sz av) (QV D W' (va_A ws sz)) mc ms (va_A ws sz) := st_h (QA := fun A => QV D W' A) hy hlen body
theorem st_R {W' : (Nat → Nat) → va_W} {r : (Nat → Nat) → Nat} {av : List Value} {sz : Nat} (hy : plainName y.cls = true) (hlen : (lg_sl av).length ≤ maxL)
    (body : (∀ (p : Program) (e : Env) (s : State) (m : MethodId) (args : Array Value) (below : List Frame) (meth : Method) (c : Code) (A : Nat → Prop) (ls : Array Slot), p.tables.exec = Jvm.exec → c.code = cc → meth.sig.returnType = ret → c.maxLocals = maxL → s.vm.findClass y.cls = some m.cls → meth.locks = false → meth.name = y.name → s.heap.size = sz →
      va_P D vwCl ws s.heap → va_D A ws → (∀ q, s.heap.size ≤ q → A q) → EV D cy g A s s.heap → (∀ w ∈ BT, w.before args s = true) → va_S A s.heap s.heap [] → lv_has ls maxL (lv_args 0 av) →
      W p l e rm s m args below meth c s.heap [] 0 0 (MQ below (QR D r W' A) args s mc ms A) (F0 m 0 ls []))) :
    Met l y [.code y cc maxL ret] rm (PC D cy g ws sz av) (QR D r W' (va_A ws sz)) mc ms (va_A ws sz) := st_i (QA := fun A => QR D r W' A) hy hlen body
theorem sh_R {W' : (Nat → Nat) → va_W} {r : (Nat → Nat) → Nat} {av : List Value} {sz : Nat} {hh : List (Nat × Nat × Nat × Nat)} (hy : plainName y.cls = true) (hlen : (lg_sl av).length ≤ maxL)
    (body : (∀ (p : Program) (e : Env) (s : State) (m : MethodId) (args : Array Value) (below : List Frame) (meth : Method) (c : Code) (A : Nat → Prop) (ls : Array Slot), p.tables.exec = Jvm.exec → c.code = cc → meth.sig.returnType = ret → c.maxLocals = maxL → s.vm.findClass y.cls = some m.cls → meth.locks = false → meth.name = y.name → s.heap.size = sz →
      va_P D vwCl ws s.heap → va_D A ws → (∀ q, s.heap.size ≤ q → A q) → EV D cy g A s s.heap → (∀ w ∈ BT, w.before args s = true) → va_S A s.heap s.heap [] → lv_has ls maxL (lv_args 0 av) → c.exceptionTable.toList = tableOf hh →
      W p l e rm s m args below meth c s.heap [] 0 0 (MQ below (QR D r W' A) args s mc ms A) (F0 m 0 ls []))) :
    Met l y [.codeWith y cc maxL ret hh] rm (PC D cy g ws sz av) (QR D r W' (va_A ws sz)) mc ms (va_A ws sz) := st_h (QA := fun A => QR D r W' A) hy hlen body
theorem st_X {E0 : String} {av : List Value} {sz : Nat} (hy : plainName y.cls = true) (hlen : (lg_sl av).length ≤ maxL)
    (body : (∀ (p : Program) (e : Env) (s : State) (m : MethodId) (args : Array Value) (below : List Frame) (meth : Method) (c : Code) (A : Nat → Prop) (ls : Array Slot), p.tables.exec = Jvm.exec → c.code = cc → meth.sig.returnType = ret → c.maxLocals = maxL → s.vm.findClass y.cls = some m.cls → meth.locks = false → meth.name = y.name → s.heap.size = sz →
      va_P D vwCl ws s.heap → va_D A ws → (∀ q, s.heap.size ≤ q → A q) → EV D cy g A s s.heap → (∀ w ∈ BT, w.before args s = true) → va_S A s.heap s.heap [] → lv_has ls maxL (lv_args 0 av) → (∀ x ∈ c.exceptionTable.toList, False) →
      W p l e rm s m args below meth c s.heap [] 0 0 (vx_MQ below QN (XE E0 A) args s mc ms A) (F0 m 0 ls []))) :
    vx_Met l y [.code y cc maxL ret] rm (PC D cy g ws sz av) QN (XE E0 (va_A ws sz)) mc ms (va_A ws sz) := st_x (XA := fun A => XE E0 A) hy hlen body
end MB2

theorem vk_apart {A : Nat → Prop} {U : State} {H : Heap} {a1 a2 v1 v2 n1 n2 : Nat} {f1 f2 : Nat → Value} (h1 : va_OF "java/lang/String" "value" "[B" (.ref v1) a1 A U H) (h2 : va_OF "java/lang/String" "value" "[B" (.ref v2) a2 A U H) (t1 : va_T .byte v1 n1 f1 A U H) (t2 : va_T .byte v2 n2 f2 A U H) (hn : ¬ Int32.ofNat n1 = Int32.ofNat n2) : ¬ a1 = a2 := by
  intro e
  subst e
  obtain ⟨cf, k, i, f, cell, e1, -, e2, -, e3, -⟩ := h1
  obtain ⟨cf2, k2, i2, f2, cell2, d1, -, d2, -, d3, -⟩ := h2
  cases Option.some.inj (e1.symm.trans d1)
  cases Option.some.inj (e2.symm.trans d2)
  have e4 : v1 = v2 := Value.ref.inj (Option.some.inj (e3.symm.trans d3))
  subst e4
  obtain ⟨c1, p1, -, -, -, p2, -⟩ := t1
  obtain ⟨c2, q1, -, -, -, q2, -⟩ := t2
  cases Option.some.inj (p1.symm.trans q1)
  exact hn (p2.symm.trans q2)
abbrev GIV : List Cond := flatC (Jvm.Cond.and given_1 narrow_1)
theorem gv_sP_e : ∀ j, j < 5 → Cond.eq (.elem (.field (.string RX10 172) "java/lang/String" "value" "[B") (.int (Int32.ofNat j))) (.int ((([[112, 104, 116, 99, 118]] : List (List Int32)).getD 0 []).getD j 0)) ∈ GIV := by decide +kernel
theorem gv_sP {s : State} {b : Nat} (hs : ∀ w ∈ GIV, w.before #[Value.ref b] s = true) (hA : ∀ a : Nat, a < s.heap.size → ¬ AL s a) : ∃ adK adV : Nat → Nat, vk_S 1 [5] [[112, 104, 116, 99, 118]] adK adV (AL s) s s.heap ∧ ∀ i : Nat, i < 1 → (Term.string RX10 172).eval #[Value.ref b] s none [] s = some (.ref (adK i)) := by
  refine vk_Sof (args := #[Value.ref b]) (tm := fun _ => .string RX10 172) (fun i hi => ?_) (fun _ _ => hs _ (by decide +kernel)) (fun _ _ => hs _ (by decide +kernel)) (fun _ _ => hs _ (by decide +kernel)) (fun i hi => ?_) (fun i hi j hj => ?_) (fun i j hi hj hij => absurd (show i = j by omega) hij) hA
  · obtain rfl : i = 0 := by omega
    decide
  · obtain rfl : i = 0 := by omega
    exact hs _ (by decide +kernel)
  · obtain rfl : i = 0 := by omega
    exact hs _ (gv_sP_e j hj)
theorem gv_sA_e : ∀ j, j < 3 → Cond.eq (.elem (.field (.string RX10 209) "java/lang/String" "value" "[B") (.int (Int32.ofNat j))) (.int ((([[97, 105, 118]] : List (List Int32)).getD 0 []).getD j 0)) ∈ GIV := by decide +kernel
theorem gv_sA {s : State} {b : Nat} (hs : ∀ w ∈ GIV, w.before #[Value.ref b] s = true) (hA : ∀ a : Nat, a < s.heap.size → ¬ AL s a) : ∃ adK adV : Nat → Nat, vk_S 1 [3] [[97, 105, 118]] adK adV (AL s) s s.heap ∧ ∀ i : Nat, i < 1 → (Term.string RX10 209).eval #[Value.ref b] s none [] s = some (.ref (adK i)) := by
  refine vk_Sof (args := #[Value.ref b]) (tm := fun _ => .string RX10 209) (fun i hi => ?_) (fun _ _ => hs _ (by decide +kernel)) (fun _ _ => hs _ (by decide +kernel)) (fun _ _ => hs _ (by decide +kernel)) (fun i hi => ?_) (fun i hi j hj => ?_) (fun i j hi hj hij => absurd (show i = j by omega) hij) hA
  · obtain rfl : i = 0 := by omega
    decide
  · obtain rfl : i = 0 := by omega
    exact hs _ (by decide +kernel)
  · obtain rfl : i = 0 := by omega
    exact hs _ (gv_sA_e j hj)
theorem gv_str : ∀ q ∈ bsT, Cond.stringRef RX9 q.1 q.2 ∈ tables_1 ∧ Cond.exactly (.string RX9 q.1) "java/lang/String" ∈ GIV := by decide +kernel
theorem gv_nc : ∀ q ∈ ncT, Cond.not (.castable q.1 q.2) ∈ GIV := by decide +kernel
theorem ev_cl {s : State} {a : Array Value} (hb : ∀ w ∈ BT, w.before a s = true) : ∃ d : Nat → ClassId × (Nat → Nat), ∀ (k : Nat) (q : vw_C), vwCl[k]? = some q → u_Kn s q.1 q.2.1 q.2.2 (d k).1 (d k).2 := by
  have h : ∀ k : Nat, ∃ z : ClassId × (Nat → Nat), ∀ q : vw_C, vwCl[k]? = some q → u_Kn s q.1 q.2.1 q.2.2 z.1 z.2 := by
    intro k
    by_cases hk : k < 16
    · rcases (show k = 0 ∨ k = 1 ∨ k = 2 ∨ k = 3 ∨ k = 4 ∨ k = 5 ∨ k = 6 ∨ k = 7 ∨ k = 8 ∨ k = 9 ∨ k = 10 ∨ k = 11 ∨ k = 12 ∨ k = 13 ∨ k = 14 ∨ k = 15 by omega) with rfl | rfl | rfl | rfl | rfl | rfl | rfl | rfl | rfl | rfl | rfl | rfl | rfl | rfl | rfl | rfl
      · obtain ⟨c, i, hc⟩ := u_known (C := RJ0) (T := TJ0) (N := 2) hb ax_493 (hb _ tw_1290)
        exact ⟨(c, i), fun q hq => by cases hq; exact hc⟩
      · obtain ⟨c, i, hc⟩ := u_known (C := RJ6) (T := TJ6) (N := 1) hb ax_494 (hb _ tw_1292)
        exact ⟨(c, i), fun q hq => by cases hq; exact hc⟩
      · obtain ⟨c, i, hc⟩ := u_known (C := RJx00060) (T := TJx00060) (N := 6) hb ax_495 (hb _ tw_1299)
        exact ⟨(c, i), fun q hq => by cases hq; exact hc⟩
      · obtain ⟨c, i, hc⟩ := u_known (C := RJx35411) (T := TJx35411) (N := 4) hb ax_377 (hb _ tw_1021)
        exact ⟨(c, i), fun q hq => by cases hq; exact hc⟩
      · obtain ⟨c, i, hc⟩ := u_known (C := RJx4a65c) (T := TJx4a65c) (N := 3) hb ax_26 (hb _ tw_244)
        exact ⟨(c, i), fun q hq => by cases hq; exact hc⟩
      · obtain ⟨c, i, hc⟩ := u_known (C := RX0) (T := TX0) (N := 8) hb ax_1 (hb _ tw_167)
        exact ⟨(c, i), fun q hq => by cases hq; exact hc⟩
      · obtain ⟨c, i, hc⟩ := u_known (C := RX1) (T := TX1) (N := 13) hb ax_7 (hb _ tw_195)
        exact ⟨(c, i), fun q hq => by cases hq; exact hc⟩
      · obtain ⟨c, i, hc⟩ := u_known (C := RX2) (T := TX2) (N := 10) hb ax_13 (hb _ tw_208)
        exact ⟨(c, i), fun q hq => by cases hq; exact hc⟩
      · obtain ⟨c, i, hc⟩ := u_known (C := RX3) (T := TX3) (N := 9) hb ax_5 (hb _ tw_188)
        exact ⟨(c, i), fun q hq => by cases hq; exact hc⟩
      · obtain ⟨c, i, hc⟩ := u_known (C := RX4) (T := TX4) (N := 6) hb ax_4 (hb _ tw_75)
        exact ⟨(c, i), fun q hq => by cases hq; exact hc⟩
      · obtain ⟨c, i, hc⟩ := u_known (C := RX5) (T := TX5) (N := 4) hb ax_12 (hb _ tw_201)
        exact ⟨(c, i), fun q hq => by cases hq; exact hc⟩
      · obtain ⟨c, i, hc⟩ := u_known (C := RX6) (T := TX6) (N := 5) hb ax_14 (hb _ tw_215)
        exact ⟨(c, i), fun q hq => by cases hq; exact hc⟩
      · obtain ⟨c, i, hc⟩ := u_known (C := RX7) (T := TX7) (N := 5) hb ax_3 (hb _ tw_181)
        exact ⟨(c, i), fun q hq => by cases hq; exact hc⟩
      · obtain ⟨c, i, hc⟩ := u_known (C := RX8) (T := TX8) (N := 3) hb ax_0 (hb _ tw_24)
        exact ⟨(c, i), fun q hq => by cases hq; exact hc⟩
      · obtain ⟨c, i, hc⟩ := u_known (C := RX9) (T := TX9) (N := 7) hb ax_16 (hb _ tw_1300)
        exact ⟨(c, i), fun q hq => by cases hq; exact hc⟩
      · obtain ⟨c, i, hc⟩ := u_known (C := RX10) (T := TX10) (N := 28) hb ax_29 (hb _ tw_1301)
        exact ⟨(c, i), fun q hq => by cases hq; exact hc⟩
    · exact ⟨(0, fun _ => 0), fun q hq => by
        rw [List.getElem?_eq_none (show vwCl.length ≤ k from Nat.le_of_not_lt hk)] at hq
        cases hq⟩
  obtain ⟨d, hd⟩ := Classical.axiomOfChoice h
  exact ⟨d, hd⟩
theorem ev_ar {s : State} {a : Array Value} {b : Nat} (hb : ∀ w ∈ BT, w.before a s = true) (hts : ∀ w ∈ lw_tbl, w.before #[Value.ref b] s = true) : ∃ cy : Nat → ClassId, ∀ (k : Nat) (q : ClassId × FieldType), (TYS cy)[k]? = some q → ArrOfT s q.1 q.2 ∧ va_RA s q.1 q.2 := by
  obtain ⟨c0, k0, p0, h0a, h0b, h0c⟩ := Cond.arrayClass_spec (type := .char) (hb _ tw_59)
  obtain ⟨c1, k1, p1, h1a, h1b, h1c⟩ := Cond.arrayClass_spec (type := .int) (hb _ tw_11)
  obtain ⟨c2, k2, p2, h2a, h2b, h2c⟩ := Cond.arrayClass_spec (type := .long) (hb _ tw_7)
  obtain ⟨c3, k3, p3, h3a, h3b, h3c⟩ := Cond.arrayClass_spec (type := .double) (hb _ tw_1302)
  obtain ⟨p4, c4, k4, h4a, -, h4b, h4c, h4d⟩ := Cond.arrayOver_spec (n := "Cycleworks$Whole") (hts _ (List.mem_append_right _ (tb_1 (List.mem_of_getElem? (i := 55) (by decide +kernel)))))
  obtain ⟨p5, c5, k5, h5a, -, h5b, h5c, h5d⟩ := Cond.arrayOver_spec (n := "java/lang/Object") (hts _ (List.mem_append_right _ (tb_7 (List.mem_of_getElem? (i := 159) (by decide +kernel)))))
  refine ⟨fun k => [c0, c1, c2, c3, c4, c5].getD k 0, fun k q hq => ?_⟩
  by_cases hk : k < 6
  · rcases (show k = 0 ∨ k = 1 ∨ k = 2 ∨ k = 3 ∨ k = 4 ∨ k = 5 by omega) with rfl | rfl | rfl | rfl | rfl | rfl
    · cases hq; exact ⟨fun n z => ⟨(fun k h => by cases h), k0, h0b, p0, h0c⟩, h0a⟩
    · cases hq; exact ⟨fun n z => ⟨(fun k h => by cases h), k1, h1b, p1, h1c⟩, h1a⟩
    · cases hq; exact ⟨fun n z => ⟨(fun k h => by cases h), k2, h2b, p2, h2c⟩, h2a⟩
    · cases hq; exact ⟨fun n z => ⟨(fun k h => by cases h), k3, h3b, p3, h3c⟩, h3a⟩
    · cases hq; exact ⟨fun n z => ⟨(fun k h => by cases h), k4, h4b, p4, h4c⟩, k4, p4, h4b, h4c, h4a, h4d⟩
    · cases hq; exact ⟨fun n z => ⟨(fun k h => by cases h), k5, h5b, p5, h5c⟩, k5, p5, h5b, h5c, h5a, h5d⟩
  · rw [List.getElem?_eq_none (show (TYS _).length ≤ k from Nat.le_of_not_lt hk)] at hq
    cases hq
theorem ev_start {s : State} {b : Nat} (hts : ∀ w ∈ lw_tbl, w.before #[Value.ref b] s = true) (hgv : (Jvm.Cond.and given_1 narrow_1).before #[Value.ref b] s = true) : ∃ (D : va_G) (cy : Nat → ClassId) (g : Nat → Nat), EV D cy g (AL s) s s.heap := by
  have hs : ∀ w ∈ GIV, w.before #[Value.ref b] s = true := flat_of_before _ hgv
  have hV : VB s := VB_of hts
  have hb : ∀ w ∈ BT, w.before #[Value.ref b] s = true := fun w hw => hV w hw _
  have hA : ∀ a : Nat, a < s.heap.size → ¬ AL s a := fun a h z => absurd h (Nat.not_lt.mpr z)
  obtain ⟨d, hd⟩ := ev_cl hb
  obtain ⟨cy, hcy⟩ := ev_ar hb hts
  obtain ⟨kP, vP, hP, eP⟩ := gv_sP hs hA
  obtain ⟨kA, vA, hB, eA⟩ := gv_sA hs hA
  obtain ⟨tE, htE, hTE⟩ := va_Tof (args := #[Value.ref b]) (s := s) (tm := .static "java/util/ArrayList" "DEFAULTCAPACITY_EMPTY_ELEMENTDATA" "[Ljava/lang/Object;") (ty := .object "java/lang/Object") (N := 0) (f := fun _ => .null) (A := AL s) (by decide) (hs _ (by decide +kernel)) (va_eqt (hs _ (by decide +kernel))) (fun j hj => absurd hj (Nat.not_lt_zero j)) hA
  refine ⟨(fun k => (d k).1, fun k => (d k).2), cy, fun i => [tE, kP 0, kA 0, vP 0, vA 0].getD i 0, ⟨hd, hcy⟩, hV, ⟨fun q hq => ?_, ?_, ?_⟩, fun q hq => ?_, ⟨?_, ?_⟩, ?_, ?_, ?_, ?_, ?_, ?_⟩
  · obtain ⟨h1, h2⟩ := gv_str q hq
    obtain ⟨a, -, -, -, h3, -⟩ := Cond.exactly_spec (hs _ h2)
    exact ⟨a, vk_R.of (hts _ (List.mem_append_right _ h1)) h3⟩
  · exact vk_R.of (hts _ (List.mem_append_right _ (tb_8 (List.mem_of_getElem? (i := 66) (by decide +kernel))))) (eP 0 (by decide))
  · exact vk_R.of (hts _ (List.mem_append_right _ (tb_9 (List.mem_of_getElem? (i := 30) (by decide +kernel))))) (eA 0 (by decide))
  · exact va_Nc.of (hs _ (gv_nc q hq))
  · exact va_AO.of (hts _ (List.mem_append_right _ (tb_1 (List.mem_of_getElem? (i := 55) (by decide +kernel)))))
  · exact va_AO.of (hts _ (List.mem_append_right _ (tb_7 (List.mem_of_getElem? (i := 159) (by decide +kernel)))))
  · exact vx_Zqof (args := #[Value.ref b]) (hts _ (List.mem_append_right _ (tb_3 (List.mem_of_getElem? (i := 90) (by decide +kernel))))) (hb _ tw_1303) (hs _ (by decide +kernel)) hA
  · exact vx_Zqof (args := #[Value.ref b]) (hts _ (List.mem_append_right _ (tb_3 (List.mem_of_getElem? (i := 92) (by decide +kernel))))) (hb _ tw_1303) (hs _ (by decide +kernel)) hA
  · exact va_Zref (args := #[Value.ref b]) (hts _ (List.mem_append_right _ (tb_6 (List.mem_of_getElem? (i := 209) (by decide +kernel))))) (hb _ tw_245) htE hA
  · exact hTE
  · exact va_Zof (args := #[Value.ref b]) (hts _ (List.mem_append_right _ (tb_8 (List.mem_of_getElem? (i := 80) (by decide +kernel))))) (hb _ tw_636) (va_eqi (hs _ (by decide +kernel))) hA
  · refine ⟨fun i hi => ?_, fun i j hi hj e => ?_⟩
    · rcases (show i = 0 ∨ i = 1 by omega) with rfl | rfl
      · exact hP.1 0 (by decide)
      · exact hB.1 0 (by decide)
    · have hne : ¬ kP 0 = kA 0 := vk_apart (hP.1 0 (by decide)).2.2.1 (hB.1 0 (by decide)).2.2.1 (hP.1 0 (by decide)).2.2.2 (hB.1 0 (by decide)).2.2.2 (by decide)
      rcases (show i = 0 ∨ i = 1 by omega) with rfl | rfl <;> rcases (show j = 0 ∨ j = 1 by omega) with rfl | rfl
      · rfl
      · exact absurd e hne
      · exact absurd e.symm hne
      · rfl

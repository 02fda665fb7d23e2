set_option maxHeartbeats 4000000 in
set_option maxRecDepth 100000 in
theorem lc_38 {p : Program} {e : Env} {s : State} {m : MethodId} {below : List Frame} {meth : Method} {c : Code} {l : Launch} {b : Nat} {xs : Nat → Int32} {D : va_G} {cy : Nat → ClassId} {g : Nat → Nat} (hst : l.stackTraces = false) (LC : LCtx p s m meth c b xs D cy g) (ax am aj ao : Nat) (xa ma : Nat → Nat) (x1 x2 x3 x4 : Int32) (e1 : xs (1 : Int32).toNatClampNeg = x1) (e2 : xs (2 : Int32).toNatClampNeg = x2) (e3 : xs (3 : Int32).toNatClampNeg = x3) (e4 : xs (4 : Int32).toNatClampNeg = x4) {H : Heap} {locs : List Loc} (hP : va_P D vwCl [(ax, .inr (14, [.ref (xa 0), .ref (xa 13), .ref (xa 18), .ref (xa 34), .ref (xa 45), .ref (xa 49), .ref (xa 50)])), ((xa 49), .inr (7, [.int 1000, .int 10, .int 0, .int 3000, .int 50, .int 1000, .int 50, .int 0, .int 0, .int 0])), (am, .inr (15, [.int 0, .ref (ma 0), .int 0, .int 0, .int 0, .int 0, .ref (ma 1), .ref (ma 2), .null, .int 1, .int 10, .int 900, .ref (ma 3), .ref (ma 4), .int 0, .int 0, .int 0, .ref (ma 5), .int 1000, .int 50, .int 50, .int 1000, .int 10, .int 0, .int 3000, .int 0, .int 0, .int 0])), (aj, .inl (cy 2, 1, .inr (.inl (fun _ => 0))))] H) (hD : va_D (AL s) [(ax, .inr (14, [.ref (xa 0), .ref (xa 13), .ref (xa 18), .ref (xa 34), .ref (xa 45), .ref (xa 49), .ref (xa 50)])), ((xa 49), .inr (7, [.int 1000, .int 10, .int 0, .int 3000, .int 50, .int 1000, .int 50, .int 0, .int 0, .int 0])), (am, .inr (15, [.int 0, .ref (ma 0), .int 0, .int 0, .int 0, .int 0, .ref (ma 1), .ref (ma 2), .null, .int 1, .int 10, .int 900, .ref (ma 3), .ref (ma 4), .int 0, .int 0, .int 0, .ref (ma 5), .int 1000, .int 50, .int 50, .int 1000, .int 10, .int 0, .int 3000, .int 0, .int 0, .int 0])), (aj, .inl (cy 2, 1, .inr (.inl (fun _ => 0))))]) (hS : va_S (AL s) s.heap H locs) (ls : Array Slot) (hl : lv_has ls 9 [(5, .int 0), (4, .ref ao), (3, .ref aj), (2, .ref am), (1, .ref ax), (0, .ref b)]) : W p l e room_1 s m #[Value.ref b] below meth c H locs 100 1000 (lw_Z below #[Value.ref b] s) (F0 m 2323 ls []) := by
  obtain ⟨hx, hb, hr, hml, hown, hlk, hts, hE, hX, hbl⟩ := id LC
  have hA : ∀ q, s.heap.size ≤ q → (AL s) q := fun _ h => h
  have hbA : ¬ (AL s) b := Nat.not_le.mpr hbl
  by_cases c0 : x1 < 0
  · refine lv_aload_n hx hb dL_law_2323 rfl (lv_at hl 4 rfl) ?_
    refine lv_aload_n hx hb dL_law_2324 rfl (lv_at hl 5 rfl) ?_
    refine lv_iload hx hb dL_law_2325 (lv_at hl 0 rfl) ?_
    refine lv_iconst (v := 1) hx hb dL_law_2327 (by decide) ?_
    refine lv_iadd hx hb dL_law_2328 ?_
    refine tp_i 1 (by decide) ?_
    refine va_sld hx hb hX hbl hbA hS (by unfold vp_in; decide) dL_law_2329 ?_
    refine tp_i x1 e1 ?_
    refine lv_aload_n hx hb dL_law_2330 rfl (lv_at hl 5 rfl) ?_
    refine lv_iload hx hb dL_law_2331 (lv_at hl 0 rfl) ?_
    refine lv_iconst (v := 2) hx hb dL_law_2333 (by decide) ?_
    refine lv_iadd hx hb dL_law_2334 ?_
    refine tp_i 2 (by decide) ?_
    refine va_sld hx hb hX hbl hbA hS (by unfold vp_in; decide) dL_law_2335 ?_
    refine tp_i x2 e2 ?_
    refine lv_aload_n hx hb dL_law_2336 rfl (lv_at hl 5 rfl) ?_
    refine lv_iload hx hb dL_law_2337 (lv_at hl 0 rfl) ?_
    refine lv_iconst (v := 3) hx hb dL_law_2339 (by decide) ?_
    refine lv_iadd hx hb dL_law_2340 ?_
    refine tp_i 3 (by decide) ?_
    refine va_sld hx hb hX hbl hbA hS (by unfold vp_in; decide) dL_law_2341 ?_
    refine tp_i x3 e3 ?_
    refine lv_aload_n hx hb dL_law_2342 rfl (lv_at hl 5 rfl) ?_
    refine lv_iload hx hb dL_law_2343 (lv_at hl 0 rfl) ?_
    refine lv_iconst (v := 4) hx hb dL_law_2345 (by decide) ?_
    refine lv_iadd hx hb dL_law_2346 ?_
    refine tp_i 4 (by decide) ?_
    refine va_sld hx hb hX hbl hbA hS (by unfold vp_in; decide) dL_law_2347 ?_
    refine tp_i x4 e4 ?_
    refine lv_aload_n hx hb dL_law_2348 rfl (lv_at hl 2 rfl) ?_
    refine ca_i (isC := [0]) (isR := [1, 2, 3]) (wr := [((xa 49), .inr (7, [.int 1000, .int 10, .int 0, .int 3000, .int 50, .int 1000, .int 50, .int 0, .int 0, .int 0])), (am, .inr (15, [.int 0, .ref (ma 0), .int 0, .int 0, .int 0, .int 0, .ref (ma 1), .ref (ma 2), .null, .int 1, .int 10, .int 900, .ref (ma 3), .ref (ma 4), .int 0, .int 0, .int 0, .ref (ma 5), .int 1000, .int 50, .int 50, .int 1000, .int 10, .int 0, .int 3000, .int 0, .int 0, .int 0])), (aj, .inl (cy 2, 1, .inr (.inl (fun _ => 0))))]) (rn_SW (isC := [0]) (wc := [(ax, .inr (14, [.ref (xa 0), .ref (xa 13), .ref (xa 18), .ref (xa 34), .ref (xa 45), .ref (xa 49), .ref (xa 50)]))]) (As := [.ref ax, .int x1, .int x2, .int x3, .int x4, .ref aj]) (rest := []) (n := 6) hx hb hml hown hts hE hS hP hD hA hl.1 (k573_L_setGovernor l hst D cy g x1 x2 x3 x4 ax aj (.ref (xa 0)) (.ref (xa 13)) (.ref (xa 18)) (.ref (xa 34)) (.ref (xa 45)) (.ref (xa 49)) (.ref (xa 50)) H.size c0) rfl rfl ax_404 rfl rfl ax_405 ⟨Nat.le_of_ble_eq_true rfl, Nat.le_of_ble_eq_true rfl⟩ rfl rfl (Nat.le_of_ble_eq_true rfl) dL_law_2349 ⟨(Nat.le_of_ble_eq_true rfl), (Nat.le_of_ble_eq_true rfl)⟩) hP hD hS hA rfl rfl rfl (by decide) (fun ad2349 H locs hP hD hS => ?_)
    have hP : va_P D vwCl [((xa 49), .inr (7, [.int 1000, .int 10, .int 0, .int 3000, .int 50, .int 1000, .int 50, .int 0, .int 0, .int 0])), (am, .inr (15, [.int 0, .ref (ma 0), .int 0, .int 0, .int 0, .int 0, .ref (ma 1), .ref (ma 2), .null, .int 1, .int 10, .int 900, .ref (ma 3), .ref (ma 4), .int 0, .int 0, .int 0, .ref (ma 5), .int 1000, .int 50, .int 50, .int 1000, .int 10, .int 0, .int 3000, .int 0, .int 0, .int 0])), (aj, .inl (cy 2, 1, .inr (.inl (fun _ => 0))))] H := hP
    have hD : va_D (AL s) [((xa 49), .inr (7, [.int 1000, .int 10, .int 0, .int 3000, .int 50, .int 1000, .int 50, .int 0, .int 0, .int 0])), (am, .inr (15, [.int 0, .ref (ma 0), .int 0, .int 0, .int 0, .int 0, .ref (ma 1), .ref (ma 2), .null, .int 1, .int 10, .int 900, .ref (ma 3), .ref (ma 4), .int 0, .int 0, .int 0, .ref (ma 5), .int 1000, .int 50, .int 50, .int 1000, .int 10, .int 0, .int 3000, .int 0, .int 0, .int 0])), (aj, .inl (cy 2, 1, .inr (.inl (fun _ => 0))))] := hD
    refine lv_istore (lv' := [(6, .int 1), (5, .int 0), (4, .ref ao), (3, .ref aj), (2, .ref am), (1, .ref ax), (0, .ref b)]) hx hb dL_law_2352 hl (Nat.le_of_ble_eq_true rfl) rfl (fun ls hl => ?_)
    refine lv_aload_n hx hb dL_law_2354 rfl (lv_at hl 4 rfl) ?_
    refine lv_aload_n hx hb dL_law_2355 rfl (lv_at hl 6 rfl) ?_
    refine lv_iload hx hb dL_law_2356 (lv_at hl 1 rfl) ?_
    refine lv_iconst (v := 1) hx hb dL_law_2358 (by decide) ?_
    refine lv_iadd hx hb dL_law_2359 ?_
    refine tp_i 1 (by decide) ?_
    refine va_sld hx hb hX hbl hbA hS (by unfold vp_in; decide) dL_law_2360 ?_
    refine tp_i x1 e1 ?_
    refine lv_aload_n hx hb dL_law_2361 rfl (lv_at hl 6 rfl) ?_
    refine lv_iload hx hb dL_law_2362 (lv_at hl 1 rfl) ?_
    refine lv_iconst (v := 2) hx hb dL_law_2364 (by decide) ?_
    refine lv_iadd hx hb dL_law_2365 ?_
    refine tp_i 2 (by decide) ?_
    refine va_sld hx hb hX hbl hbA hS (by unfold vp_in; decide) dL_law_2366 ?_
    refine tp_i x2 e2 ?_
    refine lv_aload_n hx hb dL_law_2367 rfl (lv_at hl 6 rfl) ?_
    refine lv_iload hx hb dL_law_2368 (lv_at hl 1 rfl) ?_
    refine lv_iconst (v := 3) hx hb dL_law_2370 (by decide) ?_
    refine lv_iadd hx hb dL_law_2371 ?_
    refine tp_i 3 (by decide) ?_
    refine va_sld hx hb hX hbl hbA hS (by unfold vp_in; decide) dL_law_2372 ?_
    refine tp_i x3 e3 ?_
    refine lv_aload_n hx hb dL_law_2373 rfl (lv_at hl 6 rfl) ?_
    refine lv_iload hx hb dL_law_2374 (lv_at hl 1 rfl) ?_
    refine lv_iconst (v := 4) hx hb dL_law_2376 (by decide) ?_
    refine lv_iadd hx hb dL_law_2377 ?_
    refine tp_i 4 (by decide) ?_
    refine va_sld hx hb hX hbl hbA hS (by unfold vp_in; decide) dL_law_2378 ?_
    refine tp_i x4 e4 ?_
    refine ca_i (isC := [1]) (isR := [0, 2]) (wr := [((xa 49), .inr (7, [.int 1000, .int 10, .int 0, .int 3000, .int 50, .int 1000, .int 50, .int 0, .int 0, .int 0])), (aj, .inl (cy 2, 1, .inr (.inl (fun _ => 0))))]) (rn_V (ci := 15) (q0 := 1) (isC := [1]) (wc := [(am, .inr (15, [.int 0, .ref (ma 0), .int 0, .int 0, .int 0, .int 0, .ref (ma 1), .ref (ma 2), .null, .int 1, .int 10, .int 900, .ref (ma 3), .ref (ma 4), .int 0, .int 0, .int 0, .ref (ma 5), .int 1000, .int 50, .int 50, .int 1000, .int 10, .int 0, .int 3000, .int 0, .int 0, .int 0]))]) (As := [.int x1, .int x2, .int x3, .int x4]) (rest := []) (n := 4) hx hb hml hown hts hE hS hP hD hA hl.1 (k574_X10_setGovernor l D cy g x1 x2 x3 x4 am (.int 0) (.ref (ma 0)) (.int 0) (.int 0) (.int 0) (.int 0) (.ref (ma 1)) (.ref (ma 2)) (.null) (.int 1) (.int 10) (.int 900) (.ref (ma 3)) (.ref (ma 4)) (.int 0) (.int 0) (.int 0) (.ref (ma 5)) (.int 1000) (.int 50) (.int 50) (.int 1000) (.int 10) (.int 0) (.int 3000) (.int 0) (.int 0) (.int 0) H.size c0) rfl rfl rfl rfl rfl ax_406 rfl rfl ax_407 ⟨Nat.le_of_ble_eq_true rfl, Nat.le_of_ble_eq_true rfl⟩ rfl rfl (Nat.le_of_ble_eq_true rfl) dL_law_2379 ⟨(Nat.le_of_ble_eq_true rfl), (Nat.le_of_ble_eq_true rfl)⟩) hP hD hS hA rfl rfl rfl (by decide) (fun ad2379 H locs hP hD hS => ?_)
    have hP : va_P D vwCl [((xa 49), .inr (7, [.int 1000, .int 10, .int 0, .int 3000, .int 50, .int 1000, .int 50, .int 0, .int 0, .int 0])), (aj, .inl (cy 2, 1, .inr (.inl (fun _ => 0)))), (am, .inr (15, [.int 1, .ref (ma 0), .int 0, .int 0, .int 0, .int 0, .ref (ma 1), .ref (ma 2), .null, .int 1, .int 10, .int 900, .ref (ma 3), .ref (ma 4), .int 0, .int 0, .int 0, .ref (ma 5), .int 1000, .int 50, .int 50, .int 1000, .int 10, .int 0, .int 3000, .int 0, .int 0, .int 0]))] H := hP
    have hD : va_D (AL s) [((xa 49), .inr (7, [.int 1000, .int 10, .int 0, .int 3000, .int 50, .int 1000, .int 50, .int 0, .int 0, .int 0])), (aj, .inl (cy 2, 1, .inr (.inl (fun _ => 0)))), (am, .inr (15, [.int 1, .ref (ma 0), .int 0, .int 0, .int 0, .int 0, .ref (ma 1), .ref (ma 2), .null, .int 1, .int 10, .int 900, .ref (ma 3), .ref (ma 4), .int 0, .int 0, .int 0, .ref (ma 5), .int 1000, .int 50, .int 50, .int 1000, .int 10, .int 0, .int 3000, .int 0, .int 0, .int 0]))] := hD
    refine lv_istore (lv' := [(7, .int (-1)), (6, .int 1), (5, .int 0), (4, .ref ao), (3, .ref aj), (2, .ref am), (1, .ref ax), (0, .ref b)]) hx hb dL_law_2382 hl (Nat.le_of_ble_eq_true rfl) rfl (fun ls hl => ?_)
    refine lv_aload_n hx hb dL_law_2384 rfl (lv_at hl 5 rfl) ?_
    refine ca_i (isC := [2]) (isR := [0, 1]) (wr := [((xa 49), .inr (7, [.int 1000, .int 10, .int 0, .int 3000, .int 50, .int 1000, .int 50, .int 0, .int 0, .int 0])), (aj, .inl (cy 2, 1, .inr (.inl (fun _ => 0))))]) (rn_V (ci := 15) (q0 := 2) (isC := [2]) (wc := [(am, .inr (15, [.int 1, .ref (ma 0), .int 0, .int 0, .int 0, .int 0, .ref (ma 1), .ref (ma 2), .null, .int 1, .int 10, .int 900, .ref (ma 3), .ref (ma 4), .int 0, .int 0, .int 0, .ref (ma 5), .int 1000, .int 50, .int 50, .int 1000, .int 10, .int 0, .int 3000, .int 0, .int 0, .int 0]))]) (As := []) (rest := []) (n := 0) hx hb hml hown hts hE hS hP hD hA hl.1 (k24_X10_thrown l D cy g am (.ref (ma 0)) (.int 0) (.int 0) (.int 0) (.int 0) (.ref (ma 1)) (.ref (ma 2)) (.null) (.int 1) (.int 10) (.int 900) (.ref (ma 3)) (.ref (ma 4)) (.int 0) (.int 0) (.int 0) (.ref (ma 5)) (.int 1000) (.int 50) (.int 50) (.int 1000) (.int 10) (.int 0) (.int 3000) (.int 0) (.int 0) (.int 0) H.size ) rfl rfl rfl rfl rfl ax_45 rfl rfl ax_46 ⟨Nat.le_of_ble_eq_true rfl, Nat.le_of_ble_eq_true rfl⟩ rfl rfl (Nat.le_of_ble_eq_true rfl) dL_law_2385 ⟨(Nat.le_of_ble_eq_true rfl), (Nat.le_of_ble_eq_true rfl)⟩) hP hD hS hA rfl rfl rfl (by decide) (fun ad2385 H locs hP hD hS => ?_)
    have hP : va_P D vwCl [((xa 49), .inr (7, [.int 1000, .int 10, .int 0, .int 3000, .int 50, .int 1000, .int 50, .int 0, .int 0, .int 0])), (aj, .inl (cy 2, 1, .inr (.inl (fun _ => 0)))), (am, .inr (15, [.int 1, .ref (ma 0), .int 0, .int 0, .int 0, .int 0, .ref (ma 1), .ref (ma 2), .null, .int 1, .int 10, .int 900, .ref (ma 3), .ref (ma 4), .int 0, .int 0, .int 0, .ref (ma 5), .int 1000, .int 50, .int 50, .int 1000, .int 10, .int 0, .int 3000, .int 0, .int 0, .int 0]))] H := hP
    have hD : va_D (AL s) [((xa 49), .inr (7, [.int 1000, .int 10, .int 0, .int 3000, .int 50, .int 1000, .int 50, .int 0, .int 0, .int 0])), (aj, .inl (cy 2, 1, .inr (.inl (fun _ => 0)))), (am, .inr (15, [.int 1, .ref (ma 0), .int 0, .int 0, .int 0, .int 0, .ref (ma 1), .ref (ma 2), .null, .int 1, .int 10, .int 900, .ref (ma 3), .ref (ma 4), .int 0, .int 0, .int 0, .ref (ma 5), .int 1000, .int 50, .int 50, .int 1000, .int 10, .int 0, .int 3000, .int 0, .int 0, .int 0]))] := hD
    refine lv_iload hx hb dL_law_2388 (lv_at hl 1 rfl) ?_
    refine lv_icmp_eq (tgt := 2395) hx hb dL_law_2390 (by decide) (fun _ => ?_) (fun z => absurd (by decide) z)
    refine lv_iload hx hb dL_law_2395 (lv_at hl 1 rfl) ?_
    refine lv_if_ne (tgt := 2412) hx hb dL_law_2397 (by decide) (fun _ => ?_) (fun z => absurd z (by decide))
    refine lv_goto (tgt := 2947) hx hb dL_law_2412 (by decide) ?_
    exact law_tail LC hS (Nat.le_of_ble_eq_true rfl) (Nat.le_of_ble_eq_true rfl) (lv_sub hl [2, 7] rfl)
  · by_cases c1 : (3000 : Int32) < x1
    · refine lv_aload_n hx hb dL_law_2323 rfl (lv_at hl 4 rfl) ?_
      refine lv_aload_n hx hb dL_law_2324 rfl (lv_at hl 5 rfl) ?_
      refine lv_iload hx hb dL_law_2325 (lv_at hl 0 rfl) ?_
      refine lv_iconst (v := 1) hx hb dL_law_2327 (by decide) ?_
      refine lv_iadd hx hb dL_law_2328 ?_
      refine tp_i 1 (by decide) ?_
      refine va_sld hx hb hX hbl hbA hS (by unfold vp_in; decide) dL_law_2329 ?_
      refine tp_i x1 e1 ?_
      refine lv_aload_n hx hb dL_law_2330 rfl (lv_at hl 5 rfl) ?_
      refine lv_iload hx hb dL_law_2331 (lv_at hl 0 rfl) ?_
      refine lv_iconst (v := 2) hx hb dL_law_2333 (by decide) ?_
      refine lv_iadd hx hb dL_law_2334 ?_
      refine tp_i 2 (by decide) ?_
      refine va_sld hx hb hX hbl hbA hS (by unfold vp_in; decide) dL_law_2335 ?_
      refine tp_i x2 e2 ?_
      refine lv_aload_n hx hb dL_law_2336 rfl (lv_at hl 5 rfl) ?_
      refine lv_iload hx hb dL_law_2337 (lv_at hl 0 rfl) ?_
      refine lv_iconst (v := 3) hx hb dL_law_2339 (by decide) ?_
      refine lv_iadd hx hb dL_law_2340 ?_
      refine tp_i 3 (by decide) ?_
      refine va_sld hx hb hX hbl hbA hS (by unfold vp_in; decide) dL_law_2341 ?_
      refine tp_i x3 e3 ?_
      refine lv_aload_n hx hb dL_law_2342 rfl (lv_at hl 5 rfl) ?_
      refine lv_iload hx hb dL_law_2343 (lv_at hl 0 rfl) ?_
      refine lv_iconst (v := 4) hx hb dL_law_2345 (by decide) ?_
      refine lv_iadd hx hb dL_law_2346 ?_
      refine tp_i 4 (by decide) ?_
      refine va_sld hx hb hX hbl hbA hS (by unfold vp_in; decide) dL_law_2347 ?_
      refine tp_i x4 e4 ?_
      refine lv_aload_n hx hb dL_law_2348 rfl (lv_at hl 2 rfl) ?_
      refine ca_i (isC := [0]) (isR := [1, 2, 3]) (wr := [((xa 49), .inr (7, [.int 1000, .int 10, .int 0, .int 3000, .int 50, .int 1000, .int 50, .int 0, .int 0, .int 0])), (am, .inr (15, [.int 0, .ref (ma 0), .int 0, .int 0, .int 0, .int 0, .ref (ma 1), .ref (ma 2), .null, .int 1, .int 10, .int 900, .ref (ma 3), .ref (ma 4), .int 0, .int 0, .int 0, .ref (ma 5), .int 1000, .int 50, .int 50, .int 1000, .int 10, .int 0, .int 3000, .int 0, .int 0, .int 0])), (aj, .inl (cy 2, 1, .inr (.inl (fun _ => 0))))]) (rn_SW (isC := [0]) (wc := [(ax, .inr (14, [.ref (xa 0), .ref (xa 13), .ref (xa 18), .ref (xa 34), .ref (xa 45), .ref (xa 49), .ref (xa 50)]))]) (As := [.ref ax, .int x1, .int x2, .int x3, .int x4, .ref aj]) (rest := []) (n := 6) hx hb hml hown hts hE hS hP hD hA hl.1 (k576_L_setGovernor l hst D cy g x1 x2 x3 x4 ax aj (.ref (xa 0)) (.ref (xa 13)) (.ref (xa 18)) (.ref (xa 34)) (.ref (xa 45)) (.ref (xa 49)) (.ref (xa 50)) H.size c0 c1) rfl rfl ax_404 rfl rfl ax_405 ⟨Nat.le_of_ble_eq_true rfl, Nat.le_of_ble_eq_true rfl⟩ rfl rfl (Nat.le_of_ble_eq_true rfl) dL_law_2349 ⟨(Nat.le_of_ble_eq_true rfl), (Nat.le_of_ble_eq_true rfl)⟩) hP hD hS hA rfl rfl rfl (by decide) (fun ad2349 H locs hP hD hS => ?_)
      have hP : va_P D vwCl [((xa 49), .inr (7, [.int 1000, .int 10, .int 0, .int 3000, .int 50, .int 1000, .int 50, .int 0, .int 0, .int 0])), (am, .inr (15, [.int 0, .ref (ma 0), .int 0, .int 0, .int 0, .int 0, .ref (ma 1), .ref (ma 2), .null, .int 1, .int 10, .int 900, .ref (ma 3), .ref (ma 4), .int 0, .int 0, .int 0, .ref (ma 5), .int 1000, .int 50, .int 50, .int 1000, .int 10, .int 0, .int 3000, .int 0, .int 0, .int 0])), (aj, .inl (cy 2, 1, .inr (.inl (fun _ => 0))))] H := hP
      have hD : va_D (AL s) [((xa 49), .inr (7, [.int 1000, .int 10, .int 0, .int 3000, .int 50, .int 1000, .int 50, .int 0, .int 0, .int 0])), (am, .inr (15, [.int 0, .ref (ma 0), .int 0, .int 0, .int 0, .int 0, .ref (ma 1), .ref (ma 2), .null, .int 1, .int 10, .int 900, .ref (ma 3), .ref (ma 4), .int 0, .int 0, .int 0, .ref (ma 5), .int 1000, .int 50, .int 50, .int 1000, .int 10, .int 0, .int 3000, .int 0, .int 0, .int 0])), (aj, .inl (cy 2, 1, .inr (.inl (fun _ => 0))))] := hD
      refine lv_istore (lv' := [(6, .int 1), (5, .int 0), (4, .ref ao), (3, .ref aj), (2, .ref am), (1, .ref ax), (0, .ref b)]) hx hb dL_law_2352 hl (Nat.le_of_ble_eq_true rfl) rfl (fun ls hl => ?_)
      refine lv_aload_n hx hb dL_law_2354 rfl (lv_at hl 4 rfl) ?_
      refine lv_aload_n hx hb dL_law_2355 rfl (lv_at hl 6 rfl) ?_
      refine lv_iload hx hb dL_law_2356 (lv_at hl 1 rfl) ?_
      refine lv_iconst (v := 1) hx hb dL_law_2358 (by decide) ?_
      refine lv_iadd hx hb dL_law_2359 ?_
      refine tp_i 1 (by decide) ?_
      refine va_sld hx hb hX hbl hbA hS (by unfold vp_in; decide) dL_law_2360 ?_
      refine tp_i x1 e1 ?_
      refine lv_aload_n hx hb dL_law_2361 rfl (lv_at hl 6 rfl) ?_
      refine lv_iload hx hb dL_law_2362 (lv_at hl 1 rfl) ?_
      refine lv_iconst (v := 2) hx hb dL_law_2364 (by decide) ?_
      refine lv_iadd hx hb dL_law_2365 ?_
      refine tp_i 2 (by decide) ?_
      refine va_sld hx hb hX hbl hbA hS (by unfold vp_in; decide) dL_law_2366 ?_
      refine tp_i x2 e2 ?_
      refine lv_aload_n hx hb dL_law_2367 rfl (lv_at hl 6 rfl) ?_
      refine lv_iload hx hb dL_law_2368 (lv_at hl 1 rfl) ?_
      refine lv_iconst (v := 3) hx hb dL_law_2370 (by decide) ?_
      refine lv_iadd hx hb dL_law_2371 ?_
      refine tp_i 3 (by decide) ?_
      refine va_sld hx hb hX hbl hbA hS (by unfold vp_in; decide) dL_law_2372 ?_
      refine tp_i x3 e3 ?_
      refine lv_aload_n hx hb dL_law_2373 rfl (lv_at hl 6 rfl) ?_
      refine lv_iload hx hb dL_law_2374 (lv_at hl 1 rfl) ?_
      refine lv_iconst (v := 4) hx hb dL_law_2376 (by decide) ?_
      refine lv_iadd hx hb dL_law_2377 ?_
      refine tp_i 4 (by decide) ?_
      refine va_sld hx hb hX hbl hbA hS (by unfold vp_in; decide) dL_law_2378 ?_
      refine tp_i x4 e4 ?_
      refine ca_i (isC := [1]) (isR := [0, 2]) (wr := [((xa 49), .inr (7, [.int 1000, .int 10, .int 0, .int 3000, .int 50, .int 1000, .int 50, .int 0, .int 0, .int 0])), (aj, .inl (cy 2, 1, .inr (.inl (fun _ => 0))))]) (rn_V (ci := 15) (q0 := 1) (isC := [1]) (wc := [(am, .inr (15, [.int 0, .ref (ma 0), .int 0, .int 0, .int 0, .int 0, .ref (ma 1), .ref (ma 2), .null, .int 1, .int 10, .int 900, .ref (ma 3), .ref (ma 4), .int 0, .int 0, .int 0, .ref (ma 5), .int 1000, .int 50, .int 50, .int 1000, .int 10, .int 0, .int 3000, .int 0, .int 0, .int 0]))]) (As := [.int x1, .int x2, .int x3, .int x4]) (rest := []) (n := 4) hx hb hml hown hts hE hS hP hD hA hl.1 (k577_X10_setGovernor l D cy g x1 x2 x3 x4 am (.int 0) (.ref (ma 0)) (.int 0) (.int 0) (.int 0) (.int 0) (.ref (ma 1)) (.ref (ma 2)) (.null) (.int 1) (.int 10) (.int 900) (.ref (ma 3)) (.ref (ma 4)) (.int 0) (.int 0) (.int 0) (.ref (ma 5)) (.int 1000) (.int 50) (.int 50) (.int 1000) (.int 10) (.int 0) (.int 3000) (.int 0) (.int 0) (.int 0) H.size c0 c1) rfl rfl rfl rfl rfl ax_406 rfl rfl ax_407 ⟨Nat.le_of_ble_eq_true rfl, Nat.le_of_ble_eq_true rfl⟩ rfl rfl (Nat.le_of_ble_eq_true rfl) dL_law_2379 ⟨(Nat.le_of_ble_eq_true rfl), (Nat.le_of_ble_eq_true rfl)⟩) hP hD hS hA rfl rfl rfl (by decide) (fun ad2379 H locs hP hD hS => ?_)
      have hP : va_P D vwCl [((xa 49), .inr (7, [.int 1000, .int 10, .int 0, .int 3000, .int 50, .int 1000, .int 50, .int 0, .int 0, .int 0])), (aj, .inl (cy 2, 1, .inr (.inl (fun _ => 0)))), (am, .inr (15, [.int 1, .ref (ma 0), .int 0, .int 0, .int 0, .int 0, .ref (ma 1), .ref (ma 2), .null, .int 1, .int 10, .int 900, .ref (ma 3), .ref (ma 4), .int 0, .int 0, .int 0, .ref (ma 5), .int 1000, .int 50, .int 50, .int 1000, .int 10, .int 0, .int 3000, .int 0, .int 0, .int 0]))] H := hP
      have hD : va_D (AL s) [((xa 49), .inr (7, [.int 1000, .int 10, .int 0, .int 3000, .int 50, .int 1000, .int 50, .int 0, .int 0, .int 0])), (aj, .inl (cy 2, 1, .inr (.inl (fun _ => 0)))), (am, .inr (15, [.int 1, .ref (ma 0), .int 0, .int 0, .int 0, .int 0, .ref (ma 1), .ref (ma 2), .null, .int 1, .int 10, .int 900, .ref (ma 3), .ref (ma 4), .int 0, .int 0, .int 0, .ref (ma 5), .int 1000, .int 50, .int 50, .int 1000, .int 10, .int 0, .int 3000, .int 0, .int 0, .int 0]))] := hD
      refine lv_istore (lv' := [(7, .int (-1)), (6, .int 1), (5, .int 0), (4, .ref ao), (3, .ref aj), (2, .ref am), (1, .ref ax), (0, .ref b)]) hx hb dL_law_2382 hl (Nat.le_of_ble_eq_true rfl) rfl (fun ls hl => ?_)
      refine lv_aload_n hx hb dL_law_2384 rfl (lv_at hl 5 rfl) ?_
      refine ca_i (isC := [2]) (isR := [0, 1]) (wr := [((xa 49), .inr (7, [.int 1000, .int 10, .int 0, .int 3000, .int 50, .int 1000, .int 50, .int 0, .int 0, .int 0])), (aj, .inl (cy 2, 1, .inr (.inl (fun _ => 0))))]) (rn_V (ci := 15) (q0 := 2) (isC := [2]) (wc := [(am, .inr (15, [.int 1, .ref (ma 0), .int 0, .int 0, .int 0, .int 0, .ref (ma 1), .ref (ma 2), .null, .int 1, .int 10, .int 900, .ref (ma 3), .ref (ma 4), .int 0, .int 0, .int 0, .ref (ma 5), .int 1000, .int 50, .int 50, .int 1000, .int 10, .int 0, .int 3000, .int 0, .int 0, .int 0]))]) (As := []) (rest := []) (n := 0) hx hb hml hown hts hE hS hP hD hA hl.1 (k24_X10_thrown l D cy g am (.ref (ma 0)) (.int 0) (.int 0) (.int 0) (.int 0) (.ref (ma 1)) (.ref (ma 2)) (.null) (.int 1) (.int 10) (.int 900) (.ref (ma 3)) (.ref (ma 4)) (.int 0) (.int 0) (.int 0) (.ref (ma 5)) (.int 1000) (.int 50) (.int 50) (.int 1000) (.int 10) (.int 0) (.int 3000) (.int 0) (.int 0) (.int 0) H.size ) rfl rfl rfl rfl rfl ax_45 rfl rfl ax_46 ⟨Nat.le_of_ble_eq_true rfl, Nat.le_of_ble_eq_true rfl⟩ rfl rfl (Nat.le_of_ble_eq_true rfl) dL_law_2385 ⟨(Nat.le_of_ble_eq_true rfl), (Nat.le_of_ble_eq_true rfl)⟩) hP hD hS hA rfl rfl rfl (by decide) (fun ad2385 H locs hP hD hS => ?_)
      have hP : va_P D vwCl [((xa 49), .inr (7, [.int 1000, .int 10, .int 0, .int 3000, .int 50, .int 1000, .int 50, .int 0, .int 0, .int 0])), (aj, .inl (cy 2, 1, .inr (.inl (fun _ => 0)))), (am, .inr (15, [.int 1, .ref (ma 0), .int 0, .int 0, .int 0, .int 0, .ref (ma 1), .ref (ma 2), .null, .int 1, .int 10, .int 900, .ref (ma 3), .ref (ma 4), .int 0, .int 0, .int 0, .ref (ma 5), .int 1000, .int 50, .int 50, .int 1000, .int 10, .int 0, .int 3000, .int 0, .int 0, .int 0]))] H := hP
      have hD : va_D (AL s) [((xa 49), .inr (7, [.int 1000, .int 10, .int 0, .int 3000, .int 50, .int 1000, .int 50, .int 0, .int 0, .int 0])), (aj, .inl (cy 2, 1, .inr (.inl (fun _ => 0)))), (am, .inr (15, [.int 1, .ref (ma 0), .int 0, .int 0, .int 0, .int 0, .ref (ma 1), .ref (ma 2), .null, .int 1, .int 10, .int 900, .ref (ma 3), .ref (ma 4), .int 0, .int 0, .int 0, .ref (ma 5), .int 1000, .int 50, .int 50, .int 1000, .int 10, .int 0, .int 3000, .int 0, .int 0, .int 0]))] := hD
      refine lv_iload hx hb dL_law_2388 (lv_at hl 1 rfl) ?_
      refine lv_icmp_eq (tgt := 2395) hx hb dL_law_2390 (by decide) (fun _ => ?_) (fun z => absurd (by decide) z)
      refine lv_iload hx hb dL_law_2395 (lv_at hl 1 rfl) ?_
      refine lv_if_ne (tgt := 2412) hx hb dL_law_2397 (by decide) (fun _ => ?_) (fun z => absurd z (by decide))
      refine lv_goto (tgt := 2947) hx hb dL_law_2412 (by decide) ?_
      exact law_tail LC hS (Nat.le_of_ble_eq_true rfl) (Nat.le_of_ble_eq_true rfl) (lv_sub hl [2, 7] rfl)
    · by_cases c2 : x2 < 0
      · refine lv_aload_n hx hb dL_law_2323 rfl (lv_at hl 4 rfl) ?_
        refine lv_aload_n hx hb dL_law_2324 rfl (lv_at hl 5 rfl) ?_
        refine lv_iload hx hb dL_law_2325 (lv_at hl 0 rfl) ?_
        refine lv_iconst (v := 1) hx hb dL_law_2327 (by decide) ?_
        refine lv_iadd hx hb dL_law_2328 ?_
        refine tp_i 1 (by decide) ?_
        refine va_sld hx hb hX hbl hbA hS (by unfold vp_in; decide) dL_law_2329 ?_
        refine tp_i x1 e1 ?_
        refine lv_aload_n hx hb dL_law_2330 rfl (lv_at hl 5 rfl) ?_
        refine lv_iload hx hb dL_law_2331 (lv_at hl 0 rfl) ?_
        refine lv_iconst (v := 2) hx hb dL_law_2333 (by decide) ?_
        refine lv_iadd hx hb dL_law_2334 ?_
        refine tp_i 2 (by decide) ?_
        refine va_sld hx hb hX hbl hbA hS (by unfold vp_in; decide) dL_law_2335 ?_
        refine tp_i x2 e2 ?_
        refine lv_aload_n hx hb dL_law_2336 rfl (lv_at hl 5 rfl) ?_
        refine lv_iload hx hb dL_law_2337 (lv_at hl 0 rfl) ?_
        refine lv_iconst (v := 3) hx hb dL_law_2339 (by decide) ?_
        refine lv_iadd hx hb dL_law_2340 ?_
        refine tp_i 3 (by decide) ?_
        refine va_sld hx hb hX hbl hbA hS (by unfold vp_in; decide) dL_law_2341 ?_
        refine tp_i x3 e3 ?_
        refine lv_aload_n hx hb dL_law_2342 rfl (lv_at hl 5 rfl) ?_
        refine lv_iload hx hb dL_law_2343 (lv_at hl 0 rfl) ?_
        refine lv_iconst (v := 4) hx hb dL_law_2345 (by decide) ?_
        refine lv_iadd hx hb dL_law_2346 ?_
        refine tp_i 4 (by decide) ?_
        refine va_sld hx hb hX hbl hbA hS (by unfold vp_in; decide) dL_law_2347 ?_
        refine tp_i x4 e4 ?_
        refine lv_aload_n hx hb dL_law_2348 rfl (lv_at hl 2 rfl) ?_
        refine ca_i (isC := [0]) (isR := [1, 2, 3]) (wr := [((xa 49), .inr (7, [.int 1000, .int 10, .int 0, .int 3000, .int 50, .int 1000, .int 50, .int 0, .int 0, .int 0])), (am, .inr (15, [.int 0, .ref (ma 0), .int 0, .int 0, .int 0, .int 0, .ref (ma 1), .ref (ma 2), .null, .int 1, .int 10, .int 900, .ref (ma 3), .ref (ma 4), .int 0, .int 0, .int 0, .ref (ma 5), .int 1000, .int 50, .int 50, .int 1000, .int 10, .int 0, .int 3000, .int 0, .int 0, .int 0])), (aj, .inl (cy 2, 1, .inr (.inl (fun _ => 0))))]) (rn_SW (isC := [0]) (wc := [(ax, .inr (14, [.ref (xa 0), .ref (xa 13), .ref (xa 18), .ref (xa 34), .ref (xa 45), .ref (xa 49), .ref (xa 50)]))]) (As := [.ref ax, .int x1, .int x2, .int x3, .int x4, .ref aj]) (rest := []) (n := 6) hx hb hml hown hts hE hS hP hD hA hl.1 (k579_L_setGovernor l hst D cy g x1 x2 x3 x4 ax aj (.ref (xa 0)) (.ref (xa 13)) (.ref (xa 18)) (.ref (xa 34)) (.ref (xa 45)) (.ref (xa 49)) (.ref (xa 50)) H.size c0 c1 c2) rfl rfl ax_404 rfl rfl ax_405 ⟨Nat.le_of_ble_eq_true rfl, Nat.le_of_ble_eq_true rfl⟩ rfl rfl (Nat.le_of_ble_eq_true rfl) dL_law_2349 ⟨(Nat.le_of_ble_eq_true rfl), (Nat.le_of_ble_eq_true rfl)⟩) hP hD hS hA rfl rfl rfl (by decide) (fun ad2349 H locs hP hD hS => ?_)
        have hP : va_P D vwCl [((xa 49), .inr (7, [.int 1000, .int 10, .int 0, .int 3000, .int 50, .int 1000, .int 50, .int 0, .int 0, .int 0])), (am, .inr (15, [.int 0, .ref (ma 0), .int 0, .int 0, .int 0, .int 0, .ref (ma 1), .ref (ma 2), .null, .int 1, .int 10, .int 900, .ref (ma 3), .ref (ma 4), .int 0, .int 0, .int 0, .ref (ma 5), .int 1000, .int 50, .int 50, .int 1000, .int 10, .int 0, .int 3000, .int 0, .int 0, .int 0])), (aj, .inl (cy 2, 1, .inr (.inl (fun _ => 0))))] H := hP
        have hD : va_D (AL s) [((xa 49), .inr (7, [.int 1000, .int 10, .int 0, .int 3000, .int 50, .int 1000, .int 50, .int 0, .int 0, .int 0])), (am, .inr (15, [.int 0, .ref (ma 0), .int 0, .int 0, .int 0, .int 0, .ref (ma 1), .ref (ma 2), .null, .int 1, .int 10, .int 900, .ref (ma 3), .ref (ma 4), .int 0, .int 0, .int 0, .ref (ma 5), .int 1000, .int 50, .int 50, .int 1000, .int 10, .int 0, .int 3000, .int 0, .int 0, .int 0])), (aj, .inl (cy 2, 1, .inr (.inl (fun _ => 0))))] := hD
        refine lv_istore (lv' := [(6, .int 1), (5, .int 0), (4, .ref ao), (3, .ref aj), (2, .ref am), (1, .ref ax), (0, .ref b)]) hx hb dL_law_2352 hl (Nat.le_of_ble_eq_true rfl) rfl (fun ls hl => ?_)
        refine lv_aload_n hx hb dL_law_2354 rfl (lv_at hl 4 rfl) ?_
        refine lv_aload_n hx hb dL_law_2355 rfl (lv_at hl 6 rfl) ?_
        refine lv_iload hx hb dL_law_2356 (lv_at hl 1 rfl) ?_
        refine lv_iconst (v := 1) hx hb dL_law_2358 (by decide) ?_
        refine lv_iadd hx hb dL_law_2359 ?_
        refine tp_i 1 (by decide) ?_
        refine va_sld hx hb hX hbl hbA hS (by unfold vp_in; decide) dL_law_2360 ?_
        refine tp_i x1 e1 ?_
        refine lv_aload_n hx hb dL_law_2361 rfl (lv_at hl 6 rfl) ?_
        refine lv_iload hx hb dL_law_2362 (lv_at hl 1 rfl) ?_
        refine lv_iconst (v := 2) hx hb dL_law_2364 (by decide) ?_
        refine lv_iadd hx hb dL_law_2365 ?_
        refine tp_i 2 (by decide) ?_
        refine va_sld hx hb hX hbl hbA hS (by unfold vp_in; decide) dL_law_2366 ?_
        refine tp_i x2 e2 ?_
        refine lv_aload_n hx hb dL_law_2367 rfl (lv_at hl 6 rfl) ?_
        refine lv_iload hx hb dL_law_2368 (lv_at hl 1 rfl) ?_
        refine lv_iconst (v := 3) hx hb dL_law_2370 (by decide) ?_
        refine lv_iadd hx hb dL_law_2371 ?_
        refine tp_i 3 (by decide) ?_
        refine va_sld hx hb hX hbl hbA hS (by unfold vp_in; decide) dL_law_2372 ?_
        refine tp_i x3 e3 ?_
        refine lv_aload_n hx hb dL_law_2373 rfl (lv_at hl 6 rfl) ?_
        refine lv_iload hx hb dL_law_2374 (lv_at hl 1 rfl) ?_
        refine lv_iconst (v := 4) hx hb dL_law_2376 (by decide) ?_
        refine lv_iadd hx hb dL_law_2377 ?_
        refine tp_i 4 (by decide) ?_
        refine va_sld hx hb hX hbl hbA hS (by unfold vp_in; decide) dL_law_2378 ?_
        refine tp_i x4 e4 ?_
        refine ca_i (isC := [1]) (isR := [0, 2]) (wr := [((xa 49), .inr (7, [.int 1000, .int 10, .int 0, .int 3000, .int 50, .int 1000, .int 50, .int 0, .int 0, .int 0])), (aj, .inl (cy 2, 1, .inr (.inl (fun _ => 0))))]) (rn_V (ci := 15) (q0 := 1) (isC := [1]) (wc := [(am, .inr (15, [.int 0, .ref (ma 0), .int 0, .int 0, .int 0, .int 0, .ref (ma 1), .ref (ma 2), .null, .int 1, .int 10, .int 900, .ref (ma 3), .ref (ma 4), .int 0, .int 0, .int 0, .ref (ma 5), .int 1000, .int 50, .int 50, .int 1000, .int 10, .int 0, .int 3000, .int 0, .int 0, .int 0]))]) (As := [.int x1, .int x2, .int x3, .int x4]) (rest := []) (n := 4) hx hb hml hown hts hE hS hP hD hA hl.1 (k580_X10_setGovernor l D cy g x1 x2 x3 x4 am (.int 0) (.ref (ma 0)) (.int 0) (.int 0) (.int 0) (.int 0) (.ref (ma 1)) (.ref (ma 2)) (.null) (.int 1) (.int 10) (.int 900) (.ref (ma 3)) (.ref (ma 4)) (.int 0) (.int 0) (.int 0) (.ref (ma 5)) (.int 1000) (.int 50) (.int 50) (.int 1000) (.int 10) (.int 0) (.int 3000) (.int 0) (.int 0) (.int 0) H.size c0 c1 c2) rfl rfl rfl rfl rfl ax_406 rfl rfl ax_407 ⟨Nat.le_of_ble_eq_true rfl, Nat.le_of_ble_eq_true rfl⟩ rfl rfl (Nat.le_of_ble_eq_true rfl) dL_law_2379 ⟨(Nat.le_of_ble_eq_true rfl), (Nat.le_of_ble_eq_true rfl)⟩) hP hD hS hA rfl rfl rfl (by decide) (fun ad2379 H locs hP hD hS => ?_)
        have hP : va_P D vwCl [((xa 49), .inr (7, [.int 1000, .int 10, .int 0, .int 3000, .int 50, .int 1000, .int 50, .int 0, .int 0, .int 0])), (aj, .inl (cy 2, 1, .inr (.inl (fun _ => 0)))), (am, .inr (15, [.int 1, .ref (ma 0), .int 0, .int 0, .int 0, .int 0, .ref (ma 1), .ref (ma 2), .null, .int 1, .int 10, .int 900, .ref (ma 3), .ref (ma 4), .int 0, .int 0, .int 0, .ref (ma 5), .int 1000, .int 50, .int 50, .int 1000, .int 10, .int 0, .int 3000, .int 0, .int 0, .int 0]))] H := hP
        have hD : va_D (AL s) [((xa 49), .inr (7, [.int 1000, .int 10, .int 0, .int 3000, .int 50, .int 1000, .int 50, .int 0, .int 0, .int 0])), (aj, .inl (cy 2, 1, .inr (.inl (fun _ => 0)))), (am, .inr (15, [.int 1, .ref (ma 0), .int 0, .int 0, .int 0, .int 0, .ref (ma 1), .ref (ma 2), .null, .int 1, .int 10, .int 900, .ref (ma 3), .ref (ma 4), .int 0, .int 0, .int 0, .ref (ma 5), .int 1000, .int 50, .int 50, .int 1000, .int 10, .int 0, .int 3000, .int 0, .int 0, .int 0]))] := hD
        refine lv_istore (lv' := [(7, .int (-1)), (6, .int 1), (5, .int 0), (4, .ref ao), (3, .ref aj), (2, .ref am), (1, .ref ax), (0, .ref b)]) hx hb dL_law_2382 hl (Nat.le_of_ble_eq_true rfl) rfl (fun ls hl => ?_)
        refine lv_aload_n hx hb dL_law_2384 rfl (lv_at hl 5 rfl) ?_
        refine ca_i (isC := [2]) (isR := [0, 1]) (wr := [((xa 49), .inr (7, [.int 1000, .int 10, .int 0, .int 3000, .int 50, .int 1000, .int 50, .int 0, .int 0, .int 0])), (aj, .inl (cy 2, 1, .inr (.inl (fun _ => 0))))]) (rn_V (ci := 15) (q0 := 2) (isC := [2]) (wc := [(am, .inr (15, [.int 1, .ref (ma 0), .int 0, .int 0, .int 0, .int 0, .ref (ma 1), .ref (ma 2), .null, .int 1, .int 10, .int 900, .ref (ma 3), .ref (ma 4), .int 0, .int 0, .int 0, .ref (ma 5), .int 1000, .int 50, .int 50, .int 1000, .int 10, .int 0, .int 3000, .int 0, .int 0, .int 0]))]) (As := []) (rest := []) (n := 0) hx hb hml hown hts hE hS hP hD hA hl.1 (k24_X10_thrown l D cy g am (.ref (ma 0)) (.int 0) (.int 0) (.int 0) (.int 0) (.ref (ma 1)) (.ref (ma 2)) (.null) (.int 1) (.int 10) (.int 900) (.ref (ma 3)) (.ref (ma 4)) (.int 0) (.int 0) (.int 0) (.ref (ma 5)) (.int 1000) (.int 50) (.int 50) (.int 1000) (.int 10) (.int 0) (.int 3000) (.int 0) (.int 0) (.int 0) H.size ) rfl rfl rfl rfl rfl ax_45 rfl rfl ax_46 ⟨Nat.le_of_ble_eq_true rfl, Nat.le_of_ble_eq_true rfl⟩ rfl rfl (Nat.le_of_ble_eq_true rfl) dL_law_2385 ⟨(Nat.le_of_ble_eq_true rfl), (Nat.le_of_ble_eq_true rfl)⟩) hP hD hS hA rfl rfl rfl (by decide) (fun ad2385 H locs hP hD hS => ?_)
        have hP : va_P D vwCl [((xa 49), .inr (7, [.int 1000, .int 10, .int 0, .int 3000, .int 50, .int 1000, .int 50, .int 0, .int 0, .int 0])), (aj, .inl (cy 2, 1, .inr (.inl (fun _ => 0)))), (am, .inr (15, [.int 1, .ref (ma 0), .int 0, .int 0, .int 0, .int 0, .ref (ma 1), .ref (ma 2), .null, .int 1, .int 10, .int 900, .ref (ma 3), .ref (ma 4), .int 0, .int 0, .int 0, .ref (ma 5), .int 1000, .int 50, .int 50, .int 1000, .int 10, .int 0, .int 3000, .int 0, .int 0, .int 0]))] H := hP
        have hD : va_D (AL s) [((xa 49), .inr (7, [.int 1000, .int 10, .int 0, .int 3000, .int 50, .int 1000, .int 50, .int 0, .int 0, .int 0])), (aj, .inl (cy 2, 1, .inr (.inl (fun _ => 0)))), (am, .inr (15, [.int 1, .ref (ma 0), .int 0, .int 0, .int 0, .int 0, .ref (ma 1), .ref (ma 2), .null, .int 1, .int 10, .int 900, .ref (ma 3), .ref (ma 4), .int 0, .int 0, .int 0, .ref (ma 5), .int 1000, .int 50, .int 50, .int 1000, .int 10, .int 0, .int 3000, .int 0, .int 0, .int 0]))] := hD
        refine lv_iload hx hb dL_law_2388 (lv_at hl 1 rfl) ?_
        refine lv_icmp_eq (tgt := 2395) hx hb dL_law_2390 (by decide) (fun _ => ?_) (fun z => absurd (by decide) z)
        refine lv_iload hx hb dL_law_2395 (lv_at hl 1 rfl) ?_
        refine lv_if_ne (tgt := 2412) hx hb dL_law_2397 (by decide) (fun _ => ?_) (fun z => absurd z (by decide))
        refine lv_goto (tgt := 2947) hx hb dL_law_2412 (by decide) ?_
        exact law_tail LC hS (Nat.le_of_ble_eq_true rfl) (Nat.le_of_ble_eq_true rfl) (lv_sub hl [2, 7] rfl)
      · by_cases c3 : (100 : Int32) < x2
        · refine lv_aload_n hx hb dL_law_2323 rfl (lv_at hl 4 rfl) ?_
          refine lv_aload_n hx hb dL_law_2324 rfl (lv_at hl 5 rfl) ?_
          refine lv_iload hx hb dL_law_2325 (lv_at hl 0 rfl) ?_
          refine lv_iconst (v := 1) hx hb dL_law_2327 (by decide) ?_
          refine lv_iadd hx hb dL_law_2328 ?_
          refine tp_i 1 (by decide) ?_
          refine va_sld hx hb hX hbl hbA hS (by unfold vp_in; decide) dL_law_2329 ?_
          refine tp_i x1 e1 ?_
          refine lv_aload_n hx hb dL_law_2330 rfl (lv_at hl 5 rfl) ?_
          refine lv_iload hx hb dL_law_2331 (lv_at hl 0 rfl) ?_
          refine lv_iconst (v := 2) hx hb dL_law_2333 (by decide) ?_
          refine lv_iadd hx hb dL_law_2334 ?_
          refine tp_i 2 (by decide) ?_
          refine va_sld hx hb hX hbl hbA hS (by unfold vp_in; decide) dL_law_2335 ?_
          refine tp_i x2 e2 ?_
          refine lv_aload_n hx hb dL_law_2336 rfl (lv_at hl 5 rfl) ?_
          refine lv_iload hx hb dL_law_2337 (lv_at hl 0 rfl) ?_
          refine lv_iconst (v := 3) hx hb dL_law_2339 (by decide) ?_
          refine lv_iadd hx hb dL_law_2340 ?_
          refine tp_i 3 (by decide) ?_
          refine va_sld hx hb hX hbl hbA hS (by unfold vp_in; decide) dL_law_2341 ?_
          refine tp_i x3 e3 ?_
          refine lv_aload_n hx hb dL_law_2342 rfl (lv_at hl 5 rfl) ?_
          refine lv_iload hx hb dL_law_2343 (lv_at hl 0 rfl) ?_
          refine lv_iconst (v := 4) hx hb dL_law_2345 (by decide) ?_
          refine lv_iadd hx hb dL_law_2346 ?_
          refine tp_i 4 (by decide) ?_
          refine va_sld hx hb hX hbl hbA hS (by unfold vp_in; decide) dL_law_2347 ?_
          refine tp_i x4 e4 ?_
          refine lv_aload_n hx hb dL_law_2348 rfl (lv_at hl 2 rfl) ?_
          refine ca_i (isC := [0]) (isR := [1, 2, 3]) (wr := [((xa 49), .inr (7, [.int 1000, .int 10, .int 0, .int 3000, .int 50, .int 1000, .int 50, .int 0, .int 0, .int 0])), (am, .inr (15, [.int 0, .ref (ma 0), .int 0, .int 0, .int 0, .int 0, .ref (ma 1), .ref (ma 2), .null, .int 1, .int 10, .int 900, .ref (ma 3), .ref (ma 4), .int 0, .int 0, .int 0, .ref (ma 5), .int 1000, .int 50, .int 50, .int 1000, .int 10, .int 0, .int 3000, .int 0, .int 0, .int 0])), (aj, .inl (cy 2, 1, .inr (.inl (fun _ => 0))))]) (rn_SW (isC := [0]) (wc := [(ax, .inr (14, [.ref (xa 0), .ref (xa 13), .ref (xa 18), .ref (xa 34), .ref (xa 45), .ref (xa 49), .ref (xa 50)]))]) (As := [.ref ax, .int x1, .int x2, .int x3, .int x4, .ref aj]) (rest := []) (n := 6) hx hb hml hown hts hE hS hP hD hA hl.1 (k582_L_setGovernor l hst D cy g x1 x2 x3 x4 ax aj (.ref (xa 0)) (.ref (xa 13)) (.ref (xa 18)) (.ref (xa 34)) (.ref (xa 45)) (.ref (xa 49)) (.ref (xa 50)) H.size c0 c1 c2 c3) rfl rfl ax_404 rfl rfl ax_405 ⟨Nat.le_of_ble_eq_true rfl, Nat.le_of_ble_eq_true rfl⟩ rfl rfl (Nat.le_of_ble_eq_true rfl) dL_law_2349 ⟨(Nat.le_of_ble_eq_true rfl), (Nat.le_of_ble_eq_true rfl)⟩) hP hD hS hA rfl rfl rfl (by decide) (fun ad2349 H locs hP hD hS => ?_)
          have hP : va_P D vwCl [((xa 49), .inr (7, [.int 1000, .int 10, .int 0, .int 3000, .int 50, .int 1000, .int 50, .int 0, .int 0, .int 0])), (am, .inr (15, [.int 0, .ref (ma 0), .int 0, .int 0, .int 0, .int 0, .ref (ma 1), .ref (ma 2), .null, .int 1, .int 10, .int 900, .ref (ma 3), .ref (ma 4), .int 0, .int 0, .int 0, .ref (ma 5), .int 1000, .int 50, .int 50, .int 1000, .int 10, .int 0, .int 3000, .int 0, .int 0, .int 0])), (aj, .inl (cy 2, 1, .inr (.inl (fun _ => 0))))] H := hP
          have hD : va_D (AL s) [((xa 49), .inr (7, [.int 1000, .int 10, .int 0, .int 3000, .int 50, .int 1000, .int 50, .int 0, .int 0, .int 0])), (am, .inr (15, [.int 0, .ref (ma 0), .int 0, .int 0, .int 0, .int 0, .ref (ma 1), .ref (ma 2), .null, .int 1, .int 10, .int 900, .ref (ma 3), .ref (ma 4), .int 0, .int 0, .int 0, .ref (ma 5), .int 1000, .int 50, .int 50, .int 1000, .int 10, .int 0, .int 3000, .int 0, .int 0, .int 0])), (aj, .inl (cy 2, 1, .inr (.inl (fun _ => 0))))] := hD
          refine lv_istore (lv' := [(6, .int 1), (5, .int 0), (4, .ref ao), (3, .ref aj), (2, .ref am), (1, .ref ax), (0, .ref b)]) hx hb dL_law_2352 hl (Nat.le_of_ble_eq_true rfl) rfl (fun ls hl => ?_)
          refine lv_aload_n hx hb dL_law_2354 rfl (lv_at hl 4 rfl) ?_
          refine lv_aload_n hx hb dL_law_2355 rfl (lv_at hl 6 rfl) ?_
          refine lv_iload hx hb dL_law_2356 (lv_at hl 1 rfl) ?_
          refine lv_iconst (v := 1) hx hb dL_law_2358 (by decide) ?_
          refine lv_iadd hx hb dL_law_2359 ?_
          refine tp_i 1 (by decide) ?_
          refine va_sld hx hb hX hbl hbA hS (by unfold vp_in; decide) dL_law_2360 ?_
          refine tp_i x1 e1 ?_
          refine lv_aload_n hx hb dL_law_2361 rfl (lv_at hl 6 rfl) ?_
          refine lv_iload hx hb dL_law_2362 (lv_at hl 1 rfl) ?_
          refine lv_iconst (v := 2) hx hb dL_law_2364 (by decide) ?_
          refine lv_iadd hx hb dL_law_2365 ?_
          refine tp_i 2 (by decide) ?_
          refine va_sld hx hb hX hbl hbA hS (by unfold vp_in; decide) dL_law_2366 ?_
          refine tp_i x2 e2 ?_
          refine lv_aload_n hx hb dL_law_2367 rfl (lv_at hl 6 rfl) ?_
          refine lv_iload hx hb dL_law_2368 (lv_at hl 1 rfl) ?_
          refine lv_iconst (v := 3) hx hb dL_law_2370 (by decide) ?_
          refine lv_iadd hx hb dL_law_2371 ?_
          refine tp_i 3 (by decide) ?_
          refine va_sld hx hb hX hbl hbA hS (by unfold vp_in; decide) dL_law_2372 ?_
          refine tp_i x3 e3 ?_
          refine lv_aload_n hx hb dL_law_2373 rfl (lv_at hl 6 rfl) ?_
          refine lv_iload hx hb dL_law_2374 (lv_at hl 1 rfl) ?_
          refine lv_iconst (v := 4) hx hb dL_law_2376 (by decide) ?_
          refine lv_iadd hx hb dL_law_2377 ?_
          refine tp_i 4 (by decide) ?_
          refine va_sld hx hb hX hbl hbA hS (by unfold vp_in; decide) dL_law_2378 ?_
          refine tp_i x4 e4 ?_
          refine ca_i (isC := [1]) (isR := [0, 2]) (wr := [((xa 49), .inr (7, [.int 1000, .int 10, .int 0, .int 3000, .int 50, .int 1000, .int 50, .int 0, .int 0, .int 0])), (aj, .inl (cy 2, 1, .inr (.inl (fun _ => 0))))]) (rn_V (ci := 15) (q0 := 1) (isC := [1]) (wc := [(am, .inr (15, [.int 0, .ref (ma 0), .int 0, .int 0, .int 0, .int 0, .ref (ma 1), .ref (ma 2), .null, .int 1, .int 10, .int 900, .ref (ma 3), .ref (ma 4), .int 0, .int 0, .int 0, .ref (ma 5), .int 1000, .int 50, .int 50, .int 1000, .int 10, .int 0, .int 3000, .int 0, .int 0, .int 0]))]) (As := [.int x1, .int x2, .int x3, .int x4]) (rest := []) (n := 4) hx hb hml hown hts hE hS hP hD hA hl.1 (k583_X10_setGovernor l D cy g x1 x2 x3 x4 am (.int 0) (.ref (ma 0)) (.int 0) (.int 0) (.int 0) (.int 0) (.ref (ma 1)) (.ref (ma 2)) (.null) (.int 1) (.int 10) (.int 900) (.ref (ma 3)) (.ref (ma 4)) (.int 0) (.int 0) (.int 0) (.ref (ma 5)) (.int 1000) (.int 50) (.int 50) (.int 1000) (.int 10) (.int 0) (.int 3000) (.int 0) (.int 0) (.int 0) H.size c0 c1 c2 c3) rfl rfl rfl rfl rfl ax_406 rfl rfl ax_407 ⟨Nat.le_of_ble_eq_true rfl, Nat.le_of_ble_eq_true rfl⟩ rfl rfl (Nat.le_of_ble_eq_true rfl) dL_law_2379 ⟨(Nat.le_of_ble_eq_true rfl), (Nat.le_of_ble_eq_true rfl)⟩) hP hD hS hA rfl rfl rfl (by decide) (fun ad2379 H locs hP hD hS => ?_)
          have hP : va_P D vwCl [((xa 49), .inr (7, [.int 1000, .int 10, .int 0, .int 3000, .int 50, .int 1000, .int 50, .int 0, .int 0, .int 0])), (aj, .inl (cy 2, 1, .inr (.inl (fun _ => 0)))), (am, .inr (15, [.int 1, .ref (ma 0), .int 0, .int 0, .int 0, .int 0, .ref (ma 1), .ref (ma 2), .null, .int 1, .int 10, .int 900, .ref (ma 3), .ref (ma 4), .int 0, .int 0, .int 0, .ref (ma 5), .int 1000, .int 50, .int 50, .int 1000, .int 10, .int 0, .int 3000, .int 0, .int 0, .int 0]))] H := hP
          have hD : va_D (AL s) [((xa 49), .inr (7, [.int 1000, .int 10, .int 0, .int 3000, .int 50, .int 1000, .int 50, .int 0, .int 0, .int 0])), (aj, .inl (cy 2, 1, .inr (.inl (fun _ => 0)))), (am, .inr (15, [.int 1, .ref (ma 0), .int 0, .int 0, .int 0, .int 0, .ref (ma 1), .ref (ma 2), .null, .int 1, .int 10, .int 900, .ref (ma 3), .ref (ma 4), .int 0, .int 0, .int 0, .ref (ma 5), .int 1000, .int 50, .int 50, .int 1000, .int 10, .int 0, .int 3000, .int 0, .int 0, .int 0]))] := hD
          refine lv_istore (lv' := [(7, .int (-1)), (6, .int 1), (5, .int 0), (4, .ref ao), (3, .ref aj), (2, .ref am), (1, .ref ax), (0, .ref b)]) hx hb dL_law_2382 hl (Nat.le_of_ble_eq_true rfl) rfl (fun ls hl => ?_)
          refine lv_aload_n hx hb dL_law_2384 rfl (lv_at hl 5 rfl) ?_
          refine ca_i (isC := [2]) (isR := [0, 1]) (wr := [((xa 49), .inr (7, [.int 1000, .int 10, .int 0, .int 3000, .int 50, .int 1000, .int 50, .int 0, .int 0, .int 0])), (aj, .inl (cy 2, 1, .inr (.inl (fun _ => 0))))]) (rn_V (ci := 15) (q0 := 2) (isC := [2]) (wc := [(am, .inr (15, [.int 1, .ref (ma 0), .int 0, .int 0, .int 0, .int 0, .ref (ma 1), .ref (ma 2), .null, .int 1, .int 10, .int 900, .ref (ma 3), .ref (ma 4), .int 0, .int 0, .int 0, .ref (ma 5), .int 1000, .int 50, .int 50, .int 1000, .int 10, .int 0, .int 3000, .int 0, .int 0, .int 0]))]) (As := []) (rest := []) (n := 0) hx hb hml hown hts hE hS hP hD hA hl.1 (k24_X10_thrown l D cy g am (.ref (ma 0)) (.int 0) (.int 0) (.int 0) (.int 0) (.ref (ma 1)) (.ref (ma 2)) (.null) (.int 1) (.int 10) (.int 900) (.ref (ma 3)) (.ref (ma 4)) (.int 0) (.int 0) (.int 0) (.ref (ma 5)) (.int 1000) (.int 50) (.int 50) (.int 1000) (.int 10) (.int 0) (.int 3000) (.int 0) (.int 0) (.int 0) H.size ) rfl rfl rfl rfl rfl ax_45 rfl rfl ax_46 ⟨Nat.le_of_ble_eq_true rfl, Nat.le_of_ble_eq_true rfl⟩ rfl rfl (Nat.le_of_ble_eq_true rfl) dL_law_2385 ⟨(Nat.le_of_ble_eq_true rfl), (Nat.le_of_ble_eq_true rfl)⟩) hP hD hS hA rfl rfl rfl (by decide) (fun ad2385 H locs hP hD hS => ?_)
          have hP : va_P D vwCl [((xa 49), .inr (7, [.int 1000, .int 10, .int 0, .int 3000, .int 50, .int 1000, .int 50, .int 0, .int 0, .int 0])), (aj, .inl (cy 2, 1, .inr (.inl (fun _ => 0)))), (am, .inr (15, [.int 1, .ref (ma 0), .int 0, .int 0, .int 0, .int 0, .ref (ma 1), .ref (ma 2), .null, .int 1, .int 10, .int 900, .ref (ma 3), .ref (ma 4), .int 0, .int 0, .int 0, .ref (ma 5), .int 1000, .int 50, .int 50, .int 1000, .int 10, .int 0, .int 3000, .int 0, .int 0, .int 0]))] H := hP
          have hD : va_D (AL s) [((xa 49), .inr (7, [.int 1000, .int 10, .int 0, .int 3000, .int 50, .int 1000, .int 50, .int 0, .int 0, .int 0])), (aj, .inl (cy 2, 1, .inr (.inl (fun _ => 0)))), (am, .inr (15, [.int 1, .ref (ma 0), .int 0, .int 0, .int 0, .int 0, .ref (ma 1), .ref (ma 2), .null, .int 1, .int 10, .int 900, .ref (ma 3), .ref (ma 4), .int 0, .int 0, .int 0, .ref (ma 5), .int 1000, .int 50, .int 50, .int 1000, .int 10, .int 0, .int 3000, .int 0, .int 0, .int 0]))] := hD
          refine lv_iload hx hb dL_law_2388 (lv_at hl 1 rfl) ?_
          refine lv_icmp_eq (tgt := 2395) hx hb dL_law_2390 (by decide) (fun _ => ?_) (fun z => absurd (by decide) z)
          refine lv_iload hx hb dL_law_2395 (lv_at hl 1 rfl) ?_
          refine lv_if_ne (tgt := 2412) hx hb dL_law_2397 (by decide) (fun _ => ?_) (fun z => absurd z (by decide))
          refine lv_goto (tgt := 2947) hx hb dL_law_2412 (by decide) ?_
          exact law_tail LC hS (Nat.le_of_ble_eq_true rfl) (Nat.le_of_ble_eq_true rfl) (lv_sub hl [2, 7] rfl)
        · by_cases c4 : x3 < 0
          · refine lv_aload_n hx hb dL_law_2323 rfl (lv_at hl 4 rfl) ?_
            refine lv_aload_n hx hb dL_law_2324 rfl (lv_at hl 5 rfl) ?_
            refine lv_iload hx hb dL_law_2325 (lv_at hl 0 rfl) ?_
            refine lv_iconst (v := 1) hx hb dL_law_2327 (by decide) ?_
            refine lv_iadd hx hb dL_law_2328 ?_
            refine tp_i 1 (by decide) ?_
            refine va_sld hx hb hX hbl hbA hS (by unfold vp_in; decide) dL_law_2329 ?_
            refine tp_i x1 e1 ?_
            refine lv_aload_n hx hb dL_law_2330 rfl (lv_at hl 5 rfl) ?_
            refine lv_iload hx hb dL_law_2331 (lv_at hl 0 rfl) ?_
            refine lv_iconst (v := 2) hx hb dL_law_2333 (by decide) ?_
            refine lv_iadd hx hb dL_law_2334 ?_
            refine tp_i 2 (by decide) ?_
            refine va_sld hx hb hX hbl hbA hS (by unfold vp_in; decide) dL_law_2335 ?_
            refine tp_i x2 e2 ?_
            refine lv_aload_n hx hb dL_law_2336 rfl (lv_at hl 5 rfl) ?_
            refine lv_iload hx hb dL_law_2337 (lv_at hl 0 rfl) ?_
            refine lv_iconst (v := 3) hx hb dL_law_2339 (by decide) ?_
            refine lv_iadd hx hb dL_law_2340 ?_
            refine tp_i 3 (by decide) ?_
            refine va_sld hx hb hX hbl hbA hS (by unfold vp_in; decide) dL_law_2341 ?_
            refine tp_i x3 e3 ?_
            refine lv_aload_n hx hb dL_law_2342 rfl (lv_at hl 5 rfl) ?_
            refine lv_iload hx hb dL_law_2343 (lv_at hl 0 rfl) ?_
            refine lv_iconst (v := 4) hx hb dL_law_2345 (by decide) ?_
            refine lv_iadd hx hb dL_law_2346 ?_
            refine tp_i 4 (by decide) ?_
            refine va_sld hx hb hX hbl hbA hS (by unfold vp_in; decide) dL_law_2347 ?_
            refine tp_i x4 e4 ?_
            refine lv_aload_n hx hb dL_law_2348 rfl (lv_at hl 2 rfl) ?_
            refine ca_i (isC := [0]) (isR := [1, 2, 3]) (wr := [((xa 49), .inr (7, [.int 1000, .int 10, .int 0, .int 3000, .int 50, .int 1000, .int 50, .int 0, .int 0, .int 0])), (am, .inr (15, [.int 0, .ref (ma 0), .int 0, .int 0, .int 0, .int 0, .ref (ma 1), .ref (ma 2), .null, .int 1, .int 10, .int 900, .ref (ma 3), .ref (ma 4), .int 0, .int 0, .int 0, .ref (ma 5), .int 1000, .int 50, .int 50, .int 1000, .int 10, .int 0, .int 3000, .int 0, .int 0, .int 0])), (aj, .inl (cy 2, 1, .inr (.inl (fun _ => 0))))]) (rn_SW (isC := [0]) (wc := [(ax, .inr (14, [.ref (xa 0), .ref (xa 13), .ref (xa 18), .ref (xa 34), .ref (xa 45), .ref (xa 49), .ref (xa 50)]))]) (As := [.ref ax, .int x1, .int x2, .int x3, .int x4, .ref aj]) (rest := []) (n := 6) hx hb hml hown hts hE hS hP hD hA hl.1 (k585_L_setGovernor l hst D cy g x1 x2 x3 x4 ax aj (.ref (xa 0)) (.ref (xa 13)) (.ref (xa 18)) (.ref (xa 34)) (.ref (xa 45)) (.ref (xa 49)) (.ref (xa 50)) H.size c0 c1 c2 c3 c4) rfl rfl ax_404 rfl rfl ax_405 ⟨Nat.le_of_ble_eq_true rfl, Nat.le_of_ble_eq_true rfl⟩ rfl rfl (Nat.le_of_ble_eq_true rfl) dL_law_2349 ⟨(Nat.le_of_ble_eq_true rfl), (Nat.le_of_ble_eq_true rfl)⟩) hP hD hS hA rfl rfl rfl (by decide) (fun ad2349 H locs hP hD hS => ?_)
            have hP : va_P D vwCl [((xa 49), .inr (7, [.int 1000, .int 10, .int 0, .int 3000, .int 50, .int 1000, .int 50, .int 0, .int 0, .int 0])), (am, .inr (15, [.int 0, .ref (ma 0), .int 0, .int 0, .int 0, .int 0, .ref (ma 1), .ref (ma 2), .null, .int 1, .int 10, .int 900, .ref (ma 3), .ref (ma 4), .int 0, .int 0, .int 0, .ref (ma 5), .int 1000, .int 50, .int 50, .int 1000, .int 10, .int 0, .int 3000, .int 0, .int 0, .int 0])), (aj, .inl (cy 2, 1, .inr (.inl (fun _ => 0))))] H := hP
            have hD : va_D (AL s) [((xa 49), .inr (7, [.int 1000, .int 10, .int 0, .int 3000, .int 50, .int 1000, .int 50, .int 0, .int 0, .int 0])), (am, .inr (15, [.int 0, .ref (ma 0), .int 0, .int 0, .int 0, .int 0, .ref (ma 1), .ref (ma 2), .null, .int 1, .int 10, .int 900, .ref (ma 3), .ref (ma 4), .int 0, .int 0, .int 0, .ref (ma 5), .int 1000, .int 50, .int 50, .int 1000, .int 10, .int 0, .int 3000, .int 0, .int 0, .int 0])), (aj, .inl (cy 2, 1, .inr (.inl (fun _ => 0))))] := hD
            refine lv_istore (lv' := [(6, .int 1), (5, .int 0), (4, .ref ao), (3, .ref aj), (2, .ref am), (1, .ref ax), (0, .ref b)]) hx hb dL_law_2352 hl (Nat.le_of_ble_eq_true rfl) rfl (fun ls hl => ?_)
            refine lv_aload_n hx hb dL_law_2354 rfl (lv_at hl 4 rfl) ?_
            refine lv_aload_n hx hb dL_law_2355 rfl (lv_at hl 6 rfl) ?_
            refine lv_iload hx hb dL_law_2356 (lv_at hl 1 rfl) ?_
            refine lv_iconst (v := 1) hx hb dL_law_2358 (by decide) ?_
            refine lv_iadd hx hb dL_law_2359 ?_
            refine tp_i 1 (by decide) ?_
            refine va_sld hx hb hX hbl hbA hS (by unfold vp_in; decide) dL_law_2360 ?_
            refine tp_i x1 e1 ?_
            refine lv_aload_n hx hb dL_law_2361 rfl (lv_at hl 6 rfl) ?_
            refine lv_iload hx hb dL_law_2362 (lv_at hl 1 rfl) ?_
            refine lv_iconst (v := 2) hx hb dL_law_2364 (by decide) ?_
            refine lv_iadd hx hb dL_law_2365 ?_
            refine tp_i 2 (by decide) ?_
            refine va_sld hx hb hX hbl hbA hS (by unfold vp_in; decide) dL_law_2366 ?_
            refine tp_i x2 e2 ?_
            refine lv_aload_n hx hb dL_law_2367 rfl (lv_at hl 6 rfl) ?_
            refine lv_iload hx hb dL_law_2368 (lv_at hl 1 rfl) ?_
            refine lv_iconst (v := 3) hx hb dL_law_2370 (by decide) ?_
            refine lv_iadd hx hb dL_law_2371 ?_
            refine tp_i 3 (by decide) ?_
            refine va_sld hx hb hX hbl hbA hS (by unfold vp_in; decide) dL_law_2372 ?_
            refine tp_i x3 e3 ?_
            refine lv_aload_n hx hb dL_law_2373 rfl (lv_at hl 6 rfl) ?_
            refine lv_iload hx hb dL_law_2374 (lv_at hl 1 rfl) ?_
            refine lv_iconst (v := 4) hx hb dL_law_2376 (by decide) ?_
            refine lv_iadd hx hb dL_law_2377 ?_
            refine tp_i 4 (by decide) ?_
            refine va_sld hx hb hX hbl hbA hS (by unfold vp_in; decide) dL_law_2378 ?_
            refine tp_i x4 e4 ?_
            refine ca_i (isC := [1]) (isR := [0, 2]) (wr := [((xa 49), .inr (7, [.int 1000, .int 10, .int 0, .int 3000, .int 50, .int 1000, .int 50, .int 0, .int 0, .int 0])), (aj, .inl (cy 2, 1, .inr (.inl (fun _ => 0))))]) (rn_V (ci := 15) (q0 := 1) (isC := [1]) (wc := [(am, .inr (15, [.int 0, .ref (ma 0), .int 0, .int 0, .int 0, .int 0, .ref (ma 1), .ref (ma 2), .null, .int 1, .int 10, .int 900, .ref (ma 3), .ref (ma 4), .int 0, .int 0, .int 0, .ref (ma 5), .int 1000, .int 50, .int 50, .int 1000, .int 10, .int 0, .int 3000, .int 0, .int 0, .int 0]))]) (As := [.int x1, .int x2, .int x3, .int x4]) (rest := []) (n := 4) hx hb hml hown hts hE hS hP hD hA hl.1 (k586_X10_setGovernor l D cy g x1 x2 x3 x4 am (.int 0) (.ref (ma 0)) (.int 0) (.int 0) (.int 0) (.int 0) (.ref (ma 1)) (.ref (ma 2)) (.null) (.int 1) (.int 10) (.int 900) (.ref (ma 3)) (.ref (ma 4)) (.int 0) (.int 0) (.int 0) (.ref (ma 5)) (.int 1000) (.int 50) (.int 50) (.int 1000) (.int 10) (.int 0) (.int 3000) (.int 0) (.int 0) (.int 0) H.size c0 c1 c2 c3 c4) rfl rfl rfl rfl rfl ax_406 rfl rfl ax_407 ⟨Nat.le_of_ble_eq_true rfl, Nat.le_of_ble_eq_true rfl⟩ rfl rfl (Nat.le_of_ble_eq_true rfl) dL_law_2379 ⟨(Nat.le_of_ble_eq_true rfl), (Nat.le_of_ble_eq_true rfl)⟩) hP hD hS hA rfl rfl rfl (by decide) (fun ad2379 H locs hP hD hS => ?_)
            have hP : va_P D vwCl [((xa 49), .inr (7, [.int 1000, .int 10, .int 0, .int 3000, .int 50, .int 1000, .int 50, .int 0, .int 0, .int 0])), (aj, .inl (cy 2, 1, .inr (.inl (fun _ => 0)))), (am, .inr (15, [.int 1, .ref (ma 0), .int 0, .int 0, .int 0, .int 0, .ref (ma 1), .ref (ma 2), .null, .int 1, .int 10, .int 900, .ref (ma 3), .ref (ma 4), .int 0, .int 0, .int 0, .ref (ma 5), .int 1000, .int 50, .int 50, .int 1000, .int 10, .int 0, .int 3000, .int 0, .int 0, .int 0]))] H := hP
            have hD : va_D (AL s) [((xa 49), .inr (7, [.int 1000, .int 10, .int 0, .int 3000, .int 50, .int 1000, .int 50, .int 0, .int 0, .int 0])), (aj, .inl (cy 2, 1, .inr (.inl (fun _ => 0)))), (am, .inr (15, [.int 1, .ref (ma 0), .int 0, .int 0, .int 0, .int 0, .ref (ma 1), .ref (ma 2), .null, .int 1, .int 10, .int 900, .ref (ma 3), .ref (ma 4), .int 0, .int 0, .int 0, .ref (ma 5), .int 1000, .int 50, .int 50, .int 1000, .int 10, .int 0, .int 3000, .int 0, .int 0, .int 0]))] := hD
            refine lv_istore (lv' := [(7, .int (-1)), (6, .int 1), (5, .int 0), (4, .ref ao), (3, .ref aj), (2, .ref am), (1, .ref ax), (0, .ref b)]) hx hb dL_law_2382 hl (Nat.le_of_ble_eq_true rfl) rfl (fun ls hl => ?_)
            refine lv_aload_n hx hb dL_law_2384 rfl (lv_at hl 5 rfl) ?_
            refine ca_i (isC := [2]) (isR := [0, 1]) (wr := [((xa 49), .inr (7, [.int 1000, .int 10, .int 0, .int 3000, .int 50, .int 1000, .int 50, .int 0, .int 0, .int 0])), (aj, .inl (cy 2, 1, .inr (.inl (fun _ => 0))))]) (rn_V (ci := 15) (q0 := 2) (isC := [2]) (wc := [(am, .inr (15, [.int 1, .ref (ma 0), .int 0, .int 0, .int 0, .int 0, .ref (ma 1), .ref (ma 2), .null, .int 1, .int 10, .int 900, .ref (ma 3), .ref (ma 4), .int 0, .int 0, .int 0, .ref (ma 5), .int 1000, .int 50, .int 50, .int 1000, .int 10, .int 0, .int 3000, .int 0, .int 0, .int 0]))]) (As := []) (rest := []) (n := 0) hx hb hml hown hts hE hS hP hD hA hl.1 (k24_X10_thrown l D cy g am (.ref (ma 0)) (.int 0) (.int 0) (.int 0) (.int 0) (.ref (ma 1)) (.ref (ma 2)) (.null) (.int 1) (.int 10) (.int 900) (.ref (ma 3)) (.ref (ma 4)) (.int 0) (.int 0) (.int 0) (.ref (ma 5)) (.int 1000) (.int 50) (.int 50) (.int 1000) (.int 10) (.int 0) (.int 3000) (.int 0) (.int 0) (.int 0) H.size ) rfl rfl rfl rfl rfl ax_45 rfl rfl ax_46 ⟨Nat.le_of_ble_eq_true rfl, Nat.le_of_ble_eq_true rfl⟩ rfl rfl (Nat.le_of_ble_eq_true rfl) dL_law_2385 ⟨(Nat.le_of_ble_eq_true rfl), (Nat.le_of_ble_eq_true rfl)⟩) hP hD hS hA rfl rfl rfl (by decide) (fun ad2385 H locs hP hD hS => ?_)
            have hP : va_P D vwCl [((xa 49), .inr (7, [.int 1000, .int 10, .int 0, .int 3000, .int 50, .int 1000, .int 50, .int 0, .int 0, .int 0])), (aj, .inl (cy 2, 1, .inr (.inl (fun _ => 0)))), (am, .inr (15, [.int 1, .ref (ma 0), .int 0, .int 0, .int 0, .int 0, .ref (ma 1), .ref (ma 2), .null, .int 1, .int 10, .int 900, .ref (ma 3), .ref (ma 4), .int 0, .int 0, .int 0, .ref (ma 5), .int 1000, .int 50, .int 50, .int 1000, .int 10, .int 0, .int 3000, .int 0, .int 0, .int 0]))] H := hP
            have hD : va_D (AL s) [((xa 49), .inr (7, [.int 1000, .int 10, .int 0, .int 3000, .int 50, .int 1000, .int 50, .int 0, .int 0, .int 0])), (aj, .inl (cy 2, 1, .inr (.inl (fun _ => 0)))), (am, .inr (15, [.int 1, .ref (ma 0), .int 0, .int 0, .int 0, .int 0, .ref (ma 1), .ref (ma 2), .null, .int 1, .int 10, .int 900, .ref (ma 3), .ref (ma 4), .int 0, .int 0, .int 0, .ref (ma 5), .int 1000, .int 50, .int 50, .int 1000, .int 10, .int 0, .int 3000, .int 0, .int 0, .int 0]))] := hD
            refine lv_iload hx hb dL_law_2388 (lv_at hl 1 rfl) ?_
            refine lv_icmp_eq (tgt := 2395) hx hb dL_law_2390 (by decide) (fun _ => ?_) (fun z => absurd (by decide) z)
            refine lv_iload hx hb dL_law_2395 (lv_at hl 1 rfl) ?_
            refine lv_if_ne (tgt := 2412) hx hb dL_law_2397 (by decide) (fun _ => ?_) (fun z => absurd z (by decide))
            refine lv_goto (tgt := 2947) hx hb dL_law_2412 (by decide) ?_
            exact law_tail LC hS (Nat.le_of_ble_eq_true rfl) (Nat.le_of_ble_eq_true rfl) (lv_sub hl [2, 7] rfl)
          · by_cases c5 : (50 : Int32) < x3
            · refine lv_aload_n hx hb dL_law_2323 rfl (lv_at hl 4 rfl) ?_
              refine lv_aload_n hx hb dL_law_2324 rfl (lv_at hl 5 rfl) ?_
              refine lv_iload hx hb dL_law_2325 (lv_at hl 0 rfl) ?_
              refine lv_iconst (v := 1) hx hb dL_law_2327 (by decide) ?_
              refine lv_iadd hx hb dL_law_2328 ?_
              refine tp_i 1 (by decide) ?_
              refine va_sld hx hb hX hbl hbA hS (by unfold vp_in; decide) dL_law_2329 ?_
              refine tp_i x1 e1 ?_
              refine lv_aload_n hx hb dL_law_2330 rfl (lv_at hl 5 rfl) ?_
              refine lv_iload hx hb dL_law_2331 (lv_at hl 0 rfl) ?_
              refine lv_iconst (v := 2) hx hb dL_law_2333 (by decide) ?_
              refine lv_iadd hx hb dL_law_2334 ?_
              refine tp_i 2 (by decide) ?_
              refine va_sld hx hb hX hbl hbA hS (by unfold vp_in; decide) dL_law_2335 ?_
              refine tp_i x2 e2 ?_
              refine lv_aload_n hx hb dL_law_2336 rfl (lv_at hl 5 rfl) ?_
              refine lv_iload hx hb dL_law_2337 (lv_at hl 0 rfl) ?_
              refine lv_iconst (v := 3) hx hb dL_law_2339 (by decide) ?_
              refine lv_iadd hx hb dL_law_2340 ?_
              refine tp_i 3 (by decide) ?_
              refine va_sld hx hb hX hbl hbA hS (by unfold vp_in; decide) dL_law_2341 ?_
              refine tp_i x3 e3 ?_
              refine lv_aload_n hx hb dL_law_2342 rfl (lv_at hl 5 rfl) ?_
              refine lv_iload hx hb dL_law_2343 (lv_at hl 0 rfl) ?_
              refine lv_iconst (v := 4) hx hb dL_law_2345 (by decide) ?_
              refine lv_iadd hx hb dL_law_2346 ?_
              refine tp_i 4 (by decide) ?_
              refine va_sld hx hb hX hbl hbA hS (by unfold vp_in; decide) dL_law_2347 ?_
              refine tp_i x4 e4 ?_
              refine lv_aload_n hx hb dL_law_2348 rfl (lv_at hl 2 rfl) ?_
              refine ca_i (isC := [0]) (isR := [1, 2, 3]) (wr := [((xa 49), .inr (7, [.int 1000, .int 10, .int 0, .int 3000, .int 50, .int 1000, .int 50, .int 0, .int 0, .int 0])), (am, .inr (15, [.int 0, .ref (ma 0), .int 0, .int 0, .int 0, .int 0, .ref (ma 1), .ref (ma 2), .null, .int 1, .int 10, .int 900, .ref (ma 3), .ref (ma 4), .int 0, .int 0, .int 0, .ref (ma 5), .int 1000, .int 50, .int 50, .int 1000, .int 10, .int 0, .int 3000, .int 0, .int 0, .int 0])), (aj, .inl (cy 2, 1, .inr (.inl (fun _ => 0))))]) (rn_SW (isC := [0]) (wc := [(ax, .inr (14, [.ref (xa 0), .ref (xa 13), .ref (xa 18), .ref (xa 34), .ref (xa 45), .ref (xa 49), .ref (xa 50)]))]) (As := [.ref ax, .int x1, .int x2, .int x3, .int x4, .ref aj]) (rest := []) (n := 6) hx hb hml hown hts hE hS hP hD hA hl.1 (k588_L_setGovernor l hst D cy g x1 x2 x3 x4 ax aj (.ref (xa 0)) (.ref (xa 13)) (.ref (xa 18)) (.ref (xa 34)) (.ref (xa 45)) (.ref (xa 49)) (.ref (xa 50)) H.size c0 c1 c2 c3 c4 c5) rfl rfl ax_404 rfl rfl ax_405 ⟨Nat.le_of_ble_eq_true rfl, Nat.le_of_ble_eq_true rfl⟩ rfl rfl (Nat.le_of_ble_eq_true rfl) dL_law_2349 ⟨(Nat.le_of_ble_eq_true rfl), (Nat.le_of_ble_eq_true rfl)⟩) hP hD hS hA rfl rfl rfl (by decide) (fun ad2349 H locs hP hD hS => ?_)
              have hP : va_P D vwCl [((xa 49), .inr (7, [.int 1000, .int 10, .int 0, .int 3000, .int 50, .int 1000, .int 50, .int 0, .int 0, .int 0])), (am, .inr (15, [.int 0, .ref (ma 0), .int 0, .int 0, .int 0, .int 0, .ref (ma 1), .ref (ma 2), .null, .int 1, .int 10, .int 900, .ref (ma 3), .ref (ma 4), .int 0, .int 0, .int 0, .ref (ma 5), .int 1000, .int 50, .int 50, .int 1000, .int 10, .int 0, .int 3000, .int 0, .int 0, .int 0])), (aj, .inl (cy 2, 1, .inr (.inl (fun _ => 0))))] H := hP
              have hD : va_D (AL s) [((xa 49), .inr (7, [.int 1000, .int 10, .int 0, .int 3000, .int 50, .int 1000, .int 50, .int 0, .int 0, .int 0])), (am, .inr (15, [.int 0, .ref (ma 0), .int 0, .int 0, .int 0, .int 0, .ref (ma 1), .ref (ma 2), .null, .int 1, .int 10, .int 900, .ref (ma 3), .ref (ma 4), .int 0, .int 0, .int 0, .ref (ma 5), .int 1000, .int 50, .int 50, .int 1000, .int 10, .int 0, .int 3000, .int 0, .int 0, .int 0])), (aj, .inl (cy 2, 1, .inr (.inl (fun _ => 0))))] := hD
              refine lv_istore (lv' := [(6, .int 1), (5, .int 0), (4, .ref ao), (3, .ref aj), (2, .ref am), (1, .ref ax), (0, .ref b)]) hx hb dL_law_2352 hl (Nat.le_of_ble_eq_true rfl) rfl (fun ls hl => ?_)
              refine lv_aload_n hx hb dL_law_2354 rfl (lv_at hl 4 rfl) ?_
              refine lv_aload_n hx hb dL_law_2355 rfl (lv_at hl 6 rfl) ?_
              refine lv_iload hx hb dL_law_2356 (lv_at hl 1 rfl) ?_
              refine lv_iconst (v := 1) hx hb dL_law_2358 (by decide) ?_
              refine lv_iadd hx hb dL_law_2359 ?_
              refine tp_i 1 (by decide) ?_
              refine va_sld hx hb hX hbl hbA hS (by unfold vp_in; decide) dL_law_2360 ?_
              refine tp_i x1 e1 ?_
              refine lv_aload_n hx hb dL_law_2361 rfl (lv_at hl 6 rfl) ?_
              refine lv_iload hx hb dL_law_2362 (lv_at hl 1 rfl) ?_
              refine lv_iconst (v := 2) hx hb dL_law_2364 (by decide) ?_
              refine lv_iadd hx hb dL_law_2365 ?_
              refine tp_i 2 (by decide) ?_
              refine va_sld hx hb hX hbl hbA hS (by unfold vp_in; decide) dL_law_2366 ?_
              refine tp_i x2 e2 ?_
              refine lv_aload_n hx hb dL_law_2367 rfl (lv_at hl 6 rfl) ?_
              refine lv_iload hx hb dL_law_2368 (lv_at hl 1 rfl) ?_
              refine lv_iconst (v := 3) hx hb dL_law_2370 (by decide) ?_
              refine lv_iadd hx hb dL_law_2371 ?_
              refine tp_i 3 (by decide) ?_
              refine va_sld hx hb hX hbl hbA hS (by unfold vp_in; decide) dL_law_2372 ?_
              refine tp_i x3 e3 ?_
              refine lv_aload_n hx hb dL_law_2373 rfl (lv_at hl 6 rfl) ?_
              refine lv_iload hx hb dL_law_2374 (lv_at hl 1 rfl) ?_
              refine lv_iconst (v := 4) hx hb dL_law_2376 (by decide) ?_
              refine lv_iadd hx hb dL_law_2377 ?_
              refine tp_i 4 (by decide) ?_
              refine va_sld hx hb hX hbl hbA hS (by unfold vp_in; decide) dL_law_2378 ?_
              refine tp_i x4 e4 ?_
              refine ca_i (isC := [1]) (isR := [0, 2]) (wr := [((xa 49), .inr (7, [.int 1000, .int 10, .int 0, .int 3000, .int 50, .int 1000, .int 50, .int 0, .int 0, .int 0])), (aj, .inl (cy 2, 1, .inr (.inl (fun _ => 0))))]) (rn_V (ci := 15) (q0 := 1) (isC := [1]) (wc := [(am, .inr (15, [.int 0, .ref (ma 0), .int 0, .int 0, .int 0, .int 0, .ref (ma 1), .ref (ma 2), .null, .int 1, .int 10, .int 900, .ref (ma 3), .ref (ma 4), .int 0, .int 0, .int 0, .ref (ma 5), .int 1000, .int 50, .int 50, .int 1000, .int 10, .int 0, .int 3000, .int 0, .int 0, .int 0]))]) (As := [.int x1, .int x2, .int x3, .int x4]) (rest := []) (n := 4) hx hb hml hown hts hE hS hP hD hA hl.1 (k589_X10_setGovernor l D cy g x1 x2 x3 x4 am (.int 0) (.ref (ma 0)) (.int 0) (.int 0) (.int 0) (.int 0) (.ref (ma 1)) (.ref (ma 2)) (.null) (.int 1) (.int 10) (.int 900) (.ref (ma 3)) (.ref (ma 4)) (.int 0) (.int 0) (.int 0) (.ref (ma 5)) (.int 1000) (.int 50) (.int 50) (.int 1000) (.int 10) (.int 0) (.int 3000) (.int 0) (.int 0) (.int 0) H.size c0 c1 c2 c3 c4 c5) rfl rfl rfl rfl rfl ax_406 rfl rfl ax_407 ⟨Nat.le_of_ble_eq_true rfl, Nat.le_of_ble_eq_true rfl⟩ rfl rfl (Nat.le_of_ble_eq_true rfl) dL_law_2379 ⟨(Nat.le_of_ble_eq_true rfl), (Nat.le_of_ble_eq_true rfl)⟩) hP hD hS hA rfl rfl rfl (by decide) (fun ad2379 H locs hP hD hS => ?_)
              have hP : va_P D vwCl [((xa 49), .inr (7, [.int 1000, .int 10, .int 0, .int 3000, .int 50, .int 1000, .int 50, .int 0, .int 0, .int 0])), (aj, .inl (cy 2, 1, .inr (.inl (fun _ => 0)))), (am, .inr (15, [.int 1, .ref (ma 0), .int 0, .int 0, .int 0, .int 0, .ref (ma 1), .ref (ma 2), .null, .int 1, .int 10, .int 900, .ref (ma 3), .ref (ma 4), .int 0, .int 0, .int 0, .ref (ma 5), .int 1000, .int 50, .int 50, .int 1000, .int 10, .int 0, .int 3000, .int 0, .int 0, .int 0]))] H := hP
              have hD : va_D (AL s) [((xa 49), .inr (7, [.int 1000, .int 10, .int 0, .int 3000, .int 50, .int 1000, .int 50, .int 0, .int 0, .int 0])), (aj, .inl (cy 2, 1, .inr (.inl (fun _ => 0)))), (am, .inr (15, [.int 1, .ref (ma 0), .int 0, .int 0, .int 0, .int 0, .ref (ma 1), .ref (ma 2), .null, .int 1, .int 10, .int 900, .ref (ma 3), .ref (ma 4), .int 0, .int 0, .int 0, .ref (ma 5), .int 1000, .int 50, .int 50, .int 1000, .int 10, .int 0, .int 3000, .int 0, .int 0, .int 0]))] := hD
              refine lv_istore (lv' := [(7, .int (-1)), (6, .int 1), (5, .int 0), (4, .ref ao), (3, .ref aj), (2, .ref am), (1, .ref ax), (0, .ref b)]) hx hb dL_law_2382 hl (Nat.le_of_ble_eq_true rfl) rfl (fun ls hl => ?_)
              refine lv_aload_n hx hb dL_law_2384 rfl (lv_at hl 5 rfl) ?_
              refine ca_i (isC := [2]) (isR := [0, 1]) (wr := [((xa 49), .inr (7, [.int 1000, .int 10, .int 0, .int 3000, .int 50, .int 1000, .int 50, .int 0, .int 0, .int 0])), (aj, .inl (cy 2, 1, .inr (.inl (fun _ => 0))))]) (rn_V (ci := 15) (q0 := 2) (isC := [2]) (wc := [(am, .inr (15, [.int 1, .ref (ma 0), .int 0, .int 0, .int 0, .int 0, .ref (ma 1), .ref (ma 2), .null, .int 1, .int 10, .int 900, .ref (ma 3), .ref (ma 4), .int 0, .int 0, .int 0, .ref (ma 5), .int 1000, .int 50, .int 50, .int 1000, .int 10, .int 0, .int 3000, .int 0, .int 0, .int 0]))]) (As := []) (rest := []) (n := 0) hx hb hml hown hts hE hS hP hD hA hl.1 (k24_X10_thrown l D cy g am (.ref (ma 0)) (.int 0) (.int 0) (.int 0) (.int 0) (.ref (ma 1)) (.ref (ma 2)) (.null) (.int 1) (.int 10) (.int 900) (.ref (ma 3)) (.ref (ma 4)) (.int 0) (.int 0) (.int 0) (.ref (ma 5)) (.int 1000) (.int 50) (.int 50) (.int 1000) (.int 10) (.int 0) (.int 3000) (.int 0) (.int 0) (.int 0) H.size ) rfl rfl rfl rfl rfl ax_45 rfl rfl ax_46 ⟨Nat.le_of_ble_eq_true rfl, Nat.le_of_ble_eq_true rfl⟩ rfl rfl (Nat.le_of_ble_eq_true rfl) dL_law_2385 ⟨(Nat.le_of_ble_eq_true rfl), (Nat.le_of_ble_eq_true rfl)⟩) hP hD hS hA rfl rfl rfl (by decide) (fun ad2385 H locs hP hD hS => ?_)
              have hP : va_P D vwCl [((xa 49), .inr (7, [.int 1000, .int 10, .int 0, .int 3000, .int 50, .int 1000, .int 50, .int 0, .int 0, .int 0])), (aj, .inl (cy 2, 1, .inr (.inl (fun _ => 0)))), (am, .inr (15, [.int 1, .ref (ma 0), .int 0, .int 0, .int 0, .int 0, .ref (ma 1), .ref (ma 2), .null, .int 1, .int 10, .int 900, .ref (ma 3), .ref (ma 4), .int 0, .int 0, .int 0, .ref (ma 5), .int 1000, .int 50, .int 50, .int 1000, .int 10, .int 0, .int 3000, .int 0, .int 0, .int 0]))] H := hP
              have hD : va_D (AL s) [((xa 49), .inr (7, [.int 1000, .int 10, .int 0, .int 3000, .int 50, .int 1000, .int 50, .int 0, .int 0, .int 0])), (aj, .inl (cy 2, 1, .inr (.inl (fun _ => 0)))), (am, .inr (15, [.int 1, .ref (ma 0), .int 0, .int 0, .int 0, .int 0, .ref (ma 1), .ref (ma 2), .null, .int 1, .int 10, .int 900, .ref (ma 3), .ref (ma 4), .int 0, .int 0, .int 0, .ref (ma 5), .int 1000, .int 50, .int 50, .int 1000, .int 10, .int 0, .int 3000, .int 0, .int 0, .int 0]))] := hD
              refine lv_iload hx hb dL_law_2388 (lv_at hl 1 rfl) ?_
              refine lv_icmp_eq (tgt := 2395) hx hb dL_law_2390 (by decide) (fun _ => ?_) (fun z => absurd (by decide) z)
              refine lv_iload hx hb dL_law_2395 (lv_at hl 1 rfl) ?_
              refine lv_if_ne (tgt := 2412) hx hb dL_law_2397 (by decide) (fun _ => ?_) (fun z => absurd z (by decide))
              refine lv_goto (tgt := 2947) hx hb dL_law_2412 (by decide) ?_
              exact law_tail LC hS (Nat.le_of_ble_eq_true rfl) (Nat.le_of_ble_eq_true rfl) (lv_sub hl [2, 7] rfl)
            · by_cases c6 : x4 < 0
              · refine lv_aload_n hx hb dL_law_2323 rfl (lv_at hl 4 rfl) ?_
                refine lv_aload_n hx hb dL_law_2324 rfl (lv_at hl 5 rfl) ?_
                refine lv_iload hx hb dL_law_2325 (lv_at hl 0 rfl) ?_
                refine lv_iconst (v := 1) hx hb dL_law_2327 (by decide) ?_
                refine lv_iadd hx hb dL_law_2328 ?_
                refine tp_i 1 (by decide) ?_
                refine va_sld hx hb hX hbl hbA hS (by unfold vp_in; decide) dL_law_2329 ?_
                refine tp_i x1 e1 ?_
                refine lv_aload_n hx hb dL_law_2330 rfl (lv_at hl 5 rfl) ?_
                refine lv_iload hx hb dL_law_2331 (lv_at hl 0 rfl) ?_
                refine lv_iconst (v := 2) hx hb dL_law_2333 (by decide) ?_
                refine lv_iadd hx hb dL_law_2334 ?_
                refine tp_i 2 (by decide) ?_
                refine va_sld hx hb hX hbl hbA hS (by unfold vp_in; decide) dL_law_2335 ?_
                refine tp_i x2 e2 ?_
                refine lv_aload_n hx hb dL_law_2336 rfl (lv_at hl 5 rfl) ?_
                refine lv_iload hx hb dL_law_2337 (lv_at hl 0 rfl) ?_
                refine lv_iconst (v := 3) hx hb dL_law_2339 (by decide) ?_
                refine lv_iadd hx hb dL_law_2340 ?_
                refine tp_i 3 (by decide) ?_
                refine va_sld hx hb hX hbl hbA hS (by unfold vp_in; decide) dL_law_2341 ?_
                refine tp_i x3 e3 ?_
                refine lv_aload_n hx hb dL_law_2342 rfl (lv_at hl 5 rfl) ?_
                refine lv_iload hx hb dL_law_2343 (lv_at hl 0 rfl) ?_
                refine lv_iconst (v := 4) hx hb dL_law_2345 (by decide) ?_
                refine lv_iadd hx hb dL_law_2346 ?_
                refine tp_i 4 (by decide) ?_
                refine va_sld hx hb hX hbl hbA hS (by unfold vp_in; decide) dL_law_2347 ?_
                refine tp_i x4 e4 ?_
                refine lv_aload_n hx hb dL_law_2348 rfl (lv_at hl 2 rfl) ?_
                refine ca_i (isC := [0]) (isR := [1, 2, 3]) (wr := [((xa 49), .inr (7, [.int 1000, .int 10, .int 0, .int 3000, .int 50, .int 1000, .int 50, .int 0, .int 0, .int 0])), (am, .inr (15, [.int 0, .ref (ma 0), .int 0, .int 0, .int 0, .int 0, .ref (ma 1), .ref (ma 2), .null, .int 1, .int 10, .int 900, .ref (ma 3), .ref (ma 4), .int 0, .int 0, .int 0, .ref (ma 5), .int 1000, .int 50, .int 50, .int 1000, .int 10, .int 0, .int 3000, .int 0, .int 0, .int 0])), (aj, .inl (cy 2, 1, .inr (.inl (fun _ => 0))))]) (rn_SW (isC := [0]) (wc := [(ax, .inr (14, [.ref (xa 0), .ref (xa 13), .ref (xa 18), .ref (xa 34), .ref (xa 45), .ref (xa 49), .ref (xa 50)]))]) (As := [.ref ax, .int x1, .int x2, .int x3, .int x4, .ref aj]) (rest := []) (n := 6) hx hb hml hown hts hE hS hP hD hA hl.1 (k591_L_setGovernor l hst D cy g x1 x2 x3 x4 ax aj (.ref (xa 0)) (.ref (xa 13)) (.ref (xa 18)) (.ref (xa 34)) (.ref (xa 45)) (.ref (xa 49)) (.ref (xa 50)) H.size c0 c1 c2 c3 c4 c5 c6) rfl rfl ax_404 rfl rfl ax_405 ⟨Nat.le_of_ble_eq_true rfl, Nat.le_of_ble_eq_true rfl⟩ rfl rfl (Nat.le_of_ble_eq_true rfl) dL_law_2349 ⟨(Nat.le_of_ble_eq_true rfl), (Nat.le_of_ble_eq_true rfl)⟩) hP hD hS hA rfl rfl rfl (by decide) (fun ad2349 H locs hP hD hS => ?_)
                have hP : va_P D vwCl [((xa 49), .inr (7, [.int 1000, .int 10, .int 0, .int 3000, .int 50, .int 1000, .int 50, .int 0, .int 0, .int 0])), (am, .inr (15, [.int 0, .ref (ma 0), .int 0, .int 0, .int 0, .int 0, .ref (ma 1), .ref (ma 2), .null, .int 1, .int 10, .int 900, .ref (ma 3), .ref (ma 4), .int 0, .int 0, .int 0, .ref (ma 5), .int 1000, .int 50, .int 50, .int 1000, .int 10, .int 0, .int 3000, .int 0, .int 0, .int 0])), (aj, .inl (cy 2, 1, .inr (.inl (fun _ => 0))))] H := hP
                have hD : va_D (AL s) [((xa 49), .inr (7, [.int 1000, .int 10, .int 0, .int 3000, .int 50, .int 1000, .int 50, .int 0, .int 0, .int 0])), (am, .inr (15, [.int 0, .ref (ma 0), .int 0, .int 0, .int 0, .int 0, .ref (ma 1), .ref (ma 2), .null, .int 1, .int 10, .int 900, .ref (ma 3), .ref (ma 4), .int 0, .int 0, .int 0, .ref (ma 5), .int 1000, .int 50, .int 50, .int 1000, .int 10, .int 0, .int 3000, .int 0, .int 0, .int 0])), (aj, .inl (cy 2, 1, .inr (.inl (fun _ => 0))))] := hD
                refine lv_istore (lv' := [(6, .int 1), (5, .int 0), (4, .ref ao), (3, .ref aj), (2, .ref am), (1, .ref ax), (0, .ref b)]) hx hb dL_law_2352 hl (Nat.le_of_ble_eq_true rfl) rfl (fun ls hl => ?_)
                refine lv_aload_n hx hb dL_law_2354 rfl (lv_at hl 4 rfl) ?_
                refine lv_aload_n hx hb dL_law_2355 rfl (lv_at hl 6 rfl) ?_
                refine lv_iload hx hb dL_law_2356 (lv_at hl 1 rfl) ?_
                refine lv_iconst (v := 1) hx hb dL_law_2358 (by decide) ?_
                refine lv_iadd hx hb dL_law_2359 ?_
                refine tp_i 1 (by decide) ?_
                refine va_sld hx hb hX hbl hbA hS (by unfold vp_in; decide) dL_law_2360 ?_
                refine tp_i x1 e1 ?_
                refine lv_aload_n hx hb dL_law_2361 rfl (lv_at hl 6 rfl) ?_
                refine lv_iload hx hb dL_law_2362 (lv_at hl 1 rfl) ?_
                refine lv_iconst (v := 2) hx hb dL_law_2364 (by decide) ?_
                refine lv_iadd hx hb dL_law_2365 ?_
                refine tp_i 2 (by decide) ?_
                refine va_sld hx hb hX hbl hbA hS (by unfold vp_in; decide) dL_law_2366 ?_
                refine tp_i x2 e2 ?_
                refine lv_aload_n hx hb dL_law_2367 rfl (lv_at hl 6 rfl) ?_
                refine lv_iload hx hb dL_law_2368 (lv_at hl 1 rfl) ?_
                refine lv_iconst (v := 3) hx hb dL_law_2370 (by decide) ?_
                refine lv_iadd hx hb dL_law_2371 ?_
                refine tp_i 3 (by decide) ?_
                refine va_sld hx hb hX hbl hbA hS (by unfold vp_in; decide) dL_law_2372 ?_
                refine tp_i x3 e3 ?_
                refine lv_aload_n hx hb dL_law_2373 rfl (lv_at hl 6 rfl) ?_
                refine lv_iload hx hb dL_law_2374 (lv_at hl 1 rfl) ?_
                refine lv_iconst (v := 4) hx hb dL_law_2376 (by decide) ?_
                refine lv_iadd hx hb dL_law_2377 ?_
                refine tp_i 4 (by decide) ?_
                refine va_sld hx hb hX hbl hbA hS (by unfold vp_in; decide) dL_law_2378 ?_
                refine tp_i x4 e4 ?_
                refine ca_i (isC := [1]) (isR := [0, 2]) (wr := [((xa 49), .inr (7, [.int 1000, .int 10, .int 0, .int 3000, .int 50, .int 1000, .int 50, .int 0, .int 0, .int 0])), (aj, .inl (cy 2, 1, .inr (.inl (fun _ => 0))))]) (rn_V (ci := 15) (q0 := 1) (isC := [1]) (wc := [(am, .inr (15, [.int 0, .ref (ma 0), .int 0, .int 0, .int 0, .int 0, .ref (ma 1), .ref (ma 2), .null, .int 1, .int 10, .int 900, .ref (ma 3), .ref (ma 4), .int 0, .int 0, .int 0, .ref (ma 5), .int 1000, .int 50, .int 50, .int 1000, .int 10, .int 0, .int 3000, .int 0, .int 0, .int 0]))]) (As := [.int x1, .int x2, .int x3, .int x4]) (rest := []) (n := 4) hx hb hml hown hts hE hS hP hD hA hl.1 (k592_X10_setGovernor l D cy g x1 x2 x3 x4 am (.int 0) (.ref (ma 0)) (.int 0) (.int 0) (.int 0) (.int 0) (.ref (ma 1)) (.ref (ma 2)) (.null) (.int 1) (.int 10) (.int 900) (.ref (ma 3)) (.ref (ma 4)) (.int 0) (.int 0) (.int 0) (.ref (ma 5)) (.int 1000) (.int 50) (.int 50) (.int 1000) (.int 10) (.int 0) (.int 3000) (.int 0) (.int 0) (.int 0) H.size c0 c1 c2 c3 c4 c5 c6) rfl rfl rfl rfl rfl ax_406 rfl rfl ax_407 ⟨Nat.le_of_ble_eq_true rfl, Nat.le_of_ble_eq_true rfl⟩ rfl rfl (Nat.le_of_ble_eq_true rfl) dL_law_2379 ⟨(Nat.le_of_ble_eq_true rfl), (Nat.le_of_ble_eq_true rfl)⟩) hP hD hS hA rfl rfl rfl (by decide) (fun ad2379 H locs hP hD hS => ?_)
                have hP : va_P D vwCl [((xa 49), .inr (7, [.int 1000, .int 10, .int 0, .int 3000, .int 50, .int 1000, .int 50, .int 0, .int 0, .int 0])), (aj, .inl (cy 2, 1, .inr (.inl (fun _ => 0)))), (am, .inr (15, [.int 1, .ref (ma 0), .int 0, .int 0, .int 0, .int 0, .ref (ma 1), .ref (ma 2), .null, .int 1, .int 10, .int 900, .ref (ma 3), .ref (ma 4), .int 0, .int 0, .int 0, .ref (ma 5), .int 1000, .int 50, .int 50, .int 1000, .int 10, .int 0, .int 3000, .int 0, .int 0, .int 0]))] H := hP
                have hD : va_D (AL s) [((xa 49), .inr (7, [.int 1000, .int 10, .int 0, .int 3000, .int 50, .int 1000, .int 50, .int 0, .int 0, .int 0])), (aj, .inl (cy 2, 1, .inr (.inl (fun _ => 0)))), (am, .inr (15, [.int 1, .ref (ma 0), .int 0, .int 0, .int 0, .int 0, .ref (ma 1), .ref (ma 2), .null, .int 1, .int 10, .int 900, .ref (ma 3), .ref (ma 4), .int 0, .int 0, .int 0, .ref (ma 5), .int 1000, .int 50, .int 50, .int 1000, .int 10, .int 0, .int 3000, .int 0, .int 0, .int 0]))] := hD
                refine lv_istore (lv' := [(7, .int (-1)), (6, .int 1), (5, .int 0), (4, .ref ao), (3, .ref aj), (2, .ref am), (1, .ref ax), (0, .ref b)]) hx hb dL_law_2382 hl (Nat.le_of_ble_eq_true rfl) rfl (fun ls hl => ?_)
                refine lv_aload_n hx hb dL_law_2384 rfl (lv_at hl 5 rfl) ?_
                refine ca_i (isC := [2]) (isR := [0, 1]) (wr := [((xa 49), .inr (7, [.int 1000, .int 10, .int 0, .int 3000, .int 50, .int 1000, .int 50, .int 0, .int 0, .int 0])), (aj, .inl (cy 2, 1, .inr (.inl (fun _ => 0))))]) (rn_V (ci := 15) (q0 := 2) (isC := [2]) (wc := [(am, .inr (15, [.int 1, .ref (ma 0), .int 0, .int 0, .int 0, .int 0, .ref (ma 1), .ref (ma 2), .null, .int 1, .int 10, .int 900, .ref (ma 3), .ref (ma 4), .int 0, .int 0, .int 0, .ref (ma 5), .int 1000, .int 50, .int 50, .int 1000, .int 10, .int 0, .int 3000, .int 0, .int 0, .int 0]))]) (As := []) (rest := []) (n := 0) hx hb hml hown hts hE hS hP hD hA hl.1 (k24_X10_thrown l D cy g am (.ref (ma 0)) (.int 0) (.int 0) (.int 0) (.int 0) (.ref (ma 1)) (.ref (ma 2)) (.null) (.int 1) (.int 10) (.int 900) (.ref (ma 3)) (.ref (ma 4)) (.int 0) (.int 0) (.int 0) (.ref (ma 5)) (.int 1000) (.int 50) (.int 50) (.int 1000) (.int 10) (.int 0) (.int 3000) (.int 0) (.int 0) (.int 0) H.size ) rfl rfl rfl rfl rfl ax_45 rfl rfl ax_46 ⟨Nat.le_of_ble_eq_true rfl, Nat.le_of_ble_eq_true rfl⟩ rfl rfl (Nat.le_of_ble_eq_true rfl) dL_law_2385 ⟨(Nat.le_of_ble_eq_true rfl), (Nat.le_of_ble_eq_true rfl)⟩) hP hD hS hA rfl rfl rfl (by decide) (fun ad2385 H locs hP hD hS => ?_)
                have hP : va_P D vwCl [((xa 49), .inr (7, [.int 1000, .int 10, .int 0, .int 3000, .int 50, .int 1000, .int 50, .int 0, .int 0, .int 0])), (aj, .inl (cy 2, 1, .inr (.inl (fun _ => 0)))), (am, .inr (15, [.int 1, .ref (ma 0), .int 0, .int 0, .int 0, .int 0, .ref (ma 1), .ref (ma 2), .null, .int 1, .int 10, .int 900, .ref (ma 3), .ref (ma 4), .int 0, .int 0, .int 0, .ref (ma 5), .int 1000, .int 50, .int 50, .int 1000, .int 10, .int 0, .int 3000, .int 0, .int 0, .int 0]))] H := hP
                have hD : va_D (AL s) [((xa 49), .inr (7, [.int 1000, .int 10, .int 0, .int 3000, .int 50, .int 1000, .int 50, .int 0, .int 0, .int 0])), (aj, .inl (cy 2, 1, .inr (.inl (fun _ => 0)))), (am, .inr (15, [.int 1, .ref (ma 0), .int 0, .int 0, .int 0, .int 0, .ref (ma 1), .ref (ma 2), .null, .int 1, .int 10, .int 900, .ref (ma 3), .ref (ma 4), .int 0, .int 0, .int 0, .ref (ma 5), .int 1000, .int 50, .int 50, .int 1000, .int 10, .int 0, .int 3000, .int 0, .int 0, .int 0]))] := hD
                refine lv_iload hx hb dL_law_2388 (lv_at hl 1 rfl) ?_
                refine lv_icmp_eq (tgt := 2395) hx hb dL_law_2390 (by decide) (fun _ => ?_) (fun z => absurd (by decide) z)
                refine lv_iload hx hb dL_law_2395 (lv_at hl 1 rfl) ?_
                refine lv_if_ne (tgt := 2412) hx hb dL_law_2397 (by decide) (fun _ => ?_) (fun z => absurd z (by decide))
                refine lv_goto (tgt := 2947) hx hb dL_law_2412 (by decide) ?_
                exact law_tail LC hS (Nat.le_of_ble_eq_true rfl) (Nat.le_of_ble_eq_true rfl) (lv_sub hl [2, 7] rfl)
              · by_cases c7 : (5000 : Int32) < x4
                · refine lv_aload_n hx hb dL_law_2323 rfl (lv_at hl 4 rfl) ?_
                  refine lv_aload_n hx hb dL_law_2324 rfl (lv_at hl 5 rfl) ?_
                  refine lv_iload hx hb dL_law_2325 (lv_at hl 0 rfl) ?_
                  refine lv_iconst (v := 1) hx hb dL_law_2327 (by decide) ?_
                  refine lv_iadd hx hb dL_law_2328 ?_
                  refine tp_i 1 (by decide) ?_
                  refine va_sld hx hb hX hbl hbA hS (by unfold vp_in; decide) dL_law_2329 ?_
                  refine tp_i x1 e1 ?_
                  refine lv_aload_n hx hb dL_law_2330 rfl (lv_at hl 5 rfl) ?_
                  refine lv_iload hx hb dL_law_2331 (lv_at hl 0 rfl) ?_
                  refine lv_iconst (v := 2) hx hb dL_law_2333 (by decide) ?_
                  refine lv_iadd hx hb dL_law_2334 ?_
                  refine tp_i 2 (by decide) ?_
                  refine va_sld hx hb hX hbl hbA hS (by unfold vp_in; decide) dL_law_2335 ?_
                  refine tp_i x2 e2 ?_
                  refine lv_aload_n hx hb dL_law_2336 rfl (lv_at hl 5 rfl) ?_
                  refine lv_iload hx hb dL_law_2337 (lv_at hl 0 rfl) ?_
                  refine lv_iconst (v := 3) hx hb dL_law_2339 (by decide) ?_
                  refine lv_iadd hx hb dL_law_2340 ?_
                  refine tp_i 3 (by decide) ?_
                  refine va_sld hx hb hX hbl hbA hS (by unfold vp_in; decide) dL_law_2341 ?_
                  refine tp_i x3 e3 ?_
                  refine lv_aload_n hx hb dL_law_2342 rfl (lv_at hl 5 rfl) ?_
                  refine lv_iload hx hb dL_law_2343 (lv_at hl 0 rfl) ?_
                  refine lv_iconst (v := 4) hx hb dL_law_2345 (by decide) ?_
                  refine lv_iadd hx hb dL_law_2346 ?_
                  refine tp_i 4 (by decide) ?_
                  refine va_sld hx hb hX hbl hbA hS (by unfold vp_in; decide) dL_law_2347 ?_
                  refine tp_i x4 e4 ?_
                  refine lv_aload_n hx hb dL_law_2348 rfl (lv_at hl 2 rfl) ?_
                  refine ca_i (isC := [0]) (isR := [1, 2, 3]) (wr := [((xa 49), .inr (7, [.int 1000, .int 10, .int 0, .int 3000, .int 50, .int 1000, .int 50, .int 0, .int 0, .int 0])), (am, .inr (15, [.int 0, .ref (ma 0), .int 0, .int 0, .int 0, .int 0, .ref (ma 1), .ref (ma 2), .null, .int 1, .int 10, .int 900, .ref (ma 3), .ref (ma 4), .int 0, .int 0, .int 0, .ref (ma 5), .int 1000, .int 50, .int 50, .int 1000, .int 10, .int 0, .int 3000, .int 0, .int 0, .int 0])), (aj, .inl (cy 2, 1, .inr (.inl (fun _ => 0))))]) (rn_SW (isC := [0]) (wc := [(ax, .inr (14, [.ref (xa 0), .ref (xa 13), .ref (xa 18), .ref (xa 34), .ref (xa 45), .ref (xa 49), .ref (xa 50)]))]) (As := [.ref ax, .int x1, .int x2, .int x3, .int x4, .ref aj]) (rest := []) (n := 6) hx hb hml hown hts hE hS hP hD hA hl.1 (k594_L_setGovernor l hst D cy g x1 x2 x3 x4 ax aj (.ref (xa 0)) (.ref (xa 13)) (.ref (xa 18)) (.ref (xa 34)) (.ref (xa 45)) (.ref (xa 49)) (.ref (xa 50)) H.size c0 c1 c2 c3 c4 c5 c6 c7) rfl rfl ax_404 rfl rfl ax_405 ⟨Nat.le_of_ble_eq_true rfl, Nat.le_of_ble_eq_true rfl⟩ rfl rfl (Nat.le_of_ble_eq_true rfl) dL_law_2349 ⟨(Nat.le_of_ble_eq_true rfl), (Nat.le_of_ble_eq_true rfl)⟩) hP hD hS hA rfl rfl rfl (by decide) (fun ad2349 H locs hP hD hS => ?_)
                  have hP : va_P D vwCl [((xa 49), .inr (7, [.int 1000, .int 10, .int 0, .int 3000, .int 50, .int 1000, .int 50, .int 0, .int 0, .int 0])), (am, .inr (15, [.int 0, .ref (ma 0), .int 0, .int 0, .int 0, .int 0, .ref (ma 1), .ref (ma 2), .null, .int 1, .int 10, .int 900, .ref (ma 3), .ref (ma 4), .int 0, .int 0, .int 0, .ref (ma 5), .int 1000, .int 50, .int 50, .int 1000, .int 10, .int 0, .int 3000, .int 0, .int 0, .int 0])), (aj, .inl (cy 2, 1, .inr (.inl (fun _ => 0))))] H := hP
                  have hD : va_D (AL s) [((xa 49), .inr (7, [.int 1000, .int 10, .int 0, .int 3000, .int 50, .int 1000, .int 50, .int 0, .int 0, .int 0])), (am, .inr (15, [.int 0, .ref (ma 0), .int 0, .int 0, .int 0, .int 0, .ref (ma 1), .ref (ma 2), .null, .int 1, .int 10, .int 900, .ref (ma 3), .ref (ma 4), .int 0, .int 0, .int 0, .ref (ma 5), .int 1000, .int 50, .int 50, .int 1000, .int 10, .int 0, .int 3000, .int 0, .int 0, .int 0])), (aj, .inl (cy 2, 1, .inr (.inl (fun _ => 0))))] := hD
                  refine lv_istore (lv' := [(6, .int 1), (5, .int 0), (4, .ref ao), (3, .ref aj), (2, .ref am), (1, .ref ax), (0, .ref b)]) hx hb dL_law_2352 hl (Nat.le_of_ble_eq_true rfl) rfl (fun ls hl => ?_)
                  refine lv_aload_n hx hb dL_law_2354 rfl (lv_at hl 4 rfl) ?_
                  refine lv_aload_n hx hb dL_law_2355 rfl (lv_at hl 6 rfl) ?_
                  refine lv_iload hx hb dL_law_2356 (lv_at hl 1 rfl) ?_
                  refine lv_iconst (v := 1) hx hb dL_law_2358 (by decide) ?_
                  refine lv_iadd hx hb dL_law_2359 ?_
                  refine tp_i 1 (by decide) ?_
                  refine va_sld hx hb hX hbl hbA hS (by unfold vp_in; decide) dL_law_2360 ?_
                  refine tp_i x1 e1 ?_
                  refine lv_aload_n hx hb dL_law_2361 rfl (lv_at hl 6 rfl) ?_
                  refine lv_iload hx hb dL_law_2362 (lv_at hl 1 rfl) ?_
                  refine lv_iconst (v := 2) hx hb dL_law_2364 (by decide) ?_
                  refine lv_iadd hx hb dL_law_2365 ?_
                  refine tp_i 2 (by decide) ?_
                  refine va_sld hx hb hX hbl hbA hS (by unfold vp_in; decide) dL_law_2366 ?_
                  refine tp_i x2 e2 ?_
                  refine lv_aload_n hx hb dL_law_2367 rfl (lv_at hl 6 rfl) ?_
                  refine lv_iload hx hb dL_law_2368 (lv_at hl 1 rfl) ?_
                  refine lv_iconst (v := 3) hx hb dL_law_2370 (by decide) ?_
                  refine lv_iadd hx hb dL_law_2371 ?_
                  refine tp_i 3 (by decide) ?_
                  refine va_sld hx hb hX hbl hbA hS (by unfold vp_in; decide) dL_law_2372 ?_
                  refine tp_i x3 e3 ?_
                  refine lv_aload_n hx hb dL_law_2373 rfl (lv_at hl 6 rfl) ?_
                  refine lv_iload hx hb dL_law_2374 (lv_at hl 1 rfl) ?_
                  refine lv_iconst (v := 4) hx hb dL_law_2376 (by decide) ?_
                  refine lv_iadd hx hb dL_law_2377 ?_
                  refine tp_i 4 (by decide) ?_
                  refine va_sld hx hb hX hbl hbA hS (by unfold vp_in; decide) dL_law_2378 ?_
                  refine tp_i x4 e4 ?_
                  refine ca_i (isC := [1]) (isR := [0, 2]) (wr := [((xa 49), .inr (7, [.int 1000, .int 10, .int 0, .int 3000, .int 50, .int 1000, .int 50, .int 0, .int 0, .int 0])), (aj, .inl (cy 2, 1, .inr (.inl (fun _ => 0))))]) (rn_V (ci := 15) (q0 := 1) (isC := [1]) (wc := [(am, .inr (15, [.int 0, .ref (ma 0), .int 0, .int 0, .int 0, .int 0, .ref (ma 1), .ref (ma 2), .null, .int 1, .int 10, .int 900, .ref (ma 3), .ref (ma 4), .int 0, .int 0, .int 0, .ref (ma 5), .int 1000, .int 50, .int 50, .int 1000, .int 10, .int 0, .int 3000, .int 0, .int 0, .int 0]))]) (As := [.int x1, .int x2, .int x3, .int x4]) (rest := []) (n := 4) hx hb hml hown hts hE hS hP hD hA hl.1 (k595_X10_setGovernor l D cy g x1 x2 x3 x4 am (.int 0) (.ref (ma 0)) (.int 0) (.int 0) (.int 0) (.int 0) (.ref (ma 1)) (.ref (ma 2)) (.null) (.int 1) (.int 10) (.int 900) (.ref (ma 3)) (.ref (ma 4)) (.int 0) (.int 0) (.int 0) (.ref (ma 5)) (.int 1000) (.int 50) (.int 50) (.int 1000) (.int 10) (.int 0) (.int 3000) (.int 0) (.int 0) (.int 0) H.size c0 c1 c2 c3 c4 c5 c6 c7) rfl rfl rfl rfl rfl ax_406 rfl rfl ax_407 ⟨Nat.le_of_ble_eq_true rfl, Nat.le_of_ble_eq_true rfl⟩ rfl rfl (Nat.le_of_ble_eq_true rfl) dL_law_2379 ⟨(Nat.le_of_ble_eq_true rfl), (Nat.le_of_ble_eq_true rfl)⟩) hP hD hS hA rfl rfl rfl (by decide) (fun ad2379 H locs hP hD hS => ?_)
                  have hP : va_P D vwCl [((xa 49), .inr (7, [.int 1000, .int 10, .int 0, .int 3000, .int 50, .int 1000, .int 50, .int 0, .int 0, .int 0])), (aj, .inl (cy 2, 1, .inr (.inl (fun _ => 0)))), (am, .inr (15, [.int 1, .ref (ma 0), .int 0, .int 0, .int 0, .int 0, .ref (ma 1), .ref (ma 2), .null, .int 1, .int 10, .int 900, .ref (ma 3), .ref (ma 4), .int 0, .int 0, .int 0, .ref (ma 5), .int 1000, .int 50, .int 50, .int 1000, .int 10, .int 0, .int 3000, .int 0, .int 0, .int 0]))] H := hP
                  have hD : va_D (AL s) [((xa 49), .inr (7, [.int 1000, .int 10, .int 0, .int 3000, .int 50, .int 1000, .int 50, .int 0, .int 0, .int 0])), (aj, .inl (cy 2, 1, .inr (.inl (fun _ => 0)))), (am, .inr (15, [.int 1, .ref (ma 0), .int 0, .int 0, .int 0, .int 0, .ref (ma 1), .ref (ma 2), .null, .int 1, .int 10, .int 900, .ref (ma 3), .ref (ma 4), .int 0, .int 0, .int 0, .ref (ma 5), .int 1000, .int 50, .int 50, .int 1000, .int 10, .int 0, .int 3000, .int 0, .int 0, .int 0]))] := hD
                  refine lv_istore (lv' := [(7, .int (-1)), (6, .int 1), (5, .int 0), (4, .ref ao), (3, .ref aj), (2, .ref am), (1, .ref ax), (0, .ref b)]) hx hb dL_law_2382 hl (Nat.le_of_ble_eq_true rfl) rfl (fun ls hl => ?_)
                  refine lv_aload_n hx hb dL_law_2384 rfl (lv_at hl 5 rfl) ?_
                  refine ca_i (isC := [2]) (isR := [0, 1]) (wr := [((xa 49), .inr (7, [.int 1000, .int 10, .int 0, .int 3000, .int 50, .int 1000, .int 50, .int 0, .int 0, .int 0])), (aj, .inl (cy 2, 1, .inr (.inl (fun _ => 0))))]) (rn_V (ci := 15) (q0 := 2) (isC := [2]) (wc := [(am, .inr (15, [.int 1, .ref (ma 0), .int 0, .int 0, .int 0, .int 0, .ref (ma 1), .ref (ma 2), .null, .int 1, .int 10, .int 900, .ref (ma 3), .ref (ma 4), .int 0, .int 0, .int 0, .ref (ma 5), .int 1000, .int 50, .int 50, .int 1000, .int 10, .int 0, .int 3000, .int 0, .int 0, .int 0]))]) (As := []) (rest := []) (n := 0) hx hb hml hown hts hE hS hP hD hA hl.1 (k24_X10_thrown l D cy g am (.ref (ma 0)) (.int 0) (.int 0) (.int 0) (.int 0) (.ref (ma 1)) (.ref (ma 2)) (.null) (.int 1) (.int 10) (.int 900) (.ref (ma 3)) (.ref (ma 4)) (.int 0) (.int 0) (.int 0) (.ref (ma 5)) (.int 1000) (.int 50) (.int 50) (.int 1000) (.int 10) (.int 0) (.int 3000) (.int 0) (.int 0) (.int 0) H.size ) rfl rfl rfl rfl rfl ax_45 rfl rfl ax_46 ⟨Nat.le_of_ble_eq_true rfl, Nat.le_of_ble_eq_true rfl⟩ rfl rfl (Nat.le_of_ble_eq_true rfl) dL_law_2385 ⟨(Nat.le_of_ble_eq_true rfl), (Nat.le_of_ble_eq_true rfl)⟩) hP hD hS hA rfl rfl rfl (by decide) (fun ad2385 H locs hP hD hS => ?_)
                  have hP : va_P D vwCl [((xa 49), .inr (7, [.int 1000, .int 10, .int 0, .int 3000, .int 50, .int 1000, .int 50, .int 0, .int 0, .int 0])), (aj, .inl (cy 2, 1, .inr (.inl (fun _ => 0)))), (am, .inr (15, [.int 1, .ref (ma 0), .int 0, .int 0, .int 0, .int 0, .ref (ma 1), .ref (ma 2), .null, .int 1, .int 10, .int 900, .ref (ma 3), .ref (ma 4), .int 0, .int 0, .int 0, .ref (ma 5), .int 1000, .int 50, .int 50, .int 1000, .int 10, .int 0, .int 3000, .int 0, .int 0, .int 0]))] H := hP
                  have hD : va_D (AL s) [((xa 49), .inr (7, [.int 1000, .int 10, .int 0, .int 3000, .int 50, .int 1000, .int 50, .int 0, .int 0, .int 0])), (aj, .inl (cy 2, 1, .inr (.inl (fun _ => 0)))), (am, .inr (15, [.int 1, .ref (ma 0), .int 0, .int 0, .int 0, .int 0, .ref (ma 1), .ref (ma 2), .null, .int 1, .int 10, .int 900, .ref (ma 3), .ref (ma 4), .int 0, .int 0, .int 0, .ref (ma 5), .int 1000, .int 50, .int 50, .int 1000, .int 10, .int 0, .int 3000, .int 0, .int 0, .int 0]))] := hD
                  refine lv_iload hx hb dL_law_2388 (lv_at hl 1 rfl) ?_
                  refine lv_icmp_eq (tgt := 2395) hx hb dL_law_2390 (by decide) (fun _ => ?_) (fun z => absurd (by decide) z)
                  refine lv_iload hx hb dL_law_2395 (lv_at hl 1 rfl) ?_
                  refine lv_if_ne (tgt := 2412) hx hb dL_law_2397 (by decide) (fun _ => ?_) (fun z => absurd z (by decide))
                  refine lv_goto (tgt := 2947) hx hb dL_law_2412 (by decide) ?_
                  exact law_tail LC hS (Nat.le_of_ble_eq_true rfl) (Nat.le_of_ble_eq_true rfl) (lv_sub hl [2, 7] rfl)
                · refine lv_aload_n hx hb dL_law_2323 rfl (lv_at hl 4 rfl) ?_
                  refine lv_aload_n hx hb dL_law_2324 rfl (lv_at hl 5 rfl) ?_
                  refine lv_iload hx hb dL_law_2325 (lv_at hl 0 rfl) ?_
                  refine lv_iconst (v := 1) hx hb dL_law_2327 (by decide) ?_
                  refine lv_iadd hx hb dL_law_2328 ?_
                  refine tp_i 1 (by decide) ?_
                  refine va_sld hx hb hX hbl hbA hS (by unfold vp_in; decide) dL_law_2329 ?_
                  refine tp_i x1 e1 ?_
                  refine lv_aload_n hx hb dL_law_2330 rfl (lv_at hl 5 rfl) ?_
                  refine lv_iload hx hb dL_law_2331 (lv_at hl 0 rfl) ?_
                  refine lv_iconst (v := 2) hx hb dL_law_2333 (by decide) ?_
                  refine lv_iadd hx hb dL_law_2334 ?_
                  refine tp_i 2 (by decide) ?_
                  refine va_sld hx hb hX hbl hbA hS (by unfold vp_in; decide) dL_law_2335 ?_
                  refine tp_i x2 e2 ?_
                  refine lv_aload_n hx hb dL_law_2336 rfl (lv_at hl 5 rfl) ?_
                  refine lv_iload hx hb dL_law_2337 (lv_at hl 0 rfl) ?_
                  refine lv_iconst (v := 3) hx hb dL_law_2339 (by decide) ?_
                  refine lv_iadd hx hb dL_law_2340 ?_
                  refine tp_i 3 (by decide) ?_
                  refine va_sld hx hb hX hbl hbA hS (by unfold vp_in; decide) dL_law_2341 ?_
                  refine tp_i x3 e3 ?_
                  refine lv_aload_n hx hb dL_law_2342 rfl (lv_at hl 5 rfl) ?_
                  refine lv_iload hx hb dL_law_2343 (lv_at hl 0 rfl) ?_
                  refine lv_iconst (v := 4) hx hb dL_law_2345 (by decide) ?_
                  refine lv_iadd hx hb dL_law_2346 ?_
                  refine tp_i 4 (by decide) ?_
                  refine va_sld hx hb hX hbl hbA hS (by unfold vp_in; decide) dL_law_2347 ?_
                  refine tp_i x4 e4 ?_
                  refine lv_aload_n hx hb dL_law_2348 rfl (lv_at hl 2 rfl) ?_
                  refine ca_i (isC := [0, 1, 3]) (isR := [2]) (wr := [(am, .inr (15, [.int 0, .ref (ma 0), .int 0, .int 0, .int 0, .int 0, .ref (ma 1), .ref (ma 2), .null, .int 1, .int 10, .int 900, .ref (ma 3), .ref (ma 4), .int 0, .int 0, .int 0, .ref (ma 5), .int 1000, .int 50, .int 50, .int 1000, .int 10, .int 0, .int 3000, .int 0, .int 0, .int 0]))]) (rn_SW (isC := [0, 1, 3]) (wc := [(ax, .inr (14, [.ref (xa 0), .ref (xa 13), .ref (xa 18), .ref (xa 34), .ref (xa 45), .ref (xa 49), .ref (xa 50)])), ((xa 49), .inr (7, [.int 1000, .int 10, .int 0, .int 3000, .int 50, .int 1000, .int 50, .int 0, .int 0, .int 0])), (aj, .inl (cy 2, 1, .inr (.inl (fun _ => 0))))]) (As := [.ref ax, .int x1, .int x2, .int x3, .int x4, .ref aj]) (rest := []) (n := 6) hx hb hml hown hts hE hS hP hD hA hl.1 (k598_L_setGovernor l D cy g x1 x2 x3 x4 ax (xa 49) aj (.ref (xa 0)) (.ref (xa 13)) (.ref (xa 18)) (.ref (xa 34)) (.ref (xa 45)) (.ref (xa 50)) (.int 10) (.int 0) (.int 3000) (.int 50) (.int 1000) (.int 50) (.int 0) (.int 0) (.int 0) (fun _ => 0) H.size c0 c1 c2 c3 c4 c5 c6 c7) rfl rfl ax_404 rfl rfl ax_405 ⟨Nat.le_of_ble_eq_true rfl, Nat.le_of_ble_eq_true rfl⟩ rfl rfl (Nat.le_of_ble_eq_true rfl) dL_law_2349 ⟨(Nat.le_of_ble_eq_true rfl), (Nat.le_of_ble_eq_true rfl)⟩) hP hD hS hA rfl rfl rfl (by decide) (fun ad2349 H locs hP hD hS => ?_)
                  have hP : va_P D vwCl [(am, .inr (15, [.int 0, .ref (ma 0), .int 0, .int 0, .int 0, .int 0, .ref (ma 1), .ref (ma 2), .null, .int 1, .int 10, .int 900, .ref (ma 3), .ref (ma 4), .int 0, .int 0, .int 0, .ref (ma 5), .int 1000, .int 50, .int 50, .int 1000, .int 10, .int 0, .int 3000, .int 0, .int 0, .int 0])), (aj, .inl (cy 2, 1, .inr (.inl (vp_updL (fun _ => 0) (0 : Int32).toNatClampNeg 1000))))] H := hP
                  have hD : va_D (AL s) [(am, .inr (15, [.int 0, .ref (ma 0), .int 0, .int 0, .int 0, .int 0, .ref (ma 1), .ref (ma 2), .null, .int 1, .int 10, .int 900, .ref (ma 3), .ref (ma 4), .int 0, .int 0, .int 0, .ref (ma 5), .int 1000, .int 50, .int 50, .int 1000, .int 10, .int 0, .int 3000, .int 0, .int 0, .int 0])), (aj, .inl (cy 2, 1, .inr (.inl (vp_updL (fun _ => 0) (0 : Int32).toNatClampNeg 1000))))] := hD
                  refine lv_istore (lv' := [(6, .int 0), (5, .int 0), (4, .ref ao), (3, .ref aj), (2, .ref am), (1, .ref ax), (0, .ref b)]) hx hb dL_law_2352 hl (Nat.le_of_ble_eq_true rfl) rfl (fun ls hl => ?_)
                  refine lv_aload_n hx hb dL_law_2354 rfl (lv_at hl 4 rfl) ?_
                  refine lv_aload_n hx hb dL_law_2355 rfl (lv_at hl 6 rfl) ?_
                  refine lv_iload hx hb dL_law_2356 (lv_at hl 1 rfl) ?_
                  refine lv_iconst (v := 1) hx hb dL_law_2358 (by decide) ?_
                  refine lv_iadd hx hb dL_law_2359 ?_
                  refine tp_i 1 (by decide) ?_
                  refine va_sld hx hb hX hbl hbA hS (by unfold vp_in; decide) dL_law_2360 ?_
                  refine tp_i x1 e1 ?_
                  refine lv_aload_n hx hb dL_law_2361 rfl (lv_at hl 6 rfl) ?_
                  refine lv_iload hx hb dL_law_2362 (lv_at hl 1 rfl) ?_
                  refine lv_iconst (v := 2) hx hb dL_law_2364 (by decide) ?_
                  refine lv_iadd hx hb dL_law_2365 ?_
                  refine tp_i 2 (by decide) ?_
                  refine va_sld hx hb hX hbl hbA hS (by unfold vp_in; decide) dL_law_2366 ?_
                  refine tp_i x2 e2 ?_
                  refine lv_aload_n hx hb dL_law_2367 rfl (lv_at hl 6 rfl) ?_
                  refine lv_iload hx hb dL_law_2368 (lv_at hl 1 rfl) ?_
                  refine lv_iconst (v := 3) hx hb dL_law_2370 (by decide) ?_
                  refine lv_iadd hx hb dL_law_2371 ?_
                  refine tp_i 3 (by decide) ?_
                  refine va_sld hx hb hX hbl hbA hS (by unfold vp_in; decide) dL_law_2372 ?_
                  refine tp_i x3 e3 ?_
                  refine lv_aload_n hx hb dL_law_2373 rfl (lv_at hl 6 rfl) ?_
                  refine lv_iload hx hb dL_law_2374 (lv_at hl 1 rfl) ?_
                  refine lv_iconst (v := 4) hx hb dL_law_2376 (by decide) ?_
                  refine lv_iadd hx hb dL_law_2377 ?_
                  refine tp_i 4 (by decide) ?_
                  refine va_sld hx hb hX hbl hbA hS (by unfold vp_in; decide) dL_law_2378 ?_
                  refine tp_i x4 e4 ?_
                  refine ca_i (isC := [0]) (isR := [1]) (wr := [(aj, .inl (cy 2, 1, .inr (.inl (vp_updL (fun _ => 0) (0 : Int32).toNatClampNeg 1000))))]) (rn_V (ci := 15) (q0 := 0) (isC := [0]) (wc := [(am, .inr (15, [.int 0, .ref (ma 0), .int 0, .int 0, .int 0, .int 0, .ref (ma 1), .ref (ma 2), .null, .int 1, .int 10, .int 900, .ref (ma 3), .ref (ma 4), .int 0, .int 0, .int 0, .ref (ma 5), .int 1000, .int 50, .int 50, .int 1000, .int 10, .int 0, .int 3000, .int 0, .int 0, .int 0]))]) (As := [.int x1, .int x2, .int x3, .int x4]) (rest := []) (n := 4) hx hb hml hown hts hE hS hP hD hA hl.1 (k599_X10_setGovernor l D cy g x1 x2 x3 x4 am (.int 0) (.ref (ma 0)) (.int 0) (.int 0) (.int 0) (.int 0) (.ref (ma 1)) (.ref (ma 2)) (.null) (.int 1) (.int 10) (.int 900) (.ref (ma 3)) (.ref (ma 4)) (.int 0) (.int 0) (.int 0) (.ref (ma 5)) (.int 1000) (.int 50) (.int 50) (.int 10) (.int 0) (.int 3000) (.int 0) (.int 0) (.int 0) H.size c0 c1 c2 c3 c4 c5 c6 c7) rfl rfl rfl rfl rfl ax_406 rfl rfl ax_407 ⟨Nat.le_of_ble_eq_true rfl, Nat.le_of_ble_eq_true rfl⟩ rfl rfl (Nat.le_of_ble_eq_true rfl) dL_law_2379 ⟨(Nat.le_of_ble_eq_true rfl), (Nat.le_of_ble_eq_true rfl)⟩) hP hD hS hA rfl rfl rfl (by decide) (fun ad2379 H locs hP hD hS => ?_)
                  have hP : va_P D vwCl [(aj, .inl (cy 2, 1, .inr (.inl (vp_updL (fun _ => 0) (0 : Int32).toNatClampNeg 1000)))), (am, .inr (15, [.int 0, .ref (ma 0), .int 0, .int 0, .int 0, .int 0, .ref (ma 1), .ref (ma 2), .null, .int 1, .int 10, .int 900, .ref (ma 3), .ref (ma 4), .int 0, .int 0, .int 0, .ref (ma 5), .int 1000, .int 50, .int 50, .int x1, .int x2, .int x3, .int x4, .int 0, .int 0, .int 0]))] H := hP
                  have hD : va_D (AL s) [(aj, .inl (cy 2, 1, .inr (.inl (vp_updL (fun _ => 0) (0 : Int32).toNatClampNeg 1000)))), (am, .inr (15, [.int 0, .ref (ma 0), .int 0, .int 0, .int 0, .int 0, .ref (ma 1), .ref (ma 2), .null, .int 1, .int 10, .int 900, .ref (ma 3), .ref (ma 4), .int 0, .int 0, .int 0, .ref (ma 5), .int 1000, .int 50, .int 50, .int x1, .int x2, .int x3, .int x4, .int 0, .int 0, .int 0]))] := hD
                  refine lv_istore (lv' := [(7, .int 1000), (6, .int 0), (5, .int 0), (4, .ref ao), (3, .ref aj), (2, .ref am), (1, .ref ax), (0, .ref b)]) hx hb dL_law_2382 hl (Nat.le_of_ble_eq_true rfl) rfl (fun ls hl => ?_)
                  refine lv_aload_n hx hb dL_law_2384 rfl (lv_at hl 5 rfl) ?_
                  refine ca_i (isC := [1]) (isR := [0]) (wr := [(aj, .inl (cy 2, 1, .inr (.inl (vp_updL (fun _ => 0) (0 : Int32).toNatClampNeg 1000))))]) (rn_V (ci := 15) (q0 := 1) (isC := [1]) (wc := [(am, .inr (15, [.int 0, .ref (ma 0), .int 0, .int 0, .int 0, .int 0, .ref (ma 1), .ref (ma 2), .null, .int 1, .int 10, .int 900, .ref (ma 3), .ref (ma 4), .int 0, .int 0, .int 0, .ref (ma 5), .int 1000, .int 50, .int 50, .int x1, .int x2, .int x3, .int x4, .int 0, .int 0, .int 0]))]) (As := []) (rest := []) (n := 0) hx hb hml hown hts hE hS hP hD hA hl.1 (k52_X10_thrown l D cy g am (.ref (ma 0)) (.int 0) (.int 0) (.int 0) (.int 0) (.ref (ma 1)) (.ref (ma 2)) (.null) (.int 1) (.int 10) (.int 900) (.ref (ma 3)) (.ref (ma 4)) (.int 0) (.int 0) (.int 0) (.ref (ma 5)) (.int 1000) (.int 50) (.int 50) (.int x1) (.int x2) (.int x3) (.int x4) (.int 0) (.int 0) (.int 0) H.size ) rfl rfl rfl rfl rfl ax_45 rfl rfl ax_46 ⟨Nat.le_of_ble_eq_true rfl, Nat.le_of_ble_eq_true rfl⟩ rfl rfl (Nat.le_of_ble_eq_true rfl) dL_law_2385 ⟨(Nat.le_of_ble_eq_true rfl), (Nat.le_of_ble_eq_true rfl)⟩) hP hD hS hA rfl rfl rfl (by decide) (fun ad2385 H locs hP hD hS => ?_)
                  have hP : va_P D vwCl [(aj, .inl (cy 2, 1, .inr (.inl (vp_updL (fun _ => 0) (0 : Int32).toNatClampNeg 1000)))), (am, .inr (15, [.int 0, .ref (ma 0), .int 0, .int 0, .int 0, .int 0, .ref (ma 1), .ref (ma 2), .null, .int 1, .int 10, .int 900, .ref (ma 3), .ref (ma 4), .int 0, .int 0, .int 0, .ref (ma 5), .int 1000, .int 50, .int 50, .int x1, .int x2, .int x3, .int x4, .int 0, .int 0, .int 0]))] H := hP
                  have hD : va_D (AL s) [(aj, .inl (cy 2, 1, .inr (.inl (vp_updL (fun _ => 0) (0 : Int32).toNatClampNeg 1000)))), (am, .inr (15, [.int 0, .ref (ma 0), .int 0, .int 0, .int 0, .int 0, .ref (ma 1), .ref (ma 2), .null, .int 1, .int 10, .int 900, .ref (ma 3), .ref (ma 4), .int 0, .int 0, .int 0, .ref (ma 5), .int 1000, .int 50, .int 50, .int x1, .int x2, .int x3, .int x4, .int 0, .int 0, .int 0]))] := hD
                  refine lv_iload hx hb dL_law_2388 (lv_at hl 1 rfl) ?_
                  refine lv_icmp_eq (tgt := 2395) hx hb dL_law_2390 (by decide) (fun _ => ?_) (fun z => absurd (by decide) z)
                  refine lv_iload hx hb dL_law_2395 (lv_at hl 1 rfl) ?_
                  refine lv_if_ne (tgt := 2412) hx hb dL_law_2397 (by decide) (fun z => absurd (by decide) z) (fun _ => ?_)
                  refine lv_aload_n hx hb dL_law_2400 rfl (lv_at hl 4 rfl) ?_
                  refine lv_iconst (v := 0) hx hb dL_law_2401 (by decide) ?_
                  refine va_lald hx hb hE.1 hP 0 2 rfl rfl (by unfold vp_in; decide) dL_law_2402 ?_
                  refine tp_l 1000 rfl ?_
                  refine lv_iload hx hb dL_law_2403 (lv_at hl 0 rfl) ?_
                  refine lv_i2l (v := 1000) hx hb dL_law_2405 (by decide) ?_
                  refine W.lcmp hx hb dL_law_2406 ?_
                  refine tp_i 0 (by decide) ?_
                  refine lv_if_eq (tgt := 2412) hx hb dL_law_2407 (by decide) (fun _ => ?_) (fun z => absurd (by decide) z)
                  refine lv_goto (tgt := 2947) hx hb dL_law_2412 (by decide) ?_
                  exact law_tail LC hS (Nat.le_of_ble_eq_true rfl) (Nat.le_of_ble_eq_true rfl) (lv_sub hl [2, 7] rfl)
set_option maxHeartbeats 4000000 in
set_option maxRecDepth 100000 in
theorem lc_39 {p : Program} {e : Env} {s : State} {m : MethodId} {below : List Frame} {meth : Method} {c : Code} {l : Launch} {b : Nat} {xs : Nat → Int32} {D : va_G} {cy : Nat → ClassId} {g : Nat → Nat} (hst : l.stackTraces = false) (LC : LCtx p s m meth c b xs D cy g) (ax am aj ao : Nat) (xa ma : Nat → Nat) (x1 x2 x3 x4 : Int32) (e1 : xs (1 : Int32).toNatClampNeg = x1) (e2 : xs (2 : Int32).toNatClampNeg = x2) (e3 : xs (3 : Int32).toNatClampNeg = x3) (e4 : xs (4 : Int32).toNatClampNeg = x4) {H : Heap} {locs : List Loc} (hP : va_P D vwCl [(ax, .inr (14, [.ref (xa 0), .ref (xa 13), .ref (xa 18), .ref (xa 34), .ref (xa 45), .ref (xa 49), .ref (xa 50)])), ((xa 49), .inr (7, [.int 1000, .int 10, .int 0, .int 3000, .int 50, .int 1000, .int 50, .int 0, .int 0, .int 0])), (am, .inr (15, [.int 0, .ref (ma 0), .int 0, .int 0, .int 0, .int 0, .ref (ma 1), .ref (ma 2), .null, .int 1, .int 10, .int 900, .ref (ma 3), .ref (ma 4), .int 0, .int 0, .int 0, .ref (ma 5), .int 1000, .int 50, .int 50, .int 1000, .int 10, .int 0, .int 3000, .int 0, .int 0, .int 0])), (aj, .inl (cy 2, 1, .inr (.inl (fun _ => 0))))] H) (hD : va_D (AL s) [(ax, .inr (14, [.ref (xa 0), .ref (xa 13), .ref (xa 18), .ref (xa 34), .ref (xa 45), .ref (xa 49), .ref (xa 50)])), ((xa 49), .inr (7, [.int 1000, .int 10, .int 0, .int 3000, .int 50, .int 1000, .int 50, .int 0, .int 0, .int 0])), (am, .inr (15, [.int 0, .ref (ma 0), .int 0, .int 0, .int 0, .int 0, .ref (ma 1), .ref (ma 2), .null, .int 1, .int 10, .int 900, .ref (ma 3), .ref (ma 4), .int 0, .int 0, .int 0, .ref (ma 5), .int 1000, .int 50, .int 50, .int 1000, .int 10, .int 0, .int 3000, .int 0, .int 0, .int 0])), (aj, .inl (cy 2, 1, .inr (.inl (fun _ => 0))))]) (hS : va_S (AL s) s.heap H locs) (ls : Array Slot) (hl : lv_has ls 9 [(5, .int 0), (4, .ref ao), (3, .ref aj), (2, .ref am), (1, .ref ax), (0, .ref b)]) : W p l e room_1 s m #[Value.ref b] below meth c H locs 100 1000 (lw_Z below #[Value.ref b] s) (F0 m 2415 ls []) := by
  obtain ⟨hx, hb, hr, hml, hown, hlk, hts, hE, hX, hbl⟩ := id LC
  have hA : ∀ q, s.heap.size ≤ q → (AL s) q := fun _ h => h
  have hbA : ¬ (AL s) b := Nat.not_le.mpr hbl
  by_cases c0 : x1 < 0
  · refine lv_aload_n hx hb dL_law_2415 rfl (lv_at hl 4 rfl) ?_
    refine lv_aload_n hx hb dL_law_2416 rfl (lv_at hl 5 rfl) ?_
    refine lv_iload hx hb dL_law_2417 (lv_at hl 0 rfl) ?_
    refine lv_iconst (v := 1) hx hb dL_law_2419 (by decide) ?_
    refine lv_iadd hx hb dL_law_2420 ?_
    refine tp_i 1 (by decide) ?_
    refine va_sld hx hb hX hbl hbA hS (by unfold vp_in; decide) dL_law_2421 ?_
    refine tp_i x1 e1 ?_
    refine lv_aload_n hx hb dL_law_2422 rfl (lv_at hl 2 rfl) ?_
    refine ca_i (isC := [0]) (isR := [1, 2, 3]) (wr := [((xa 49), .inr (7, [.int 1000, .int 10, .int 0, .int 3000, .int 50, .int 1000, .int 50, .int 0, .int 0, .int 0])), (am, .inr (15, [.int 0, .ref (ma 0), .int 0, .int 0, .int 0, .int 0, .ref (ma 1), .ref (ma 2), .null, .int 1, .int 10, .int 900, .ref (ma 3), .ref (ma 4), .int 0, .int 0, .int 0, .ref (ma 5), .int 1000, .int 50, .int 50, .int 1000, .int 10, .int 0, .int 3000, .int 0, .int 0, .int 0])), (aj, .inl (cy 2, 1, .inr (.inl (fun _ => 0))))]) (rn_SW (isC := [0]) (wc := [(ax, .inr (14, [.ref (xa 0), .ref (xa 13), .ref (xa 18), .ref (xa 34), .ref (xa 45), .ref (xa 49), .ref (xa 50)]))]) (As := [.ref ax, .int x1, .ref aj]) (rest := []) (n := 3) hx hb hml hown hts hE hS hP hD hA hl.1 (k601_L_setLoad l hst D cy g x1 ax aj (.ref (xa 0)) (.ref (xa 13)) (.ref (xa 18)) (.ref (xa 34)) (.ref (xa 45)) (.ref (xa 49)) (.ref (xa 50)) H.size c0) rfl rfl ax_412 rfl rfl ax_413 ⟨Nat.le_of_ble_eq_true rfl, Nat.le_of_ble_eq_true rfl⟩ rfl rfl (Nat.le_of_ble_eq_true rfl) dL_law_2423 ⟨(Nat.le_of_ble_eq_true rfl), (Nat.le_of_ble_eq_true rfl)⟩) hP hD hS hA rfl rfl rfl (by decide) (fun ad2423 H locs hP hD hS => ?_)
    have hP : va_P D vwCl [((xa 49), .inr (7, [.int 1000, .int 10, .int 0, .int 3000, .int 50, .int 1000, .int 50, .int 0, .int 0, .int 0])), (am, .inr (15, [.int 0, .ref (ma 0), .int 0, .int 0, .int 0, .int 0, .ref (ma 1), .ref (ma 2), .null, .int 1, .int 10, .int 900, .ref (ma 3), .ref (ma 4), .int 0, .int 0, .int 0, .ref (ma 5), .int 1000, .int 50, .int 50, .int 1000, .int 10, .int 0, .int 3000, .int 0, .int 0, .int 0])), (aj, .inl (cy 2, 1, .inr (.inl (fun _ => 0))))] H := hP
    have hD : va_D (AL s) [((xa 49), .inr (7, [.int 1000, .int 10, .int 0, .int 3000, .int 50, .int 1000, .int 50, .int 0, .int 0, .int 0])), (am, .inr (15, [.int 0, .ref (ma 0), .int 0, .int 0, .int 0, .int 0, .ref (ma 1), .ref (ma 2), .null, .int 1, .int 10, .int 900, .ref (ma 3), .ref (ma 4), .int 0, .int 0, .int 0, .ref (ma 5), .int 1000, .int 50, .int 50, .int 1000, .int 10, .int 0, .int 3000, .int 0, .int 0, .int 0])), (aj, .inl (cy 2, 1, .inr (.inl (fun _ => 0))))] := hD
    refine lv_istore (lv' := [(6, .int 1), (5, .int 0), (4, .ref ao), (3, .ref aj), (2, .ref am), (1, .ref ax), (0, .ref b)]) hx hb dL_law_2426 hl (Nat.le_of_ble_eq_true rfl) rfl (fun ls hl => ?_)
    refine lv_aload_n hx hb dL_law_2428 rfl (lv_at hl 4 rfl) ?_
    refine lv_aload_n hx hb dL_law_2429 rfl (lv_at hl 6 rfl) ?_
    refine lv_iload hx hb dL_law_2430 (lv_at hl 1 rfl) ?_
    refine lv_iconst (v := 1) hx hb dL_law_2432 (by decide) ?_
    refine lv_iadd hx hb dL_law_2433 ?_
    refine tp_i 1 (by decide) ?_
    refine va_sld hx hb hX hbl hbA hS (by unfold vp_in; decide) dL_law_2434 ?_
    refine tp_i x1 e1 ?_
    refine ca_i (isC := [1]) (isR := [0, 2]) (wr := [((xa 49), .inr (7, [.int 1000, .int 10, .int 0, .int 3000, .int 50, .int 1000, .int 50, .int 0, .int 0, .int 0])), (aj, .inl (cy 2, 1, .inr (.inl (fun _ => 0))))]) (rn_V (ci := 15) (q0 := 1) (isC := [1]) (wc := [(am, .inr (15, [.int 0, .ref (ma 0), .int 0, .int 0, .int 0, .int 0, .ref (ma 1), .ref (ma 2), .null, .int 1, .int 10, .int 900, .ref (ma 3), .ref (ma 4), .int 0, .int 0, .int 0, .ref (ma 5), .int 1000, .int 50, .int 50, .int 1000, .int 10, .int 0, .int 3000, .int 0, .int 0, .int 0]))]) (As := [.int x1]) (rest := []) (n := 1) hx hb hml hown hts hE hS hP hD hA hl.1 (k602_X10_setLoad l D cy g x1 am (.int 0) (.ref (ma 0)) (.int 0) (.int 0) (.int 0) (.int 0) (.ref (ma 1)) (.ref (ma 2)) (.null) (.int 1) (.int 10) (.int 900) (.ref (ma 3)) (.ref (ma 4)) (.int 0) (.int 0) (.int 0) (.ref (ma 5)) (.int 1000) (.int 50) (.int 50) (.int 1000) (.int 10) (.int 0) (.int 3000) (.int 0) (.int 0) (.int 0) H.size c0) rfl rfl rfl rfl rfl ax_414 rfl rfl ax_415 ⟨Nat.le_of_ble_eq_true rfl, Nat.le_of_ble_eq_true rfl⟩ rfl rfl (Nat.le_of_ble_eq_true rfl) dL_law_2435 ⟨(Nat.le_of_ble_eq_true rfl), (Nat.le_of_ble_eq_true rfl)⟩) hP hD hS hA rfl rfl rfl (by decide) (fun ad2435 H locs hP hD hS => ?_)
    have hP : va_P D vwCl [((xa 49), .inr (7, [.int 1000, .int 10, .int 0, .int 3000, .int 50, .int 1000, .int 50, .int 0, .int 0, .int 0])), (aj, .inl (cy 2, 1, .inr (.inl (fun _ => 0)))), (am, .inr (15, [.int 1, .ref (ma 0), .int 0, .int 0, .int 0, .int 0, .ref (ma 1), .ref (ma 2), .null, .int 1, .int 10, .int 900, .ref (ma 3), .ref (ma 4), .int 0, .int 0, .int 0, .ref (ma 5), .int 1000, .int 50, .int 50, .int 1000, .int 10, .int 0, .int 3000, .int 0, .int 0, .int 0]))] H := hP
    have hD : va_D (AL s) [((xa 49), .inr (7, [.int 1000, .int 10, .int 0, .int 3000, .int 50, .int 1000, .int 50, .int 0, .int 0, .int 0])), (aj, .inl (cy 2, 1, .inr (.inl (fun _ => 0)))), (am, .inr (15, [.int 1, .ref (ma 0), .int 0, .int 0, .int 0, .int 0, .ref (ma 1), .ref (ma 2), .null, .int 1, .int 10, .int 900, .ref (ma 3), .ref (ma 4), .int 0, .int 0, .int 0, .ref (ma 5), .int 1000, .int 50, .int 50, .int 1000, .int 10, .int 0, .int 3000, .int 0, .int 0, .int 0]))] := hD
    refine lv_istore (lv' := [(7, .int (-1)), (6, .int 1), (5, .int 0), (4, .ref ao), (3, .ref aj), (2, .ref am), (1, .ref ax), (0, .ref b)]) hx hb dL_law_2438 hl (Nat.le_of_ble_eq_true rfl) rfl (fun ls hl => ?_)
    refine lv_aload_n hx hb dL_law_2440 rfl (lv_at hl 5 rfl) ?_
    refine ca_i (isC := [2]) (isR := [0, 1]) (wr := [((xa 49), .inr (7, [.int 1000, .int 10, .int 0, .int 3000, .int 50, .int 1000, .int 50, .int 0, .int 0, .int 0])), (aj, .inl (cy 2, 1, .inr (.inl (fun _ => 0))))]) (rn_V (ci := 15) (q0 := 2) (isC := [2]) (wc := [(am, .inr (15, [.int 1, .ref (ma 0), .int 0, .int 0, .int 0, .int 0, .ref (ma 1), .ref (ma 2), .null, .int 1, .int 10, .int 900, .ref (ma 3), .ref (ma 4), .int 0, .int 0, .int 0, .ref (ma 5), .int 1000, .int 50, .int 50, .int 1000, .int 10, .int 0, .int 3000, .int 0, .int 0, .int 0]))]) (As := []) (rest := []) (n := 0) hx hb hml hown hts hE hS hP hD hA hl.1 (k24_X10_thrown l D cy g am (.ref (ma 0)) (.int 0) (.int 0) (.int 0) (.int 0) (.ref (ma 1)) (.ref (ma 2)) (.null) (.int 1) (.int 10) (.int 900) (.ref (ma 3)) (.ref (ma 4)) (.int 0) (.int 0) (.int 0) (.ref (ma 5)) (.int 1000) (.int 50) (.int 50) (.int 1000) (.int 10) (.int 0) (.int 3000) (.int 0) (.int 0) (.int 0) H.size ) rfl rfl rfl rfl rfl ax_45 rfl rfl ax_46 ⟨Nat.le_of_ble_eq_true rfl, Nat.le_of_ble_eq_true rfl⟩ rfl rfl (Nat.le_of_ble_eq_true rfl) dL_law_2441 ⟨(Nat.le_of_ble_eq_true rfl), (Nat.le_of_ble_eq_true rfl)⟩) hP hD hS hA rfl rfl rfl (by decide) (fun ad2441 H locs hP hD hS => ?_)
    have hP : va_P D vwCl [((xa 49), .inr (7, [.int 1000, .int 10, .int 0, .int 3000, .int 50, .int 1000, .int 50, .int 0, .int 0, .int 0])), (aj, .inl (cy 2, 1, .inr (.inl (fun _ => 0)))), (am, .inr (15, [.int 1, .ref (ma 0), .int 0, .int 0, .int 0, .int 0, .ref (ma 1), .ref (ma 2), .null, .int 1, .int 10, .int 900, .ref (ma 3), .ref (ma 4), .int 0, .int 0, .int 0, .ref (ma 5), .int 1000, .int 50, .int 50, .int 1000, .int 10, .int 0, .int 3000, .int 0, .int 0, .int 0]))] H := hP
    have hD : va_D (AL s) [((xa 49), .inr (7, [.int 1000, .int 10, .int 0, .int 3000, .int 50, .int 1000, .int 50, .int 0, .int 0, .int 0])), (aj, .inl (cy 2, 1, .inr (.inl (fun _ => 0)))), (am, .inr (15, [.int 1, .ref (ma 0), .int 0, .int 0, .int 0, .int 0, .ref (ma 1), .ref (ma 2), .null, .int 1, .int 10, .int 900, .ref (ma 3), .ref (ma 4), .int 0, .int 0, .int 0, .ref (ma 5), .int 1000, .int 50, .int 50, .int 1000, .int 10, .int 0, .int 3000, .int 0, .int 0, .int 0]))] := hD
    refine lv_iload hx hb dL_law_2444 (lv_at hl 1 rfl) ?_
    refine lv_icmp_eq (tgt := 2451) hx hb dL_law_2446 (by decide) (fun _ => ?_) (fun z => absurd (by decide) z)
    refine lv_iload hx hb dL_law_2451 (lv_at hl 1 rfl) ?_
    refine lv_if_ne (tgt := 2468) hx hb dL_law_2453 (by decide) (fun _ => ?_) (fun z => absurd z (by decide))
    refine lv_goto (tgt := 2947) hx hb dL_law_2468 (by decide) ?_
    exact law_tail LC hS (Nat.le_of_ble_eq_true rfl) (Nat.le_of_ble_eq_true rfl) (lv_sub hl [2, 7] rfl)
  · by_cases c1 : (100 : Int32) < x1
    · refine lv_aload_n hx hb dL_law_2415 rfl (lv_at hl 4 rfl) ?_
      refine lv_aload_n hx hb dL_law_2416 rfl (lv_at hl 5 rfl) ?_
      refine lv_iload hx hb dL_law_2417 (lv_at hl 0 rfl) ?_
      refine lv_iconst (v := 1) hx hb dL_law_2419 (by decide) ?_
      refine lv_iadd hx hb dL_law_2420 ?_
      refine tp_i 1 (by decide) ?_
      refine va_sld hx hb hX hbl hbA hS (by unfold vp_in; decide) dL_law_2421 ?_
      refine tp_i x1 e1 ?_
      refine lv_aload_n hx hb dL_law_2422 rfl (lv_at hl 2 rfl) ?_
      refine ca_i (isC := [0]) (isR := [1, 2, 3]) (wr := [((xa 49), .inr (7, [.int 1000, .int 10, .int 0, .int 3000, .int 50, .int 1000, .int 50, .int 0, .int 0, .int 0])), (am, .inr (15, [.int 0, .ref (ma 0), .int 0, .int 0, .int 0, .int 0, .ref (ma 1), .ref (ma 2), .null, .int 1, .int 10, .int 900, .ref (ma 3), .ref (ma 4), .int 0, .int 0, .int 0, .ref (ma 5), .int 1000, .int 50, .int 50, .int 1000, .int 10, .int 0, .int 3000, .int 0, .int 0, .int 0])), (aj, .inl (cy 2, 1, .inr (.inl (fun _ => 0))))]) (rn_SW (isC := [0]) (wc := [(ax, .inr (14, [.ref (xa 0), .ref (xa 13), .ref (xa 18), .ref (xa 34), .ref (xa 45), .ref (xa 49), .ref (xa 50)]))]) (As := [.ref ax, .int x1, .ref aj]) (rest := []) (n := 3) hx hb hml hown hts hE hS hP hD hA hl.1 (k604_L_setLoad l hst D cy g x1 ax aj (.ref (xa 0)) (.ref (xa 13)) (.ref (xa 18)) (.ref (xa 34)) (.ref (xa 45)) (.ref (xa 49)) (.ref (xa 50)) H.size c0 c1) rfl rfl ax_412 rfl rfl ax_413 ⟨Nat.le_of_ble_eq_true rfl, Nat.le_of_ble_eq_true rfl⟩ rfl rfl (Nat.le_of_ble_eq_true rfl) dL_law_2423 ⟨(Nat.le_of_ble_eq_true rfl), (Nat.le_of_ble_eq_true rfl)⟩) hP hD hS hA rfl rfl rfl (by decide) (fun ad2423 H locs hP hD hS => ?_)
      have hP : va_P D vwCl [((xa 49), .inr (7, [.int 1000, .int 10, .int 0, .int 3000, .int 50, .int 1000, .int 50, .int 0, .int 0, .int 0])), (am, .inr (15, [.int 0, .ref (ma 0), .int 0, .int 0, .int 0, .int 0, .ref (ma 1), .ref (ma 2), .null, .int 1, .int 10, .int 900, .ref (ma 3), .ref (ma 4), .int 0, .int 0, .int 0, .ref (ma 5), .int 1000, .int 50, .int 50, .int 1000, .int 10, .int 0, .int 3000, .int 0, .int 0, .int 0])), (aj, .inl (cy 2, 1, .inr (.inl (fun _ => 0))))] H := hP
      have hD : va_D (AL s) [((xa 49), .inr (7, [.int 1000, .int 10, .int 0, .int 3000, .int 50, .int 1000, .int 50, .int 0, .int 0, .int 0])), (am, .inr (15, [.int 0, .ref (ma 0), .int 0, .int 0, .int 0, .int 0, .ref (ma 1), .ref (ma 2), .null, .int 1, .int 10, .int 900, .ref (ma 3), .ref (ma 4), .int 0, .int 0, .int 0, .ref (ma 5), .int 1000, .int 50, .int 50, .int 1000, .int 10, .int 0, .int 3000, .int 0, .int 0, .int 0])), (aj, .inl (cy 2, 1, .inr (.inl (fun _ => 0))))] := hD
      refine lv_istore (lv' := [(6, .int 1), (5, .int 0), (4, .ref ao), (3, .ref aj), (2, .ref am), (1, .ref ax), (0, .ref b)]) hx hb dL_law_2426 hl (Nat.le_of_ble_eq_true rfl) rfl (fun ls hl => ?_)
      refine lv_aload_n hx hb dL_law_2428 rfl (lv_at hl 4 rfl) ?_
      refine lv_aload_n hx hb dL_law_2429 rfl (lv_at hl 6 rfl) ?_
      refine lv_iload hx hb dL_law_2430 (lv_at hl 1 rfl) ?_
      refine lv_iconst (v := 1) hx hb dL_law_2432 (by decide) ?_
      refine lv_iadd hx hb dL_law_2433 ?_
      refine tp_i 1 (by decide) ?_
      refine va_sld hx hb hX hbl hbA hS (by unfold vp_in; decide) dL_law_2434 ?_
      refine tp_i x1 e1 ?_
      refine ca_i (isC := [1]) (isR := [0, 2]) (wr := [((xa 49), .inr (7, [.int 1000, .int 10, .int 0, .int 3000, .int 50, .int 1000, .int 50, .int 0, .int 0, .int 0])), (aj, .inl (cy 2, 1, .inr (.inl (fun _ => 0))))]) (rn_V (ci := 15) (q0 := 1) (isC := [1]) (wc := [(am, .inr (15, [.int 0, .ref (ma 0), .int 0, .int 0, .int 0, .int 0, .ref (ma 1), .ref (ma 2), .null, .int 1, .int 10, .int 900, .ref (ma 3), .ref (ma 4), .int 0, .int 0, .int 0, .ref (ma 5), .int 1000, .int 50, .int 50, .int 1000, .int 10, .int 0, .int 3000, .int 0, .int 0, .int 0]))]) (As := [.int x1]) (rest := []) (n := 1) hx hb hml hown hts hE hS hP hD hA hl.1 (k605_X10_setLoad l D cy g x1 am (.int 0) (.ref (ma 0)) (.int 0) (.int 0) (.int 0) (.int 0) (.ref (ma 1)) (.ref (ma 2)) (.null) (.int 1) (.int 10) (.int 900) (.ref (ma 3)) (.ref (ma 4)) (.int 0) (.int 0) (.int 0) (.ref (ma 5)) (.int 1000) (.int 50) (.int 50) (.int 1000) (.int 10) (.int 0) (.int 3000) (.int 0) (.int 0) (.int 0) H.size c0 c1) rfl rfl rfl rfl rfl ax_414 rfl rfl ax_415 ⟨Nat.le_of_ble_eq_true rfl, Nat.le_of_ble_eq_true rfl⟩ rfl rfl (Nat.le_of_ble_eq_true rfl) dL_law_2435 ⟨(Nat.le_of_ble_eq_true rfl), (Nat.le_of_ble_eq_true rfl)⟩) hP hD hS hA rfl rfl rfl (by decide) (fun ad2435 H locs hP hD hS => ?_)
      have hP : va_P D vwCl [((xa 49), .inr (7, [.int 1000, .int 10, .int 0, .int 3000, .int 50, .int 1000, .int 50, .int 0, .int 0, .int 0])), (aj, .inl (cy 2, 1, .inr (.inl (fun _ => 0)))), (am, .inr (15, [.int 1, .ref (ma 0), .int 0, .int 0, .int 0, .int 0, .ref (ma 1), .ref (ma 2), .null, .int 1, .int 10, .int 900, .ref (ma 3), .ref (ma 4), .int 0, .int 0, .int 0, .ref (ma 5), .int 1000, .int 50, .int 50, .int 1000, .int 10, .int 0, .int 3000, .int 0, .int 0, .int 0]))] H := hP
      have hD : va_D (AL s) [((xa 49), .inr (7, [.int 1000, .int 10, .int 0, .int 3000, .int 50, .int 1000, .int 50, .int 0, .int 0, .int 0])), (aj, .inl (cy 2, 1, .inr (.inl (fun _ => 0)))), (am, .inr (15, [.int 1, .ref (ma 0), .int 0, .int 0, .int 0, .int 0, .ref (ma 1), .ref (ma 2), .null, .int 1, .int 10, .int 900, .ref (ma 3), .ref (ma 4), .int 0, .int 0, .int 0, .ref (ma 5), .int 1000, .int 50, .int 50, .int 1000, .int 10, .int 0, .int 3000, .int 0, .int 0, .int 0]))] := hD
      refine lv_istore (lv' := [(7, .int (-1)), (6, .int 1), (5, .int 0), (4, .ref ao), (3, .ref aj), (2, .ref am), (1, .ref ax), (0, .ref b)]) hx hb dL_law_2438 hl (Nat.le_of_ble_eq_true rfl) rfl (fun ls hl => ?_)
      refine lv_aload_n hx hb dL_law_2440 rfl (lv_at hl 5 rfl) ?_
      refine ca_i (isC := [2]) (isR := [0, 1]) (wr := [((xa 49), .inr (7, [.int 1000, .int 10, .int 0, .int 3000, .int 50, .int 1000, .int 50, .int 0, .int 0, .int 0])), (aj, .inl (cy 2, 1, .inr (.inl (fun _ => 0))))]) (rn_V (ci := 15) (q0 := 2) (isC := [2]) (wc := [(am, .inr (15, [.int 1, .ref (ma 0), .int 0, .int 0, .int 0, .int 0, .ref (ma 1), .ref (ma 2), .null, .int 1, .int 10, .int 900, .ref (ma 3), .ref (ma 4), .int 0, .int 0, .int 0, .ref (ma 5), .int 1000, .int 50, .int 50, .int 1000, .int 10, .int 0, .int 3000, .int 0, .int 0, .int 0]))]) (As := []) (rest := []) (n := 0) hx hb hml hown hts hE hS hP hD hA hl.1 (k24_X10_thrown l D cy g am (.ref (ma 0)) (.int 0) (.int 0) (.int 0) (.int 0) (.ref (ma 1)) (.ref (ma 2)) (.null) (.int 1) (.int 10) (.int 900) (.ref (ma 3)) (.ref (ma 4)) (.int 0) (.int 0) (.int 0) (.ref (ma 5)) (.int 1000) (.int 50) (.int 50) (.int 1000) (.int 10) (.int 0) (.int 3000) (.int 0) (.int 0) (.int 0) H.size ) rfl rfl rfl rfl rfl ax_45 rfl rfl ax_46 ⟨Nat.le_of_ble_eq_true rfl, Nat.le_of_ble_eq_true rfl⟩ rfl rfl (Nat.le_of_ble_eq_true rfl) dL_law_2441 ⟨(Nat.le_of_ble_eq_true rfl), (Nat.le_of_ble_eq_true rfl)⟩) hP hD hS hA rfl rfl rfl (by decide) (fun ad2441 H locs hP hD hS => ?_)
      have hP : va_P D vwCl [((xa 49), .inr (7, [.int 1000, .int 10, .int 0, .int 3000, .int 50, .int 1000, .int 50, .int 0, .int 0, .int 0])), (aj, .inl (cy 2, 1, .inr (.inl (fun _ => 0)))), (am, .inr (15, [.int 1, .ref (ma 0), .int 0, .int 0, .int 0, .int 0, .ref (ma 1), .ref (ma 2), .null, .int 1, .int 10, .int 900, .ref (ma 3), .ref (ma 4), .int 0, .int 0, .int 0, .ref (ma 5), .int 1000, .int 50, .int 50, .int 1000, .int 10, .int 0, .int 3000, .int 0, .int 0, .int 0]))] H := hP
      have hD : va_D (AL s) [((xa 49), .inr (7, [.int 1000, .int 10, .int 0, .int 3000, .int 50, .int 1000, .int 50, .int 0, .int 0, .int 0])), (aj, .inl (cy 2, 1, .inr (.inl (fun _ => 0)))), (am, .inr (15, [.int 1, .ref (ma 0), .int 0, .int 0, .int 0, .int 0, .ref (ma 1), .ref (ma 2), .null, .int 1, .int 10, .int 900, .ref (ma 3), .ref (ma 4), .int 0, .int 0, .int 0, .ref (ma 5), .int 1000, .int 50, .int 50, .int 1000, .int 10, .int 0, .int 3000, .int 0, .int 0, .int 0]))] := hD
      refine lv_iload hx hb dL_law_2444 (lv_at hl 1 rfl) ?_
      refine lv_icmp_eq (tgt := 2451) hx hb dL_law_2446 (by decide) (fun _ => ?_) (fun z => absurd (by decide) z)
      refine lv_iload hx hb dL_law_2451 (lv_at hl 1 rfl) ?_
      refine lv_if_ne (tgt := 2468) hx hb dL_law_2453 (by decide) (fun _ => ?_) (fun z => absurd z (by decide))
      refine lv_goto (tgt := 2947) hx hb dL_law_2468 (by decide) ?_
      exact law_tail LC hS (Nat.le_of_ble_eq_true rfl) (Nat.le_of_ble_eq_true rfl) (lv_sub hl [2, 7] rfl)
    · refine lv_aload_n hx hb dL_law_2415 rfl (lv_at hl 4 rfl) ?_
      refine lv_aload_n hx hb dL_law_2416 rfl (lv_at hl 5 rfl) ?_
      refine lv_iload hx hb dL_law_2417 (lv_at hl 0 rfl) ?_
      refine lv_iconst (v := 1) hx hb dL_law_2419 (by decide) ?_
      refine lv_iadd hx hb dL_law_2420 ?_
      refine tp_i 1 (by decide) ?_
      refine va_sld hx hb hX hbl hbA hS (by unfold vp_in; decide) dL_law_2421 ?_
      refine tp_i x1 e1 ?_
      refine lv_aload_n hx hb dL_law_2422 rfl (lv_at hl 2 rfl) ?_
      refine ca_i (isC := [0, 1, 3]) (isR := [2]) (wr := [(am, .inr (15, [.int 0, .ref (ma 0), .int 0, .int 0, .int 0, .int 0, .ref (ma 1), .ref (ma 2), .null, .int 1, .int 10, .int 900, .ref (ma 3), .ref (ma 4), .int 0, .int 0, .int 0, .ref (ma 5), .int 1000, .int 50, .int 50, .int 1000, .int 10, .int 0, .int 3000, .int 0, .int 0, .int 0]))]) (rn_SW (isC := [0, 1, 3]) (wc := [(ax, .inr (14, [.ref (xa 0), .ref (xa 13), .ref (xa 18), .ref (xa 34), .ref (xa 45), .ref (xa 49), .ref (xa 50)])), ((xa 49), .inr (7, [.int 1000, .int 10, .int 0, .int 3000, .int 50, .int 1000, .int 50, .int 0, .int 0, .int 0])), (aj, .inl (cy 2, 1, .inr (.inl (fun _ => 0))))]) (As := [.ref ax, .int x1, .ref aj]) (rest := []) (n := 3) hx hb hml hown hts hE hS hP hD hA hl.1 (k607_L_setLoad l D cy g x1 ax (xa 49) aj (.ref (xa 0)) (.ref (xa 13)) (.ref (xa 18)) (.ref (xa 34)) (.ref (xa 45)) (.ref (xa 50)) (.int 1000) (.int 10) (.int 0) (.int 3000) (.int 1000) (.int 50) (.int 0) (.int 0) (.int 0) (fun _ => 0) H.size c0 c1) rfl rfl ax_412 rfl rfl ax_413 ⟨Nat.le_of_ble_eq_true rfl, Nat.le_of_ble_eq_true rfl⟩ rfl rfl (Nat.le_of_ble_eq_true rfl) dL_law_2423 ⟨(Nat.le_of_ble_eq_true rfl), (Nat.le_of_ble_eq_true rfl)⟩) hP hD hS hA rfl rfl rfl (by decide) (fun ad2423 H locs hP hD hS => ?_)
      have hP : va_P D vwCl [(am, .inr (15, [.int 0, .ref (ma 0), .int 0, .int 0, .int 0, .int 0, .ref (ma 1), .ref (ma 2), .null, .int 1, .int 10, .int 900, .ref (ma 3), .ref (ma 4), .int 0, .int 0, .int 0, .ref (ma 5), .int 1000, .int 50, .int 50, .int 1000, .int 10, .int 0, .int 3000, .int 0, .int 0, .int 0])), (aj, .inl (cy 2, 1, .inr (.inl (vp_updL (fun _ => 0) (0 : Int32).toNatClampNeg 50))))] H := hP
      have hD : va_D (AL s) [(am, .inr (15, [.int 0, .ref (ma 0), .int 0, .int 0, .int 0, .int 0, .ref (ma 1), .ref (ma 2), .null, .int 1, .int 10, .int 900, .ref (ma 3), .ref (ma 4), .int 0, .int 0, .int 0, .ref (ma 5), .int 1000, .int 50, .int 50, .int 1000, .int 10, .int 0, .int 3000, .int 0, .int 0, .int 0])), (aj, .inl (cy 2, 1, .inr (.inl (vp_updL (fun _ => 0) (0 : Int32).toNatClampNeg 50))))] := hD
      refine lv_istore (lv' := [(6, .int 0), (5, .int 0), (4, .ref ao), (3, .ref aj), (2, .ref am), (1, .ref ax), (0, .ref b)]) hx hb dL_law_2426 hl (Nat.le_of_ble_eq_true rfl) rfl (fun ls hl => ?_)
      refine lv_aload_n hx hb dL_law_2428 rfl (lv_at hl 4 rfl) ?_
      refine lv_aload_n hx hb dL_law_2429 rfl (lv_at hl 6 rfl) ?_
      refine lv_iload hx hb dL_law_2430 (lv_at hl 1 rfl) ?_
      refine lv_iconst (v := 1) hx hb dL_law_2432 (by decide) ?_
      refine lv_iadd hx hb dL_law_2433 ?_
      refine tp_i 1 (by decide) ?_
      refine va_sld hx hb hX hbl hbA hS (by unfold vp_in; decide) dL_law_2434 ?_
      refine tp_i x1 e1 ?_
      refine ca_i (isC := [0]) (isR := [1]) (wr := [(aj, .inl (cy 2, 1, .inr (.inl (vp_updL (fun _ => 0) (0 : Int32).toNatClampNeg 50))))]) (rn_V (ci := 15) (q0 := 0) (isC := [0]) (wc := [(am, .inr (15, [.int 0, .ref (ma 0), .int 0, .int 0, .int 0, .int 0, .ref (ma 1), .ref (ma 2), .null, .int 1, .int 10, .int 900, .ref (ma 3), .ref (ma 4), .int 0, .int 0, .int 0, .ref (ma 5), .int 1000, .int 50, .int 50, .int 1000, .int 10, .int 0, .int 3000, .int 0, .int 0, .int 0]))]) (As := [.int x1]) (rest := []) (n := 1) hx hb hml hown hts hE hS hP hD hA hl.1 (k608_X10_setLoad l D cy g x1 am (.int 0) (.ref (ma 0)) (.int 0) (.int 0) (.int 0) (.int 0) (.ref (ma 1)) (.ref (ma 2)) (.null) (.int 1) (.int 10) (.int 900) (.ref (ma 3)) (.ref (ma 4)) (.int 0) (.int 0) (.int 0) (.ref (ma 5)) (.int 1000) (.int 50) (.int 1000) (.int 10) (.int 0) (.int 3000) (.int 0) (.int 0) (.int 0) H.size c0 c1) rfl rfl rfl rfl rfl ax_414 rfl rfl ax_415 ⟨Nat.le_of_ble_eq_true rfl, Nat.le_of_ble_eq_true rfl⟩ rfl rfl (Nat.le_of_ble_eq_true rfl) dL_law_2435 ⟨(Nat.le_of_ble_eq_true rfl), (Nat.le_of_ble_eq_true rfl)⟩) hP hD hS hA rfl rfl rfl (by decide) (fun ad2435 H locs hP hD hS => ?_)
      have hP : va_P D vwCl [(aj, .inl (cy 2, 1, .inr (.inl (vp_updL (fun _ => 0) (0 : Int32).toNatClampNeg 50)))), (am, .inr (15, [.int 0, .ref (ma 0), .int 0, .int 0, .int 0, .int 0, .ref (ma 1), .ref (ma 2), .null, .int 1, .int 10, .int 900, .ref (ma 3), .ref (ma 4), .int 0, .int 0, .int 0, .ref (ma 5), .int 1000, .int 50, .int x1, .int 1000, .int 10, .int 0, .int 3000, .int 0, .int 0, .int 0]))] H := hP
      have hD : va_D (AL s) [(aj, .inl (cy 2, 1, .inr (.inl (vp_updL (fun _ => 0) (0 : Int32).toNatClampNeg 50)))), (am, .inr (15, [.int 0, .ref (ma 0), .int 0, .int 0, .int 0, .int 0, .ref (ma 1), .ref (ma 2), .null, .int 1, .int 10, .int 900, .ref (ma 3), .ref (ma 4), .int 0, .int 0, .int 0, .ref (ma 5), .int 1000, .int 50, .int x1, .int 1000, .int 10, .int 0, .int 3000, .int 0, .int 0, .int 0]))] := hD
      refine lv_istore (lv' := [(7, .int 50), (6, .int 0), (5, .int 0), (4, .ref ao), (3, .ref aj), (2, .ref am), (1, .ref ax), (0, .ref b)]) hx hb dL_law_2438 hl (Nat.le_of_ble_eq_true rfl) rfl (fun ls hl => ?_)
      refine lv_aload_n hx hb dL_law_2440 rfl (lv_at hl 5 rfl) ?_
      refine ca_i (isC := [1]) (isR := [0]) (wr := [(aj, .inl (cy 2, 1, .inr (.inl (vp_updL (fun _ => 0) (0 : Int32).toNatClampNeg 50))))]) (rn_V (ci := 15) (q0 := 1) (isC := [1]) (wc := [(am, .inr (15, [.int 0, .ref (ma 0), .int 0, .int 0, .int 0, .int 0, .ref (ma 1), .ref (ma 2), .null, .int 1, .int 10, .int 900, .ref (ma 3), .ref (ma 4), .int 0, .int 0, .int 0, .ref (ma 5), .int 1000, .int 50, .int x1, .int 1000, .int 10, .int 0, .int 3000, .int 0, .int 0, .int 0]))]) (As := []) (rest := []) (n := 0) hx hb hml hown hts hE hS hP hD hA hl.1 (k52_X10_thrown l D cy g am (.ref (ma 0)) (.int 0) (.int 0) (.int 0) (.int 0) (.ref (ma 1)) (.ref (ma 2)) (.null) (.int 1) (.int 10) (.int 900) (.ref (ma 3)) (.ref (ma 4)) (.int 0) (.int 0) (.int 0) (.ref (ma 5)) (.int 1000) (.int 50) (.int x1) (.int 1000) (.int 10) (.int 0) (.int 3000) (.int 0) (.int 0) (.int 0) H.size ) rfl rfl rfl rfl rfl ax_45 rfl rfl ax_46 ⟨Nat.le_of_ble_eq_true rfl, Nat.le_of_ble_eq_true rfl⟩ rfl rfl (Nat.le_of_ble_eq_true rfl) dL_law_2441 ⟨(Nat.le_of_ble_eq_true rfl), (Nat.le_of_ble_eq_true rfl)⟩) hP hD hS hA rfl rfl rfl (by decide) (fun ad2441 H locs hP hD hS => ?_)
      have hP : va_P D vwCl [(aj, .inl (cy 2, 1, .inr (.inl (vp_updL (fun _ => 0) (0 : Int32).toNatClampNeg 50)))), (am, .inr (15, [.int 0, .ref (ma 0), .int 0, .int 0, .int 0, .int 0, .ref (ma 1), .ref (ma 2), .null, .int 1, .int 10, .int 900, .ref (ma 3), .ref (ma 4), .int 0, .int 0, .int 0, .ref (ma 5), .int 1000, .int 50, .int x1, .int 1000, .int 10, .int 0, .int 3000, .int 0, .int 0, .int 0]))] H := hP
      have hD : va_D (AL s) [(aj, .inl (cy 2, 1, .inr (.inl (vp_updL (fun _ => 0) (0 : Int32).toNatClampNeg 50)))), (am, .inr (15, [.int 0, .ref (ma 0), .int 0, .int 0, .int 0, .int 0, .ref (ma 1), .ref (ma 2), .null, .int 1, .int 10, .int 900, .ref (ma 3), .ref (ma 4), .int 0, .int 0, .int 0, .ref (ma 5), .int 1000, .int 50, .int x1, .int 1000, .int 10, .int 0, .int 3000, .int 0, .int 0, .int 0]))] := hD
      refine lv_iload hx hb dL_law_2444 (lv_at hl 1 rfl) ?_
      refine lv_icmp_eq (tgt := 2451) hx hb dL_law_2446 (by decide) (fun _ => ?_) (fun z => absurd (by decide) z)
      refine lv_iload hx hb dL_law_2451 (lv_at hl 1 rfl) ?_
      refine lv_if_ne (tgt := 2468) hx hb dL_law_2453 (by decide) (fun z => absurd (by decide) z) (fun _ => ?_)
      refine lv_aload_n hx hb dL_law_2456 rfl (lv_at hl 4 rfl) ?_
      refine lv_iconst (v := 0) hx hb dL_law_2457 (by decide) ?_
      refine va_lald hx hb hE.1 hP 0 2 rfl rfl (by unfold vp_in; decide) dL_law_2458 ?_
      refine tp_l 50 rfl ?_
      refine lv_iload hx hb dL_law_2459 (lv_at hl 0 rfl) ?_
      refine lv_i2l (v := 50) hx hb dL_law_2461 (by decide) ?_
      refine W.lcmp hx hb dL_law_2462 ?_
      refine tp_i 0 (by decide) ?_
      refine lv_if_eq (tgt := 2468) hx hb dL_law_2463 (by decide) (fun _ => ?_) (fun z => absurd (by decide) z)
      refine lv_goto (tgt := 2947) hx hb dL_law_2468 (by decide) ?_
      exact law_tail LC hS (Nat.le_of_ble_eq_true rfl) (Nat.le_of_ble_eq_true rfl) (lv_sub hl [2, 7] rfl)
set_option maxHeartbeats 4000000 in
set_option maxRecDepth 100000 in
theorem lc_40 {p : Program} {e : Env} {s : State} {m : MethodId} {below : List Frame} {meth : Method} {c : Code} {l : Launch} {b : Nat} {xs : Nat → Int32} {D : va_G} {cy : Nat → ClassId} {g : Nat → Nat} (hst : l.stackTraces = false) (LC : LCtx p s m meth c b xs D cy g) (ax am aj ao : Nat) (xa ma : Nat → Nat) (x1 x2 x3 x4 : Int32) (e1 : xs (1 : Int32).toNatClampNeg = x1) (e2 : xs (2 : Int32).toNatClampNeg = x2) (e3 : xs (3 : Int32).toNatClampNeg = x3) (e4 : xs (4 : Int32).toNatClampNeg = x4) {H : Heap} {locs : List Loc} (hP : va_P D vwCl [(ax, .inr (14, [.ref (xa 0), .ref (xa 13), .ref (xa 18), .ref (xa 34), .ref (xa 45), .ref (xa 49), .ref (xa 50)])), ((xa 49), .inr (7, [.int 1000, .int 10, .int 0, .int 3000, .int 50, .int 1000, .int 50, .int 0, .int 0, .int 0])), (am, .inr (15, [.int 0, .ref (ma 0), .int 0, .int 0, .int 0, .int 0, .ref (ma 1), .ref (ma 2), .null, .int 1, .int 10, .int 900, .ref (ma 3), .ref (ma 4), .int 0, .int 0, .int 0, .ref (ma 5), .int 1000, .int 50, .int 50, .int 1000, .int 10, .int 0, .int 3000, .int 0, .int 0, .int 0])), (aj, .inl (cy 2, 1, .inr (.inl (fun _ => 0))))] H) (hD : va_D (AL s) [(ax, .inr (14, [.ref (xa 0), .ref (xa 13), .ref (xa 18), .ref (xa 34), .ref (xa 45), .ref (xa 49), .ref (xa 50)])), ((xa 49), .inr (7, [.int 1000, .int 10, .int 0, .int 3000, .int 50, .int 1000, .int 50, .int 0, .int 0, .int 0])), (am, .inr (15, [.int 0, .ref (ma 0), .int 0, .int 0, .int 0, .int 0, .ref (ma 1), .ref (ma 2), .null, .int 1, .int 10, .int 900, .ref (ma 3), .ref (ma 4), .int 0, .int 0, .int 0, .ref (ma 5), .int 1000, .int 50, .int 50, .int 1000, .int 10, .int 0, .int 3000, .int 0, .int 0, .int 0])), (aj, .inl (cy 2, 1, .inr (.inl (fun _ => 0))))]) (hS : va_S (AL s) s.heap H locs) (ls : Array Slot) (hl : lv_has ls 9 [(5, .int 0), (4, .ref ao), (3, .ref aj), (2, .ref am), (1, .ref ax), (0, .ref b)]) : W p l e room_1 s m #[Value.ref b] below meth c H locs 100 1000 (lw_Z below #[Value.ref b] s) (F0 m 2471 ls []) := by
  obtain ⟨hx, hb, hr, hml, hown, hlk, hts, hE, hX, hbl⟩ := id LC
  have hA : ∀ q, s.heap.size ≤ q → (AL s) q := fun _ h => h
  have hbA : ¬ (AL s) b := Nat.not_le.mpr hbl
  by_cases c0 : x1 < 1
  · refine lv_aload_n hx hb dL_law_2471 rfl (lv_at hl 4 rfl) ?_
    refine lv_aload_n hx hb dL_law_2472 rfl (lv_at hl 5 rfl) ?_
    refine lv_iload hx hb dL_law_2473 (lv_at hl 0 rfl) ?_
    refine lv_iconst (v := 1) hx hb dL_law_2475 (by decide) ?_
    refine lv_iadd hx hb dL_law_2476 ?_
    refine tp_i 1 (by decide) ?_
    refine va_sld hx hb hX hbl hbA hS (by unfold vp_in; decide) dL_law_2477 ?_
    refine tp_i x1 e1 ?_
    refine lv_aload_n hx hb dL_law_2478 rfl (lv_at hl 2 rfl) ?_
    refine ca_i (isC := [0]) (isR := [1, 2, 3]) (wr := [((xa 49), .inr (7, [.int 1000, .int 10, .int 0, .int 3000, .int 50, .int 1000, .int 50, .int 0, .int 0, .int 0])), (am, .inr (15, [.int 0, .ref (ma 0), .int 0, .int 0, .int 0, .int 0, .ref (ma 1), .ref (ma 2), .null, .int 1, .int 10, .int 900, .ref (ma 3), .ref (ma 4), .int 0, .int 0, .int 0, .ref (ma 5), .int 1000, .int 50, .int 50, .int 1000, .int 10, .int 0, .int 3000, .int 0, .int 0, .int 0])), (aj, .inl (cy 2, 1, .inr (.inl (fun _ => 0))))]) (rn_SW (isC := [0]) (wc := [(ax, .inr (14, [.ref (xa 0), .ref (xa 13), .ref (xa 18), .ref (xa 34), .ref (xa 45), .ref (xa 49), .ref (xa 50)]))]) (As := [.ref ax, .int x1, .ref aj]) (rest := []) (n := 3) hx hb hml hown hts hE hS hP hD hA hl.1 (k610_L_runSeconds l hst D cy g x1 ax aj (.ref (xa 0)) (.ref (xa 13)) (.ref (xa 18)) (.ref (xa 34)) (.ref (xa 45)) (.ref (xa 49)) (.ref (xa 50)) H.size c0) rfl rfl ax_418 rfl rfl ax_419 ⟨Nat.le_of_ble_eq_true rfl, Nat.le_of_ble_eq_true rfl⟩ rfl rfl (Nat.le_of_ble_eq_true rfl) dL_law_2479 ⟨(Nat.le_of_ble_eq_true rfl), (Nat.le_of_ble_eq_true rfl)⟩) hP hD hS hA rfl rfl rfl (by decide) (fun ad2479 H locs hP hD hS => ?_)
    have hP : va_P D vwCl [((xa 49), .inr (7, [.int 1000, .int 10, .int 0, .int 3000, .int 50, .int 1000, .int 50, .int 0, .int 0, .int 0])), (am, .inr (15, [.int 0, .ref (ma 0), .int 0, .int 0, .int 0, .int 0, .ref (ma 1), .ref (ma 2), .null, .int 1, .int 10, .int 900, .ref (ma 3), .ref (ma 4), .int 0, .int 0, .int 0, .ref (ma 5), .int 1000, .int 50, .int 50, .int 1000, .int 10, .int 0, .int 3000, .int 0, .int 0, .int 0])), (aj, .inl (cy 2, 1, .inr (.inl (fun _ => 0))))] H := hP
    have hD : va_D (AL s) [((xa 49), .inr (7, [.int 1000, .int 10, .int 0, .int 3000, .int 50, .int 1000, .int 50, .int 0, .int 0, .int 0])), (am, .inr (15, [.int 0, .ref (ma 0), .int 0, .int 0, .int 0, .int 0, .ref (ma 1), .ref (ma 2), .null, .int 1, .int 10, .int 900, .ref (ma 3), .ref (ma 4), .int 0, .int 0, .int 0, .ref (ma 5), .int 1000, .int 50, .int 50, .int 1000, .int 10, .int 0, .int 3000, .int 0, .int 0, .int 0])), (aj, .inl (cy 2, 1, .inr (.inl (fun _ => 0))))] := hD
    refine lv_istore (lv' := [(6, .int 1), (5, .int 0), (4, .ref ao), (3, .ref aj), (2, .ref am), (1, .ref ax), (0, .ref b)]) hx hb dL_law_2482 hl (Nat.le_of_ble_eq_true rfl) rfl (fun ls hl => ?_)
    refine lv_aload_n hx hb dL_law_2484 rfl (lv_at hl 4 rfl) ?_
    refine lv_aload_n hx hb dL_law_2485 rfl (lv_at hl 6 rfl) ?_
    refine lv_iload hx hb dL_law_2486 (lv_at hl 1 rfl) ?_
    refine lv_iconst (v := 1) hx hb dL_law_2488 (by decide) ?_
    refine lv_iadd hx hb dL_law_2489 ?_
    refine tp_i 1 (by decide) ?_
    refine va_sld hx hb hX hbl hbA hS (by unfold vp_in; decide) dL_law_2490 ?_
    refine tp_i x1 e1 ?_
    refine ca_i (isC := [1]) (isR := [0, 2]) (wr := [((xa 49), .inr (7, [.int 1000, .int 10, .int 0, .int 3000, .int 50, .int 1000, .int 50, .int 0, .int 0, .int 0])), (aj, .inl (cy 2, 1, .inr (.inl (fun _ => 0))))]) (rn_V (ci := 15) (q0 := 1) (isC := [1]) (wc := [(am, .inr (15, [.int 0, .ref (ma 0), .int 0, .int 0, .int 0, .int 0, .ref (ma 1), .ref (ma 2), .null, .int 1, .int 10, .int 900, .ref (ma 3), .ref (ma 4), .int 0, .int 0, .int 0, .ref (ma 5), .int 1000, .int 50, .int 50, .int 1000, .int 10, .int 0, .int 3000, .int 0, .int 0, .int 0]))]) (As := [.int x1]) (rest := []) (n := 1) hx hb hml hown hts hE hS hP hD hA hl.1 (k611_X10_runSeconds l D cy g x1 am (.int 0) (.ref (ma 0)) (.int 0) (.int 0) (.int 0) (.int 0) (.ref (ma 1)) (.ref (ma 2)) (.null) (.int 1) (.int 10) (.int 900) (.ref (ma 3)) (.ref (ma 4)) (.int 0) (.int 0) (.int 0) (.ref (ma 5)) (.int 1000) (.int 50) (.int 50) (.int 1000) (.int 10) (.int 0) (.int 3000) (.int 0) (.int 0) (.int 0) H.size c0) rfl rfl rfl rfl rfl ax_420 rfl rfl ax_421 ⟨Nat.le_of_ble_eq_true rfl, Nat.le_of_ble_eq_true rfl⟩ rfl rfl (Nat.le_of_ble_eq_true rfl) dL_law_2491 ⟨(Nat.le_of_ble_eq_true rfl), (Nat.le_of_ble_eq_true rfl)⟩) hP hD hS hA rfl rfl rfl (by decide) (fun ad2491 H locs hP hD hS => ?_)
    have hP : va_P D vwCl [((xa 49), .inr (7, [.int 1000, .int 10, .int 0, .int 3000, .int 50, .int 1000, .int 50, .int 0, .int 0, .int 0])), (aj, .inl (cy 2, 1, .inr (.inl (fun _ => 0)))), (am, .inr (15, [.int 1, .ref (ma 0), .int 0, .int 0, .int 0, .int 0, .ref (ma 1), .ref (ma 2), .null, .int 1, .int 10, .int 900, .ref (ma 3), .ref (ma 4), .int 0, .int 0, .int 0, .ref (ma 5), .int 1000, .int 50, .int 50, .int 1000, .int 10, .int 0, .int 3000, .int 0, .int 0, .int 0]))] H := hP
    have hD : va_D (AL s) [((xa 49), .inr (7, [.int 1000, .int 10, .int 0, .int 3000, .int 50, .int 1000, .int 50, .int 0, .int 0, .int 0])), (aj, .inl (cy 2, 1, .inr (.inl (fun _ => 0)))), (am, .inr (15, [.int 1, .ref (ma 0), .int 0, .int 0, .int 0, .int 0, .ref (ma 1), .ref (ma 2), .null, .int 1, .int 10, .int 900, .ref (ma 3), .ref (ma 4), .int 0, .int 0, .int 0, .ref (ma 5), .int 1000, .int 50, .int 50, .int 1000, .int 10, .int 0, .int 3000, .int 0, .int 0, .int 0]))] := hD
    refine lv_istore (lv' := [(7, .int (-1)), (6, .int 1), (5, .int 0), (4, .ref ao), (3, .ref aj), (2, .ref am), (1, .ref ax), (0, .ref b)]) hx hb dL_law_2494 hl (Nat.le_of_ble_eq_true rfl) rfl (fun ls hl => ?_)
    refine lv_aload_n hx hb dL_law_2496 rfl (lv_at hl 5 rfl) ?_
    refine ca_i (isC := [2]) (isR := [0, 1]) (wr := [((xa 49), .inr (7, [.int 1000, .int 10, .int 0, .int 3000, .int 50, .int 1000, .int 50, .int 0, .int 0, .int 0])), (aj, .inl (cy 2, 1, .inr (.inl (fun _ => 0))))]) (rn_V (ci := 15) (q0 := 2) (isC := [2]) (wc := [(am, .inr (15, [.int 1, .ref (ma 0), .int 0, .int 0, .int 0, .int 0, .ref (ma 1), .ref (ma 2), .null, .int 1, .int 10, .int 900, .ref (ma 3), .ref (ma 4), .int 0, .int 0, .int 0, .ref (ma 5), .int 1000, .int 50, .int 50, .int 1000, .int 10, .int 0, .int 3000, .int 0, .int 0, .int 0]))]) (As := []) (rest := []) (n := 0) hx hb hml hown hts hE hS hP hD hA hl.1 (k24_X10_thrown l D cy g am (.ref (ma 0)) (.int 0) (.int 0) (.int 0) (.int 0) (.ref (ma 1)) (.ref (ma 2)) (.null) (.int 1) (.int 10) (.int 900) (.ref (ma 3)) (.ref (ma 4)) (.int 0) (.int 0) (.int 0) (.ref (ma 5)) (.int 1000) (.int 50) (.int 50) (.int 1000) (.int 10) (.int 0) (.int 3000) (.int 0) (.int 0) (.int 0) H.size ) rfl rfl rfl rfl rfl ax_45 rfl rfl ax_46 ⟨Nat.le_of_ble_eq_true rfl, Nat.le_of_ble_eq_true rfl⟩ rfl rfl (Nat.le_of_ble_eq_true rfl) dL_law_2497 ⟨(Nat.le_of_ble_eq_true rfl), (Nat.le_of_ble_eq_true rfl)⟩) hP hD hS hA rfl rfl rfl (by decide) (fun ad2497 H locs hP hD hS => ?_)
    have hP : va_P D vwCl [((xa 49), .inr (7, [.int 1000, .int 10, .int 0, .int 3000, .int 50, .int 1000, .int 50, .int 0, .int 0, .int 0])), (aj, .inl (cy 2, 1, .inr (.inl (fun _ => 0)))), (am, .inr (15, [.int 1, .ref (ma 0), .int 0, .int 0, .int 0, .int 0, .ref (ma 1), .ref (ma 2), .null, .int 1, .int 10, .int 900, .ref (ma 3), .ref (ma 4), .int 0, .int 0, .int 0, .ref (ma 5), .int 1000, .int 50, .int 50, .int 1000, .int 10, .int 0, .int 3000, .int 0, .int 0, .int 0]))] H := hP
    have hD : va_D (AL s) [((xa 49), .inr (7, [.int 1000, .int 10, .int 0, .int 3000, .int 50, .int 1000, .int 50, .int 0, .int 0, .int 0])), (aj, .inl (cy 2, 1, .inr (.inl (fun _ => 0)))), (am, .inr (15, [.int 1, .ref (ma 0), .int 0, .int 0, .int 0, .int 0, .ref (ma 1), .ref (ma 2), .null, .int 1, .int 10, .int 900, .ref (ma 3), .ref (ma 4), .int 0, .int 0, .int 0, .ref (ma 5), .int 1000, .int 50, .int 50, .int 1000, .int 10, .int 0, .int 3000, .int 0, .int 0, .int 0]))] := hD
    refine lv_iload hx hb dL_law_2500 (lv_at hl 1 rfl) ?_
    refine lv_icmp_eq (tgt := 2507) hx hb dL_law_2502 (by decide) (fun _ => ?_) (fun z => absurd (by decide) z)
    refine lv_iload hx hb dL_law_2507 (lv_at hl 1 rfl) ?_
    refine lv_if_ne (tgt := 2524) hx hb dL_law_2509 (by decide) (fun _ => ?_) (fun z => absurd z (by decide))
    refine lv_goto (tgt := 2947) hx hb dL_law_2524 (by decide) ?_
    exact law_tail LC hS (Nat.le_of_ble_eq_true rfl) (Nat.le_of_ble_eq_true rfl) (lv_sub hl [2, 7] rfl)
  · by_cases c1 : (500 : Int32) < x1
    · refine lv_aload_n hx hb dL_law_2471 rfl (lv_at hl 4 rfl) ?_
      refine lv_aload_n hx hb dL_law_2472 rfl (lv_at hl 5 rfl) ?_
      refine lv_iload hx hb dL_law_2473 (lv_at hl 0 rfl) ?_
      refine lv_iconst (v := 1) hx hb dL_law_2475 (by decide) ?_
      refine lv_iadd hx hb dL_law_2476 ?_
      refine tp_i 1 (by decide) ?_
      refine va_sld hx hb hX hbl hbA hS (by unfold vp_in; decide) dL_law_2477 ?_
      refine tp_i x1 e1 ?_
      refine lv_aload_n hx hb dL_law_2478 rfl (lv_at hl 2 rfl) ?_
      refine ca_i (isC := [0]) (isR := [1, 2, 3]) (wr := [((xa 49), .inr (7, [.int 1000, .int 10, .int 0, .int 3000, .int 50, .int 1000, .int 50, .int 0, .int 0, .int 0])), (am, .inr (15, [.int 0, .ref (ma 0), .int 0, .int 0, .int 0, .int 0, .ref (ma 1), .ref (ma 2), .null, .int 1, .int 10, .int 900, .ref (ma 3), .ref (ma 4), .int 0, .int 0, .int 0, .ref (ma 5), .int 1000, .int 50, .int 50, .int 1000, .int 10, .int 0, .int 3000, .int 0, .int 0, .int 0])), (aj, .inl (cy 2, 1, .inr (.inl (fun _ => 0))))]) (rn_SW (isC := [0]) (wc := [(ax, .inr (14, [.ref (xa 0), .ref (xa 13), .ref (xa 18), .ref (xa 34), .ref (xa 45), .ref (xa 49), .ref (xa 50)]))]) (As := [.ref ax, .int x1, .ref aj]) (rest := []) (n := 3) hx hb hml hown hts hE hS hP hD hA hl.1 (k613_L_runSeconds l hst D cy g x1 ax aj (.ref (xa 0)) (.ref (xa 13)) (.ref (xa 18)) (.ref (xa 34)) (.ref (xa 45)) (.ref (xa 49)) (.ref (xa 50)) H.size c0 c1) rfl rfl ax_418 rfl rfl ax_419 ⟨Nat.le_of_ble_eq_true rfl, Nat.le_of_ble_eq_true rfl⟩ rfl rfl (Nat.le_of_ble_eq_true rfl) dL_law_2479 ⟨(Nat.le_of_ble_eq_true rfl), (Nat.le_of_ble_eq_true rfl)⟩) hP hD hS hA rfl rfl rfl (by decide) (fun ad2479 H locs hP hD hS => ?_)
      have hP : va_P D vwCl [((xa 49), .inr (7, [.int 1000, .int 10, .int 0, .int 3000, .int 50, .int 1000, .int 50, .int 0, .int 0, .int 0])), (am, .inr (15, [.int 0, .ref (ma 0), .int 0, .int 0, .int 0, .int 0, .ref (ma 1), .ref (ma 2), .null, .int 1, .int 10, .int 900, .ref (ma 3), .ref (ma 4), .int 0, .int 0, .int 0, .ref (ma 5), .int 1000, .int 50, .int 50, .int 1000, .int 10, .int 0, .int 3000, .int 0, .int 0, .int 0])), (aj, .inl (cy 2, 1, .inr (.inl (fun _ => 0))))] H := hP
      have hD : va_D (AL s) [((xa 49), .inr (7, [.int 1000, .int 10, .int 0, .int 3000, .int 50, .int 1000, .int 50, .int 0, .int 0, .int 0])), (am, .inr (15, [.int 0, .ref (ma 0), .int 0, .int 0, .int 0, .int 0, .ref (ma 1), .ref (ma 2), .null, .int 1, .int 10, .int 900, .ref (ma 3), .ref (ma 4), .int 0, .int 0, .int 0, .ref (ma 5), .int 1000, .int 50, .int 50, .int 1000, .int 10, .int 0, .int 3000, .int 0, .int 0, .int 0])), (aj, .inl (cy 2, 1, .inr (.inl (fun _ => 0))))] := hD
      refine lv_istore (lv' := [(6, .int 1), (5, .int 0), (4, .ref ao), (3, .ref aj), (2, .ref am), (1, .ref ax), (0, .ref b)]) hx hb dL_law_2482 hl (Nat.le_of_ble_eq_true rfl) rfl (fun ls hl => ?_)
      refine lv_aload_n hx hb dL_law_2484 rfl (lv_at hl 4 rfl) ?_
      refine lv_aload_n hx hb dL_law_2485 rfl (lv_at hl 6 rfl) ?_
      refine lv_iload hx hb dL_law_2486 (lv_at hl 1 rfl) ?_
      refine lv_iconst (v := 1) hx hb dL_law_2488 (by decide) ?_
      refine lv_iadd hx hb dL_law_2489 ?_
      refine tp_i 1 (by decide) ?_
      refine va_sld hx hb hX hbl hbA hS (by unfold vp_in; decide) dL_law_2490 ?_
      refine tp_i x1 e1 ?_
      refine ca_i (isC := [1]) (isR := [0, 2]) (wr := [((xa 49), .inr (7, [.int 1000, .int 10, .int 0, .int 3000, .int 50, .int 1000, .int 50, .int 0, .int 0, .int 0])), (aj, .inl (cy 2, 1, .inr (.inl (fun _ => 0))))]) (rn_V (ci := 15) (q0 := 1) (isC := [1]) (wc := [(am, .inr (15, [.int 0, .ref (ma 0), .int 0, .int 0, .int 0, .int 0, .ref (ma 1), .ref (ma 2), .null, .int 1, .int 10, .int 900, .ref (ma 3), .ref (ma 4), .int 0, .int 0, .int 0, .ref (ma 5), .int 1000, .int 50, .int 50, .int 1000, .int 10, .int 0, .int 3000, .int 0, .int 0, .int 0]))]) (As := [.int x1]) (rest := []) (n := 1) hx hb hml hown hts hE hS hP hD hA hl.1 (k614_X10_runSeconds l D cy g x1 am (.int 0) (.ref (ma 0)) (.int 0) (.int 0) (.int 0) (.int 0) (.ref (ma 1)) (.ref (ma 2)) (.null) (.int 1) (.int 10) (.int 900) (.ref (ma 3)) (.ref (ma 4)) (.int 0) (.int 0) (.int 0) (.ref (ma 5)) (.int 1000) (.int 50) (.int 50) (.int 1000) (.int 10) (.int 0) (.int 3000) (.int 0) (.int 0) (.int 0) H.size c0 c1) rfl rfl rfl rfl rfl ax_420 rfl rfl ax_421 ⟨Nat.le_of_ble_eq_true rfl, Nat.le_of_ble_eq_true rfl⟩ rfl rfl (Nat.le_of_ble_eq_true rfl) dL_law_2491 ⟨(Nat.le_of_ble_eq_true rfl), (Nat.le_of_ble_eq_true rfl)⟩) hP hD hS hA rfl rfl rfl (by decide) (fun ad2491 H locs hP hD hS => ?_)
      have hP : va_P D vwCl [((xa 49), .inr (7, [.int 1000, .int 10, .int 0, .int 3000, .int 50, .int 1000, .int 50, .int 0, .int 0, .int 0])), (aj, .inl (cy 2, 1, .inr (.inl (fun _ => 0)))), (am, .inr (15, [.int 1, .ref (ma 0), .int 0, .int 0, .int 0, .int 0, .ref (ma 1), .ref (ma 2), .null, .int 1, .int 10, .int 900, .ref (ma 3), .ref (ma 4), .int 0, .int 0, .int 0, .ref (ma 5), .int 1000, .int 50, .int 50, .int 1000, .int 10, .int 0, .int 3000, .int 0, .int 0, .int 0]))] H := hP
      have hD : va_D (AL s) [((xa 49), .inr (7, [.int 1000, .int 10, .int 0, .int 3000, .int 50, .int 1000, .int 50, .int 0, .int 0, .int 0])), (aj, .inl (cy 2, 1, .inr (.inl (fun _ => 0)))), (am, .inr (15, [.int 1, .ref (ma 0), .int 0, .int 0, .int 0, .int 0, .ref (ma 1), .ref (ma 2), .null, .int 1, .int 10, .int 900, .ref (ma 3), .ref (ma 4), .int 0, .int 0, .int 0, .ref (ma 5), .int 1000, .int 50, .int 50, .int 1000, .int 10, .int 0, .int 3000, .int 0, .int 0, .int 0]))] := hD
      refine lv_istore (lv' := [(7, .int (-1)), (6, .int 1), (5, .int 0), (4, .ref ao), (3, .ref aj), (2, .ref am), (1, .ref ax), (0, .ref b)]) hx hb dL_law_2494 hl (Nat.le_of_ble_eq_true rfl) rfl (fun ls hl => ?_)
      refine lv_aload_n hx hb dL_law_2496 rfl (lv_at hl 5 rfl) ?_
      refine ca_i (isC := [2]) (isR := [0, 1]) (wr := [((xa 49), .inr (7, [.int 1000, .int 10, .int 0, .int 3000, .int 50, .int 1000, .int 50, .int 0, .int 0, .int 0])), (aj, .inl (cy 2, 1, .inr (.inl (fun _ => 0))))]) (rn_V (ci := 15) (q0 := 2) (isC := [2]) (wc := [(am, .inr (15, [.int 1, .ref (ma 0), .int 0, .int 0, .int 0, .int 0, .ref (ma 1), .ref (ma 2), .null, .int 1, .int 10, .int 900, .ref (ma 3), .ref (ma 4), .int 0, .int 0, .int 0, .ref (ma 5), .int 1000, .int 50, .int 50, .int 1000, .int 10, .int 0, .int 3000, .int 0, .int 0, .int 0]))]) (As := []) (rest := []) (n := 0) hx hb hml hown hts hE hS hP hD hA hl.1 (k24_X10_thrown l D cy g am (.ref (ma 0)) (.int 0) (.int 0) (.int 0) (.int 0) (.ref (ma 1)) (.ref (ma 2)) (.null) (.int 1) (.int 10) (.int 900) (.ref (ma 3)) (.ref (ma 4)) (.int 0) (.int 0) (.int 0) (.ref (ma 5)) (.int 1000) (.int 50) (.int 50) (.int 1000) (.int 10) (.int 0) (.int 3000) (.int 0) (.int 0) (.int 0) H.size ) rfl rfl rfl rfl rfl ax_45 rfl rfl ax_46 ⟨Nat.le_of_ble_eq_true rfl, Nat.le_of_ble_eq_true rfl⟩ rfl rfl (Nat.le_of_ble_eq_true rfl) dL_law_2497 ⟨(Nat.le_of_ble_eq_true rfl), (Nat.le_of_ble_eq_true rfl)⟩) hP hD hS hA rfl rfl rfl (by decide) (fun ad2497 H locs hP hD hS => ?_)
      have hP : va_P D vwCl [((xa 49), .inr (7, [.int 1000, .int 10, .int 0, .int 3000, .int 50, .int 1000, .int 50, .int 0, .int 0, .int 0])), (aj, .inl (cy 2, 1, .inr (.inl (fun _ => 0)))), (am, .inr (15, [.int 1, .ref (ma 0), .int 0, .int 0, .int 0, .int 0, .ref (ma 1), .ref (ma 2), .null, .int 1, .int 10, .int 900, .ref (ma 3), .ref (ma 4), .int 0, .int 0, .int 0, .ref (ma 5), .int 1000, .int 50, .int 50, .int 1000, .int 10, .int 0, .int 3000, .int 0, .int 0, .int 0]))] H := hP
      have hD : va_D (AL s) [((xa 49), .inr (7, [.int 1000, .int 10, .int 0, .int 3000, .int 50, .int 1000, .int 50, .int 0, .int 0, .int 0])), (aj, .inl (cy 2, 1, .inr (.inl (fun _ => 0)))), (am, .inr (15, [.int 1, .ref (ma 0), .int 0, .int 0, .int 0, .int 0, .ref (ma 1), .ref (ma 2), .null, .int 1, .int 10, .int 900, .ref (ma 3), .ref (ma 4), .int 0, .int 0, .int 0, .ref (ma 5), .int 1000, .int 50, .int 50, .int 1000, .int 10, .int 0, .int 3000, .int 0, .int 0, .int 0]))] := hD
      refine lv_iload hx hb dL_law_2500 (lv_at hl 1 rfl) ?_
      refine lv_icmp_eq (tgt := 2507) hx hb dL_law_2502 (by decide) (fun _ => ?_) (fun z => absurd (by decide) z)
      refine lv_iload hx hb dL_law_2507 (lv_at hl 1 rfl) ?_
      refine lv_if_ne (tgt := 2524) hx hb dL_law_2509 (by decide) (fun _ => ?_) (fun z => absurd z (by decide))
      refine lv_goto (tgt := 2947) hx hb dL_law_2524 (by decide) ?_
      exact law_tail LC hS (Nat.le_of_ble_eq_true rfl) (Nat.le_of_ble_eq_true rfl) (lv_sub hl [2, 7] rfl)
    · refine lv_aload_n hx hb dL_law_2471 rfl (lv_at hl 4 rfl) ?_
      refine lv_aload_n hx hb dL_law_2472 rfl (lv_at hl 5 rfl) ?_
      refine lv_iload hx hb dL_law_2473 (lv_at hl 0 rfl) ?_
      refine lv_iconst (v := 1) hx hb dL_law_2475 (by decide) ?_
      refine lv_iadd hx hb dL_law_2476 ?_
      refine tp_i 1 (by decide) ?_
      refine va_sld hx hb hX hbl hbA hS (by unfold vp_in; decide) dL_law_2477 ?_
      refine tp_i x1 e1 ?_
      refine lv_aload_n hx hb dL_law_2478 rfl (lv_at hl 2 rfl) ?_
      refine ca_i (isC := [0, 1, 3]) (isR := [2]) (wr := [(am, .inr (15, [.int 0, .ref (ma 0), .int 0, .int 0, .int 0, .int 0, .ref (ma 1), .ref (ma 2), .null, .int 1, .int 10, .int 900, .ref (ma 3), .ref (ma 4), .int 0, .int 0, .int 0, .ref (ma 5), .int 1000, .int 50, .int 50, .int 1000, .int 10, .int 0, .int 3000, .int 0, .int 0, .int 0]))]) (rn_SW (isC := [0, 1, 3]) (wc := [(ax, .inr (14, [.ref (xa 0), .ref (xa 13), .ref (xa 18), .ref (xa 34), .ref (xa 45), .ref (xa 49), .ref (xa 50)])), ((xa 49), .inr (7, [.int 1000, .int 10, .int 0, .int 3000, .int 50, .int 1000, .int 50, .int 0, .int 0, .int 0])), (aj, .inl (cy 2, 1, .inr (.inl (fun _ => 0))))]) (As := [.ref ax, .int x1, .ref aj]) (rest := []) (n := 3) hx hb hml hown hts hE hS hP hD hA hl.1 (k617_L_runSeconds l D cy g x1 ax (xa 49) aj (.ref (xa 0)) (.ref (xa 13)) (.ref (xa 18)) (.ref (xa 34)) (.ref (xa 45)) (.ref (xa 50)) (.int 0) (.int 0) (fun _ => 0) H.size c0 c1) rfl rfl ax_418 rfl rfl ax_419 ⟨Nat.le_of_ble_eq_true rfl, Nat.le_of_ble_eq_true rfl⟩ rfl rfl (Nat.le_of_ble_eq_true rfl) dL_law_2479 ⟨(Nat.le_of_ble_eq_true rfl), (Nat.le_of_ble_eq_true rfl)⟩) hP hD hS hA rfl rfl rfl (by decide) (fun ad2479 H locs hP hD hS => ?_)
      have hP : va_P D vwCl [(am, .inr (15, [.int 0, .ref (ma 0), .int 0, .int 0, .int 0, .int 0, .ref (ma 1), .ref (ma 2), .null, .int 1, .int 10, .int 900, .ref (ma 3), .ref (ma 4), .int 0, .int 0, .int 0, .ref (ma 5), .int 1000, .int 50, .int 50, .int 1000, .int 10, .int 0, .int 3000, .int 0, .int 0, .int 0])), (aj, .inl (cy 2, 1, .inr (.inl (vp_updL (fun _ => 0) (0 : Int32).toNatClampNeg 1000))))] H := hP
      have hD : va_D (AL s) [(am, .inr (15, [.int 0, .ref (ma 0), .int 0, .int 0, .int 0, .int 0, .ref (ma 1), .ref (ma 2), .null, .int 1, .int 10, .int 900, .ref (ma 3), .ref (ma 4), .int 0, .int 0, .int 0, .ref (ma 5), .int 1000, .int 50, .int 50, .int 1000, .int 10, .int 0, .int 3000, .int 0, .int 0, .int 0])), (aj, .inl (cy 2, 1, .inr (.inl (vp_updL (fun _ => 0) (0 : Int32).toNatClampNeg 1000))))] := hD
      refine lv_istore (lv' := [(6, .int 0), (5, .int 0), (4, .ref ao), (3, .ref aj), (2, .ref am), (1, .ref ax), (0, .ref b)]) hx hb dL_law_2482 hl (Nat.le_of_ble_eq_true rfl) rfl (fun ls hl => ?_)
      refine lv_aload_n hx hb dL_law_2484 rfl (lv_at hl 4 rfl) ?_
      refine lv_aload_n hx hb dL_law_2485 rfl (lv_at hl 6 rfl) ?_
      refine lv_iload hx hb dL_law_2486 (lv_at hl 1 rfl) ?_
      refine lv_iconst (v := 1) hx hb dL_law_2488 (by decide) ?_
      refine lv_iadd hx hb dL_law_2489 ?_
      refine tp_i 1 (by decide) ?_
      refine va_sld hx hb hX hbl hbA hS (by unfold vp_in; decide) dL_law_2490 ?_
      refine tp_i x1 e1 ?_
      refine ca_i (isC := [0]) (isR := [1]) (wr := [(aj, .inl (cy 2, 1, .inr (.inl (vp_updL (fun _ => 0) (0 : Int32).toNatClampNeg 1000))))]) (rn_V (ci := 15) (q0 := 0) (isC := [0]) (wc := [(am, .inr (15, [.int 0, .ref (ma 0), .int 0, .int 0, .int 0, .int 0, .ref (ma 1), .ref (ma 2), .null, .int 1, .int 10, .int 900, .ref (ma 3), .ref (ma 4), .int 0, .int 0, .int 0, .ref (ma 5), .int 1000, .int 50, .int 50, .int 1000, .int 10, .int 0, .int 3000, .int 0, .int 0, .int 0]))]) (As := [.int x1]) (rest := []) (n := 1) hx hb hml hown hts hE hS hP hD hA hl.1 (k619_X10_runSeconds l D cy g x1 am (.int 0) (.ref (ma 0)) (.int 0) (.int 0) (.int 0) (.int 0) (.ref (ma 1)) (.ref (ma 2)) (.null) (.int 1) (.int 10) (.int 900) (.ref (ma 3)) (.ref (ma 4)) (.int 0) (.int 0) (.int 0) (.ref (ma 5)) (.int 0) (.int 0) H.size c0 c1) rfl rfl rfl rfl rfl ax_420 rfl rfl ax_421 ⟨Nat.le_of_ble_eq_true rfl, Nat.le_of_ble_eq_true rfl⟩ rfl rfl (Nat.le_of_ble_eq_true rfl) dL_law_2491 ⟨(Nat.le_of_ble_eq_true rfl), (Nat.le_of_ble_eq_true rfl)⟩) hP hD hS hA rfl rfl rfl (by decide) (fun ad2491 H locs hP hD hS => ?_)
      have hP : va_P D vwCl [(aj, .inl (cy 2, 1, .inr (.inl (vp_updL (fun _ => 0) (0 : Int32).toNatClampNeg 1000)))), (am, .inr (15, [.int 0, .ref (ma 0), .int 0, .int 0, .int 0, .int 0, .ref (ma 1), .ref (ma 2), .null, .int 1, .int 10, .int 900, .ref (ma 3), .ref (ma 4), .int 0, .int 0, .int 0, .ref (ma 5), .int 1000, .int 50, .int 50, .int 1000, .int 10, .int 0, .int 3000, .int 0, .int 0, .int 0]))] H := hP
      have hD : va_D (AL s) [(aj, .inl (cy 2, 1, .inr (.inl (vp_updL (fun _ => 0) (0 : Int32).toNatClampNeg 1000)))), (am, .inr (15, [.int 0, .ref (ma 0), .int 0, .int 0, .int 0, .int 0, .ref (ma 1), .ref (ma 2), .null, .int 1, .int 10, .int 900, .ref (ma 3), .ref (ma 4), .int 0, .int 0, .int 0, .ref (ma 5), .int 1000, .int 50, .int 50, .int 1000, .int 10, .int 0, .int 3000, .int 0, .int 0, .int 0]))] := hD
      refine lv_istore (lv' := [(7, .int 1000), (6, .int 0), (5, .int 0), (4, .ref ao), (3, .ref aj), (2, .ref am), (1, .ref ax), (0, .ref b)]) hx hb dL_law_2494 hl (Nat.le_of_ble_eq_true rfl) rfl (fun ls hl => ?_)
      refine lv_aload_n hx hb dL_law_2496 rfl (lv_at hl 5 rfl) ?_
      refine ca_i (isC := [1]) (isR := [0]) (wr := [(aj, .inl (cy 2, 1, .inr (.inl (vp_updL (fun _ => 0) (0 : Int32).toNatClampNeg 1000))))]) (rn_V (ci := 15) (q0 := 1) (isC := [1]) (wc := [(am, .inr (15, [.int 0, .ref (ma 0), .int 0, .int 0, .int 0, .int 0, .ref (ma 1), .ref (ma 2), .null, .int 1, .int 10, .int 900, .ref (ma 3), .ref (ma 4), .int 0, .int 0, .int 0, .ref (ma 5), .int 1000, .int 50, .int 50, .int 1000, .int 10, .int 0, .int 3000, .int 0, .int 0, .int 0]))]) (As := []) (rest := []) (n := 0) hx hb hml hown hts hE hS hP hD hA hl.1 (k52_X10_thrown l D cy g am (.ref (ma 0)) (.int 0) (.int 0) (.int 0) (.int 0) (.ref (ma 1)) (.ref (ma 2)) (.null) (.int 1) (.int 10) (.int 900) (.ref (ma 3)) (.ref (ma 4)) (.int 0) (.int 0) (.int 0) (.ref (ma 5)) (.int 1000) (.int 50) (.int 50) (.int 1000) (.int 10) (.int 0) (.int 3000) (.int 0) (.int 0) (.int 0) H.size ) rfl rfl rfl rfl rfl ax_45 rfl rfl ax_46 ⟨Nat.le_of_ble_eq_true rfl, Nat.le_of_ble_eq_true rfl⟩ rfl rfl (Nat.le_of_ble_eq_true rfl) dL_law_2497 ⟨(Nat.le_of_ble_eq_true rfl), (Nat.le_of_ble_eq_true rfl)⟩) hP hD hS hA rfl rfl rfl (by decide) (fun ad2497 H locs hP hD hS => ?_)
      have hP : va_P D vwCl [(aj, .inl (cy 2, 1, .inr (.inl (vp_updL (fun _ => 0) (0 : Int32).toNatClampNeg 1000)))), (am, .inr (15, [.int 0, .ref (ma 0), .int 0, .int 0, .int 0, .int 0, .ref (ma 1), .ref (ma 2), .null, .int 1, .int 10, .int 900, .ref (ma 3), .ref (ma 4), .int 0, .int 0, .int 0, .ref (ma 5), .int 1000, .int 50, .int 50, .int 1000, .int 10, .int 0, .int 3000, .int 0, .int 0, .int 0]))] H := hP
      have hD : va_D (AL s) [(aj, .inl (cy 2, 1, .inr (.inl (vp_updL (fun _ => 0) (0 : Int32).toNatClampNeg 1000)))), (am, .inr (15, [.int 0, .ref (ma 0), .int 0, .int 0, .int 0, .int 0, .ref (ma 1), .ref (ma 2), .null, .int 1, .int 10, .int 900, .ref (ma 3), .ref (ma 4), .int 0, .int 0, .int 0, .ref (ma 5), .int 1000, .int 50, .int 50, .int 1000, .int 10, .int 0, .int 3000, .int 0, .int 0, .int 0]))] := hD
      refine lv_iload hx hb dL_law_2500 (lv_at hl 1 rfl) ?_
      refine lv_icmp_eq (tgt := 2507) hx hb dL_law_2502 (by decide) (fun _ => ?_) (fun z => absurd (by decide) z)
      refine lv_iload hx hb dL_law_2507 (lv_at hl 1 rfl) ?_
      refine lv_if_ne (tgt := 2524) hx hb dL_law_2509 (by decide) (fun z => absurd (by decide) z) (fun _ => ?_)
      refine lv_aload_n hx hb dL_law_2512 rfl (lv_at hl 4 rfl) ?_
      refine lv_iconst (v := 0) hx hb dL_law_2513 (by decide) ?_
      refine va_lald hx hb hE.1 hP 0 2 rfl rfl (by unfold vp_in; decide) dL_law_2514 ?_
      refine tp_l 1000 rfl ?_
      refine lv_iload hx hb dL_law_2515 (lv_at hl 0 rfl) ?_
      refine lv_i2l (v := 1000) hx hb dL_law_2517 (by decide) ?_
      refine W.lcmp hx hb dL_law_2518 ?_
      refine tp_i 0 (by decide) ?_
      refine lv_if_eq (tgt := 2524) hx hb dL_law_2519 (by decide) (fun _ => ?_) (fun z => absurd (by decide) z)
      refine lv_goto (tgt := 2947) hx hb dL_law_2524 (by decide) ?_
      exact law_tail LC hS (Nat.le_of_ble_eq_true rfl) (Nat.le_of_ble_eq_true rfl) (lv_sub hl [2, 7] rfl)
set_option maxHeartbeats 4000000 in
set_option maxRecDepth 100000 in
theorem lc_41 {p : Program} {e : Env} {s : State} {m : MethodId} {below : List Frame} {meth : Method} {c : Code} {l : Launch} {b : Nat} {xs : Nat → Int32} {D : va_G} {cy : Nat → ClassId} {g : Nat → Nat} (hst : l.stackTraces = false) (LC : LCtx p s m meth c b xs D cy g) (ax am aj ao : Nat) (xa ma : Nat → Nat) (x1 x2 x3 x4 : Int32) (e1 : xs (1 : Int32).toNatClampNeg = x1) (e2 : xs (2 : Int32).toNatClampNeg = x2) (e3 : xs (3 : Int32).toNatClampNeg = x3) (e4 : xs (4 : Int32).toNatClampNeg = x4) {H : Heap} {locs : List Loc} (hP : va_P D vwCl [(ax, .inr (14, [.ref (xa 0), .ref (xa 13), .ref (xa 18), .ref (xa 34), .ref (xa 45), .ref (xa 49), .ref (xa 50)])), ((xa 49), .inr (7, [.int 1000, .int 10, .int 0, .int 3000, .int 50, .int 1000, .int 50, .int 0, .int 0, .int 0])), (am, .inr (15, [.int 0, .ref (ma 0), .int 0, .int 0, .int 0, .int 0, .ref (ma 1), .ref (ma 2), .null, .int 1, .int 10, .int 900, .ref (ma 3), .ref (ma 4), .int 0, .int 0, .int 0, .ref (ma 5), .int 1000, .int 50, .int 50, .int 1000, .int 10, .int 0, .int 3000, .int 0, .int 0, .int 0]))] H) (hD : va_D (AL s) [(ax, .inr (14, [.ref (xa 0), .ref (xa 13), .ref (xa 18), .ref (xa 34), .ref (xa 45), .ref (xa 49), .ref (xa 50)])), ((xa 49), .inr (7, [.int 1000, .int 10, .int 0, .int 3000, .int 50, .int 1000, .int 50, .int 0, .int 0, .int 0])), (am, .inr (15, [.int 0, .ref (ma 0), .int 0, .int 0, .int 0, .int 0, .ref (ma 1), .ref (ma 2), .null, .int 1, .int 10, .int 900, .ref (ma 3), .ref (ma 4), .int 0, .int 0, .int 0, .ref (ma 5), .int 1000, .int 50, .int 50, .int 1000, .int 10, .int 0, .int 3000, .int 0, .int 0, .int 0]))]) (hS : va_S (AL s) s.heap H locs) (ls : Array Slot) (hl : lv_has ls 9 [(5, .int 0), (4, .ref ao), (3, .ref aj), (2, .ref am), (1, .ref ax), (0, .ref b)]) : W p l e room_1 s m #[Value.ref b] below meth c H locs 100 1000 (lw_Z below #[Value.ref b] s) (F0 m 2527 ls []) := by
  obtain ⟨hx, hb, hr, hml, hown, hlk, hts, hE, hX, hbl⟩ := id LC
  have hA : ∀ q, s.heap.size ≤ q → (AL s) q := fun _ h => h
  have hbA : ¬ (AL s) b := Nat.not_le.mpr hbl
  refine lv_aload_n hx hb dL_law_2527 rfl (lv_at hl 4 rfl) ?_
  refine ca_i (isC := [0, 1]) (isR := [2]) (wr := [(am, .inr (15, [.int 0, .ref (ma 0), .int 0, .int 0, .int 0, .int 0, .ref (ma 1), .ref (ma 2), .null, .int 1, .int 10, .int 900, .ref (ma 3), .ref (ma 4), .int 0, .int 0, .int 0, .ref (ma 5), .int 1000, .int 50, .int 50, .int 1000, .int 10, .int 0, .int 3000, .int 0, .int 0, .int 0]))]) (rn_V (ci := 14) (q0 := 0) (isC := [0, 1]) (wc := [(ax, .inr (14, [.ref (xa 0), .ref (xa 13), .ref (xa 18), .ref (xa 34), .ref (xa 45), .ref (xa 49), .ref (xa 50)])), ((xa 49), .inr (7, [.int 1000, .int 10, .int 0, .int 3000, .int 50, .int 1000, .int 50, .int 0, .int 0, .int 0]))]) (As := []) (rest := []) (n := 0) hx hb hml hown hts hE hS hP hD hA hl.1 (k620_X9_getValve l D cy g ax (xa 49) (.ref (xa 0)) (.ref (xa 13)) (.ref (xa 18)) (.ref (xa 34)) (.ref (xa 45)) (.ref (xa 50)) (.int 1000) (.int 10) (.int 0) (.int 3000) (.int 50) (.int 1000) (.int 0) (.int 0) (.int 0) H.size ) rfl rfl rfl rfl rfl ax_426 rfl rfl ax_427 ⟨Nat.le_of_ble_eq_true rfl, Nat.le_of_ble_eq_true rfl⟩ rfl rfl (Nat.le_of_ble_eq_true rfl) dL_law_2528 ⟨(Nat.le_of_ble_eq_true rfl), (Nat.le_of_ble_eq_true rfl)⟩) hP hD hS hA rfl rfl rfl (by decide) (fun ad2528 H locs hP hD hS => ?_)
  have hP : va_P D vwCl [(am, .inr (15, [.int 0, .ref (ma 0), .int 0, .int 0, .int 0, .int 0, .ref (ma 1), .ref (ma 2), .null, .int 1, .int 10, .int 900, .ref (ma 3), .ref (ma 4), .int 0, .int 0, .int 0, .ref (ma 5), .int 1000, .int 50, .int 50, .int 1000, .int 10, .int 0, .int 3000, .int 0, .int 0, .int 0]))] H := hP
  have hD : va_D (AL s) [(am, .inr (15, [.int 0, .ref (ma 0), .int 0, .int 0, .int 0, .int 0, .ref (ma 1), .ref (ma 2), .null, .int 1, .int 10, .int 900, .ref (ma 3), .ref (ma 4), .int 0, .int 0, .int 0, .ref (ma 5), .int 1000, .int 50, .int 50, .int 1000, .int 10, .int 0, .int 3000, .int 0, .int 0, .int 0]))] := hD
  refine lv_aload_n hx hb dL_law_2531 rfl (lv_at hl 3 rfl) ?_
  refine ca_i (isC := [0]) (isR := []) (wr := []) (rn_V (ci := 15) (q0 := 0) (isC := [0]) (wc := [(am, .inr (15, [.int 0, .ref (ma 0), .int 0, .int 0, .int 0, .int 0, .ref (ma 1), .ref (ma 2), .null, .int 1, .int 10, .int 900, .ref (ma 3), .ref (ma 4), .int 0, .int 0, .int 0, .ref (ma 5), .int 1000, .int 50, .int 50, .int 1000, .int 10, .int 0, .int 3000, .int 0, .int 0, .int 0]))]) (As := []) (rest := [.int 50]) (n := 0) hx hb hml hown hts hE hS hP hD hA hl.1 (k621_X10_getValve l D cy g am (.int 0) (.ref (ma 0)) (.int 0) (.int 0) (.int 0) (.int 0) (.ref (ma 1)) (.ref (ma 2)) (.null) (.int 1) (.int 10) (.int 900) (.ref (ma 3)) (.ref (ma 4)) (.int 0) (.int 0) (.int 0) (.ref (ma 5)) (.int 1000) (.int 50) (.int 1000) (.int 10) (.int 0) (.int 3000) (.int 0) (.int 0) (.int 0) H.size ) rfl rfl rfl rfl rfl ax_428 rfl rfl ax_429 ⟨Nat.le_of_ble_eq_true rfl, Nat.le_of_ble_eq_true rfl⟩ rfl rfl (Nat.le_of_ble_eq_true rfl) dL_law_2532 ⟨(Nat.le_of_ble_eq_true rfl), (Nat.le_of_ble_eq_true rfl)⟩) hP hD hS hA rfl rfl rfl (by decide) (fun ad2532 H locs hP hD hS => ?_)
  have hP : va_P D vwCl [(am, .inr (15, [.int 0, .ref (ma 0), .int 0, .int 0, .int 0, .int 0, .ref (ma 1), .ref (ma 2), .null, .int 1, .int 10, .int 900, .ref (ma 3), .ref (ma 4), .int 0, .int 0, .int 0, .ref (ma 5), .int 1000, .int 50, .int 50, .int 1000, .int 10, .int 0, .int 3000, .int 0, .int 0, .int 0]))] H := hP
  have hD : va_D (AL s) [(am, .inr (15, [.int 0, .ref (ma 0), .int 0, .int 0, .int 0, .int 0, .ref (ma 1), .ref (ma 2), .null, .int 1, .int 10, .int 900, .ref (ma 3), .ref (ma 4), .int 0, .int 0, .int 0, .ref (ma 5), .int 1000, .int 50, .int 50, .int 1000, .int 10, .int 0, .int 3000, .int 0, .int 0, .int 0]))] := hD
  refine lv_icmp_eq (tgt := 2947) hx hb dL_law_2535 (by decide) (fun _ => ?_) (fun z => absurd (by decide) z)
  exact law_tail LC hS (Nat.le_of_ble_eq_true rfl) (Nat.le_of_ble_eq_true rfl) (lv_sub hl [0, 5] rfl)
set_option maxHeartbeats 4000000 in
set_option maxRecDepth 100000 in
theorem lc_42 {p : Program} {e : Env} {s : State} {m : MethodId} {below : List Frame} {meth : Method} {c : Code} {l : Launch} {b : Nat} {xs : Nat → Int32} {D : va_G} {cy : Nat → ClassId} {g : Nat → Nat} (hst : l.stackTraces = false) (LC : LCtx p s m meth c b xs D cy g) (ax am aj ao : Nat) (xa ma : Nat → Nat) (x1 x2 x3 x4 : Int32) (e1 : xs (1 : Int32).toNatClampNeg = x1) (e2 : xs (2 : Int32).toNatClampNeg = x2) (e3 : xs (3 : Int32).toNatClampNeg = x3) (e4 : xs (4 : Int32).toNatClampNeg = x4) {H : Heap} {locs : List Loc} (hP : va_P D vwCl [(ax, .inr (14, [.ref (xa 0), .ref (xa 13), .ref (xa 18), .ref (xa 34), .ref (xa 45), .ref (xa 49), .ref (xa 50)])), ((xa 49), .inr (7, [.int 1000, .int 10, .int 0, .int 3000, .int 50, .int 1000, .int 50, .int 0, .int 0, .int 0])), (am, .inr (15, [.int 0, .ref (ma 0), .int 0, .int 0, .int 0, .int 0, .ref (ma 1), .ref (ma 2), .null, .int 1, .int 10, .int 900, .ref (ma 3), .ref (ma 4), .int 0, .int 0, .int 0, .ref (ma 5), .int 1000, .int 50, .int 50, .int 1000, .int 10, .int 0, .int 3000, .int 0, .int 0, .int 0]))] H) (hD : va_D (AL s) [(ax, .inr (14, [.ref (xa 0), .ref (xa 13), .ref (xa 18), .ref (xa 34), .ref (xa 45), .ref (xa 49), .ref (xa 50)])), ((xa 49), .inr (7, [.int 1000, .int 10, .int 0, .int 3000, .int 50, .int 1000, .int 50, .int 0, .int 0, .int 0])), (am, .inr (15, [.int 0, .ref (ma 0), .int 0, .int 0, .int 0, .int 0, .ref (ma 1), .ref (ma 2), .null, .int 1, .int 10, .int 900, .ref (ma 3), .ref (ma 4), .int 0, .int 0, .int 0, .ref (ma 5), .int 1000, .int 50, .int 50, .int 1000, .int 10, .int 0, .int 3000, .int 0, .int 0, .int 0]))]) (hS : va_S (AL s) s.heap H locs) (ls : Array Slot) (hl : lv_has ls 9 [(5, .int 0), (4, .ref ao), (3, .ref aj), (2, .ref am), (1, .ref ax), (0, .ref b)]) : W p l e room_1 s m #[Value.ref b] below meth c H locs 100 1000 (lw_Z below #[Value.ref b] s) (F0 m 2540 ls []) := by
  obtain ⟨hx, hb, hr, hml, hown, hlk, hts, hE, hX, hbl⟩ := id LC
  have hA : ∀ q, s.heap.size ≤ q → (AL s) q := fun _ h => h
  have hbA : ¬ (AL s) b := Nat.not_le.mpr hbl
  refine lv_aload_n hx hb dL_law_2540 rfl (lv_at hl 4 rfl) ?_
  refine ca_i (isC := [0, 1]) (isR := [2]) (wr := [(am, .inr (15, [.int 0, .ref (ma 0), .int 0, .int 0, .int 0, .int 0, .ref (ma 1), .ref (ma 2), .null, .int 1, .int 10, .int 900, .ref (ma 3), .ref (ma 4), .int 0, .int 0, .int 0, .ref (ma 5), .int 1000, .int 50, .int 50, .int 1000, .int 10, .int 0, .int 3000, .int 0, .int 0, .int 0]))]) (rn_V (ci := 14) (q0 := 0) (isC := [0, 1]) (wc := [(ax, .inr (14, [.ref (xa 0), .ref (xa 13), .ref (xa 18), .ref (xa 34), .ref (xa 45), .ref (xa 49), .ref (xa 50)])), ((xa 49), .inr (7, [.int 1000, .int 10, .int 0, .int 3000, .int 50, .int 1000, .int 50, .int 0, .int 0, .int 0]))]) (As := []) (rest := []) (n := 0) hx hb hml hown hts hE hS hP hD hA hl.1 (k622_X9_countTurns l D cy g ax (xa 49) (.ref (xa 0)) (.ref (xa 13)) (.ref (xa 18)) (.ref (xa 34)) (.ref (xa 45)) (.ref (xa 50)) (.int 1000) (.int 10) (.int 0) (.int 3000) (.int 50) (.int 1000) (.int 50) (.int 0) (.int 0) H.size ) rfl rfl rfl rfl rfl ax_430 rfl rfl ax_431 ⟨Nat.le_of_ble_eq_true rfl, Nat.le_of_ble_eq_true rfl⟩ rfl rfl (Nat.le_of_ble_eq_true rfl) dL_law_2541 ⟨(Nat.le_of_ble_eq_true rfl), (Nat.le_of_ble_eq_true rfl)⟩) hP hD hS hA rfl rfl rfl (by decide) (fun ad2541 H locs hP hD hS => ?_)
  have hP : va_P D vwCl [(am, .inr (15, [.int 0, .ref (ma 0), .int 0, .int 0, .int 0, .int 0, .ref (ma 1), .ref (ma 2), .null, .int 1, .int 10, .int 900, .ref (ma 3), .ref (ma 4), .int 0, .int 0, .int 0, .ref (ma 5), .int 1000, .int 50, .int 50, .int 1000, .int 10, .int 0, .int 3000, .int 0, .int 0, .int 0]))] H := hP
  have hD : va_D (AL s) [(am, .inr (15, [.int 0, .ref (ma 0), .int 0, .int 0, .int 0, .int 0, .ref (ma 1), .ref (ma 2), .null, .int 1, .int 10, .int 900, .ref (ma 3), .ref (ma 4), .int 0, .int 0, .int 0, .ref (ma 5), .int 1000, .int 50, .int 50, .int 1000, .int 10, .int 0, .int 3000, .int 0, .int 0, .int 0]))] := hD
  refine lv_aload_n hx hb dL_law_2544 rfl (lv_at hl 3 rfl) ?_
  refine ca_i (isC := [0]) (isR := []) (wr := []) (rn_V (ci := 15) (q0 := 0) (isC := [0]) (wc := [(am, .inr (15, [.int 0, .ref (ma 0), .int 0, .int 0, .int 0, .int 0, .ref (ma 1), .ref (ma 2), .null, .int 1, .int 10, .int 900, .ref (ma 3), .ref (ma 4), .int 0, .int 0, .int 0, .ref (ma 5), .int 1000, .int 50, .int 50, .int 1000, .int 10, .int 0, .int 3000, .int 0, .int 0, .int 0]))]) (As := []) (rest := [.int 0]) (n := 0) hx hb hml hown hts hE hS hP hD hA hl.1 (k623_X10_countTurns l D cy g am (.int 0) (.ref (ma 0)) (.int 0) (.int 0) (.int 0) (.int 0) (.ref (ma 1)) (.ref (ma 2)) (.null) (.int 1) (.int 10) (.int 900) (.ref (ma 3)) (.ref (ma 4)) (.int 0) (.int 0) (.int 0) (.ref (ma 5)) (.int 1000) (.int 50) (.int 50) (.int 1000) (.int 10) (.int 0) (.int 3000) (.int 0) (.int 0) H.size ) rfl rfl rfl rfl rfl ax_432 rfl rfl ax_433 ⟨Nat.le_of_ble_eq_true rfl, Nat.le_of_ble_eq_true rfl⟩ rfl rfl (Nat.le_of_ble_eq_true rfl) dL_law_2545 ⟨(Nat.le_of_ble_eq_true rfl), (Nat.le_of_ble_eq_true rfl)⟩) hP hD hS hA rfl rfl rfl (by decide) (fun ad2545 H locs hP hD hS => ?_)
  have hP : va_P D vwCl [(am, .inr (15, [.int 0, .ref (ma 0), .int 0, .int 0, .int 0, .int 0, .ref (ma 1), .ref (ma 2), .null, .int 1, .int 10, .int 900, .ref (ma 3), .ref (ma 4), .int 0, .int 0, .int 0, .ref (ma 5), .int 1000, .int 50, .int 50, .int 1000, .int 10, .int 0, .int 3000, .int 0, .int 0, .int 0]))] H := hP
  have hD : va_D (AL s) [(am, .inr (15, [.int 0, .ref (ma 0), .int 0, .int 0, .int 0, .int 0, .ref (ma 1), .ref (ma 2), .null, .int 1, .int 10, .int 900, .ref (ma 3), .ref (ma 4), .int 0, .int 0, .int 0, .ref (ma 5), .int 1000, .int 50, .int 50, .int 1000, .int 10, .int 0, .int 3000, .int 0, .int 0, .int 0]))] := hD
  refine lv_icmp_eq (tgt := 2947) hx hb dL_law_2548 (by decide) (fun _ => ?_) (fun z => absurd (by decide) z)
  exact law_tail LC hS (Nat.le_of_ble_eq_true rfl) (Nat.le_of_ble_eq_true rfl) (lv_sub hl [0, 5] rfl)
set_option maxHeartbeats 4000000 in
set_option maxRecDepth 100000 in
theorem lc_43 {p : Program} {e : Env} {s : State} {m : MethodId} {below : List Frame} {meth : Method} {c : Code} {l : Launch} {b : Nat} {xs : Nat → Int32} {D : va_G} {cy : Nat → ClassId} {g : Nat → Nat} (hst : l.stackTraces = false) (LC : LCtx p s m meth c b xs D cy g) (ax am aj ao : Nat) (xa ma : Nat → Nat) (x1 x2 x3 x4 : Int32) (e1 : xs (1 : Int32).toNatClampNeg = x1) (e2 : xs (2 : Int32).toNatClampNeg = x2) (e3 : xs (3 : Int32).toNatClampNeg = x3) (e4 : xs (4 : Int32).toNatClampNeg = x4) {H : Heap} {locs : List Loc} (hP : va_P D vwCl [(ax, .inr (14, [.ref (xa 0), .ref (xa 13), .ref (xa 18), .ref (xa 34), .ref (xa 45), .ref (xa 49), .ref (xa 50)])), ((xa 49), .inr (7, [.int 1000, .int 10, .int 0, .int 3000, .int 50, .int 1000, .int 50, .int 0, .int 0, .int 0])), (am, .inr (15, [.int 0, .ref (ma 0), .int 0, .int 0, .int 0, .int 0, .ref (ma 1), .ref (ma 2), .null, .int 1, .int 10, .int 900, .ref (ma 3), .ref (ma 4), .int 0, .int 0, .int 0, .ref (ma 5), .int 1000, .int 50, .int 50, .int 1000, .int 10, .int 0, .int 3000, .int 0, .int 0, .int 0]))] H) (hD : va_D (AL s) [(ax, .inr (14, [.ref (xa 0), .ref (xa 13), .ref (xa 18), .ref (xa 34), .ref (xa 45), .ref (xa 49), .ref (xa 50)])), ((xa 49), .inr (7, [.int 1000, .int 10, .int 0, .int 3000, .int 50, .int 1000, .int 50, .int 0, .int 0, .int 0])), (am, .inr (15, [.int 0, .ref (ma 0), .int 0, .int 0, .int 0, .int 0, .ref (ma 1), .ref (ma 2), .null, .int 1, .int 10, .int 900, .ref (ma 3), .ref (ma 4), .int 0, .int 0, .int 0, .ref (ma 5), .int 1000, .int 50, .int 50, .int 1000, .int 10, .int 0, .int 3000, .int 0, .int 0, .int 0]))]) (hS : va_S (AL s) s.heap H locs) (ls : Array Slot) (hl : lv_has ls 9 [(5, .int 0), (4, .ref ao), (3, .ref aj), (2, .ref am), (1, .ref ax), (0, .ref b)]) : W p l e room_1 s m #[Value.ref b] below meth c H locs 100 1000 (lw_Z below #[Value.ref b] s) (F0 m 2553 ls []) := by
  obtain ⟨hx, hb, hr, hml, hown, hlk, hts, hE, hX, hbl⟩ := id LC
  have hA : ∀ q, s.heap.size ≤ q → (AL s) q := fun _ h => h
  have hbA : ¬ (AL s) b := Nat.not_le.mpr hbl
  refine lv_aload_n hx hb dL_law_2553 rfl (lv_at hl 4 rfl) ?_
  refine ca_i (isC := [0, 1]) (isR := [2]) (wr := [(am, .inr (15, [.int 0, .ref (ma 0), .int 0, .int 0, .int 0, .int 0, .ref (ma 1), .ref (ma 2), .null, .int 1, .int 10, .int 900, .ref (ma 3), .ref (ma 4), .int 0, .int 0, .int 0, .ref (ma 5), .int 1000, .int 50, .int 50, .int 1000, .int 10, .int 0, .int 3000, .int 0, .int 0, .int 0]))]) (rn_V (ci := 14) (q0 := 0) (isC := [0, 1]) (wc := [(ax, .inr (14, [.ref (xa 0), .ref (xa 13), .ref (xa 18), .ref (xa 34), .ref (xa 45), .ref (xa 49), .ref (xa 50)])), ((xa 49), .inr (7, [.int 1000, .int 10, .int 0, .int 3000, .int 50, .int 1000, .int 50, .int 0, .int 0, .int 0]))]) (As := []) (rest := []) (n := 0) hx hb hml hown hts hE hS hP hD hA hl.1 (k624_X9_isTripped l D cy g ax (xa 49) (.ref (xa 0)) (.ref (xa 13)) (.ref (xa 18)) (.ref (xa 34)) (.ref (xa 45)) (.ref (xa 50)) (.int 1000) (.int 10) (.int 0) (.int 3000) (.int 50) (.int 1000) (.int 50) (.int 0) (.int 0) H.size ) rfl rfl rfl rfl rfl ax_434 rfl rfl ax_435 ⟨Nat.le_of_ble_eq_true rfl, Nat.le_of_ble_eq_true rfl⟩ rfl rfl (Nat.le_of_ble_eq_true rfl) dL_law_2554 ⟨(Nat.le_of_ble_eq_true rfl), (Nat.le_of_ble_eq_true rfl)⟩) hP hD hS hA rfl rfl rfl (by decide) (fun ad2554 H locs hP hD hS => ?_)
  have hP : va_P D vwCl [(am, .inr (15, [.int 0, .ref (ma 0), .int 0, .int 0, .int 0, .int 0, .ref (ma 1), .ref (ma 2), .null, .int 1, .int 10, .int 900, .ref (ma 3), .ref (ma 4), .int 0, .int 0, .int 0, .ref (ma 5), .int 1000, .int 50, .int 50, .int 1000, .int 10, .int 0, .int 3000, .int 0, .int 0, .int 0]))] H := hP
  have hD : va_D (AL s) [(am, .inr (15, [.int 0, .ref (ma 0), .int 0, .int 0, .int 0, .int 0, .ref (ma 1), .ref (ma 2), .null, .int 1, .int 10, .int 900, .ref (ma 3), .ref (ma 4), .int 0, .int 0, .int 0, .ref (ma 5), .int 1000, .int 50, .int 50, .int 1000, .int 10, .int 0, .int 3000, .int 0, .int 0, .int 0]))] := hD
  refine lv_aload_n hx hb dL_law_2557 rfl (lv_at hl 3 rfl) ?_
  refine ca_i (isC := [0]) (isR := []) (wr := []) (rn_V (ci := 15) (q0 := 0) (isC := [0]) (wc := [(am, .inr (15, [.int 0, .ref (ma 0), .int 0, .int 0, .int 0, .int 0, .ref (ma 1), .ref (ma 2), .null, .int 1, .int 10, .int 900, .ref (ma 3), .ref (ma 4), .int 0, .int 0, .int 0, .ref (ma 5), .int 1000, .int 50, .int 50, .int 1000, .int 10, .int 0, .int 3000, .int 0, .int 0, .int 0]))]) (As := []) (rest := [.int 0]) (n := 0) hx hb hml hown hts hE hS hP hD hA hl.1 (k625_X10_isTripped l D cy g am (.int 0) (.ref (ma 0)) (.int 0) (.int 0) (.int 0) (.int 0) (.ref (ma 1)) (.ref (ma 2)) (.null) (.int 1) (.int 10) (.int 900) (.ref (ma 3)) (.ref (ma 4)) (.int 0) (.int 0) (.int 0) (.ref (ma 5)) (.int 1000) (.int 50) (.int 50) (.int 1000) (.int 10) (.int 0) (.int 3000) (.int 0) (.int 0) H.size ) rfl rfl rfl rfl rfl ax_436 rfl rfl ax_437 ⟨Nat.le_of_ble_eq_true rfl, Nat.le_of_ble_eq_true rfl⟩ rfl rfl (Nat.le_of_ble_eq_true rfl) dL_law_2558 ⟨(Nat.le_of_ble_eq_true rfl), (Nat.le_of_ble_eq_true rfl)⟩) hP hD hS hA rfl rfl rfl (by decide) (fun ad2558 H locs hP hD hS => ?_)
  have hP : va_P D vwCl [(am, .inr (15, [.int 0, .ref (ma 0), .int 0, .int 0, .int 0, .int 0, .ref (ma 1), .ref (ma 2), .null, .int 1, .int 10, .int 900, .ref (ma 3), .ref (ma 4), .int 0, .int 0, .int 0, .ref (ma 5), .int 1000, .int 50, .int 50, .int 1000, .int 10, .int 0, .int 3000, .int 0, .int 0, .int 0]))] H := hP
  have hD : va_D (AL s) [(am, .inr (15, [.int 0, .ref (ma 0), .int 0, .int 0, .int 0, .int 0, .ref (ma 1), .ref (ma 2), .null, .int 1, .int 10, .int 900, .ref (ma 3), .ref (ma 4), .int 0, .int 0, .int 0, .ref (ma 5), .int 1000, .int 50, .int 50, .int 1000, .int 10, .int 0, .int 3000, .int 0, .int 0, .int 0]))] := hD
  refine lv_icmp_eq (tgt := 2947) hx hb dL_law_2561 (by decide) (fun _ => ?_) (fun z => absurd (by decide) z)
  exact law_tail LC hS (Nat.le_of_ble_eq_true rfl) (Nat.le_of_ble_eq_true rfl) (lv_sub hl [0, 5] rfl)
set_option maxHeartbeats 4000000 in
set_option maxRecDepth 100000 in
theorem lc_44 {p : Program} {e : Env} {s : State} {m : MethodId} {below : List Frame} {meth : Method} {c : Code} {l : Launch} {b : Nat} {xs : Nat → Int32} {D : va_G} {cy : Nat → ClassId} {g : Nat → Nat} (hst : l.stackTraces = false) (LC : LCtx p s m meth c b xs D cy g) (ax am aj ao : Nat) (xa ma : Nat → Nat) (x1 x2 x3 x4 : Int32) (e1 : xs (1 : Int32).toNatClampNeg = x1) (e2 : xs (2 : Int32).toNatClampNeg = x2) (e3 : xs (3 : Int32).toNatClampNeg = x3) (e4 : xs (4 : Int32).toNatClampNeg = x4) {H : Heap} {locs : List Loc} (hP : va_P D vwCl [(ax, .inr (14, [.ref (xa 0), .ref (xa 13), .ref (xa 18), .ref (xa 34), .ref (xa 45), .ref (xa 49), .ref (xa 50)])), ((xa 49), .inr (7, [.int 1000, .int 10, .int 0, .int 3000, .int 50, .int 1000, .int 50, .int 0, .int 0, .int 0])), (am, .inr (15, [.int 0, .ref (ma 0), .int 0, .int 0, .int 0, .int 0, .ref (ma 1), .ref (ma 2), .null, .int 1, .int 10, .int 900, .ref (ma 3), .ref (ma 4), .int 0, .int 0, .int 0, .ref (ma 5), .int 1000, .int 50, .int 50, .int 1000, .int 10, .int 0, .int 3000, .int 0, .int 0, .int 0])), (aj, .inl (cy 2, 1, .inr (.inl (fun _ => 0))))] H) (hD : va_D (AL s) [(ax, .inr (14, [.ref (xa 0), .ref (xa 13), .ref (xa 18), .ref (xa 34), .ref (xa 45), .ref (xa 49), .ref (xa 50)])), ((xa 49), .inr (7, [.int 1000, .int 10, .int 0, .int 3000, .int 50, .int 1000, .int 50, .int 0, .int 0, .int 0])), (am, .inr (15, [.int 0, .ref (ma 0), .int 0, .int 0, .int 0, .int 0, .ref (ma 1), .ref (ma 2), .null, .int 1, .int 10, .int 900, .ref (ma 3), .ref (ma 4), .int 0, .int 0, .int 0, .ref (ma 5), .int 1000, .int 50, .int 50, .int 1000, .int 10, .int 0, .int 3000, .int 0, .int 0, .int 0])), (aj, .inl (cy 2, 1, .inr (.inl (fun _ => 0))))]) (hS : va_S (AL s) s.heap H locs) (ls : Array Slot) (hl : lv_has ls 9 [(5, .int 0), (4, .ref ao), (3, .ref aj), (2, .ref am), (1, .ref ax), (0, .ref b)]) : W p l e room_1 s m #[Value.ref b] below meth c H locs 100 1000 (lw_Z below #[Value.ref b] s) (F0 m 2566 ls []) := by
  obtain ⟨hx, hb, hr, hml, hown, hlk, hts, hE, hX, hbl⟩ := id LC
  have hA : ∀ q, s.heap.size ≤ q → (AL s) q := fun _ h => h
  have hbA : ¬ (AL s) b := Nat.not_le.mpr hbl
  refine lv_aload_n hx hb dL_law_2566 rfl (lv_at hl 4 rfl) ?_
  refine lv_aload_n hx hb dL_law_2567 rfl (lv_at hl 2 rfl) ?_
  refine ca_i (isC := [0, 1, 3]) (isR := [2]) (wr := [(am, .inr (15, [.int 0, .ref (ma 0), .int 0, .int 0, .int 0, .int 0, .ref (ma 1), .ref (ma 2), .null, .int 1, .int 10, .int 900, .ref (ma 3), .ref (ma 4), .int 0, .int 0, .int 0, .ref (ma 5), .int 1000, .int 50, .int 50, .int 1000, .int 10, .int 0, .int 3000, .int 0, .int 0, .int 0]))]) (rn_SW (isC := [0, 1, 3]) (wc := [(ax, .inr (14, [.ref (xa 0), .ref (xa 13), .ref (xa 18), .ref (xa 34), .ref (xa 45), .ref (xa 49), .ref (xa 50)])), ((xa 49), .inr (7, [.int 1000, .int 10, .int 0, .int 3000, .int 50, .int 1000, .int 50, .int 0, .int 0, .int 0])), (aj, .inl (cy 2, 1, .inr (.inl (fun _ => 0))))]) (As := [.ref ax, .ref aj]) (rest := []) (n := 2) hx hb hml hown hts hE hS hP hD hA hl.1 (k627_L_resetTrip l D cy g ax (xa 49) aj (.ref (xa 0)) (.ref (xa 13)) (.ref (xa 18)) (.ref (xa 34)) (.ref (xa 45)) (.ref (xa 50)) (.int 1000) (.int 10) (.int 0) (.int 50) (.int 50) (.int 0) (.int 0) (fun _ => 0) H.size ) rfl rfl ax_440 rfl rfl ax_441 ⟨Nat.le_of_ble_eq_true rfl, Nat.le_of_ble_eq_true rfl⟩ rfl rfl (Nat.le_of_ble_eq_true rfl) dL_law_2568 ⟨(Nat.le_of_ble_eq_true rfl), (Nat.le_of_ble_eq_true rfl)⟩) hP hD hS hA rfl rfl rfl (by decide) (fun ad2568 H locs hP hD hS => ?_)
  have hP : va_P D vwCl [(am, .inr (15, [.int 0, .ref (ma 0), .int 0, .int 0, .int 0, .int 0, .ref (ma 1), .ref (ma 2), .null, .int 1, .int 10, .int 900, .ref (ma 3), .ref (ma 4), .int 0, .int 0, .int 0, .ref (ma 5), .int 1000, .int 50, .int 50, .int 1000, .int 10, .int 0, .int 3000, .int 0, .int 0, .int 0])), (aj, .inl (cy 2, 1, .inr (.inl (vp_updL (fun _ => 0) (0 : Int32).toNatClampNeg 0))))] H := hP
  have hD : va_D (AL s) [(am, .inr (15, [.int 0, .ref (ma 0), .int 0, .int 0, .int 0, .int 0, .ref (ma 1), .ref (ma 2), .null, .int 1, .int 10, .int 900, .ref (ma 3), .ref (ma 4), .int 0, .int 0, .int 0, .ref (ma 5), .int 1000, .int 50, .int 50, .int 1000, .int 10, .int 0, .int 3000, .int 0, .int 0, .int 0])), (aj, .inl (cy 2, 1, .inr (.inl (vp_updL (fun _ => 0) (0 : Int32).toNatClampNeg 0))))] := hD
  refine lv_istore (lv' := [(6, .int 0), (5, .int 0), (4, .ref ao), (3, .ref aj), (2, .ref am), (1, .ref ax), (0, .ref b)]) hx hb dL_law_2571 hl (Nat.le_of_ble_eq_true rfl) rfl (fun ls hl => ?_)
  refine lv_aload_n hx hb dL_law_2573 rfl (lv_at hl 4 rfl) ?_
  refine ca_i (isC := [0]) (isR := [1]) (wr := [(aj, .inl (cy 2, 1, .inr (.inl (vp_updL (fun _ => 0) (0 : Int32).toNatClampNeg 0))))]) (rn_V (ci := 15) (q0 := 0) (isC := [0]) (wc := [(am, .inr (15, [.int 0, .ref (ma 0), .int 0, .int 0, .int 0, .int 0, .ref (ma 1), .ref (ma 2), .null, .int 1, .int 10, .int 900, .ref (ma 3), .ref (ma 4), .int 0, .int 0, .int 0, .ref (ma 5), .int 1000, .int 50, .int 50, .int 1000, .int 10, .int 0, .int 3000, .int 0, .int 0, .int 0]))]) (As := []) (rest := []) (n := 0) hx hb hml hown hts hE hS hP hD hA hl.1 (k628_X10_resetTrip l D cy g am (.int 0) (.ref (ma 0)) (.int 0) (.int 0) (.int 0) (.int 0) (.ref (ma 1)) (.ref (ma 2)) (.null) (.int 1) (.int 10) (.int 900) (.ref (ma 3)) (.ref (ma 4)) (.int 0) (.int 0) (.int 0) (.ref (ma 5)) (.int 50) (.int 50) (.int 1000) (.int 10) (.int 0) (.int 0) (.int 0) H.size ) rfl rfl rfl rfl rfl ax_442 rfl rfl ax_443 ⟨Nat.le_of_ble_eq_true rfl, Nat.le_of_ble_eq_true rfl⟩ rfl rfl (Nat.le_of_ble_eq_true rfl) dL_law_2574 ⟨(Nat.le_of_ble_eq_true rfl), (Nat.le_of_ble_eq_true rfl)⟩) hP hD hS hA rfl rfl rfl (by decide) (fun ad2574 H locs hP hD hS => ?_)
  have hP : va_P D vwCl [(aj, .inl (cy 2, 1, .inr (.inl (vp_updL (fun _ => 0) (0 : Int32).toNatClampNeg 0)))), (am, .inr (15, [.int 0, .ref (ma 0), .int 0, .int 0, .int 0, .int 0, .ref (ma 1), .ref (ma 2), .null, .int 1, .int 10, .int 900, .ref (ma 3), .ref (ma 4), .int 0, .int 0, .int 0, .ref (ma 5), .int 1000, .int 50, .int 50, .int 1000, .int 10, .int 0, .int 3000, .int 0, .int 0, .int 0]))] H := hP
  have hD : va_D (AL s) [(aj, .inl (cy 2, 1, .inr (.inl (vp_updL (fun _ => 0) (0 : Int32).toNatClampNeg 0)))), (am, .inr (15, [.int 0, .ref (ma 0), .int 0, .int 0, .int 0, .int 0, .ref (ma 1), .ref (ma 2), .null, .int 1, .int 10, .int 900, .ref (ma 3), .ref (ma 4), .int 0, .int 0, .int 0, .ref (ma 5), .int 1000, .int 50, .int 50, .int 1000, .int 10, .int 0, .int 3000, .int 0, .int 0, .int 0]))] := hD
  refine lv_istore (lv' := [(7, .int 0), (6, .int 0), (5, .int 0), (4, .ref ao), (3, .ref aj), (2, .ref am), (1, .ref ax), (0, .ref b)]) hx hb dL_law_2577 hl (Nat.le_of_ble_eq_true rfl) rfl (fun ls hl => ?_)
  refine lv_aload_n hx hb dL_law_2579 rfl (lv_at hl 5 rfl) ?_
  refine ca_i (isC := [1]) (isR := [0]) (wr := [(aj, .inl (cy 2, 1, .inr (.inl (vp_updL (fun _ => 0) (0 : Int32).toNatClampNeg 0))))]) (rn_V (ci := 15) (q0 := 1) (isC := [1]) (wc := [(am, .inr (15, [.int 0, .ref (ma 0), .int 0, .int 0, .int 0, .int 0, .ref (ma 1), .ref (ma 2), .null, .int 1, .int 10, .int 900, .ref (ma 3), .ref (ma 4), .int 0, .int 0, .int 0, .ref (ma 5), .int 1000, .int 50, .int 50, .int 1000, .int 10, .int 0, .int 3000, .int 0, .int 0, .int 0]))]) (As := []) (rest := []) (n := 0) hx hb hml hown hts hE hS hP hD hA hl.1 (k52_X10_thrown l D cy g am (.ref (ma 0)) (.int 0) (.int 0) (.int 0) (.int 0) (.ref (ma 1)) (.ref (ma 2)) (.null) (.int 1) (.int 10) (.int 900) (.ref (ma 3)) (.ref (ma 4)) (.int 0) (.int 0) (.int 0) (.ref (ma 5)) (.int 1000) (.int 50) (.int 50) (.int 1000) (.int 10) (.int 0) (.int 3000) (.int 0) (.int 0) (.int 0) H.size ) rfl rfl rfl rfl rfl ax_45 rfl rfl ax_46 ⟨Nat.le_of_ble_eq_true rfl, Nat.le_of_ble_eq_true rfl⟩ rfl rfl (Nat.le_of_ble_eq_true rfl) dL_law_2580 ⟨(Nat.le_of_ble_eq_true rfl), (Nat.le_of_ble_eq_true rfl)⟩) hP hD hS hA rfl rfl rfl (by decide) (fun ad2580 H locs hP hD hS => ?_)
  have hP : va_P D vwCl [(aj, .inl (cy 2, 1, .inr (.inl (vp_updL (fun _ => 0) (0 : Int32).toNatClampNeg 0)))), (am, .inr (15, [.int 0, .ref (ma 0), .int 0, .int 0, .int 0, .int 0, .ref (ma 1), .ref (ma 2), .null, .int 1, .int 10, .int 900, .ref (ma 3), .ref (ma 4), .int 0, .int 0, .int 0, .ref (ma 5), .int 1000, .int 50, .int 50, .int 1000, .int 10, .int 0, .int 3000, .int 0, .int 0, .int 0]))] H := hP
  have hD : va_D (AL s) [(aj, .inl (cy 2, 1, .inr (.inl (vp_updL (fun _ => 0) (0 : Int32).toNatClampNeg 0)))), (am, .inr (15, [.int 0, .ref (ma 0), .int 0, .int 0, .int 0, .int 0, .ref (ma 1), .ref (ma 2), .null, .int 1, .int 10, .int 900, .ref (ma 3), .ref (ma 4), .int 0, .int 0, .int 0, .ref (ma 5), .int 1000, .int 50, .int 50, .int 1000, .int 10, .int 0, .int 3000, .int 0, .int 0, .int 0]))] := hD
  refine lv_iload hx hb dL_law_2583 (lv_at hl 1 rfl) ?_
  refine lv_icmp_eq (tgt := 2590) hx hb dL_law_2585 (by decide) (fun _ => ?_) (fun z => absurd (by decide) z)
  refine lv_iload hx hb dL_law_2590 (lv_at hl 1 rfl) ?_
  refine lv_if_ne (tgt := 2614) hx hb dL_law_2592 (by decide) (fun z => absurd (by decide) z) (fun _ => ?_)
  refine lv_aload_n hx hb dL_law_2595 rfl (lv_at hl 4 rfl) ?_
  refine lv_iconst (v := 0) hx hb dL_law_2596 (by decide) ?_
  refine va_lald hx hb hE.1 hP 0 2 rfl rfl (by unfold vp_in; decide) dL_law_2597 ?_
  refine tp_l 0 rfl ?_
  refine lv_iload hx hb dL_law_2598 (lv_at hl 0 rfl) ?_
  refine lv_if_eq (tgt := 2607) hx hb dL_law_2600 (by decide) (fun _ => ?_) (fun z => absurd (by decide) z)
  refine lv_lconst (v := 0) hx hb dL_law_2607 (by decide) ?_
  refine W.lcmp hx hb dL_law_2608 ?_
  refine tp_i 0 (by decide) ?_
  refine lv_if_eq (tgt := 2614) hx hb dL_law_2609 (by decide) (fun _ => ?_) (fun z => absurd (by decide) z)
  refine lv_goto (tgt := 2947) hx hb dL_law_2614 (by decide) ?_
  exact law_tail LC hS (Nat.le_of_ble_eq_true rfl) (Nat.le_of_ble_eq_true rfl) (lv_sub hl [2, 7] rfl)
set_option maxHeartbeats 4000000 in
set_option maxRecDepth 100000 in
theorem lc_45 {p : Program} {e : Env} {s : State} {m : MethodId} {below : List Frame} {meth : Method} {c : Code} {l : Launch} {b : Nat} {xs : Nat → Int32} {D : va_G} {cy : Nat → ClassId} {g : Nat → Nat} (hst : l.stackTraces = false) (LC : LCtx p s m meth c b xs D cy g) (ax am aj ao : Nat) (xa ma : Nat → Nat) (x1 x2 x3 x4 : Int32) (e1 : xs (1 : Int32).toNatClampNeg = x1) (e2 : xs (2 : Int32).toNatClampNeg = x2) (e3 : xs (3 : Int32).toNatClampNeg = x3) (e4 : xs (4 : Int32).toNatClampNeg = x4) {H : Heap} {locs : List Loc} (hP : va_P D vwCl [(ax, .inr (14, [.ref (xa 0), .ref (xa 13), .ref (xa 18), .ref (xa 34), .ref (xa 45), .ref (xa 49), .ref (xa 50)])), (am, .inr (15, [.int 0, .ref (ma 0), .int 0, .int 0, .int 0, .int 0, .ref (ma 1), .ref (ma 2), .null, .int 1, .int 10, .int 900, .ref (ma 3), .ref (ma 4), .int 0, .int 0, .int 0, .ref (ma 5), .int 1000, .int 50, .int 50, .int 1000, .int 10, .int 0, .int 3000, .int 0, .int 0, .int 0])), (aj, .inl (cy 2, 1, .inr (.inl (fun _ => 0))))] H) (hD : va_D (AL s) [(ax, .inr (14, [.ref (xa 0), .ref (xa 13), .ref (xa 18), .ref (xa 34), .ref (xa 45), .ref (xa 49), .ref (xa 50)])), (am, .inr (15, [.int 0, .ref (ma 0), .int 0, .int 0, .int 0, .int 0, .ref (ma 1), .ref (ma 2), .null, .int 1, .int 10, .int 900, .ref (ma 3), .ref (ma 4), .int 0, .int 0, .int 0, .ref (ma 5), .int 1000, .int 50, .int 50, .int 1000, .int 10, .int 0, .int 3000, .int 0, .int 0, .int 0])), (aj, .inl (cy 2, 1, .inr (.inl (fun _ => 0))))]) (hS : va_S (AL s) s.heap H locs) (ls : Array Slot) (hl : lv_has ls 9 [(5, .int 0), (4, .ref ao), (3, .ref aj), (2, .ref am), (1, .ref ax), (0, .ref b)]) : W p l e room_1 s m #[Value.ref b] below meth c H locs 100 1000 (lw_Z below #[Value.ref b] s) (F0 m 2617 ls []) := by
  obtain ⟨hx, hb, hr, hml, hown, hlk, hts, hE, hX, hbl⟩ := id LC
  have hA : ∀ q, s.heap.size ≤ q → (AL s) q := fun _ h => h
  have hbA : ¬ (AL s) b := Nat.not_le.mpr hbl
  by_cases c0 : x1 < 1
  · by_cases c1 : x4 < 0
    · refine lv_aload_n hx hb dL_law_2617 rfl (lv_at hl 4 rfl) ?_
      refine lv_aload_n hx hb dL_law_2618 rfl (lv_at hl 5 rfl) ?_
      refine lv_iload hx hb dL_law_2619 (lv_at hl 0 rfl) ?_
      refine lv_iconst (v := 1) hx hb dL_law_2621 (by decide) ?_
      refine lv_iadd hx hb dL_law_2622 ?_
      refine tp_i 1 (by decide) ?_
      refine va_sld hx hb hX hbl hbA hS (by unfold vp_in; decide) dL_law_2623 ?_
      refine tp_i x1 e1 ?_
      refine lv_aload_n hx hb dL_law_2624 rfl (lv_at hl 5 rfl) ?_
      refine lv_iload hx hb dL_law_2625 (lv_at hl 0 rfl) ?_
      refine lv_iconst (v := 2) hx hb dL_law_2627 (by decide) ?_
      refine lv_iadd hx hb dL_law_2628 ?_
      refine tp_i 2 (by decide) ?_
      refine va_sld hx hb hX hbl hbA hS (by unfold vp_in; decide) dL_law_2629 ?_
      refine tp_i x2 e2 ?_
      refine lv_aload_n hx hb dL_law_2630 rfl (lv_at hl 5 rfl) ?_
      refine lv_iload hx hb dL_law_2631 (lv_at hl 0 rfl) ?_
      refine lv_iconst (v := 3) hx hb dL_law_2633 (by decide) ?_
      refine lv_iadd hx hb dL_law_2634 ?_
      refine tp_i 3 (by decide) ?_
      refine va_sld hx hb hX hbl hbA hS (by unfold vp_in; decide) dL_law_2635 ?_
      refine tp_i x3 e3 ?_
      refine lv_aload_n hx hb dL_law_2636 rfl (lv_at hl 5 rfl) ?_
      refine lv_iload hx hb dL_law_2637 (lv_at hl 0 rfl) ?_
      refine lv_iconst (v := 4) hx hb dL_law_2639 (by decide) ?_
      refine lv_iadd hx hb dL_law_2640 ?_
      refine tp_i 4 (by decide) ?_
      refine va_sld hx hb hX hbl hbA hS (by unfold vp_in; decide) dL_law_2641 ?_
      refine tp_i x4 e4 ?_
      refine lv_aload_n hx hb dL_law_2642 rfl (lv_at hl 2 rfl) ?_
      refine ca_i (isC := [0]) (isR := [1, 2]) (wr := [(am, .inr (15, [.int 0, .ref (ma 0), .int 0, .int 0, .int 0, .int 0, .ref (ma 1), .ref (ma 2), .null, .int 1, .int 10, .int 900, .ref (ma 3), .ref (ma 4), .int 0, .int 0, .int 0, .ref (ma 5), .int 1000, .int 50, .int 50, .int 1000, .int 10, .int 0, .int 3000, .int 0, .int 0, .int 0])), (aj, .inl (cy 2, 1, .inr (.inl (fun _ => 0))))]) (rn_SW (isC := [0]) (wc := [(ax, .inr (14, [.ref (xa 0), .ref (xa 13), .ref (xa 18), .ref (xa 34), .ref (xa 45), .ref (xa 49), .ref (xa 50)]))]) (As := [.ref ax, .int x1, .int x2, .int x3, .int x4, .ref aj]) (rest := []) (n := 6) hx hb hml hown hts hE hS hP hD hA hl.1 (k631_L_claim l hst D cy g x1 x2 x3 x4 ax aj (.ref (xa 0)) (.ref (xa 13)) (.ref (xa 18)) (.ref (xa 34)) (.ref (xa 45)) (.ref (xa 49)) (.ref (xa 50)) H.size c0) rfl rfl ax_448 rfl rfl ax_449 ⟨Nat.le_of_ble_eq_true rfl, Nat.le_of_ble_eq_true rfl⟩ rfl rfl (Nat.le_of_ble_eq_true rfl) dL_law_2643 ⟨(Nat.le_of_ble_eq_true rfl), (Nat.le_of_ble_eq_true rfl)⟩) hP hD hS hA rfl rfl rfl (by decide) (fun ad2643 H locs hP hD hS => ?_)
      have hP : va_P D vwCl [(am, .inr (15, [.int 0, .ref (ma 0), .int 0, .int 0, .int 0, .int 0, .ref (ma 1), .ref (ma 2), .null, .int 1, .int 10, .int 900, .ref (ma 3), .ref (ma 4), .int 0, .int 0, .int 0, .ref (ma 5), .int 1000, .int 50, .int 50, .int 1000, .int 10, .int 0, .int 3000, .int 0, .int 0, .int 0])), (aj, .inl (cy 2, 1, .inr (.inl (fun _ => 0))))] H := hP
      have hD : va_D (AL s) [(am, .inr (15, [.int 0, .ref (ma 0), .int 0, .int 0, .int 0, .int 0, .ref (ma 1), .ref (ma 2), .null, .int 1, .int 10, .int 900, .ref (ma 3), .ref (ma 4), .int 0, .int 0, .int 0, .ref (ma 5), .int 1000, .int 50, .int 50, .int 1000, .int 10, .int 0, .int 3000, .int 0, .int 0, .int 0])), (aj, .inl (cy 2, 1, .inr (.inl (fun _ => 0))))] := hD
      refine lv_istore (lv' := [(6, .int 1), (5, .int 0), (4, .ref ao), (3, .ref aj), (2, .ref am), (1, .ref ax), (0, .ref b)]) hx hb dL_law_2646 hl (Nat.le_of_ble_eq_true rfl) rfl (fun ls hl => ?_)
      refine lv_aload_n hx hb dL_law_2648 rfl (lv_at hl 4 rfl) ?_
      refine lv_aload_n hx hb dL_law_2649 rfl (lv_at hl 6 rfl) ?_
      refine lv_iload hx hb dL_law_2650 (lv_at hl 1 rfl) ?_
      refine lv_iconst (v := 1) hx hb dL_law_2652 (by decide) ?_
      refine lv_iadd hx hb dL_law_2653 ?_
      refine tp_i 1 (by decide) ?_
      refine va_sld hx hb hX hbl hbA hS (by unfold vp_in; decide) dL_law_2654 ?_
      refine tp_i x1 e1 ?_
      refine lv_aload_n hx hb dL_law_2655 rfl (lv_at hl 6 rfl) ?_
      refine lv_iload hx hb dL_law_2656 (lv_at hl 1 rfl) ?_
      refine lv_iconst (v := 2) hx hb dL_law_2658 (by decide) ?_
      refine lv_iadd hx hb dL_law_2659 ?_
      refine tp_i 2 (by decide) ?_
      refine va_sld hx hb hX hbl hbA hS (by unfold vp_in; decide) dL_law_2660 ?_
      refine tp_i x2 e2 ?_
      refine lv_aload_n hx hb dL_law_2661 rfl (lv_at hl 6 rfl) ?_
      refine lv_iload hx hb dL_law_2662 (lv_at hl 1 rfl) ?_
      refine lv_iconst (v := 3) hx hb dL_law_2664 (by decide) ?_
      refine lv_iadd hx hb dL_law_2665 ?_
      refine tp_i 3 (by decide) ?_
      refine va_sld hx hb hX hbl hbA hS (by unfold vp_in; decide) dL_law_2666 ?_
      refine tp_i x3 e3 ?_
      refine lv_aload_n hx hb dL_law_2667 rfl (lv_at hl 6 rfl) ?_
      refine lv_iload hx hb dL_law_2668 (lv_at hl 1 rfl) ?_
      refine lv_iconst (v := 4) hx hb dL_law_2670 (by decide) ?_
      refine lv_iadd hx hb dL_law_2671 ?_
      refine tp_i 4 (by decide) ?_
      refine va_sld hx hb hX hbl hbA hS (by unfold vp_in; decide) dL_law_2672 ?_
      refine tp_i x4 e4 ?_
      refine ca_i (isC := [0]) (isR := [1]) (wr := [(aj, .inl (cy 2, 1, .inr (.inl (fun _ => 0))))]) (rn_V (ci := 15) (q0 := 0) (isC := [0]) (wc := [(am, .inr (15, [.int 0, .ref (ma 0), .int 0, .int 0, .int 0, .int 0, .ref (ma 1), .ref (ma 2), .null, .int 1, .int 10, .int 900, .ref (ma 3), .ref (ma 4), .int 0, .int 0, .int 0, .ref (ma 5), .int 1000, .int 50, .int 50, .int 1000, .int 10, .int 0, .int 3000, .int 0, .int 0, .int 0]))]) (As := [.int x1, .int x2, .int x3, .int x4]) (rest := []) (n := 4) hx hb hml hown hts hE hS hP hD hA hl.1 (k632_X10_claim l D cy g x1 x2 x3 x4 am (.int 0) (.ref (ma 0)) (.int 0) (.int 0) (.int 0) (.int 0) (.ref (ma 1)) (.ref (ma 2)) (.null) (.int 1) (.int 10) (.int 900) (.ref (ma 3)) (.ref (ma 4)) (.int 0) (.int 0) (.int 0) (.ref (ma 5)) (.int 1000) (.int 50) (.int 50) (.int 1000) (.int 10) (.int 0) (.int 3000) (.int 0) (.int 0) (.int 0) H.size c1) rfl rfl rfl rfl rfl ax_450 rfl rfl ax_451 ⟨Nat.le_of_ble_eq_true rfl, Nat.le_of_ble_eq_true rfl⟩ rfl rfl (Nat.le_of_ble_eq_true rfl) dL_law_2673 ⟨(Nat.le_of_ble_eq_true rfl), (Nat.le_of_ble_eq_true rfl)⟩) hP hD hS hA rfl rfl rfl (by decide) (fun ad2673 H locs hP hD hS => ?_)
      have hP : va_P D vwCl [(aj, .inl (cy 2, 1, .inr (.inl (fun _ => 0)))), (am, .inr (15, [.int 1, .ref (ma 0), .int 0, .int 0, .int 0, .int 0, .ref (ma 1), .ref (ma 2), .null, .int 1, .int 10, .int 900, .ref (ma 3), .ref (ma 4), .int 0, .int 0, .int 0, .ref (ma 5), .int 1000, .int 50, .int 50, .int 1000, .int 10, .int 0, .int 3000, .int 0, .int 0, .int 0]))] H := hP
      have hD : va_D (AL s) [(aj, .inl (cy 2, 1, .inr (.inl (fun _ => 0)))), (am, .inr (15, [.int 1, .ref (ma 0), .int 0, .int 0, .int 0, .int 0, .ref (ma 1), .ref (ma 2), .null, .int 1, .int 10, .int 900, .ref (ma 3), .ref (ma 4), .int 0, .int 0, .int 0, .ref (ma 5), .int 1000, .int 50, .int 50, .int 1000, .int 10, .int 0, .int 3000, .int 0, .int 0, .int 0]))] := hD
      refine lv_istore (lv' := [(7, .int 32), (6, .int 1), (5, .int 0), (4, .ref ao), (3, .ref aj), (2, .ref am), (1, .ref ax), (0, .ref b)]) hx hb dL_law_2676 hl (Nat.le_of_ble_eq_true rfl) rfl (fun ls hl => ?_)
      refine lv_aload_n hx hb dL_law_2678 rfl (lv_at hl 5 rfl) ?_
      refine ca_i (isC := [1]) (isR := [0]) (wr := [(aj, .inl (cy 2, 1, .inr (.inl (fun _ => 0))))]) (rn_V (ci := 15) (q0 := 1) (isC := [1]) (wc := [(am, .inr (15, [.int 1, .ref (ma 0), .int 0, .int 0, .int 0, .int 0, .ref (ma 1), .ref (ma 2), .null, .int 1, .int 10, .int 900, .ref (ma 3), .ref (ma 4), .int 0, .int 0, .int 0, .ref (ma 5), .int 1000, .int 50, .int 50, .int 1000, .int 10, .int 0, .int 3000, .int 0, .int 0, .int 0]))]) (As := []) (rest := []) (n := 0) hx hb hml hown hts hE hS hP hD hA hl.1 (k24_X10_thrown l D cy g am (.ref (ma 0)) (.int 0) (.int 0) (.int 0) (.int 0) (.ref (ma 1)) (.ref (ma 2)) (.null) (.int 1) (.int 10) (.int 900) (.ref (ma 3)) (.ref (ma 4)) (.int 0) (.int 0) (.int 0) (.ref (ma 5)) (.int 1000) (.int 50) (.int 50) (.int 1000) (.int 10) (.int 0) (.int 3000) (.int 0) (.int 0) (.int 0) H.size ) rfl rfl rfl rfl rfl ax_45 rfl rfl ax_46 ⟨Nat.le_of_ble_eq_true rfl, Nat.le_of_ble_eq_true rfl⟩ rfl rfl (Nat.le_of_ble_eq_true rfl) dL_law_2679 ⟨(Nat.le_of_ble_eq_true rfl), (Nat.le_of_ble_eq_true rfl)⟩) hP hD hS hA rfl rfl rfl (by decide) (fun ad2679 H locs hP hD hS => ?_)
      have hP : va_P D vwCl [(aj, .inl (cy 2, 1, .inr (.inl (fun _ => 0)))), (am, .inr (15, [.int 1, .ref (ma 0), .int 0, .int 0, .int 0, .int 0, .ref (ma 1), .ref (ma 2), .null, .int 1, .int 10, .int 900, .ref (ma 3), .ref (ma 4), .int 0, .int 0, .int 0, .ref (ma 5), .int 1000, .int 50, .int 50, .int 1000, .int 10, .int 0, .int 3000, .int 0, .int 0, .int 0]))] H := hP
      have hD : va_D (AL s) [(aj, .inl (cy 2, 1, .inr (.inl (fun _ => 0)))), (am, .inr (15, [.int 1, .ref (ma 0), .int 0, .int 0, .int 0, .int 0, .ref (ma 1), .ref (ma 2), .null, .int 1, .int 10, .int 900, .ref (ma 3), .ref (ma 4), .int 0, .int 0, .int 0, .ref (ma 5), .int 1000, .int 50, .int 50, .int 1000, .int 10, .int 0, .int 3000, .int 0, .int 0, .int 0]))] := hD
      refine lv_iload hx hb dL_law_2682 (lv_at hl 1 rfl) ?_
      refine lv_icmp_eq (tgt := 2689) hx hb dL_law_2684 (by decide) (fun _ => ?_) (fun z => absurd (by decide) z)
      refine lv_iload hx hb dL_law_2689 (lv_at hl 1 rfl) ?_
      refine lv_if_ne (tgt := 2706) hx hb dL_law_2691 (by decide) (fun _ => ?_) (fun z => absurd z (by decide))
      refine lv_goto (tgt := 2947) hx hb dL_law_2706 (by decide) ?_
      exact law_tail LC hS (Nat.le_of_ble_eq_true rfl) (Nat.le_of_ble_eq_true rfl) (lv_sub hl [2, 7] rfl)
    · by_cases c2 : (200000 : Int32) < x4
      · refine lv_aload_n hx hb dL_law_2617 rfl (lv_at hl 4 rfl) ?_
        refine lv_aload_n hx hb dL_law_2618 rfl (lv_at hl 5 rfl) ?_
        refine lv_iload hx hb dL_law_2619 (lv_at hl 0 rfl) ?_
        refine lv_iconst (v := 1) hx hb dL_law_2621 (by decide) ?_
        refine lv_iadd hx hb dL_law_2622 ?_
        refine tp_i 1 (by decide) ?_
        refine va_sld hx hb hX hbl hbA hS (by unfold vp_in; decide) dL_law_2623 ?_
        refine tp_i x1 e1 ?_
        refine lv_aload_n hx hb dL_law_2624 rfl (lv_at hl 5 rfl) ?_
        refine lv_iload hx hb dL_law_2625 (lv_at hl 0 rfl) ?_
        refine lv_iconst (v := 2) hx hb dL_law_2627 (by decide) ?_
        refine lv_iadd hx hb dL_law_2628 ?_
        refine tp_i 2 (by decide) ?_
        refine va_sld hx hb hX hbl hbA hS (by unfold vp_in; decide) dL_law_2629 ?_
        refine tp_i x2 e2 ?_
        refine lv_aload_n hx hb dL_law_2630 rfl (lv_at hl 5 rfl) ?_
        refine lv_iload hx hb dL_law_2631 (lv_at hl 0 rfl) ?_
        refine lv_iconst (v := 3) hx hb dL_law_2633 (by decide) ?_
        refine lv_iadd hx hb dL_law_2634 ?_
        refine tp_i 3 (by decide) ?_
        refine va_sld hx hb hX hbl hbA hS (by unfold vp_in; decide) dL_law_2635 ?_
        refine tp_i x3 e3 ?_
        refine lv_aload_n hx hb dL_law_2636 rfl (lv_at hl 5 rfl) ?_
        refine lv_iload hx hb dL_law_2637 (lv_at hl 0 rfl) ?_
        refine lv_iconst (v := 4) hx hb dL_law_2639 (by decide) ?_
        refine lv_iadd hx hb dL_law_2640 ?_
        refine tp_i 4 (by decide) ?_
        refine va_sld hx hb hX hbl hbA hS (by unfold vp_in; decide) dL_law_2641 ?_
        refine tp_i x4 e4 ?_
        refine lv_aload_n hx hb dL_law_2642 rfl (lv_at hl 2 rfl) ?_
        refine ca_i (isC := [0]) (isR := [1, 2]) (wr := [(am, .inr (15, [.int 0, .ref (ma 0), .int 0, .int 0, .int 0, .int 0, .ref (ma 1), .ref (ma 2), .null, .int 1, .int 10, .int 900, .ref (ma 3), .ref (ma 4), .int 0, .int 0, .int 0, .ref (ma 5), .int 1000, .int 50, .int 50, .int 1000, .int 10, .int 0, .int 3000, .int 0, .int 0, .int 0])), (aj, .inl (cy 2, 1, .inr (.inl (fun _ => 0))))]) (rn_SW (isC := [0]) (wc := [(ax, .inr (14, [.ref (xa 0), .ref (xa 13), .ref (xa 18), .ref (xa 34), .ref (xa 45), .ref (xa 49), .ref (xa 50)]))]) (As := [.ref ax, .int x1, .int x2, .int x3, .int x4, .ref aj]) (rest := []) (n := 6) hx hb hml hown hts hE hS hP hD hA hl.1 (k631_L_claim l hst D cy g x1 x2 x3 x4 ax aj (.ref (xa 0)) (.ref (xa 13)) (.ref (xa 18)) (.ref (xa 34)) (.ref (xa 45)) (.ref (xa 49)) (.ref (xa 50)) H.size c0) rfl rfl ax_448 rfl rfl ax_449 ⟨Nat.le_of_ble_eq_true rfl, Nat.le_of_ble_eq_true rfl⟩ rfl rfl (Nat.le_of_ble_eq_true rfl) dL_law_2643 ⟨(Nat.le_of_ble_eq_true rfl), (Nat.le_of_ble_eq_true rfl)⟩) hP hD hS hA rfl rfl rfl (by decide) (fun ad2643 H locs hP hD hS => ?_)
        have hP : va_P D vwCl [(am, .inr (15, [.int 0, .ref (ma 0), .int 0, .int 0, .int 0, .int 0, .ref (ma 1), .ref (ma 2), .null, .int 1, .int 10, .int 900, .ref (ma 3), .ref (ma 4), .int 0, .int 0, .int 0, .ref (ma 5), .int 1000, .int 50, .int 50, .int 1000, .int 10, .int 0, .int 3000, .int 0, .int 0, .int 0])), (aj, .inl (cy 2, 1, .inr (.inl (fun _ => 0))))] H := hP
        have hD : va_D (AL s) [(am, .inr (15, [.int 0, .ref (ma 0), .int 0, .int 0, .int 0, .int 0, .ref (ma 1), .ref (ma 2), .null, .int 1, .int 10, .int 900, .ref (ma 3), .ref (ma 4), .int 0, .int 0, .int 0, .ref (ma 5), .int 1000, .int 50, .int 50, .int 1000, .int 10, .int 0, .int 3000, .int 0, .int 0, .int 0])), (aj, .inl (cy 2, 1, .inr (.inl (fun _ => 0))))] := hD
        refine lv_istore (lv' := [(6, .int 1), (5, .int 0), (4, .ref ao), (3, .ref aj), (2, .ref am), (1, .ref ax), (0, .ref b)]) hx hb dL_law_2646 hl (Nat.le_of_ble_eq_true rfl) rfl (fun ls hl => ?_)
        refine lv_aload_n hx hb dL_law_2648 rfl (lv_at hl 4 rfl) ?_
        refine lv_aload_n hx hb dL_law_2649 rfl (lv_at hl 6 rfl) ?_
        refine lv_iload hx hb dL_law_2650 (lv_at hl 1 rfl) ?_
        refine lv_iconst (v := 1) hx hb dL_law_2652 (by decide) ?_
        refine lv_iadd hx hb dL_law_2653 ?_
        refine tp_i 1 (by decide) ?_
        refine va_sld hx hb hX hbl hbA hS (by unfold vp_in; decide) dL_law_2654 ?_
        refine tp_i x1 e1 ?_
        refine lv_aload_n hx hb dL_law_2655 rfl (lv_at hl 6 rfl) ?_
        refine lv_iload hx hb dL_law_2656 (lv_at hl 1 rfl) ?_
        refine lv_iconst (v := 2) hx hb dL_law_2658 (by decide) ?_
        refine lv_iadd hx hb dL_law_2659 ?_
        refine tp_i 2 (by decide) ?_
        refine va_sld hx hb hX hbl hbA hS (by unfold vp_in; decide) dL_law_2660 ?_
        refine tp_i x2 e2 ?_
        refine lv_aload_n hx hb dL_law_2661 rfl (lv_at hl 6 rfl) ?_
        refine lv_iload hx hb dL_law_2662 (lv_at hl 1 rfl) ?_
        refine lv_iconst (v := 3) hx hb dL_law_2664 (by decide) ?_
        refine lv_iadd hx hb dL_law_2665 ?_
        refine tp_i 3 (by decide) ?_
        refine va_sld hx hb hX hbl hbA hS (by unfold vp_in; decide) dL_law_2666 ?_
        refine tp_i x3 e3 ?_
        refine lv_aload_n hx hb dL_law_2667 rfl (lv_at hl 6 rfl) ?_
        refine lv_iload hx hb dL_law_2668 (lv_at hl 1 rfl) ?_
        refine lv_iconst (v := 4) hx hb dL_law_2670 (by decide) ?_
        refine lv_iadd hx hb dL_law_2671 ?_
        refine tp_i 4 (by decide) ?_
        refine va_sld hx hb hX hbl hbA hS (by unfold vp_in; decide) dL_law_2672 ?_
        refine tp_i x4 e4 ?_
        refine ca_i (isC := [0]) (isR := [1]) (wr := [(aj, .inl (cy 2, 1, .inr (.inl (fun _ => 0))))]) (rn_V (ci := 15) (q0 := 0) (isC := [0]) (wc := [(am, .inr (15, [.int 0, .ref (ma 0), .int 0, .int 0, .int 0, .int 0, .ref (ma 1), .ref (ma 2), .null, .int 1, .int 10, .int 900, .ref (ma 3), .ref (ma 4), .int 0, .int 0, .int 0, .ref (ma 5), .int 1000, .int 50, .int 50, .int 1000, .int 10, .int 0, .int 3000, .int 0, .int 0, .int 0]))]) (As := [.int x1, .int x2, .int x3, .int x4]) (rest := []) (n := 4) hx hb hml hown hts hE hS hP hD hA hl.1 (k633_X10_claim l D cy g x1 x2 x3 x4 am (.int 0) (.ref (ma 0)) (.int 0) (.int 0) (.int 0) (.int 0) (.ref (ma 1)) (.ref (ma 2)) (.null) (.int 1) (.int 10) (.int 900) (.ref (ma 3)) (.ref (ma 4)) (.int 0) (.int 0) (.int 0) (.ref (ma 5)) (.int 1000) (.int 50) (.int 50) (.int 1000) (.int 10) (.int 0) (.int 3000) (.int 0) (.int 0) (.int 0) H.size c1 c2) rfl rfl rfl rfl rfl ax_450 rfl rfl ax_451 ⟨Nat.le_of_ble_eq_true rfl, Nat.le_of_ble_eq_true rfl⟩ rfl rfl (Nat.le_of_ble_eq_true rfl) dL_law_2673 ⟨(Nat.le_of_ble_eq_true rfl), (Nat.le_of_ble_eq_true rfl)⟩) hP hD hS hA rfl rfl rfl (by decide) (fun ad2673 H locs hP hD hS => ?_)
        have hP : va_P D vwCl [(aj, .inl (cy 2, 1, .inr (.inl (fun _ => 0)))), (am, .inr (15, [.int 1, .ref (ma 0), .int 0, .int 0, .int 0, .int 0, .ref (ma 1), .ref (ma 2), .null, .int 1, .int 10, .int 900, .ref (ma 3), .ref (ma 4), .int 0, .int 0, .int 0, .ref (ma 5), .int 1000, .int 50, .int 50, .int 1000, .int 10, .int 0, .int 3000, .int 0, .int 0, .int 0]))] H := hP
        have hD : va_D (AL s) [(aj, .inl (cy 2, 1, .inr (.inl (fun _ => 0)))), (am, .inr (15, [.int 1, .ref (ma 0), .int 0, .int 0, .int 0, .int 0, .ref (ma 1), .ref (ma 2), .null, .int 1, .int 10, .int 900, .ref (ma 3), .ref (ma 4), .int 0, .int 0, .int 0, .ref (ma 5), .int 1000, .int 50, .int 50, .int 1000, .int 10, .int 0, .int 3000, .int 0, .int 0, .int 0]))] := hD
        refine lv_istore (lv' := [(7, .int 32), (6, .int 1), (5, .int 0), (4, .ref ao), (3, .ref aj), (2, .ref am), (1, .ref ax), (0, .ref b)]) hx hb dL_law_2676 hl (Nat.le_of_ble_eq_true rfl) rfl (fun ls hl => ?_)
        refine lv_aload_n hx hb dL_law_2678 rfl (lv_at hl 5 rfl) ?_
        refine ca_i (isC := [1]) (isR := [0]) (wr := [(aj, .inl (cy 2, 1, .inr (.inl (fun _ => 0))))]) (rn_V (ci := 15) (q0 := 1) (isC := [1]) (wc := [(am, .inr (15, [.int 1, .ref (ma 0), .int 0, .int 0, .int 0, .int 0, .ref (ma 1), .ref (ma 2), .null, .int 1, .int 10, .int 900, .ref (ma 3), .ref (ma 4), .int 0, .int 0, .int 0, .ref (ma 5), .int 1000, .int 50, .int 50, .int 1000, .int 10, .int 0, .int 3000, .int 0, .int 0, .int 0]))]) (As := []) (rest := []) (n := 0) hx hb hml hown hts hE hS hP hD hA hl.1 (k24_X10_thrown l D cy g am (.ref (ma 0)) (.int 0) (.int 0) (.int 0) (.int 0) (.ref (ma 1)) (.ref (ma 2)) (.null) (.int 1) (.int 10) (.int 900) (.ref (ma 3)) (.ref (ma 4)) (.int 0) (.int 0) (.int 0) (.ref (ma 5)) (.int 1000) (.int 50) (.int 50) (.int 1000) (.int 10) (.int 0) (.int 3000) (.int 0) (.int 0) (.int 0) H.size ) rfl rfl rfl rfl rfl ax_45 rfl rfl ax_46 ⟨Nat.le_of_ble_eq_true rfl, Nat.le_of_ble_eq_true rfl⟩ rfl rfl (Nat.le_of_ble_eq_true rfl) dL_law_2679 ⟨(Nat.le_of_ble_eq_true rfl), (Nat.le_of_ble_eq_true rfl)⟩) hP hD hS hA rfl rfl rfl (by decide) (fun ad2679 H locs hP hD hS => ?_)
        have hP : va_P D vwCl [(aj, .inl (cy 2, 1, .inr (.inl (fun _ => 0)))), (am, .inr (15, [.int 1, .ref (ma 0), .int 0, .int 0, .int 0, .int 0, .ref (ma 1), .ref (ma 2), .null, .int 1, .int 10, .int 900, .ref (ma 3), .ref (ma 4), .int 0, .int 0, .int 0, .ref (ma 5), .int 1000, .int 50, .int 50, .int 1000, .int 10, .int 0, .int 3000, .int 0, .int 0, .int 0]))] H := hP
        have hD : va_D (AL s) [(aj, .inl (cy 2, 1, .inr (.inl (fun _ => 0)))), (am, .inr (15, [.int 1, .ref (ma 0), .int 0, .int 0, .int 0, .int 0, .ref (ma 1), .ref (ma 2), .null, .int 1, .int 10, .int 900, .ref (ma 3), .ref (ma 4), .int 0, .int 0, .int 0, .ref (ma 5), .int 1000, .int 50, .int 50, .int 1000, .int 10, .int 0, .int 3000, .int 0, .int 0, .int 0]))] := hD
        refine lv_iload hx hb dL_law_2682 (lv_at hl 1 rfl) ?_
        refine lv_icmp_eq (tgt := 2689) hx hb dL_law_2684 (by decide) (fun _ => ?_) (fun z => absurd (by decide) z)
        refine lv_iload hx hb dL_law_2689 (lv_at hl 1 rfl) ?_
        refine lv_if_ne (tgt := 2706) hx hb dL_law_2691 (by decide) (fun _ => ?_) (fun z => absurd z (by decide))
        refine lv_goto (tgt := 2947) hx hb dL_law_2706 (by decide) ?_
        exact law_tail LC hS (Nat.le_of_ble_eq_true rfl) (Nat.le_of_ble_eq_true rfl) (lv_sub hl [2, 7] rfl)
      · refine lv_aload_n hx hb dL_law_2617 rfl (lv_at hl 4 rfl) ?_
        refine lv_aload_n hx hb dL_law_2618 rfl (lv_at hl 5 rfl) ?_
        refine lv_iload hx hb dL_law_2619 (lv_at hl 0 rfl) ?_
        refine lv_iconst (v := 1) hx hb dL_law_2621 (by decide) ?_
        refine lv_iadd hx hb dL_law_2622 ?_
        refine tp_i 1 (by decide) ?_
        refine va_sld hx hb hX hbl hbA hS (by unfold vp_in; decide) dL_law_2623 ?_
        refine tp_i x1 e1 ?_
        refine lv_aload_n hx hb dL_law_2624 rfl (lv_at hl 5 rfl) ?_
        refine lv_iload hx hb dL_law_2625 (lv_at hl 0 rfl) ?_
        refine lv_iconst (v := 2) hx hb dL_law_2627 (by decide) ?_
        refine lv_iadd hx hb dL_law_2628 ?_
        refine tp_i 2 (by decide) ?_
        refine va_sld hx hb hX hbl hbA hS (by unfold vp_in; decide) dL_law_2629 ?_
        refine tp_i x2 e2 ?_
        refine lv_aload_n hx hb dL_law_2630 rfl (lv_at hl 5 rfl) ?_
        refine lv_iload hx hb dL_law_2631 (lv_at hl 0 rfl) ?_
        refine lv_iconst (v := 3) hx hb dL_law_2633 (by decide) ?_
        refine lv_iadd hx hb dL_law_2634 ?_
        refine tp_i 3 (by decide) ?_
        refine va_sld hx hb hX hbl hbA hS (by unfold vp_in; decide) dL_law_2635 ?_
        refine tp_i x3 e3 ?_
        refine lv_aload_n hx hb dL_law_2636 rfl (lv_at hl 5 rfl) ?_
        refine lv_iload hx hb dL_law_2637 (lv_at hl 0 rfl) ?_
        refine lv_iconst (v := 4) hx hb dL_law_2639 (by decide) ?_
        refine lv_iadd hx hb dL_law_2640 ?_
        refine tp_i 4 (by decide) ?_
        refine va_sld hx hb hX hbl hbA hS (by unfold vp_in; decide) dL_law_2641 ?_
        refine tp_i x4 e4 ?_
        refine lv_aload_n hx hb dL_law_2642 rfl (lv_at hl 2 rfl) ?_
        refine ca_i (isC := [0]) (isR := [1, 2]) (wr := [(am, .inr (15, [.int 0, .ref (ma 0), .int 0, .int 0, .int 0, .int 0, .ref (ma 1), .ref (ma 2), .null, .int 1, .int 10, .int 900, .ref (ma 3), .ref (ma 4), .int 0, .int 0, .int 0, .ref (ma 5), .int 1000, .int 50, .int 50, .int 1000, .int 10, .int 0, .int 3000, .int 0, .int 0, .int 0])), (aj, .inl (cy 2, 1, .inr (.inl (fun _ => 0))))]) (rn_SW (isC := [0]) (wc := [(ax, .inr (14, [.ref (xa 0), .ref (xa 13), .ref (xa 18), .ref (xa 34), .ref (xa 45), .ref (xa 49), .ref (xa 50)]))]) (As := [.ref ax, .int x1, .int x2, .int x3, .int x4, .ref aj]) (rest := []) (n := 6) hx hb hml hown hts hE hS hP hD hA hl.1 (k631_L_claim l hst D cy g x1 x2 x3 x4 ax aj (.ref (xa 0)) (.ref (xa 13)) (.ref (xa 18)) (.ref (xa 34)) (.ref (xa 45)) (.ref (xa 49)) (.ref (xa 50)) H.size c0) rfl rfl ax_448 rfl rfl ax_449 ⟨Nat.le_of_ble_eq_true rfl, Nat.le_of_ble_eq_true rfl⟩ rfl rfl (Nat.le_of_ble_eq_true rfl) dL_law_2643 ⟨(Nat.le_of_ble_eq_true rfl), (Nat.le_of_ble_eq_true rfl)⟩) hP hD hS hA rfl rfl rfl (by decide) (fun ad2643 H locs hP hD hS => ?_)
        have hP : va_P D vwCl [(am, .inr (15, [.int 0, .ref (ma 0), .int 0, .int 0, .int 0, .int 0, .ref (ma 1), .ref (ma 2), .null, .int 1, .int 10, .int 900, .ref (ma 3), .ref (ma 4), .int 0, .int 0, .int 0, .ref (ma 5), .int 1000, .int 50, .int 50, .int 1000, .int 10, .int 0, .int 3000, .int 0, .int 0, .int 0])), (aj, .inl (cy 2, 1, .inr (.inl (fun _ => 0))))] H := hP
        have hD : va_D (AL s) [(am, .inr (15, [.int 0, .ref (ma 0), .int 0, .int 0, .int 0, .int 0, .ref (ma 1), .ref (ma 2), .null, .int 1, .int 10, .int 900, .ref (ma 3), .ref (ma 4), .int 0, .int 0, .int 0, .ref (ma 5), .int 1000, .int 50, .int 50, .int 1000, .int 10, .int 0, .int 3000, .int 0, .int 0, .int 0])), (aj, .inl (cy 2, 1, .inr (.inl (fun _ => 0))))] := hD
        refine lv_istore (lv' := [(6, .int 1), (5, .int 0), (4, .ref ao), (3, .ref aj), (2, .ref am), (1, .ref ax), (0, .ref b)]) hx hb dL_law_2646 hl (Nat.le_of_ble_eq_true rfl) rfl (fun ls hl => ?_)
        refine lv_aload_n hx hb dL_law_2648 rfl (lv_at hl 4 rfl) ?_
        refine lv_aload_n hx hb dL_law_2649 rfl (lv_at hl 6 rfl) ?_
        refine lv_iload hx hb dL_law_2650 (lv_at hl 1 rfl) ?_
        refine lv_iconst (v := 1) hx hb dL_law_2652 (by decide) ?_
        refine lv_iadd hx hb dL_law_2653 ?_
        refine tp_i 1 (by decide) ?_
        refine va_sld hx hb hX hbl hbA hS (by unfold vp_in; decide) dL_law_2654 ?_
        refine tp_i x1 e1 ?_
        refine lv_aload_n hx hb dL_law_2655 rfl (lv_at hl 6 rfl) ?_
        refine lv_iload hx hb dL_law_2656 (lv_at hl 1 rfl) ?_
        refine lv_iconst (v := 2) hx hb dL_law_2658 (by decide) ?_
        refine lv_iadd hx hb dL_law_2659 ?_
        refine tp_i 2 (by decide) ?_
        refine va_sld hx hb hX hbl hbA hS (by unfold vp_in; decide) dL_law_2660 ?_
        refine tp_i x2 e2 ?_
        refine lv_aload_n hx hb dL_law_2661 rfl (lv_at hl 6 rfl) ?_
        refine lv_iload hx hb dL_law_2662 (lv_at hl 1 rfl) ?_
        refine lv_iconst (v := 3) hx hb dL_law_2664 (by decide) ?_
        refine lv_iadd hx hb dL_law_2665 ?_
        refine tp_i 3 (by decide) ?_
        refine va_sld hx hb hX hbl hbA hS (by unfold vp_in; decide) dL_law_2666 ?_
        refine tp_i x3 e3 ?_
        refine lv_aload_n hx hb dL_law_2667 rfl (lv_at hl 6 rfl) ?_
        refine lv_iload hx hb dL_law_2668 (lv_at hl 1 rfl) ?_
        refine lv_iconst (v := 4) hx hb dL_law_2670 (by decide) ?_
        refine lv_iadd hx hb dL_law_2671 ?_
        refine tp_i 4 (by decide) ?_
        refine va_sld hx hb hX hbl hbA hS (by unfold vp_in; decide) dL_law_2672 ?_
        refine tp_i x4 e4 ?_
        refine ca_i (isC := [0]) (isR := [1]) (wr := [(aj, .inl (cy 2, 1, .inr (.inl (fun _ => 0))))]) (rn_V (ci := 15) (q0 := 0) (isC := [0]) (wc := [(am, .inr (15, [.int 0, .ref (ma 0), .int 0, .int 0, .int 0, .int 0, .ref (ma 1), .ref (ma 2), .null, .int 1, .int 10, .int 900, .ref (ma 3), .ref (ma 4), .int 0, .int 0, .int 0, .ref (ma 5), .int 1000, .int 50, .int 50, .int 1000, .int 10, .int 0, .int 3000, .int 0, .int 0, .int 0]))]) (As := [.int x1, .int x2, .int x3, .int x4]) (rest := []) (n := 4) hx hb hml hown hts hE hS hP hD hA hl.1 (k635_X10_claim l D cy g x1 x2 x3 x4 am (.int 0) (.ref (ma 0)) (.int 0) (.int 0) (.int 0) (.int 0) (.ref (ma 1)) (.ref (ma 2)) (.null) (.int 1) (.int 10) (.int 900) (.ref (ma 3)) (.ref (ma 4)) (.int 0) (.int 0) (.int 0) (.ref (ma 5)) (.int 1000) (.int 50) (.int 50) (.int 1000) (.int 10) (.int 0) (.int 3000) (.int 0) (.int 0) (.int 0) H.size c1 c2 c0) rfl rfl rfl rfl rfl ax_450 rfl rfl ax_451 ⟨Nat.le_of_ble_eq_true rfl, Nat.le_of_ble_eq_true rfl⟩ rfl rfl (Nat.le_of_ble_eq_true rfl) dL_law_2673 ⟨(Nat.le_of_ble_eq_true rfl), (Nat.le_of_ble_eq_true rfl)⟩) hP hD hS hA rfl rfl rfl (by decide) (fun ad2673 H locs hP hD hS => ?_)
        have hP : va_P D vwCl [(aj, .inl (cy 2, 1, .inr (.inl (fun _ => 0)))), (am, .inr (15, [.int 1, .ref (ma 0), .int 0, .int 0, .int 0, .int 0, .ref (ma 1), .ref (ma 2), .null, .int 1, .int 10, .int 900, .ref (ma 3), .ref (ma 4), .int 0, .int 0, .int 0, .ref (ma 5), .int 1000, .int 50, .int 50, .int 1000, .int 10, .int 0, .int 3000, .int 0, .int 0, .int 0]))] H := hP
        have hD : va_D (AL s) [(aj, .inl (cy 2, 1, .inr (.inl (fun _ => 0)))), (am, .inr (15, [.int 1, .ref (ma 0), .int 0, .int 0, .int 0, .int 0, .ref (ma 1), .ref (ma 2), .null, .int 1, .int 10, .int 900, .ref (ma 3), .ref (ma 4), .int 0, .int 0, .int 0, .ref (ma 5), .int 1000, .int 50, .int 50, .int 1000, .int 10, .int 0, .int 3000, .int 0, .int 0, .int 0]))] := hD
        refine lv_istore (lv' := [(7, .int 32), (6, .int 1), (5, .int 0), (4, .ref ao), (3, .ref aj), (2, .ref am), (1, .ref ax), (0, .ref b)]) hx hb dL_law_2676 hl (Nat.le_of_ble_eq_true rfl) rfl (fun ls hl => ?_)
        refine lv_aload_n hx hb dL_law_2678 rfl (lv_at hl 5 rfl) ?_
        refine ca_i (isC := [1]) (isR := [0]) (wr := [(aj, .inl (cy 2, 1, .inr (.inl (fun _ => 0))))]) (rn_V (ci := 15) (q0 := 1) (isC := [1]) (wc := [(am, .inr (15, [.int 1, .ref (ma 0), .int 0, .int 0, .int 0, .int 0, .ref (ma 1), .ref (ma 2), .null, .int 1, .int 10, .int 900, .ref (ma 3), .ref (ma 4), .int 0, .int 0, .int 0, .ref (ma 5), .int 1000, .int 50, .int 50, .int 1000, .int 10, .int 0, .int 3000, .int 0, .int 0, .int 0]))]) (As := []) (rest := []) (n := 0) hx hb hml hown hts hE hS hP hD hA hl.1 (k24_X10_thrown l D cy g am (.ref (ma 0)) (.int 0) (.int 0) (.int 0) (.int 0) (.ref (ma 1)) (.ref (ma 2)) (.null) (.int 1) (.int 10) (.int 900) (.ref (ma 3)) (.ref (ma 4)) (.int 0) (.int 0) (.int 0) (.ref (ma 5)) (.int 1000) (.int 50) (.int 50) (.int 1000) (.int 10) (.int 0) (.int 3000) (.int 0) (.int 0) (.int 0) H.size ) rfl rfl rfl rfl rfl ax_45 rfl rfl ax_46 ⟨Nat.le_of_ble_eq_true rfl, Nat.le_of_ble_eq_true rfl⟩ rfl rfl (Nat.le_of_ble_eq_true rfl) dL_law_2679 ⟨(Nat.le_of_ble_eq_true rfl), (Nat.le_of_ble_eq_true rfl)⟩) hP hD hS hA rfl rfl rfl (by decide) (fun ad2679 H locs hP hD hS => ?_)
        have hP : va_P D vwCl [(aj, .inl (cy 2, 1, .inr (.inl (fun _ => 0)))), (am, .inr (15, [.int 1, .ref (ma 0), .int 0, .int 0, .int 0, .int 0, .ref (ma 1), .ref (ma 2), .null, .int 1, .int 10, .int 900, .ref (ma 3), .ref (ma 4), .int 0, .int 0, .int 0, .ref (ma 5), .int 1000, .int 50, .int 50, .int 1000, .int 10, .int 0, .int 3000, .int 0, .int 0, .int 0]))] H := hP
        have hD : va_D (AL s) [(aj, .inl (cy 2, 1, .inr (.inl (fun _ => 0)))), (am, .inr (15, [.int 1, .ref (ma 0), .int 0, .int 0, .int 0, .int 0, .ref (ma 1), .ref (ma 2), .null, .int 1, .int 10, .int 900, .ref (ma 3), .ref (ma 4), .int 0, .int 0, .int 0, .ref (ma 5), .int 1000, .int 50, .int 50, .int 1000, .int 10, .int 0, .int 3000, .int 0, .int 0, .int 0]))] := hD
        refine lv_iload hx hb dL_law_2682 (lv_at hl 1 rfl) ?_
        refine lv_icmp_eq (tgt := 2689) hx hb dL_law_2684 (by decide) (fun _ => ?_) (fun z => absurd (by decide) z)
        refine lv_iload hx hb dL_law_2689 (lv_at hl 1 rfl) ?_
        refine lv_if_ne (tgt := 2706) hx hb dL_law_2691 (by decide) (fun _ => ?_) (fun z => absurd z (by decide))
        refine lv_goto (tgt := 2947) hx hb dL_law_2706 (by decide) ?_
        exact law_tail LC hS (Nat.le_of_ble_eq_true rfl) (Nat.le_of_ble_eq_true rfl) (lv_sub hl [2, 7] rfl)
  · by_cases c1 : (100000 : Int32) < x1
    · by_cases c2 : x4 < 0
      · refine lv_aload_n hx hb dL_law_2617 rfl (lv_at hl 4 rfl) ?_
        refine lv_aload_n hx hb dL_law_2618 rfl (lv_at hl 5 rfl) ?_
        refine lv_iload hx hb dL_law_2619 (lv_at hl 0 rfl) ?_
        refine lv_iconst (v := 1) hx hb dL_law_2621 (by decide) ?_
        refine lv_iadd hx hb dL_law_2622 ?_
        refine tp_i 1 (by decide) ?_
        refine va_sld hx hb hX hbl hbA hS (by unfold vp_in; decide) dL_law_2623 ?_
        refine tp_i x1 e1 ?_
        refine lv_aload_n hx hb dL_law_2624 rfl (lv_at hl 5 rfl) ?_
        refine lv_iload hx hb dL_law_2625 (lv_at hl 0 rfl) ?_
        refine lv_iconst (v := 2) hx hb dL_law_2627 (by decide) ?_
        refine lv_iadd hx hb dL_law_2628 ?_
        refine tp_i 2 (by decide) ?_
        refine va_sld hx hb hX hbl hbA hS (by unfold vp_in; decide) dL_law_2629 ?_
        refine tp_i x2 e2 ?_
        refine lv_aload_n hx hb dL_law_2630 rfl (lv_at hl 5 rfl) ?_
        refine lv_iload hx hb dL_law_2631 (lv_at hl 0 rfl) ?_
        refine lv_iconst (v := 3) hx hb dL_law_2633 (by decide) ?_
        refine lv_iadd hx hb dL_law_2634 ?_
        refine tp_i 3 (by decide) ?_
        refine va_sld hx hb hX hbl hbA hS (by unfold vp_in; decide) dL_law_2635 ?_
        refine tp_i x3 e3 ?_
        refine lv_aload_n hx hb dL_law_2636 rfl (lv_at hl 5 rfl) ?_
        refine lv_iload hx hb dL_law_2637 (lv_at hl 0 rfl) ?_
        refine lv_iconst (v := 4) hx hb dL_law_2639 (by decide) ?_
        refine lv_iadd hx hb dL_law_2640 ?_
        refine tp_i 4 (by decide) ?_
        refine va_sld hx hb hX hbl hbA hS (by unfold vp_in; decide) dL_law_2641 ?_
        refine tp_i x4 e4 ?_
        refine lv_aload_n hx hb dL_law_2642 rfl (lv_at hl 2 rfl) ?_
        refine ca_i (isC := [0]) (isR := [1, 2]) (wr := [(am, .inr (15, [.int 0, .ref (ma 0), .int 0, .int 0, .int 0, .int 0, .ref (ma 1), .ref (ma 2), .null, .int 1, .int 10, .int 900, .ref (ma 3), .ref (ma 4), .int 0, .int 0, .int 0, .ref (ma 5), .int 1000, .int 50, .int 50, .int 1000, .int 10, .int 0, .int 3000, .int 0, .int 0, .int 0])), (aj, .inl (cy 2, 1, .inr (.inl (fun _ => 0))))]) (rn_SW (isC := [0]) (wc := [(ax, .inr (14, [.ref (xa 0), .ref (xa 13), .ref (xa 18), .ref (xa 34), .ref (xa 45), .ref (xa 49), .ref (xa 50)]))]) (As := [.ref ax, .int x1, .int x2, .int x3, .int x4, .ref aj]) (rest := []) (n := 6) hx hb hml hown hts hE hS hP hD hA hl.1 (k638_L_claim l hst D cy g x1 x2 x3 x4 ax aj (.ref (xa 0)) (.ref (xa 13)) (.ref (xa 18)) (.ref (xa 34)) (.ref (xa 45)) (.ref (xa 49)) (.ref (xa 50)) H.size c0 c1) rfl rfl ax_448 rfl rfl ax_449 ⟨Nat.le_of_ble_eq_true rfl, Nat.le_of_ble_eq_true rfl⟩ rfl rfl (Nat.le_of_ble_eq_true rfl) dL_law_2643 ⟨(Nat.le_of_ble_eq_true rfl), (Nat.le_of_ble_eq_true rfl)⟩) hP hD hS hA rfl rfl rfl (by decide) (fun ad2643 H locs hP hD hS => ?_)
        have hP : va_P D vwCl [(am, .inr (15, [.int 0, .ref (ma 0), .int 0, .int 0, .int 0, .int 0, .ref (ma 1), .ref (ma 2), .null, .int 1, .int 10, .int 900, .ref (ma 3), .ref (ma 4), .int 0, .int 0, .int 0, .ref (ma 5), .int 1000, .int 50, .int 50, .int 1000, .int 10, .int 0, .int 3000, .int 0, .int 0, .int 0])), (aj, .inl (cy 2, 1, .inr (.inl (fun _ => 0))))] H := hP
        have hD : va_D (AL s) [(am, .inr (15, [.int 0, .ref (ma 0), .int 0, .int 0, .int 0, .int 0, .ref (ma 1), .ref (ma 2), .null, .int 1, .int 10, .int 900, .ref (ma 3), .ref (ma 4), .int 0, .int 0, .int 0, .ref (ma 5), .int 1000, .int 50, .int 50, .int 1000, .int 10, .int 0, .int 3000, .int 0, .int 0, .int 0])), (aj, .inl (cy 2, 1, .inr (.inl (fun _ => 0))))] := hD
        refine lv_istore (lv' := [(6, .int 1), (5, .int 0), (4, .ref ao), (3, .ref aj), (2, .ref am), (1, .ref ax), (0, .ref b)]) hx hb dL_law_2646 hl (Nat.le_of_ble_eq_true rfl) rfl (fun ls hl => ?_)
        refine lv_aload_n hx hb dL_law_2648 rfl (lv_at hl 4 rfl) ?_
        refine lv_aload_n hx hb dL_law_2649 rfl (lv_at hl 6 rfl) ?_
        refine lv_iload hx hb dL_law_2650 (lv_at hl 1 rfl) ?_
        refine lv_iconst (v := 1) hx hb dL_law_2652 (by decide) ?_
        refine lv_iadd hx hb dL_law_2653 ?_
        refine tp_i 1 (by decide) ?_
        refine va_sld hx hb hX hbl hbA hS (by unfold vp_in; decide) dL_law_2654 ?_
        refine tp_i x1 e1 ?_
        refine lv_aload_n hx hb dL_law_2655 rfl (lv_at hl 6 rfl) ?_
        refine lv_iload hx hb dL_law_2656 (lv_at hl 1 rfl) ?_
        refine lv_iconst (v := 2) hx hb dL_law_2658 (by decide) ?_
        refine lv_iadd hx hb dL_law_2659 ?_
        refine tp_i 2 (by decide) ?_
        refine va_sld hx hb hX hbl hbA hS (by unfold vp_in; decide) dL_law_2660 ?_
        refine tp_i x2 e2 ?_
        refine lv_aload_n hx hb dL_law_2661 rfl (lv_at hl 6 rfl) ?_
        refine lv_iload hx hb dL_law_2662 (lv_at hl 1 rfl) ?_
        refine lv_iconst (v := 3) hx hb dL_law_2664 (by decide) ?_
        refine lv_iadd hx hb dL_law_2665 ?_
        refine tp_i 3 (by decide) ?_
        refine va_sld hx hb hX hbl hbA hS (by unfold vp_in; decide) dL_law_2666 ?_
        refine tp_i x3 e3 ?_
        refine lv_aload_n hx hb dL_law_2667 rfl (lv_at hl 6 rfl) ?_
        refine lv_iload hx hb dL_law_2668 (lv_at hl 1 rfl) ?_
        refine lv_iconst (v := 4) hx hb dL_law_2670 (by decide) ?_
        refine lv_iadd hx hb dL_law_2671 ?_
        refine tp_i 4 (by decide) ?_
        refine va_sld hx hb hX hbl hbA hS (by unfold vp_in; decide) dL_law_2672 ?_
        refine tp_i x4 e4 ?_
        refine ca_i (isC := [0]) (isR := [1]) (wr := [(aj, .inl (cy 2, 1, .inr (.inl (fun _ => 0))))]) (rn_V (ci := 15) (q0 := 0) (isC := [0]) (wc := [(am, .inr (15, [.int 0, .ref (ma 0), .int 0, .int 0, .int 0, .int 0, .ref (ma 1), .ref (ma 2), .null, .int 1, .int 10, .int 900, .ref (ma 3), .ref (ma 4), .int 0, .int 0, .int 0, .ref (ma 5), .int 1000, .int 50, .int 50, .int 1000, .int 10, .int 0, .int 3000, .int 0, .int 0, .int 0]))]) (As := [.int x1, .int x2, .int x3, .int x4]) (rest := []) (n := 4) hx hb hml hown hts hE hS hP hD hA hl.1 (k632_X10_claim l D cy g x1 x2 x3 x4 am (.int 0) (.ref (ma 0)) (.int 0) (.int 0) (.int 0) (.int 0) (.ref (ma 1)) (.ref (ma 2)) (.null) (.int 1) (.int 10) (.int 900) (.ref (ma 3)) (.ref (ma 4)) (.int 0) (.int 0) (.int 0) (.ref (ma 5)) (.int 1000) (.int 50) (.int 50) (.int 1000) (.int 10) (.int 0) (.int 3000) (.int 0) (.int 0) (.int 0) H.size c2) rfl rfl rfl rfl rfl ax_450 rfl rfl ax_451 ⟨Nat.le_of_ble_eq_true rfl, Nat.le_of_ble_eq_true rfl⟩ rfl rfl (Nat.le_of_ble_eq_true rfl) dL_law_2673 ⟨(Nat.le_of_ble_eq_true rfl), (Nat.le_of_ble_eq_true rfl)⟩) hP hD hS hA rfl rfl rfl (by decide) (fun ad2673 H locs hP hD hS => ?_)
        have hP : va_P D vwCl [(aj, .inl (cy 2, 1, .inr (.inl (fun _ => 0)))), (am, .inr (15, [.int 1, .ref (ma 0), .int 0, .int 0, .int 0, .int 0, .ref (ma 1), .ref (ma 2), .null, .int 1, .int 10, .int 900, .ref (ma 3), .ref (ma 4), .int 0, .int 0, .int 0, .ref (ma 5), .int 1000, .int 50, .int 50, .int 1000, .int 10, .int 0, .int 3000, .int 0, .int 0, .int 0]))] H := hP
        have hD : va_D (AL s) [(aj, .inl (cy 2, 1, .inr (.inl (fun _ => 0)))), (am, .inr (15, [.int 1, .ref (ma 0), .int 0, .int 0, .int 0, .int 0, .ref (ma 1), .ref (ma 2), .null, .int 1, .int 10, .int 900, .ref (ma 3), .ref (ma 4), .int 0, .int 0, .int 0, .ref (ma 5), .int 1000, .int 50, .int 50, .int 1000, .int 10, .int 0, .int 3000, .int 0, .int 0, .int 0]))] := hD
        refine lv_istore (lv' := [(7, .int 32), (6, .int 1), (5, .int 0), (4, .ref ao), (3, .ref aj), (2, .ref am), (1, .ref ax), (0, .ref b)]) hx hb dL_law_2676 hl (Nat.le_of_ble_eq_true rfl) rfl (fun ls hl => ?_)
        refine lv_aload_n hx hb dL_law_2678 rfl (lv_at hl 5 rfl) ?_
        refine ca_i (isC := [1]) (isR := [0]) (wr := [(aj, .inl (cy 2, 1, .inr (.inl (fun _ => 0))))]) (rn_V (ci := 15) (q0 := 1) (isC := [1]) (wc := [(am, .inr (15, [.int 1, .ref (ma 0), .int 0, .int 0, .int 0, .int 0, .ref (ma 1), .ref (ma 2), .null, .int 1, .int 10, .int 900, .ref (ma 3), .ref (ma 4), .int 0, .int 0, .int 0, .ref (ma 5), .int 1000, .int 50, .int 50, .int 1000, .int 10, .int 0, .int 3000, .int 0, .int 0, .int 0]))]) (As := []) (rest := []) (n := 0) hx hb hml hown hts hE hS hP hD hA hl.1 (k24_X10_thrown l D cy g am (.ref (ma 0)) (.int 0) (.int 0) (.int 0) (.int 0) (.ref (ma 1)) (.ref (ma 2)) (.null) (.int 1) (.int 10) (.int 900) (.ref (ma 3)) (.ref (ma 4)) (.int 0) (.int 0) (.int 0) (.ref (ma 5)) (.int 1000) (.int 50) (.int 50) (.int 1000) (.int 10) (.int 0) (.int 3000) (.int 0) (.int 0) (.int 0) H.size ) rfl rfl rfl rfl rfl ax_45 rfl rfl ax_46 ⟨Nat.le_of_ble_eq_true rfl, Nat.le_of_ble_eq_true rfl⟩ rfl rfl (Nat.le_of_ble_eq_true rfl) dL_law_2679 ⟨(Nat.le_of_ble_eq_true rfl), (Nat.le_of_ble_eq_true rfl)⟩) hP hD hS hA rfl rfl rfl (by decide) (fun ad2679 H locs hP hD hS => ?_)
        have hP : va_P D vwCl [(aj, .inl (cy 2, 1, .inr (.inl (fun _ => 0)))), (am, .inr (15, [.int 1, .ref (ma 0), .int 0, .int 0, .int 0, .int 0, .ref (ma 1), .ref (ma 2), .null, .int 1, .int 10, .int 900, .ref (ma 3), .ref (ma 4), .int 0, .int 0, .int 0, .ref (ma 5), .int 1000, .int 50, .int 50, .int 1000, .int 10, .int 0, .int 3000, .int 0, .int 0, .int 0]))] H := hP
        have hD : va_D (AL s) [(aj, .inl (cy 2, 1, .inr (.inl (fun _ => 0)))), (am, .inr (15, [.int 1, .ref (ma 0), .int 0, .int 0, .int 0, .int 0, .ref (ma 1), .ref (ma 2), .null, .int 1, .int 10, .int 900, .ref (ma 3), .ref (ma 4), .int 0, .int 0, .int 0, .ref (ma 5), .int 1000, .int 50, .int 50, .int 1000, .int 10, .int 0, .int 3000, .int 0, .int 0, .int 0]))] := hD
        refine lv_iload hx hb dL_law_2682 (lv_at hl 1 rfl) ?_
        refine lv_icmp_eq (tgt := 2689) hx hb dL_law_2684 (by decide) (fun _ => ?_) (fun z => absurd (by decide) z)
        refine lv_iload hx hb dL_law_2689 (lv_at hl 1 rfl) ?_
        refine lv_if_ne (tgt := 2706) hx hb dL_law_2691 (by decide) (fun _ => ?_) (fun z => absurd z (by decide))
        refine lv_goto (tgt := 2947) hx hb dL_law_2706 (by decide) ?_
        exact law_tail LC hS (Nat.le_of_ble_eq_true rfl) (Nat.le_of_ble_eq_true rfl) (lv_sub hl [2, 7] rfl)
      · by_cases c3 : (200000 : Int32) < x4
        · refine lv_aload_n hx hb dL_law_2617 rfl (lv_at hl 4 rfl) ?_
          refine lv_aload_n hx hb dL_law_2618 rfl (lv_at hl 5 rfl) ?_
          refine lv_iload hx hb dL_law_2619 (lv_at hl 0 rfl) ?_
          refine lv_iconst (v := 1) hx hb dL_law_2621 (by decide) ?_
          refine lv_iadd hx hb dL_law_2622 ?_
          refine tp_i 1 (by decide) ?_
          refine va_sld hx hb hX hbl hbA hS (by unfold vp_in; decide) dL_law_2623 ?_
          refine tp_i x1 e1 ?_
          refine lv_aload_n hx hb dL_law_2624 rfl (lv_at hl 5 rfl) ?_
          refine lv_iload hx hb dL_law_2625 (lv_at hl 0 rfl) ?_
          refine lv_iconst (v := 2) hx hb dL_law_2627 (by decide) ?_
          refine lv_iadd hx hb dL_law_2628 ?_
          refine tp_i 2 (by decide) ?_
          refine va_sld hx hb hX hbl hbA hS (by unfold vp_in; decide) dL_law_2629 ?_
          refine tp_i x2 e2 ?_
          refine lv_aload_n hx hb dL_law_2630 rfl (lv_at hl 5 rfl) ?_
          refine lv_iload hx hb dL_law_2631 (lv_at hl 0 rfl) ?_
          refine lv_iconst (v := 3) hx hb dL_law_2633 (by decide) ?_
          refine lv_iadd hx hb dL_law_2634 ?_
          refine tp_i 3 (by decide) ?_
          refine va_sld hx hb hX hbl hbA hS (by unfold vp_in; decide) dL_law_2635 ?_
          refine tp_i x3 e3 ?_
          refine lv_aload_n hx hb dL_law_2636 rfl (lv_at hl 5 rfl) ?_
          refine lv_iload hx hb dL_law_2637 (lv_at hl 0 rfl) ?_
          refine lv_iconst (v := 4) hx hb dL_law_2639 (by decide) ?_
          refine lv_iadd hx hb dL_law_2640 ?_
          refine tp_i 4 (by decide) ?_
          refine va_sld hx hb hX hbl hbA hS (by unfold vp_in; decide) dL_law_2641 ?_
          refine tp_i x4 e4 ?_
          refine lv_aload_n hx hb dL_law_2642 rfl (lv_at hl 2 rfl) ?_
          refine ca_i (isC := [0]) (isR := [1, 2]) (wr := [(am, .inr (15, [.int 0, .ref (ma 0), .int 0, .int 0, .int 0, .int 0, .ref (ma 1), .ref (ma 2), .null, .int 1, .int 10, .int 900, .ref (ma 3), .ref (ma 4), .int 0, .int 0, .int 0, .ref (ma 5), .int 1000, .int 50, .int 50, .int 1000, .int 10, .int 0, .int 3000, .int 0, .int 0, .int 0])), (aj, .inl (cy 2, 1, .inr (.inl (fun _ => 0))))]) (rn_SW (isC := [0]) (wc := [(ax, .inr (14, [.ref (xa 0), .ref (xa 13), .ref (xa 18), .ref (xa 34), .ref (xa 45), .ref (xa 49), .ref (xa 50)]))]) (As := [.ref ax, .int x1, .int x2, .int x3, .int x4, .ref aj]) (rest := []) (n := 6) hx hb hml hown hts hE hS hP hD hA hl.1 (k638_L_claim l hst D cy g x1 x2 x3 x4 ax aj (.ref (xa 0)) (.ref (xa 13)) (.ref (xa 18)) (.ref (xa 34)) (.ref (xa 45)) (.ref (xa 49)) (.ref (xa 50)) H.size c0 c1) rfl rfl ax_448 rfl rfl ax_449 ⟨Nat.le_of_ble_eq_true rfl, Nat.le_of_ble_eq_true rfl⟩ rfl rfl (Nat.le_of_ble_eq_true rfl) dL_law_2643 ⟨(Nat.le_of_ble_eq_true rfl), (Nat.le_of_ble_eq_true rfl)⟩) hP hD hS hA rfl rfl rfl (by decide) (fun ad2643 H locs hP hD hS => ?_)
          have hP : va_P D vwCl [(am, .inr (15, [.int 0, .ref (ma 0), .int 0, .int 0, .int 0, .int 0, .ref (ma 1), .ref (ma 2), .null, .int 1, .int 10, .int 900, .ref (ma 3), .ref (ma 4), .int 0, .int 0, .int 0, .ref (ma 5), .int 1000, .int 50, .int 50, .int 1000, .int 10, .int 0, .int 3000, .int 0, .int 0, .int 0])), (aj, .inl (cy 2, 1, .inr (.inl (fun _ => 0))))] H := hP
          have hD : va_D (AL s) [(am, .inr (15, [.int 0, .ref (ma 0), .int 0, .int 0, .int 0, .int 0, .ref (ma 1), .ref (ma 2), .null, .int 1, .int 10, .int 900, .ref (ma 3), .ref (ma 4), .int 0, .int 0, .int 0, .ref (ma 5), .int 1000, .int 50, .int 50, .int 1000, .int 10, .int 0, .int 3000, .int 0, .int 0, .int 0])), (aj, .inl (cy 2, 1, .inr (.inl (fun _ => 0))))] := hD
          refine lv_istore (lv' := [(6, .int 1), (5, .int 0), (4, .ref ao), (3, .ref aj), (2, .ref am), (1, .ref ax), (0, .ref b)]) hx hb dL_law_2646 hl (Nat.le_of_ble_eq_true rfl) rfl (fun ls hl => ?_)
          refine lv_aload_n hx hb dL_law_2648 rfl (lv_at hl 4 rfl) ?_
          refine lv_aload_n hx hb dL_law_2649 rfl (lv_at hl 6 rfl) ?_
          refine lv_iload hx hb dL_law_2650 (lv_at hl 1 rfl) ?_
          refine lv_iconst (v := 1) hx hb dL_law_2652 (by decide) ?_
          refine lv_iadd hx hb dL_law_2653 ?_
          refine tp_i 1 (by decide) ?_
          refine va_sld hx hb hX hbl hbA hS (by unfold vp_in; decide) dL_law_2654 ?_
          refine tp_i x1 e1 ?_
          refine lv_aload_n hx hb dL_law_2655 rfl (lv_at hl 6 rfl) ?_
          refine lv_iload hx hb dL_law_2656 (lv_at hl 1 rfl) ?_
          refine lv_iconst (v := 2) hx hb dL_law_2658 (by decide) ?_
          refine lv_iadd hx hb dL_law_2659 ?_
          refine tp_i 2 (by decide) ?_
          refine va_sld hx hb hX hbl hbA hS (by unfold vp_in; decide) dL_law_2660 ?_
          refine tp_i x2 e2 ?_
          refine lv_aload_n hx hb dL_law_2661 rfl (lv_at hl 6 rfl) ?_
          refine lv_iload hx hb dL_law_2662 (lv_at hl 1 rfl) ?_
          refine lv_iconst (v := 3) hx hb dL_law_2664 (by decide) ?_
          refine lv_iadd hx hb dL_law_2665 ?_
          refine tp_i 3 (by decide) ?_
          refine va_sld hx hb hX hbl hbA hS (by unfold vp_in; decide) dL_law_2666 ?_
          refine tp_i x3 e3 ?_
          refine lv_aload_n hx hb dL_law_2667 rfl (lv_at hl 6 rfl) ?_
          refine lv_iload hx hb dL_law_2668 (lv_at hl 1 rfl) ?_
          refine lv_iconst (v := 4) hx hb dL_law_2670 (by decide) ?_
          refine lv_iadd hx hb dL_law_2671 ?_
          refine tp_i 4 (by decide) ?_
          refine va_sld hx hb hX hbl hbA hS (by unfold vp_in; decide) dL_law_2672 ?_
          refine tp_i x4 e4 ?_
          refine ca_i (isC := [0]) (isR := [1]) (wr := [(aj, .inl (cy 2, 1, .inr (.inl (fun _ => 0))))]) (rn_V (ci := 15) (q0 := 0) (isC := [0]) (wc := [(am, .inr (15, [.int 0, .ref (ma 0), .int 0, .int 0, .int 0, .int 0, .ref (ma 1), .ref (ma 2), .null, .int 1, .int 10, .int 900, .ref (ma 3), .ref (ma 4), .int 0, .int 0, .int 0, .ref (ma 5), .int 1000, .int 50, .int 50, .int 1000, .int 10, .int 0, .int 3000, .int 0, .int 0, .int 0]))]) (As := [.int x1, .int x2, .int x3, .int x4]) (rest := []) (n := 4) hx hb hml hown hts hE hS hP hD hA hl.1 (k633_X10_claim l D cy g x1 x2 x3 x4 am (.int 0) (.ref (ma 0)) (.int 0) (.int 0) (.int 0) (.int 0) (.ref (ma 1)) (.ref (ma 2)) (.null) (.int 1) (.int 10) (.int 900) (.ref (ma 3)) (.ref (ma 4)) (.int 0) (.int 0) (.int 0) (.ref (ma 5)) (.int 1000) (.int 50) (.int 50) (.int 1000) (.int 10) (.int 0) (.int 3000) (.int 0) (.int 0) (.int 0) H.size c2 c3) rfl rfl rfl rfl rfl ax_450 rfl rfl ax_451 ⟨Nat.le_of_ble_eq_true rfl, Nat.le_of_ble_eq_true rfl⟩ rfl rfl (Nat.le_of_ble_eq_true rfl) dL_law_2673 ⟨(Nat.le_of_ble_eq_true rfl), (Nat.le_of_ble_eq_true rfl)⟩) hP hD hS hA rfl rfl rfl (by decide) (fun ad2673 H locs hP hD hS => ?_)
          have hP : va_P D vwCl [(aj, .inl (cy 2, 1, .inr (.inl (fun _ => 0)))), (am, .inr (15, [.int 1, .ref (ma 0), .int 0, .int 0, .int 0, .int 0, .ref (ma 1), .ref (ma 2), .null, .int 1, .int 10, .int 900, .ref (ma 3), .ref (ma 4), .int 0, .int 0, .int 0, .ref (ma 5), .int 1000, .int 50, .int 50, .int 1000, .int 10, .int 0, .int 3000, .int 0, .int 0, .int 0]))] H := hP
          have hD : va_D (AL s) [(aj, .inl (cy 2, 1, .inr (.inl (fun _ => 0)))), (am, .inr (15, [.int 1, .ref (ma 0), .int 0, .int 0, .int 0, .int 0, .ref (ma 1), .ref (ma 2), .null, .int 1, .int 10, .int 900, .ref (ma 3), .ref (ma 4), .int 0, .int 0, .int 0, .ref (ma 5), .int 1000, .int 50, .int 50, .int 1000, .int 10, .int 0, .int 3000, .int 0, .int 0, .int 0]))] := hD
          refine lv_istore (lv' := [(7, .int 32), (6, .int 1), (5, .int 0), (4, .ref ao), (3, .ref aj), (2, .ref am), (1, .ref ax), (0, .ref b)]) hx hb dL_law_2676 hl (Nat.le_of_ble_eq_true rfl) rfl (fun ls hl => ?_)
          refine lv_aload_n hx hb dL_law_2678 rfl (lv_at hl 5 rfl) ?_
          refine ca_i (isC := [1]) (isR := [0]) (wr := [(aj, .inl (cy 2, 1, .inr (.inl (fun _ => 0))))]) (rn_V (ci := 15) (q0 := 1) (isC := [1]) (wc := [(am, .inr (15, [.int 1, .ref (ma 0), .int 0, .int 0, .int 0, .int 0, .ref (ma 1), .ref (ma 2), .null, .int 1, .int 10, .int 900, .ref (ma 3), .ref (ma 4), .int 0, .int 0, .int 0, .ref (ma 5), .int 1000, .int 50, .int 50, .int 1000, .int 10, .int 0, .int 3000, .int 0, .int 0, .int 0]))]) (As := []) (rest := []) (n := 0) hx hb hml hown hts hE hS hP hD hA hl.1 (k24_X10_thrown l D cy g am (.ref (ma 0)) (.int 0) (.int 0) (.int 0) (.int 0) (.ref (ma 1)) (.ref (ma 2)) (.null) (.int 1) (.int 10) (.int 900) (.ref (ma 3)) (.ref (ma 4)) (.int 0) (.int 0) (.int 0) (.ref (ma 5)) (.int 1000) (.int 50) (.int 50) (.int 1000) (.int 10) (.int 0) (.int 3000) (.int 0) (.int 0) (.int 0) H.size ) rfl rfl rfl rfl rfl ax_45 rfl rfl ax_46 ⟨Nat.le_of_ble_eq_true rfl, Nat.le_of_ble_eq_true rfl⟩ rfl rfl (Nat.le_of_ble_eq_true rfl) dL_law_2679 ⟨(Nat.le_of_ble_eq_true rfl), (Nat.le_of_ble_eq_true rfl)⟩) hP hD hS hA rfl rfl rfl (by decide) (fun ad2679 H locs hP hD hS => ?_)
          have hP : va_P D vwCl [(aj, .inl (cy 2, 1, .inr (.inl (fun _ => 0)))), (am, .inr (15, [.int 1, .ref (ma 0), .int 0, .int 0, .int 0, .int 0, .ref (ma 1), .ref (ma 2), .null, .int 1, .int 10, .int 900, .ref (ma 3), .ref (ma 4), .int 0, .int 0, .int 0, .ref (ma 5), .int 1000, .int 50, .int 50, .int 1000, .int 10, .int 0, .int 3000, .int 0, .int 0, .int 0]))] H := hP
          have hD : va_D (AL s) [(aj, .inl (cy 2, 1, .inr (.inl (fun _ => 0)))), (am, .inr (15, [.int 1, .ref (ma 0), .int 0, .int 0, .int 0, .int 0, .ref (ma 1), .ref (ma 2), .null, .int 1, .int 10, .int 900, .ref (ma 3), .ref (ma 4), .int 0, .int 0, .int 0, .ref (ma 5), .int 1000, .int 50, .int 50, .int 1000, .int 10, .int 0, .int 3000, .int 0, .int 0, .int 0]))] := hD
          refine lv_iload hx hb dL_law_2682 (lv_at hl 1 rfl) ?_
          refine lv_icmp_eq (tgt := 2689) hx hb dL_law_2684 (by decide) (fun _ => ?_) (fun z => absurd (by decide) z)
          refine lv_iload hx hb dL_law_2689 (lv_at hl 1 rfl) ?_
          refine lv_if_ne (tgt := 2706) hx hb dL_law_2691 (by decide) (fun _ => ?_) (fun z => absurd z (by decide))
          refine lv_goto (tgt := 2947) hx hb dL_law_2706 (by decide) ?_
          exact law_tail LC hS (Nat.le_of_ble_eq_true rfl) (Nat.le_of_ble_eq_true rfl) (lv_sub hl [2, 7] rfl)
        · refine lv_aload_n hx hb dL_law_2617 rfl (lv_at hl 4 rfl) ?_
          refine lv_aload_n hx hb dL_law_2618 rfl (lv_at hl 5 rfl) ?_
          refine lv_iload hx hb dL_law_2619 (lv_at hl 0 rfl) ?_
          refine lv_iconst (v := 1) hx hb dL_law_2621 (by decide) ?_
          refine lv_iadd hx hb dL_law_2622 ?_
          refine tp_i 1 (by decide) ?_
          refine va_sld hx hb hX hbl hbA hS (by unfold vp_in; decide) dL_law_2623 ?_
          refine tp_i x1 e1 ?_
          refine lv_aload_n hx hb dL_law_2624 rfl (lv_at hl 5 rfl) ?_
          refine lv_iload hx hb dL_law_2625 (lv_at hl 0 rfl) ?_
          refine lv_iconst (v := 2) hx hb dL_law_2627 (by decide) ?_
          refine lv_iadd hx hb dL_law_2628 ?_
          refine tp_i 2 (by decide) ?_
          refine va_sld hx hb hX hbl hbA hS (by unfold vp_in; decide) dL_law_2629 ?_
          refine tp_i x2 e2 ?_
          refine lv_aload_n hx hb dL_law_2630 rfl (lv_at hl 5 rfl) ?_
          refine lv_iload hx hb dL_law_2631 (lv_at hl 0 rfl) ?_
          refine lv_iconst (v := 3) hx hb dL_law_2633 (by decide) ?_
          refine lv_iadd hx hb dL_law_2634 ?_
          refine tp_i 3 (by decide) ?_
          refine va_sld hx hb hX hbl hbA hS (by unfold vp_in; decide) dL_law_2635 ?_
          refine tp_i x3 e3 ?_
          refine lv_aload_n hx hb dL_law_2636 rfl (lv_at hl 5 rfl) ?_
          refine lv_iload hx hb dL_law_2637 (lv_at hl 0 rfl) ?_
          refine lv_iconst (v := 4) hx hb dL_law_2639 (by decide) ?_
          refine lv_iadd hx hb dL_law_2640 ?_
          refine tp_i 4 (by decide) ?_
          refine va_sld hx hb hX hbl hbA hS (by unfold vp_in; decide) dL_law_2641 ?_
          refine tp_i x4 e4 ?_
          refine lv_aload_n hx hb dL_law_2642 rfl (lv_at hl 2 rfl) ?_
          refine ca_i (isC := [0]) (isR := [1, 2]) (wr := [(am, .inr (15, [.int 0, .ref (ma 0), .int 0, .int 0, .int 0, .int 0, .ref (ma 1), .ref (ma 2), .null, .int 1, .int 10, .int 900, .ref (ma 3), .ref (ma 4), .int 0, .int 0, .int 0, .ref (ma 5), .int 1000, .int 50, .int 50, .int 1000, .int 10, .int 0, .int 3000, .int 0, .int 0, .int 0])), (aj, .inl (cy 2, 1, .inr (.inl (fun _ => 0))))]) (rn_SW (isC := [0]) (wc := [(ax, .inr (14, [.ref (xa 0), .ref (xa 13), .ref (xa 18), .ref (xa 34), .ref (xa 45), .ref (xa 49), .ref (xa 50)]))]) (As := [.ref ax, .int x1, .int x2, .int x3, .int x4, .ref aj]) (rest := []) (n := 6) hx hb hml hown hts hE hS hP hD hA hl.1 (k638_L_claim l hst D cy g x1 x2 x3 x4 ax aj (.ref (xa 0)) (.ref (xa 13)) (.ref (xa 18)) (.ref (xa 34)) (.ref (xa 45)) (.ref (xa 49)) (.ref (xa 50)) H.size c0 c1) rfl rfl ax_448 rfl rfl ax_449 ⟨Nat.le_of_ble_eq_true rfl, Nat.le_of_ble_eq_true rfl⟩ rfl rfl (Nat.le_of_ble_eq_true rfl) dL_law_2643 ⟨(Nat.le_of_ble_eq_true rfl), (Nat.le_of_ble_eq_true rfl)⟩) hP hD hS hA rfl rfl rfl (by decide) (fun ad2643 H locs hP hD hS => ?_)
          have hP : va_P D vwCl [(am, .inr (15, [.int 0, .ref (ma 0), .int 0, .int 0, .int 0, .int 0, .ref (ma 1), .ref (ma 2), .null, .int 1, .int 10, .int 900, .ref (ma 3), .ref (ma 4), .int 0, .int 0, .int 0, .ref (ma 5), .int 1000, .int 50, .int 50, .int 1000, .int 10, .int 0, .int 3000, .int 0, .int 0, .int 0])), (aj, .inl (cy 2, 1, .inr (.inl (fun _ => 0))))] H := hP
          have hD : va_D (AL s) [(am, .inr (15, [.int 0, .ref (ma 0), .int 0, .int 0, .int 0, .int 0, .ref (ma 1), .ref (ma 2), .null, .int 1, .int 10, .int 900, .ref (ma 3), .ref (ma 4), .int 0, .int 0, .int 0, .ref (ma 5), .int 1000, .int 50, .int 50, .int 1000, .int 10, .int 0, .int 3000, .int 0, .int 0, .int 0])), (aj, .inl (cy 2, 1, .inr (.inl (fun _ => 0))))] := hD
          refine lv_istore (lv' := [(6, .int 1), (5, .int 0), (4, .ref ao), (3, .ref aj), (2, .ref am), (1, .ref ax), (0, .ref b)]) hx hb dL_law_2646 hl (Nat.le_of_ble_eq_true rfl) rfl (fun ls hl => ?_)
          refine lv_aload_n hx hb dL_law_2648 rfl (lv_at hl 4 rfl) ?_
          refine lv_aload_n hx hb dL_law_2649 rfl (lv_at hl 6 rfl) ?_
          refine lv_iload hx hb dL_law_2650 (lv_at hl 1 rfl) ?_
          refine lv_iconst (v := 1) hx hb dL_law_2652 (by decide) ?_
          refine lv_iadd hx hb dL_law_2653 ?_
          refine tp_i 1 (by decide) ?_
          refine va_sld hx hb hX hbl hbA hS (by unfold vp_in; decide) dL_law_2654 ?_
          refine tp_i x1 e1 ?_
          refine lv_aload_n hx hb dL_law_2655 rfl (lv_at hl 6 rfl) ?_
          refine lv_iload hx hb dL_law_2656 (lv_at hl 1 rfl) ?_
          refine lv_iconst (v := 2) hx hb dL_law_2658 (by decide) ?_
          refine lv_iadd hx hb dL_law_2659 ?_
          refine tp_i 2 (by decide) ?_
          refine va_sld hx hb hX hbl hbA hS (by unfold vp_in; decide) dL_law_2660 ?_
          refine tp_i x2 e2 ?_
          refine lv_aload_n hx hb dL_law_2661 rfl (lv_at hl 6 rfl) ?_
          refine lv_iload hx hb dL_law_2662 (lv_at hl 1 rfl) ?_
          refine lv_iconst (v := 3) hx hb dL_law_2664 (by decide) ?_
          refine lv_iadd hx hb dL_law_2665 ?_
          refine tp_i 3 (by decide) ?_
          refine va_sld hx hb hX hbl hbA hS (by unfold vp_in; decide) dL_law_2666 ?_
          refine tp_i x3 e3 ?_
          refine lv_aload_n hx hb dL_law_2667 rfl (lv_at hl 6 rfl) ?_
          refine lv_iload hx hb dL_law_2668 (lv_at hl 1 rfl) ?_
          refine lv_iconst (v := 4) hx hb dL_law_2670 (by decide) ?_
          refine lv_iadd hx hb dL_law_2671 ?_
          refine tp_i 4 (by decide) ?_
          refine va_sld hx hb hX hbl hbA hS (by unfold vp_in; decide) dL_law_2672 ?_
          refine tp_i x4 e4 ?_
          refine ca_i (isC := [0]) (isR := [1]) (wr := [(aj, .inl (cy 2, 1, .inr (.inl (fun _ => 0))))]) (rn_V (ci := 15) (q0 := 0) (isC := [0]) (wc := [(am, .inr (15, [.int 0, .ref (ma 0), .int 0, .int 0, .int 0, .int 0, .ref (ma 1), .ref (ma 2), .null, .int 1, .int 10, .int 900, .ref (ma 3), .ref (ma 4), .int 0, .int 0, .int 0, .ref (ma 5), .int 1000, .int 50, .int 50, .int 1000, .int 10, .int 0, .int 3000, .int 0, .int 0, .int 0]))]) (As := [.int x1, .int x2, .int x3, .int x4]) (rest := []) (n := 4) hx hb hml hown hts hE hS hP hD hA hl.1 (k640_X10_claim l D cy g x1 x2 x3 x4 am (.int 0) (.ref (ma 0)) (.int 0) (.int 0) (.int 0) (.int 0) (.ref (ma 1)) (.ref (ma 2)) (.null) (.int 1) (.int 10) (.int 900) (.ref (ma 3)) (.ref (ma 4)) (.int 0) (.int 0) (.int 0) (.ref (ma 5)) (.int 1000) (.int 50) (.int 50) (.int 1000) (.int 10) (.int 0) (.int 3000) (.int 0) (.int 0) (.int 0) H.size c2 c3 c0 c1) rfl rfl rfl rfl rfl ax_450 rfl rfl ax_451 ⟨Nat.le_of_ble_eq_true rfl, Nat.le_of_ble_eq_true rfl⟩ rfl rfl (Nat.le_of_ble_eq_true rfl) dL_law_2673 ⟨(Nat.le_of_ble_eq_true rfl), (Nat.le_of_ble_eq_true rfl)⟩) hP hD hS hA rfl rfl rfl (by decide) (fun ad2673 H locs hP hD hS => ?_)
          have hP : va_P D vwCl [(aj, .inl (cy 2, 1, .inr (.inl (fun _ => 0)))), (am, .inr (15, [.int 1, .ref (ma 0), .int 0, .int 0, .int 0, .int 0, .ref (ma 1), .ref (ma 2), .null, .int 1, .int 10, .int 900, .ref (ma 3), .ref (ma 4), .int 0, .int 0, .int 0, .ref (ma 5), .int 1000, .int 50, .int 50, .int 1000, .int 10, .int 0, .int 3000, .int 0, .int 0, .int 0]))] H := hP
          have hD : va_D (AL s) [(aj, .inl (cy 2, 1, .inr (.inl (fun _ => 0)))), (am, .inr (15, [.int 1, .ref (ma 0), .int 0, .int 0, .int 0, .int 0, .ref (ma 1), .ref (ma 2), .null, .int 1, .int 10, .int 900, .ref (ma 3), .ref (ma 4), .int 0, .int 0, .int 0, .ref (ma 5), .int 1000, .int 50, .int 50, .int 1000, .int 10, .int 0, .int 3000, .int 0, .int 0, .int 0]))] := hD
          refine lv_istore (lv' := [(7, .int 32), (6, .int 1), (5, .int 0), (4, .ref ao), (3, .ref aj), (2, .ref am), (1, .ref ax), (0, .ref b)]) hx hb dL_law_2676 hl (Nat.le_of_ble_eq_true rfl) rfl (fun ls hl => ?_)
          refine lv_aload_n hx hb dL_law_2678 rfl (lv_at hl 5 rfl) ?_
          refine ca_i (isC := [1]) (isR := [0]) (wr := [(aj, .inl (cy 2, 1, .inr (.inl (fun _ => 0))))]) (rn_V (ci := 15) (q0 := 1) (isC := [1]) (wc := [(am, .inr (15, [.int 1, .ref (ma 0), .int 0, .int 0, .int 0, .int 0, .ref (ma 1), .ref (ma 2), .null, .int 1, .int 10, .int 900, .ref (ma 3), .ref (ma 4), .int 0, .int 0, .int 0, .ref (ma 5), .int 1000, .int 50, .int 50, .int 1000, .int 10, .int 0, .int 3000, .int 0, .int 0, .int 0]))]) (As := []) (rest := []) (n := 0) hx hb hml hown hts hE hS hP hD hA hl.1 (k24_X10_thrown l D cy g am (.ref (ma 0)) (.int 0) (.int 0) (.int 0) (.int 0) (.ref (ma 1)) (.ref (ma 2)) (.null) (.int 1) (.int 10) (.int 900) (.ref (ma 3)) (.ref (ma 4)) (.int 0) (.int 0) (.int 0) (.ref (ma 5)) (.int 1000) (.int 50) (.int 50) (.int 1000) (.int 10) (.int 0) (.int 3000) (.int 0) (.int 0) (.int 0) H.size ) rfl rfl rfl rfl rfl ax_45 rfl rfl ax_46 ⟨Nat.le_of_ble_eq_true rfl, Nat.le_of_ble_eq_true rfl⟩ rfl rfl (Nat.le_of_ble_eq_true rfl) dL_law_2679 ⟨(Nat.le_of_ble_eq_true rfl), (Nat.le_of_ble_eq_true rfl)⟩) hP hD hS hA rfl rfl rfl (by decide) (fun ad2679 H locs hP hD hS => ?_)
          have hP : va_P D vwCl [(aj, .inl (cy 2, 1, .inr (.inl (fun _ => 0)))), (am, .inr (15, [.int 1, .ref (ma 0), .int 0, .int 0, .int 0, .int 0, .ref (ma 1), .ref (ma 2), .null, .int 1, .int 10, .int 900, .ref (ma 3), .ref (ma 4), .int 0, .int 0, .int 0, .ref (ma 5), .int 1000, .int 50, .int 50, .int 1000, .int 10, .int 0, .int 3000, .int 0, .int 0, .int 0]))] H := hP
          have hD : va_D (AL s) [(aj, .inl (cy 2, 1, .inr (.inl (fun _ => 0)))), (am, .inr (15, [.int 1, .ref (ma 0), .int 0, .int 0, .int 0, .int 0, .ref (ma 1), .ref (ma 2), .null, .int 1, .int 10, .int 900, .ref (ma 3), .ref (ma 4), .int 0, .int 0, .int 0, .ref (ma 5), .int 1000, .int 50, .int 50, .int 1000, .int 10, .int 0, .int 3000, .int 0, .int 0, .int 0]))] := hD
          refine lv_iload hx hb dL_law_2682 (lv_at hl 1 rfl) ?_
          refine lv_icmp_eq (tgt := 2689) hx hb dL_law_2684 (by decide) (fun _ => ?_) (fun z => absurd (by decide) z)
          refine lv_iload hx hb dL_law_2689 (lv_at hl 1 rfl) ?_
          refine lv_if_ne (tgt := 2706) hx hb dL_law_2691 (by decide) (fun _ => ?_) (fun z => absurd z (by decide))
          refine lv_goto (tgt := 2947) hx hb dL_law_2706 (by decide) ?_
          exact law_tail LC hS (Nat.le_of_ble_eq_true rfl) (Nat.le_of_ble_eq_true rfl) (lv_sub hl [2, 7] rfl)
    · by_cases c2 : x2 < 50
      · by_cases c3 : x4 < 0
        · refine lv_aload_n hx hb dL_law_2617 rfl (lv_at hl 4 rfl) ?_
          refine lv_aload_n hx hb dL_law_2618 rfl (lv_at hl 5 rfl) ?_
          refine lv_iload hx hb dL_law_2619 (lv_at hl 0 rfl) ?_
          refine lv_iconst (v := 1) hx hb dL_law_2621 (by decide) ?_
          refine lv_iadd hx hb dL_law_2622 ?_
          refine tp_i 1 (by decide) ?_
          refine va_sld hx hb hX hbl hbA hS (by unfold vp_in; decide) dL_law_2623 ?_
          refine tp_i x1 e1 ?_
          refine lv_aload_n hx hb dL_law_2624 rfl (lv_at hl 5 rfl) ?_
          refine lv_iload hx hb dL_law_2625 (lv_at hl 0 rfl) ?_
          refine lv_iconst (v := 2) hx hb dL_law_2627 (by decide) ?_
          refine lv_iadd hx hb dL_law_2628 ?_
          refine tp_i 2 (by decide) ?_
          refine va_sld hx hb hX hbl hbA hS (by unfold vp_in; decide) dL_law_2629 ?_
          refine tp_i x2 e2 ?_
          refine lv_aload_n hx hb dL_law_2630 rfl (lv_at hl 5 rfl) ?_
          refine lv_iload hx hb dL_law_2631 (lv_at hl 0 rfl) ?_
          refine lv_iconst (v := 3) hx hb dL_law_2633 (by decide) ?_
          refine lv_iadd hx hb dL_law_2634 ?_
          refine tp_i 3 (by decide) ?_
          refine va_sld hx hb hX hbl hbA hS (by unfold vp_in; decide) dL_law_2635 ?_
          refine tp_i x3 e3 ?_
          refine lv_aload_n hx hb dL_law_2636 rfl (lv_at hl 5 rfl) ?_
          refine lv_iload hx hb dL_law_2637 (lv_at hl 0 rfl) ?_
          refine lv_iconst (v := 4) hx hb dL_law_2639 (by decide) ?_
          refine lv_iadd hx hb dL_law_2640 ?_
          refine tp_i 4 (by decide) ?_
          refine va_sld hx hb hX hbl hbA hS (by unfold vp_in; decide) dL_law_2641 ?_
          refine tp_i x4 e4 ?_
          refine lv_aload_n hx hb dL_law_2642 rfl (lv_at hl 2 rfl) ?_
          refine ca_i (isC := [0]) (isR := [1, 2]) (wr := [(am, .inr (15, [.int 0, .ref (ma 0), .int 0, .int 0, .int 0, .int 0, .ref (ma 1), .ref (ma 2), .null, .int 1, .int 10, .int 900, .ref (ma 3), .ref (ma 4), .int 0, .int 0, .int 0, .ref (ma 5), .int 1000, .int 50, .int 50, .int 1000, .int 10, .int 0, .int 3000, .int 0, .int 0, .int 0])), (aj, .inl (cy 2, 1, .inr (.inl (fun _ => 0))))]) (rn_SW (isC := [0]) (wc := [(ax, .inr (14, [.ref (xa 0), .ref (xa 13), .ref (xa 18), .ref (xa 34), .ref (xa 45), .ref (xa 49), .ref (xa 50)]))]) (As := [.ref ax, .int x1, .int x2, .int x3, .int x4, .ref aj]) (rest := []) (n := 6) hx hb hml hown hts hE hS hP hD hA hl.1 (k643_L_claim l hst D cy g x1 x2 x3 x4 ax aj (.ref (xa 0)) (.ref (xa 13)) (.ref (xa 18)) (.ref (xa 34)) (.ref (xa 45)) (.ref (xa 49)) (.ref (xa 50)) H.size c0 c1 c2) rfl rfl ax_448 rfl rfl ax_449 ⟨Nat.le_of_ble_eq_true rfl, Nat.le_of_ble_eq_true rfl⟩ rfl rfl (Nat.le_of_ble_eq_true rfl) dL_law_2643 ⟨(Nat.le_of_ble_eq_true rfl), (Nat.le_of_ble_eq_true rfl)⟩) hP hD hS hA rfl rfl rfl (by decide) (fun ad2643 H locs hP hD hS => ?_)
          have hP : va_P D vwCl [(am, .inr (15, [.int 0, .ref (ma 0), .int 0, .int 0, .int 0, .int 0, .ref (ma 1), .ref (ma 2), .null, .int 1, .int 10, .int 900, .ref (ma 3), .ref (ma 4), .int 0, .int 0, .int 0, .ref (ma 5), .int 1000, .int 50, .int 50, .int 1000, .int 10, .int 0, .int 3000, .int 0, .int 0, .int 0])), (aj, .inl (cy 2, 1, .inr (.inl (fun _ => 0))))] H := hP
          have hD : va_D (AL s) [(am, .inr (15, [.int 0, .ref (ma 0), .int 0, .int 0, .int 0, .int 0, .ref (ma 1), .ref (ma 2), .null, .int 1, .int 10, .int 900, .ref (ma 3), .ref (ma 4), .int 0, .int 0, .int 0, .ref (ma 5), .int 1000, .int 50, .int 50, .int 1000, .int 10, .int 0, .int 3000, .int 0, .int 0, .int 0])), (aj, .inl (cy 2, 1, .inr (.inl (fun _ => 0))))] := hD
          refine lv_istore (lv' := [(6, .int 1), (5, .int 0), (4, .ref ao), (3, .ref aj), (2, .ref am), (1, .ref ax), (0, .ref b)]) hx hb dL_law_2646 hl (Nat.le_of_ble_eq_true rfl) rfl (fun ls hl => ?_)
          refine lv_aload_n hx hb dL_law_2648 rfl (lv_at hl 4 rfl) ?_
          refine lv_aload_n hx hb dL_law_2649 rfl (lv_at hl 6 rfl) ?_
          refine lv_iload hx hb dL_law_2650 (lv_at hl 1 rfl) ?_
          refine lv_iconst (v := 1) hx hb dL_law_2652 (by decide) ?_
          refine lv_iadd hx hb dL_law_2653 ?_
          refine tp_i 1 (by decide) ?_
          refine va_sld hx hb hX hbl hbA hS (by unfold vp_in; decide) dL_law_2654 ?_
          refine tp_i x1 e1 ?_
          refine lv_aload_n hx hb dL_law_2655 rfl (lv_at hl 6 rfl) ?_
          refine lv_iload hx hb dL_law_2656 (lv_at hl 1 rfl) ?_
          refine lv_iconst (v := 2) hx hb dL_law_2658 (by decide) ?_
          refine lv_iadd hx hb dL_law_2659 ?_
          refine tp_i 2 (by decide) ?_
          refine va_sld hx hb hX hbl hbA hS (by unfold vp_in; decide) dL_law_2660 ?_
          refine tp_i x2 e2 ?_
          refine lv_aload_n hx hb dL_law_2661 rfl (lv_at hl 6 rfl) ?_
          refine lv_iload hx hb dL_law_2662 (lv_at hl 1 rfl) ?_
          refine lv_iconst (v := 3) hx hb dL_law_2664 (by decide) ?_
          refine lv_iadd hx hb dL_law_2665 ?_
          refine tp_i 3 (by decide) ?_
          refine va_sld hx hb hX hbl hbA hS (by unfold vp_in; decide) dL_law_2666 ?_
          refine tp_i x3 e3 ?_
          refine lv_aload_n hx hb dL_law_2667 rfl (lv_at hl 6 rfl) ?_
          refine lv_iload hx hb dL_law_2668 (lv_at hl 1 rfl) ?_
          refine lv_iconst (v := 4) hx hb dL_law_2670 (by decide) ?_
          refine lv_iadd hx hb dL_law_2671 ?_
          refine tp_i 4 (by decide) ?_
          refine va_sld hx hb hX hbl hbA hS (by unfold vp_in; decide) dL_law_2672 ?_
          refine tp_i x4 e4 ?_
          refine ca_i (isC := [0]) (isR := [1]) (wr := [(aj, .inl (cy 2, 1, .inr (.inl (fun _ => 0))))]) (rn_V (ci := 15) (q0 := 0) (isC := [0]) (wc := [(am, .inr (15, [.int 0, .ref (ma 0), .int 0, .int 0, .int 0, .int 0, .ref (ma 1), .ref (ma 2), .null, .int 1, .int 10, .int 900, .ref (ma 3), .ref (ma 4), .int 0, .int 0, .int 0, .ref (ma 5), .int 1000, .int 50, .int 50, .int 1000, .int 10, .int 0, .int 3000, .int 0, .int 0, .int 0]))]) (As := [.int x1, .int x2, .int x3, .int x4]) (rest := []) (n := 4) hx hb hml hown hts hE hS hP hD hA hl.1 (k632_X10_claim l D cy g x1 x2 x3 x4 am (.int 0) (.ref (ma 0)) (.int 0) (.int 0) (.int 0) (.int 0) (.ref (ma 1)) (.ref (ma 2)) (.null) (.int 1) (.int 10) (.int 900) (.ref (ma 3)) (.ref (ma 4)) (.int 0) (.int 0) (.int 0) (.ref (ma 5)) (.int 1000) (.int 50) (.int 50) (.int 1000) (.int 10) (.int 0) (.int 3000) (.int 0) (.int 0) (.int 0) H.size c3) rfl rfl rfl rfl rfl ax_450 rfl rfl ax_451 ⟨Nat.le_of_ble_eq_true rfl, Nat.le_of_ble_eq_true rfl⟩ rfl rfl (Nat.le_of_ble_eq_true rfl) dL_law_2673 ⟨(Nat.le_of_ble_eq_true rfl), (Nat.le_of_ble_eq_true rfl)⟩) hP hD hS hA rfl rfl rfl (by decide) (fun ad2673 H locs hP hD hS => ?_)
          have hP : va_P D vwCl [(aj, .inl (cy 2, 1, .inr (.inl (fun _ => 0)))), (am, .inr (15, [.int 1, .ref (ma 0), .int 0, .int 0, .int 0, .int 0, .ref (ma 1), .ref (ma 2), .null, .int 1, .int 10, .int 900, .ref (ma 3), .ref (ma 4), .int 0, .int 0, .int 0, .ref (ma 5), .int 1000, .int 50, .int 50, .int 1000, .int 10, .int 0, .int 3000, .int 0, .int 0, .int 0]))] H := hP
          have hD : va_D (AL s) [(aj, .inl (cy 2, 1, .inr (.inl (fun _ => 0)))), (am, .inr (15, [.int 1, .ref (ma 0), .int 0, .int 0, .int 0, .int 0, .ref (ma 1), .ref (ma 2), .null, .int 1, .int 10, .int 900, .ref (ma 3), .ref (ma 4), .int 0, .int 0, .int 0, .ref (ma 5), .int 1000, .int 50, .int 50, .int 1000, .int 10, .int 0, .int 3000, .int 0, .int 0, .int 0]))] := hD
          refine lv_istore (lv' := [(7, .int 32), (6, .int 1), (5, .int 0), (4, .ref ao), (3, .ref aj), (2, .ref am), (1, .ref ax), (0, .ref b)]) hx hb dL_law_2676 hl (Nat.le_of_ble_eq_true rfl) rfl (fun ls hl => ?_)
          refine lv_aload_n hx hb dL_law_2678 rfl (lv_at hl 5 rfl) ?_
          refine ca_i (isC := [1]) (isR := [0]) (wr := [(aj, .inl (cy 2, 1, .inr (.inl (fun _ => 0))))]) (rn_V (ci := 15) (q0 := 1) (isC := [1]) (wc := [(am, .inr (15, [.int 1, .ref (ma 0), .int 0, .int 0, .int 0, .int 0, .ref (ma 1), .ref (ma 2), .null, .int 1, .int 10, .int 900, .ref (ma 3), .ref (ma 4), .int 0, .int 0, .int 0, .ref (ma 5), .int 1000, .int 50, .int 50, .int 1000, .int 10, .int 0, .int 3000, .int 0, .int 0, .int 0]))]) (As := []) (rest := []) (n := 0) hx hb hml hown hts hE hS hP hD hA hl.1 (k24_X10_thrown l D cy g am (.ref (ma 0)) (.int 0) (.int 0) (.int 0) (.int 0) (.ref (ma 1)) (.ref (ma 2)) (.null) (.int 1) (.int 10) (.int 900) (.ref (ma 3)) (.ref (ma 4)) (.int 0) (.int 0) (.int 0) (.ref (ma 5)) (.int 1000) (.int 50) (.int 50) (.int 1000) (.int 10) (.int 0) (.int 3000) (.int 0) (.int 0) (.int 0) H.size ) rfl rfl rfl rfl rfl ax_45 rfl rfl ax_46 ⟨Nat.le_of_ble_eq_true rfl, Nat.le_of_ble_eq_true rfl⟩ rfl rfl (Nat.le_of_ble_eq_true rfl) dL_law_2679 ⟨(Nat.le_of_ble_eq_true rfl), (Nat.le_of_ble_eq_true rfl)⟩) hP hD hS hA rfl rfl rfl (by decide) (fun ad2679 H locs hP hD hS => ?_)
          have hP : va_P D vwCl [(aj, .inl (cy 2, 1, .inr (.inl (fun _ => 0)))), (am, .inr (15, [.int 1, .ref (ma 0), .int 0, .int 0, .int 0, .int 0, .ref (ma 1), .ref (ma 2), .null, .int 1, .int 10, .int 900, .ref (ma 3), .ref (ma 4), .int 0, .int 0, .int 0, .ref (ma 5), .int 1000, .int 50, .int 50, .int 1000, .int 10, .int 0, .int 3000, .int 0, .int 0, .int 0]))] H := hP
          have hD : va_D (AL s) [(aj, .inl (cy 2, 1, .inr (.inl (fun _ => 0)))), (am, .inr (15, [.int 1, .ref (ma 0), .int 0, .int 0, .int 0, .int 0, .ref (ma 1), .ref (ma 2), .null, .int 1, .int 10, .int 900, .ref (ma 3), .ref (ma 4), .int 0, .int 0, .int 0, .ref (ma 5), .int 1000, .int 50, .int 50, .int 1000, .int 10, .int 0, .int 3000, .int 0, .int 0, .int 0]))] := hD
          refine lv_iload hx hb dL_law_2682 (lv_at hl 1 rfl) ?_
          refine lv_icmp_eq (tgt := 2689) hx hb dL_law_2684 (by decide) (fun _ => ?_) (fun z => absurd (by decide) z)
          refine lv_iload hx hb dL_law_2689 (lv_at hl 1 rfl) ?_
          refine lv_if_ne (tgt := 2706) hx hb dL_law_2691 (by decide) (fun _ => ?_) (fun z => absurd z (by decide))
          refine lv_goto (tgt := 2947) hx hb dL_law_2706 (by decide) ?_
          exact law_tail LC hS (Nat.le_of_ble_eq_true rfl) (Nat.le_of_ble_eq_true rfl) (lv_sub hl [2, 7] rfl)
        · by_cases c4 : (200000 : Int32) < x4
          · refine lv_aload_n hx hb dL_law_2617 rfl (lv_at hl 4 rfl) ?_
            refine lv_aload_n hx hb dL_law_2618 rfl (lv_at hl 5 rfl) ?_
            refine lv_iload hx hb dL_law_2619 (lv_at hl 0 rfl) ?_
            refine lv_iconst (v := 1) hx hb dL_law_2621 (by decide) ?_
            refine lv_iadd hx hb dL_law_2622 ?_
            refine tp_i 1 (by decide) ?_
            refine va_sld hx hb hX hbl hbA hS (by unfold vp_in; decide) dL_law_2623 ?_
            refine tp_i x1 e1 ?_
            refine lv_aload_n hx hb dL_law_2624 rfl (lv_at hl 5 rfl) ?_
            refine lv_iload hx hb dL_law_2625 (lv_at hl 0 rfl) ?_
            refine lv_iconst (v := 2) hx hb dL_law_2627 (by decide) ?_
            refine lv_iadd hx hb dL_law_2628 ?_
            refine tp_i 2 (by decide) ?_
            refine va_sld hx hb hX hbl hbA hS (by unfold vp_in; decide) dL_law_2629 ?_
            refine tp_i x2 e2 ?_
            refine lv_aload_n hx hb dL_law_2630 rfl (lv_at hl 5 rfl) ?_
            refine lv_iload hx hb dL_law_2631 (lv_at hl 0 rfl) ?_
            refine lv_iconst (v := 3) hx hb dL_law_2633 (by decide) ?_
            refine lv_iadd hx hb dL_law_2634 ?_
            refine tp_i 3 (by decide) ?_
            refine va_sld hx hb hX hbl hbA hS (by unfold vp_in; decide) dL_law_2635 ?_
            refine tp_i x3 e3 ?_
            refine lv_aload_n hx hb dL_law_2636 rfl (lv_at hl 5 rfl) ?_
            refine lv_iload hx hb dL_law_2637 (lv_at hl 0 rfl) ?_
            refine lv_iconst (v := 4) hx hb dL_law_2639 (by decide) ?_
            refine lv_iadd hx hb dL_law_2640 ?_
            refine tp_i 4 (by decide) ?_
            refine va_sld hx hb hX hbl hbA hS (by unfold vp_in; decide) dL_law_2641 ?_
            refine tp_i x4 e4 ?_
            refine lv_aload_n hx hb dL_law_2642 rfl (lv_at hl 2 rfl) ?_
            refine ca_i (isC := [0]) (isR := [1, 2]) (wr := [(am, .inr (15, [.int 0, .ref (ma 0), .int 0, .int 0, .int 0, .int 0, .ref (ma 1), .ref (ma 2), .null, .int 1, .int 10, .int 900, .ref (ma 3), .ref (ma 4), .int 0, .int 0, .int 0, .ref (ma 5), .int 1000, .int 50, .int 50, .int 1000, .int 10, .int 0, .int 3000, .int 0, .int 0, .int 0])), (aj, .inl (cy 2, 1, .inr (.inl (fun _ => 0))))]) (rn_SW (isC := [0]) (wc := [(ax, .inr (14, [.ref (xa 0), .ref (xa 13), .ref (xa 18), .ref (xa 34), .ref (xa 45), .ref (xa 49), .ref (xa 50)]))]) (As := [.ref ax, .int x1, .int x2, .int x3, .int x4, .ref aj]) (rest := []) (n := 6) hx hb hml hown hts hE hS hP hD hA hl.1 (k643_L_claim l hst D cy g x1 x2 x3 x4 ax aj (.ref (xa 0)) (.ref (xa 13)) (.ref (xa 18)) (.ref (xa 34)) (.ref (xa 45)) (.ref (xa 49)) (.ref (xa 50)) H.size c0 c1 c2) rfl rfl ax_448 rfl rfl ax_449 ⟨Nat.le_of_ble_eq_true rfl, Nat.le_of_ble_eq_true rfl⟩ rfl rfl (Nat.le_of_ble_eq_true rfl) dL_law_2643 ⟨(Nat.le_of_ble_eq_true rfl), (Nat.le_of_ble_eq_true rfl)⟩) hP hD hS hA rfl rfl rfl (by decide) (fun ad2643 H locs hP hD hS => ?_)
            have hP : va_P D vwCl [(am, .inr (15, [.int 0, .ref (ma 0), .int 0, .int 0, .int 0, .int 0, .ref (ma 1), .ref (ma 2), .null, .int 1, .int 10, .int 900, .ref (ma 3), .ref (ma 4), .int 0, .int 0, .int 0, .ref (ma 5), .int 1000, .int 50, .int 50, .int 1000, .int 10, .int 0, .int 3000, .int 0, .int 0, .int 0])), (aj, .inl (cy 2, 1, .inr (.inl (fun _ => 0))))] H := hP
            have hD : va_D (AL s) [(am, .inr (15, [.int 0, .ref (ma 0), .int 0, .int 0, .int 0, .int 0, .ref (ma 1), .ref (ma 2), .null, .int 1, .int 10, .int 900, .ref (ma 3), .ref (ma 4), .int 0, .int 0, .int 0, .ref (ma 5), .int 1000, .int 50, .int 50, .int 1000, .int 10, .int 0, .int 3000, .int 0, .int 0, .int 0])), (aj, .inl (cy 2, 1, .inr (.inl (fun _ => 0))))] := hD
            refine lv_istore (lv' := [(6, .int 1), (5, .int 0), (4, .ref ao), (3, .ref aj), (2, .ref am), (1, .ref ax), (0, .ref b)]) hx hb dL_law_2646 hl (Nat.le_of_ble_eq_true rfl) rfl (fun ls hl => ?_)
            refine lv_aload_n hx hb dL_law_2648 rfl (lv_at hl 4 rfl) ?_
            refine lv_aload_n hx hb dL_law_2649 rfl (lv_at hl 6 rfl) ?_
            refine lv_iload hx hb dL_law_2650 (lv_at hl 1 rfl) ?_
            refine lv_iconst (v := 1) hx hb dL_law_2652 (by decide) ?_
            refine lv_iadd hx hb dL_law_2653 ?_
            refine tp_i 1 (by decide) ?_
            refine va_sld hx hb hX hbl hbA hS (by unfold vp_in; decide) dL_law_2654 ?_
            refine tp_i x1 e1 ?_
            refine lv_aload_n hx hb dL_law_2655 rfl (lv_at hl 6 rfl) ?_
            refine lv_iload hx hb dL_law_2656 (lv_at hl 1 rfl) ?_
            refine lv_iconst (v := 2) hx hb dL_law_2658 (by decide) ?_
            refine lv_iadd hx hb dL_law_2659 ?_
            refine tp_i 2 (by decide) ?_
            refine va_sld hx hb hX hbl hbA hS (by unfold vp_in; decide) dL_law_2660 ?_
            refine tp_i x2 e2 ?_
            refine lv_aload_n hx hb dL_law_2661 rfl (lv_at hl 6 rfl) ?_
            refine lv_iload hx hb dL_law_2662 (lv_at hl 1 rfl) ?_
            refine lv_iconst (v := 3) hx hb dL_law_2664 (by decide) ?_
            refine lv_iadd hx hb dL_law_2665 ?_
            refine tp_i 3 (by decide) ?_
            refine va_sld hx hb hX hbl hbA hS (by unfold vp_in; decide) dL_law_2666 ?_
            refine tp_i x3 e3 ?_
            refine lv_aload_n hx hb dL_law_2667 rfl (lv_at hl 6 rfl) ?_
            refine lv_iload hx hb dL_law_2668 (lv_at hl 1 rfl) ?_
            refine lv_iconst (v := 4) hx hb dL_law_2670 (by decide) ?_
            refine lv_iadd hx hb dL_law_2671 ?_
            refine tp_i 4 (by decide) ?_
            refine va_sld hx hb hX hbl hbA hS (by unfold vp_in; decide) dL_law_2672 ?_
            refine tp_i x4 e4 ?_
            refine ca_i (isC := [0]) (isR := [1]) (wr := [(aj, .inl (cy 2, 1, .inr (.inl (fun _ => 0))))]) (rn_V (ci := 15) (q0 := 0) (isC := [0]) (wc := [(am, .inr (15, [.int 0, .ref (ma 0), .int 0, .int 0, .int 0, .int 0, .ref (ma 1), .ref (ma 2), .null, .int 1, .int 10, .int 900, .ref (ma 3), .ref (ma 4), .int 0, .int 0, .int 0, .ref (ma 5), .int 1000, .int 50, .int 50, .int 1000, .int 10, .int 0, .int 3000, .int 0, .int 0, .int 0]))]) (As := [.int x1, .int x2, .int x3, .int x4]) (rest := []) (n := 4) hx hb hml hown hts hE hS hP hD hA hl.1 (k633_X10_claim l D cy g x1 x2 x3 x4 am (.int 0) (.ref (ma 0)) (.int 0) (.int 0) (.int 0) (.int 0) (.ref (ma 1)) (.ref (ma 2)) (.null) (.int 1) (.int 10) (.int 900) (.ref (ma 3)) (.ref (ma 4)) (.int 0) (.int 0) (.int 0) (.ref (ma 5)) (.int 1000) (.int 50) (.int 50) (.int 1000) (.int 10) (.int 0) (.int 3000) (.int 0) (.int 0) (.int 0) H.size c3 c4) rfl rfl rfl rfl rfl ax_450 rfl rfl ax_451 ⟨Nat.le_of_ble_eq_true rfl, Nat.le_of_ble_eq_true rfl⟩ rfl rfl (Nat.le_of_ble_eq_true rfl) dL_law_2673 ⟨(Nat.le_of_ble_eq_true rfl), (Nat.le_of_ble_eq_true rfl)⟩) hP hD hS hA rfl rfl rfl (by decide) (fun ad2673 H locs hP hD hS => ?_)
            have hP : va_P D vwCl [(aj, .inl (cy 2, 1, .inr (.inl (fun _ => 0)))), (am, .inr (15, [.int 1, .ref (ma 0), .int 0, .int 0, .int 0, .int 0, .ref (ma 1), .ref (ma 2), .null, .int 1, .int 10, .int 900, .ref (ma 3), .ref (ma 4), .int 0, .int 0, .int 0, .ref (ma 5), .int 1000, .int 50, .int 50, .int 1000, .int 10, .int 0, .int 3000, .int 0, .int 0, .int 0]))] H := hP
            have hD : va_D (AL s) [(aj, .inl (cy 2, 1, .inr (.inl (fun _ => 0)))), (am, .inr (15, [.int 1, .ref (ma 0), .int 0, .int 0, .int 0, .int 0, .ref (ma 1), .ref (ma 2), .null, .int 1, .int 10, .int 900, .ref (ma 3), .ref (ma 4), .int 0, .int 0, .int 0, .ref (ma 5), .int 1000, .int 50, .int 50, .int 1000, .int 10, .int 0, .int 3000, .int 0, .int 0, .int 0]))] := hD
            refine lv_istore (lv' := [(7, .int 32), (6, .int 1), (5, .int 0), (4, .ref ao), (3, .ref aj), (2, .ref am), (1, .ref ax), (0, .ref b)]) hx hb dL_law_2676 hl (Nat.le_of_ble_eq_true rfl) rfl (fun ls hl => ?_)
            refine lv_aload_n hx hb dL_law_2678 rfl (lv_at hl 5 rfl) ?_
            refine ca_i (isC := [1]) (isR := [0]) (wr := [(aj, .inl (cy 2, 1, .inr (.inl (fun _ => 0))))]) (rn_V (ci := 15) (q0 := 1) (isC := [1]) (wc := [(am, .inr (15, [.int 1, .ref (ma 0), .int 0, .int 0, .int 0, .int 0, .ref (ma 1), .ref (ma 2), .null, .int 1, .int 10, .int 900, .ref (ma 3), .ref (ma 4), .int 0, .int 0, .int 0, .ref (ma 5), .int 1000, .int 50, .int 50, .int 1000, .int 10, .int 0, .int 3000, .int 0, .int 0, .int 0]))]) (As := []) (rest := []) (n := 0) hx hb hml hown hts hE hS hP hD hA hl.1 (k24_X10_thrown l D cy g am (.ref (ma 0)) (.int 0) (.int 0) (.int 0) (.int 0) (.ref (ma 1)) (.ref (ma 2)) (.null) (.int 1) (.int 10) (.int 900) (.ref (ma 3)) (.ref (ma 4)) (.int 0) (.int 0) (.int 0) (.ref (ma 5)) (.int 1000) (.int 50) (.int 50) (.int 1000) (.int 10) (.int 0) (.int 3000) (.int 0) (.int 0) (.int 0) H.size ) rfl rfl rfl rfl rfl ax_45 rfl rfl ax_46 ⟨Nat.le_of_ble_eq_true rfl, Nat.le_of_ble_eq_true rfl⟩ rfl rfl (Nat.le_of_ble_eq_true rfl) dL_law_2679 ⟨(Nat.le_of_ble_eq_true rfl), (Nat.le_of_ble_eq_true rfl)⟩) hP hD hS hA rfl rfl rfl (by decide) (fun ad2679 H locs hP hD hS => ?_)
            have hP : va_P D vwCl [(aj, .inl (cy 2, 1, .inr (.inl (fun _ => 0)))), (am, .inr (15, [.int 1, .ref (ma 0), .int 0, .int 0, .int 0, .int 0, .ref (ma 1), .ref (ma 2), .null, .int 1, .int 10, .int 900, .ref (ma 3), .ref (ma 4), .int 0, .int 0, .int 0, .ref (ma 5), .int 1000, .int 50, .int 50, .int 1000, .int 10, .int 0, .int 3000, .int 0, .int 0, .int 0]))] H := hP
            have hD : va_D (AL s) [(aj, .inl (cy 2, 1, .inr (.inl (fun _ => 0)))), (am, .inr (15, [.int 1, .ref (ma 0), .int 0, .int 0, .int 0, .int 0, .ref (ma 1), .ref (ma 2), .null, .int 1, .int 10, .int 900, .ref (ma 3), .ref (ma 4), .int 0, .int 0, .int 0, .ref (ma 5), .int 1000, .int 50, .int 50, .int 1000, .int 10, .int 0, .int 3000, .int 0, .int 0, .int 0]))] := hD
            refine lv_iload hx hb dL_law_2682 (lv_at hl 1 rfl) ?_
            refine lv_icmp_eq (tgt := 2689) hx hb dL_law_2684 (by decide) (fun _ => ?_) (fun z => absurd (by decide) z)
            refine lv_iload hx hb dL_law_2689 (lv_at hl 1 rfl) ?_
            refine lv_if_ne (tgt := 2706) hx hb dL_law_2691 (by decide) (fun _ => ?_) (fun z => absurd z (by decide))
            refine lv_goto (tgt := 2947) hx hb dL_law_2706 (by decide) ?_
            exact law_tail LC hS (Nat.le_of_ble_eq_true rfl) (Nat.le_of_ble_eq_true rfl) (lv_sub hl [2, 7] rfl)
          · refine lv_aload_n hx hb dL_law_2617 rfl (lv_at hl 4 rfl) ?_
            refine lv_aload_n hx hb dL_law_2618 rfl (lv_at hl 5 rfl) ?_
            refine lv_iload hx hb dL_law_2619 (lv_at hl 0 rfl) ?_
            refine lv_iconst (v := 1) hx hb dL_law_2621 (by decide) ?_
            refine lv_iadd hx hb dL_law_2622 ?_
            refine tp_i 1 (by decide) ?_
            refine va_sld hx hb hX hbl hbA hS (by unfold vp_in; decide) dL_law_2623 ?_
            refine tp_i x1 e1 ?_
            refine lv_aload_n hx hb dL_law_2624 rfl (lv_at hl 5 rfl) ?_
            refine lv_iload hx hb dL_law_2625 (lv_at hl 0 rfl) ?_
            refine lv_iconst (v := 2) hx hb dL_law_2627 (by decide) ?_
            refine lv_iadd hx hb dL_law_2628 ?_
            refine tp_i 2 (by decide) ?_
            refine va_sld hx hb hX hbl hbA hS (by unfold vp_in; decide) dL_law_2629 ?_
            refine tp_i x2 e2 ?_
            refine lv_aload_n hx hb dL_law_2630 rfl (lv_at hl 5 rfl) ?_
            refine lv_iload hx hb dL_law_2631 (lv_at hl 0 rfl) ?_
            refine lv_iconst (v := 3) hx hb dL_law_2633 (by decide) ?_
            refine lv_iadd hx hb dL_law_2634 ?_
            refine tp_i 3 (by decide) ?_
            refine va_sld hx hb hX hbl hbA hS (by unfold vp_in; decide) dL_law_2635 ?_
            refine tp_i x3 e3 ?_
            refine lv_aload_n hx hb dL_law_2636 rfl (lv_at hl 5 rfl) ?_
            refine lv_iload hx hb dL_law_2637 (lv_at hl 0 rfl) ?_
            refine lv_iconst (v := 4) hx hb dL_law_2639 (by decide) ?_
            refine lv_iadd hx hb dL_law_2640 ?_
            refine tp_i 4 (by decide) ?_
            refine va_sld hx hb hX hbl hbA hS (by unfold vp_in; decide) dL_law_2641 ?_
            refine tp_i x4 e4 ?_
            refine lv_aload_n hx hb dL_law_2642 rfl (lv_at hl 2 rfl) ?_
            refine ca_i (isC := [0]) (isR := [1, 2]) (wr := [(am, .inr (15, [.int 0, .ref (ma 0), .int 0, .int 0, .int 0, .int 0, .ref (ma 1), .ref (ma 2), .null, .int 1, .int 10, .int 900, .ref (ma 3), .ref (ma 4), .int 0, .int 0, .int 0, .ref (ma 5), .int 1000, .int 50, .int 50, .int 1000, .int 10, .int 0, .int 3000, .int 0, .int 0, .int 0])), (aj, .inl (cy 2, 1, .inr (.inl (fun _ => 0))))]) (rn_SW (isC := [0]) (wc := [(ax, .inr (14, [.ref (xa 0), .ref (xa 13), .ref (xa 18), .ref (xa 34), .ref (xa 45), .ref (xa 49), .ref (xa 50)]))]) (As := [.ref ax, .int x1, .int x2, .int x3, .int x4, .ref aj]) (rest := []) (n := 6) hx hb hml hown hts hE hS hP hD hA hl.1 (k643_L_claim l hst D cy g x1 x2 x3 x4 ax aj (.ref (xa 0)) (.ref (xa 13)) (.ref (xa 18)) (.ref (xa 34)) (.ref (xa 45)) (.ref (xa 49)) (.ref (xa 50)) H.size c0 c1 c2) rfl rfl ax_448 rfl rfl ax_449 ⟨Nat.le_of_ble_eq_true rfl, Nat.le_of_ble_eq_true rfl⟩ rfl rfl (Nat.le_of_ble_eq_true rfl) dL_law_2643 ⟨(Nat.le_of_ble_eq_true rfl), (Nat.le_of_ble_eq_true rfl)⟩) hP hD hS hA rfl rfl rfl (by decide) (fun ad2643 H locs hP hD hS => ?_)
            have hP : va_P D vwCl [(am, .inr (15, [.int 0, .ref (ma 0), .int 0, .int 0, .int 0, .int 0, .ref (ma 1), .ref (ma 2), .null, .int 1, .int 10, .int 900, .ref (ma 3), .ref (ma 4), .int 0, .int 0, .int 0, .ref (ma 5), .int 1000, .int 50, .int 50, .int 1000, .int 10, .int 0, .int 3000, .int 0, .int 0, .int 0])), (aj, .inl (cy 2, 1, .inr (.inl (fun _ => 0))))] H := hP
            have hD : va_D (AL s) [(am, .inr (15, [.int 0, .ref (ma 0), .int 0, .int 0, .int 0, .int 0, .ref (ma 1), .ref (ma 2), .null, .int 1, .int 10, .int 900, .ref (ma 3), .ref (ma 4), .int 0, .int 0, .int 0, .ref (ma 5), .int 1000, .int 50, .int 50, .int 1000, .int 10, .int 0, .int 3000, .int 0, .int 0, .int 0])), (aj, .inl (cy 2, 1, .inr (.inl (fun _ => 0))))] := hD
            refine lv_istore (lv' := [(6, .int 1), (5, .int 0), (4, .ref ao), (3, .ref aj), (2, .ref am), (1, .ref ax), (0, .ref b)]) hx hb dL_law_2646 hl (Nat.le_of_ble_eq_true rfl) rfl (fun ls hl => ?_)
            refine lv_aload_n hx hb dL_law_2648 rfl (lv_at hl 4 rfl) ?_
            refine lv_aload_n hx hb dL_law_2649 rfl (lv_at hl 6 rfl) ?_
            refine lv_iload hx hb dL_law_2650 (lv_at hl 1 rfl) ?_
            refine lv_iconst (v := 1) hx hb dL_law_2652 (by decide) ?_
            refine lv_iadd hx hb dL_law_2653 ?_
            refine tp_i 1 (by decide) ?_
            refine va_sld hx hb hX hbl hbA hS (by unfold vp_in; decide) dL_law_2654 ?_
            refine tp_i x1 e1 ?_
            refine lv_aload_n hx hb dL_law_2655 rfl (lv_at hl 6 rfl) ?_
            refine lv_iload hx hb dL_law_2656 (lv_at hl 1 rfl) ?_
            refine lv_iconst (v := 2) hx hb dL_law_2658 (by decide) ?_
            refine lv_iadd hx hb dL_law_2659 ?_
            refine tp_i 2 (by decide) ?_
            refine va_sld hx hb hX hbl hbA hS (by unfold vp_in; decide) dL_law_2660 ?_
            refine tp_i x2 e2 ?_
            refine lv_aload_n hx hb dL_law_2661 rfl (lv_at hl 6 rfl) ?_
            refine lv_iload hx hb dL_law_2662 (lv_at hl 1 rfl) ?_
            refine lv_iconst (v := 3) hx hb dL_law_2664 (by decide) ?_
            refine lv_iadd hx hb dL_law_2665 ?_
            refine tp_i 3 (by decide) ?_
            refine va_sld hx hb hX hbl hbA hS (by unfold vp_in; decide) dL_law_2666 ?_
            refine tp_i x3 e3 ?_
            refine lv_aload_n hx hb dL_law_2667 rfl (lv_at hl 6 rfl) ?_
            refine lv_iload hx hb dL_law_2668 (lv_at hl 1 rfl) ?_
            refine lv_iconst (v := 4) hx hb dL_law_2670 (by decide) ?_
            refine lv_iadd hx hb dL_law_2671 ?_
            refine tp_i 4 (by decide) ?_
            refine va_sld hx hb hX hbl hbA hS (by unfold vp_in; decide) dL_law_2672 ?_
            refine tp_i x4 e4 ?_
            refine ca_i (isC := [0]) (isR := [1]) (wr := [(aj, .inl (cy 2, 1, .inr (.inl (fun _ => 0))))]) (rn_V (ci := 15) (q0 := 0) (isC := [0]) (wc := [(am, .inr (15, [.int 0, .ref (ma 0), .int 0, .int 0, .int 0, .int 0, .ref (ma 1), .ref (ma 2), .null, .int 1, .int 10, .int 900, .ref (ma 3), .ref (ma 4), .int 0, .int 0, .int 0, .ref (ma 5), .int 1000, .int 50, .int 50, .int 1000, .int 10, .int 0, .int 3000, .int 0, .int 0, .int 0]))]) (As := [.int x1, .int x2, .int x3, .int x4]) (rest := []) (n := 4) hx hb hml hown hts hE hS hP hD hA hl.1 (k645_X10_claim l D cy g x1 x2 x3 x4 am (.int 0) (.ref (ma 0)) (.int 0) (.int 0) (.int 0) (.int 0) (.ref (ma 1)) (.ref (ma 2)) (.null) (.int 1) (.int 10) (.int 900) (.ref (ma 3)) (.ref (ma 4)) (.int 0) (.int 0) (.int 0) (.ref (ma 5)) (.int 1000) (.int 50) (.int 50) (.int 1000) (.int 10) (.int 0) (.int 3000) (.int 0) (.int 0) (.int 0) H.size c3 c4 c0 c1 c2) rfl rfl rfl rfl rfl ax_450 rfl rfl ax_451 ⟨Nat.le_of_ble_eq_true rfl, Nat.le_of_ble_eq_true rfl⟩ rfl rfl (Nat.le_of_ble_eq_true rfl) dL_law_2673 ⟨(Nat.le_of_ble_eq_true rfl), (Nat.le_of_ble_eq_true rfl)⟩) hP hD hS hA rfl rfl rfl (by decide) (fun ad2673 H locs hP hD hS => ?_)
            have hP : va_P D vwCl [(aj, .inl (cy 2, 1, .inr (.inl (fun _ => 0)))), (am, .inr (15, [.int 1, .ref (ma 0), .int 0, .int 0, .int 0, .int 0, .ref (ma 1), .ref (ma 2), .null, .int 1, .int 10, .int 900, .ref (ma 3), .ref (ma 4), .int 0, .int 0, .int 0, .ref (ma 5), .int 1000, .int 50, .int 50, .int 1000, .int 10, .int 0, .int 3000, .int 0, .int 0, .int 0]))] H := hP
            have hD : va_D (AL s) [(aj, .inl (cy 2, 1, .inr (.inl (fun _ => 0)))), (am, .inr (15, [.int 1, .ref (ma 0), .int 0, .int 0, .int 0, .int 0, .ref (ma 1), .ref (ma 2), .null, .int 1, .int 10, .int 900, .ref (ma 3), .ref (ma 4), .int 0, .int 0, .int 0, .ref (ma 5), .int 1000, .int 50, .int 50, .int 1000, .int 10, .int 0, .int 3000, .int 0, .int 0, .int 0]))] := hD
            refine lv_istore (lv' := [(7, .int 32), (6, .int 1), (5, .int 0), (4, .ref ao), (3, .ref aj), (2, .ref am), (1, .ref ax), (0, .ref b)]) hx hb dL_law_2676 hl (Nat.le_of_ble_eq_true rfl) rfl (fun ls hl => ?_)
            refine lv_aload_n hx hb dL_law_2678 rfl (lv_at hl 5 rfl) ?_
            refine ca_i (isC := [1]) (isR := [0]) (wr := [(aj, .inl (cy 2, 1, .inr (.inl (fun _ => 0))))]) (rn_V (ci := 15) (q0 := 1) (isC := [1]) (wc := [(am, .inr (15, [.int 1, .ref (ma 0), .int 0, .int 0, .int 0, .int 0, .ref (ma 1), .ref (ma 2), .null, .int 1, .int 10, .int 900, .ref (ma 3), .ref (ma 4), .int 0, .int 0, .int 0, .ref (ma 5), .int 1000, .int 50, .int 50, .int 1000, .int 10, .int 0, .int 3000, .int 0, .int 0, .int 0]))]) (As := []) (rest := []) (n := 0) hx hb hml hown hts hE hS hP hD hA hl.1 (k24_X10_thrown l D cy g am (.ref (ma 0)) (.int 0) (.int 0) (.int 0) (.int 0) (.ref (ma 1)) (.ref (ma 2)) (.null) (.int 1) (.int 10) (.int 900) (.ref (ma 3)) (.ref (ma 4)) (.int 0) (.int 0) (.int 0) (.ref (ma 5)) (.int 1000) (.int 50) (.int 50) (.int 1000) (.int 10) (.int 0) (.int 3000) (.int 0) (.int 0) (.int 0) H.size ) rfl rfl rfl rfl rfl ax_45 rfl rfl ax_46 ⟨Nat.le_of_ble_eq_true rfl, Nat.le_of_ble_eq_true rfl⟩ rfl rfl (Nat.le_of_ble_eq_true rfl) dL_law_2679 ⟨(Nat.le_of_ble_eq_true rfl), (Nat.le_of_ble_eq_true rfl)⟩) hP hD hS hA rfl rfl rfl (by decide) (fun ad2679 H locs hP hD hS => ?_)
            have hP : va_P D vwCl [(aj, .inl (cy 2, 1, .inr (.inl (fun _ => 0)))), (am, .inr (15, [.int 1, .ref (ma 0), .int 0, .int 0, .int 0, .int 0, .ref (ma 1), .ref (ma 2), .null, .int 1, .int 10, .int 900, .ref (ma 3), .ref (ma 4), .int 0, .int 0, .int 0, .ref (ma 5), .int 1000, .int 50, .int 50, .int 1000, .int 10, .int 0, .int 3000, .int 0, .int 0, .int 0]))] H := hP
            have hD : va_D (AL s) [(aj, .inl (cy 2, 1, .inr (.inl (fun _ => 0)))), (am, .inr (15, [.int 1, .ref (ma 0), .int 0, .int 0, .int 0, .int 0, .ref (ma 1), .ref (ma 2), .null, .int 1, .int 10, .int 900, .ref (ma 3), .ref (ma 4), .int 0, .int 0, .int 0, .ref (ma 5), .int 1000, .int 50, .int 50, .int 1000, .int 10, .int 0, .int 3000, .int 0, .int 0, .int 0]))] := hD
            refine lv_iload hx hb dL_law_2682 (lv_at hl 1 rfl) ?_
            refine lv_icmp_eq (tgt := 2689) hx hb dL_law_2684 (by decide) (fun _ => ?_) (fun z => absurd (by decide) z)
            refine lv_iload hx hb dL_law_2689 (lv_at hl 1 rfl) ?_
            refine lv_if_ne (tgt := 2706) hx hb dL_law_2691 (by decide) (fun _ => ?_) (fun z => absurd z (by decide))
            refine lv_goto (tgt := 2947) hx hb dL_law_2706 (by decide) ?_
            exact law_tail LC hS (Nat.le_of_ble_eq_true rfl) (Nat.le_of_ble_eq_true rfl) (lv_sub hl [2, 7] rfl)
      · by_cases c3 : (2000 : Int32) < x2
        · by_cases c4 : x4 < 0
          · refine lv_aload_n hx hb dL_law_2617 rfl (lv_at hl 4 rfl) ?_
            refine lv_aload_n hx hb dL_law_2618 rfl (lv_at hl 5 rfl) ?_
            refine lv_iload hx hb dL_law_2619 (lv_at hl 0 rfl) ?_
            refine lv_iconst (v := 1) hx hb dL_law_2621 (by decide) ?_
            refine lv_iadd hx hb dL_law_2622 ?_
            refine tp_i 1 (by decide) ?_
            refine va_sld hx hb hX hbl hbA hS (by unfold vp_in; decide) dL_law_2623 ?_
            refine tp_i x1 e1 ?_
            refine lv_aload_n hx hb dL_law_2624 rfl (lv_at hl 5 rfl) ?_
            refine lv_iload hx hb dL_law_2625 (lv_at hl 0 rfl) ?_
            refine lv_iconst (v := 2) hx hb dL_law_2627 (by decide) ?_
            refine lv_iadd hx hb dL_law_2628 ?_
            refine tp_i 2 (by decide) ?_
            refine va_sld hx hb hX hbl hbA hS (by unfold vp_in; decide) dL_law_2629 ?_
            refine tp_i x2 e2 ?_
            refine lv_aload_n hx hb dL_law_2630 rfl (lv_at hl 5 rfl) ?_
            refine lv_iload hx hb dL_law_2631 (lv_at hl 0 rfl) ?_
            refine lv_iconst (v := 3) hx hb dL_law_2633 (by decide) ?_
            refine lv_iadd hx hb dL_law_2634 ?_
            refine tp_i 3 (by decide) ?_
            refine va_sld hx hb hX hbl hbA hS (by unfold vp_in; decide) dL_law_2635 ?_
            refine tp_i x3 e3 ?_
            refine lv_aload_n hx hb dL_law_2636 rfl (lv_at hl 5 rfl) ?_
            refine lv_iload hx hb dL_law_2637 (lv_at hl 0 rfl) ?_
            refine lv_iconst (v := 4) hx hb dL_law_2639 (by decide) ?_
            refine lv_iadd hx hb dL_law_2640 ?_
            refine tp_i 4 (by decide) ?_
            refine va_sld hx hb hX hbl hbA hS (by unfold vp_in; decide) dL_law_2641 ?_
            refine tp_i x4 e4 ?_
            refine lv_aload_n hx hb dL_law_2642 rfl (lv_at hl 2 rfl) ?_
            refine ca_i (isC := [0]) (isR := [1, 2]) (wr := [(am, .inr (15, [.int 0, .ref (ma 0), .int 0, .int 0, .int 0, .int 0, .ref (ma 1), .ref (ma 2), .null, .int 1, .int 10, .int 900, .ref (ma 3), .ref (ma 4), .int 0, .int 0, .int 0, .ref (ma 5), .int 1000, .int 50, .int 50, .int 1000, .int 10, .int 0, .int 3000, .int 0, .int 0, .int 0])), (aj, .inl (cy 2, 1, .inr (.inl (fun _ => 0))))]) (rn_SW (isC := [0]) (wc := [(ax, .inr (14, [.ref (xa 0), .ref (xa 13), .ref (xa 18), .ref (xa 34), .ref (xa 45), .ref (xa 49), .ref (xa 50)]))]) (As := [.ref ax, .int x1, .int x2, .int x3, .int x4, .ref aj]) (rest := []) (n := 6) hx hb hml hown hts hE hS hP hD hA hl.1 (k648_L_claim l hst D cy g x1 x2 x3 x4 ax aj (.ref (xa 0)) (.ref (xa 13)) (.ref (xa 18)) (.ref (xa 34)) (.ref (xa 45)) (.ref (xa 49)) (.ref (xa 50)) H.size c0 c1 c2 c3) rfl rfl ax_448 rfl rfl ax_449 ⟨Nat.le_of_ble_eq_true rfl, Nat.le_of_ble_eq_true rfl⟩ rfl rfl (Nat.le_of_ble_eq_true rfl) dL_law_2643 ⟨(Nat.le_of_ble_eq_true rfl), (Nat.le_of_ble_eq_true rfl)⟩) hP hD hS hA rfl rfl rfl (by decide) (fun ad2643 H locs hP hD hS => ?_)
            have hP : va_P D vwCl [(am, .inr (15, [.int 0, .ref (ma 0), .int 0, .int 0, .int 0, .int 0, .ref (ma 1), .ref (ma 2), .null, .int 1, .int 10, .int 900, .ref (ma 3), .ref (ma 4), .int 0, .int 0, .int 0, .ref (ma 5), .int 1000, .int 50, .int 50, .int 1000, .int 10, .int 0, .int 3000, .int 0, .int 0, .int 0])), (aj, .inl (cy 2, 1, .inr (.inl (fun _ => 0))))] H := hP
            have hD : va_D (AL s) [(am, .inr (15, [.int 0, .ref (ma 0), .int 0, .int 0, .int 0, .int 0, .ref (ma 1), .ref (ma 2), .null, .int 1, .int 10, .int 900, .ref (ma 3), .ref (ma 4), .int 0, .int 0, .int 0, .ref (ma 5), .int 1000, .int 50, .int 50, .int 1000, .int 10, .int 0, .int 3000, .int 0, .int 0, .int 0])), (aj, .inl (cy 2, 1, .inr (.inl (fun _ => 0))))] := hD
            refine lv_istore (lv' := [(6, .int 1), (5, .int 0), (4, .ref ao), (3, .ref aj), (2, .ref am), (1, .ref ax), (0, .ref b)]) hx hb dL_law_2646 hl (Nat.le_of_ble_eq_true rfl) rfl (fun ls hl => ?_)
            refine lv_aload_n hx hb dL_law_2648 rfl (lv_at hl 4 rfl) ?_
            refine lv_aload_n hx hb dL_law_2649 rfl (lv_at hl 6 rfl) ?_
            refine lv_iload hx hb dL_law_2650 (lv_at hl 1 rfl) ?_
            refine lv_iconst (v := 1) hx hb dL_law_2652 (by decide) ?_
            refine lv_iadd hx hb dL_law_2653 ?_
            refine tp_i 1 (by decide) ?_
            refine va_sld hx hb hX hbl hbA hS (by unfold vp_in; decide) dL_law_2654 ?_
            refine tp_i x1 e1 ?_
            refine lv_aload_n hx hb dL_law_2655 rfl (lv_at hl 6 rfl) ?_
            refine lv_iload hx hb dL_law_2656 (lv_at hl 1 rfl) ?_
            refine lv_iconst (v := 2) hx hb dL_law_2658 (by decide) ?_
            refine lv_iadd hx hb dL_law_2659 ?_
            refine tp_i 2 (by decide) ?_
            refine va_sld hx hb hX hbl hbA hS (by unfold vp_in; decide) dL_law_2660 ?_
            refine tp_i x2 e2 ?_
            refine lv_aload_n hx hb dL_law_2661 rfl (lv_at hl 6 rfl) ?_
            refine lv_iload hx hb dL_law_2662 (lv_at hl 1 rfl) ?_
            refine lv_iconst (v := 3) hx hb dL_law_2664 (by decide) ?_
            refine lv_iadd hx hb dL_law_2665 ?_
            refine tp_i 3 (by decide) ?_
            refine va_sld hx hb hX hbl hbA hS (by unfold vp_in; decide) dL_law_2666 ?_
            refine tp_i x3 e3 ?_
            refine lv_aload_n hx hb dL_law_2667 rfl (lv_at hl 6 rfl) ?_
            refine lv_iload hx hb dL_law_2668 (lv_at hl 1 rfl) ?_
            refine lv_iconst (v := 4) hx hb dL_law_2670 (by decide) ?_
            refine lv_iadd hx hb dL_law_2671 ?_
            refine tp_i 4 (by decide) ?_
            refine va_sld hx hb hX hbl hbA hS (by unfold vp_in; decide) dL_law_2672 ?_
            refine tp_i x4 e4 ?_
            refine ca_i (isC := [0]) (isR := [1]) (wr := [(aj, .inl (cy 2, 1, .inr (.inl (fun _ => 0))))]) (rn_V (ci := 15) (q0 := 0) (isC := [0]) (wc := [(am, .inr (15, [.int 0, .ref (ma 0), .int 0, .int 0, .int 0, .int 0, .ref (ma 1), .ref (ma 2), .null, .int 1, .int 10, .int 900, .ref (ma 3), .ref (ma 4), .int 0, .int 0, .int 0, .ref (ma 5), .int 1000, .int 50, .int 50, .int 1000, .int 10, .int 0, .int 3000, .int 0, .int 0, .int 0]))]) (As := [.int x1, .int x2, .int x3, .int x4]) (rest := []) (n := 4) hx hb hml hown hts hE hS hP hD hA hl.1 (k632_X10_claim l D cy g x1 x2 x3 x4 am (.int 0) (.ref (ma 0)) (.int 0) (.int 0) (.int 0) (.int 0) (.ref (ma 1)) (.ref (ma 2)) (.null) (.int 1) (.int 10) (.int 900) (.ref (ma 3)) (.ref (ma 4)) (.int 0) (.int 0) (.int 0) (.ref (ma 5)) (.int 1000) (.int 50) (.int 50) (.int 1000) (.int 10) (.int 0) (.int 3000) (.int 0) (.int 0) (.int 0) H.size c4) rfl rfl rfl rfl rfl ax_450 rfl rfl ax_451 ⟨Nat.le_of_ble_eq_true rfl, Nat.le_of_ble_eq_true rfl⟩ rfl rfl (Nat.le_of_ble_eq_true rfl) dL_law_2673 ⟨(Nat.le_of_ble_eq_true rfl), (Nat.le_of_ble_eq_true rfl)⟩) hP hD hS hA rfl rfl rfl (by decide) (fun ad2673 H locs hP hD hS => ?_)
            have hP : va_P D vwCl [(aj, .inl (cy 2, 1, .inr (.inl (fun _ => 0)))), (am, .inr (15, [.int 1, .ref (ma 0), .int 0, .int 0, .int 0, .int 0, .ref (ma 1), .ref (ma 2), .null, .int 1, .int 10, .int 900, .ref (ma 3), .ref (ma 4), .int 0, .int 0, .int 0, .ref (ma 5), .int 1000, .int 50, .int 50, .int 1000, .int 10, .int 0, .int 3000, .int 0, .int 0, .int 0]))] H := hP
            have hD : va_D (AL s) [(aj, .inl (cy 2, 1, .inr (.inl (fun _ => 0)))), (am, .inr (15, [.int 1, .ref (ma 0), .int 0, .int 0, .int 0, .int 0, .ref (ma 1), .ref (ma 2), .null, .int 1, .int 10, .int 900, .ref (ma 3), .ref (ma 4), .int 0, .int 0, .int 0, .ref (ma 5), .int 1000, .int 50, .int 50, .int 1000, .int 10, .int 0, .int 3000, .int 0, .int 0, .int 0]))] := hD
            refine lv_istore (lv' := [(7, .int 32), (6, .int 1), (5, .int 0), (4, .ref ao), (3, .ref aj), (2, .ref am), (1, .ref ax), (0, .ref b)]) hx hb dL_law_2676 hl (Nat.le_of_ble_eq_true rfl) rfl (fun ls hl => ?_)
            refine lv_aload_n hx hb dL_law_2678 rfl (lv_at hl 5 rfl) ?_
            refine ca_i (isC := [1]) (isR := [0]) (wr := [(aj, .inl (cy 2, 1, .inr (.inl (fun _ => 0))))]) (rn_V (ci := 15) (q0 := 1) (isC := [1]) (wc := [(am, .inr (15, [.int 1, .ref (ma 0), .int 0, .int 0, .int 0, .int 0, .ref (ma 1), .ref (ma 2), .null, .int 1, .int 10, .int 900, .ref (ma 3), .ref (ma 4), .int 0, .int 0, .int 0, .ref (ma 5), .int 1000, .int 50, .int 50, .int 1000, .int 10, .int 0, .int 3000, .int 0, .int 0, .int 0]))]) (As := []) (rest := []) (n := 0) hx hb hml hown hts hE hS hP hD hA hl.1 (k24_X10_thrown l D cy g am (.ref (ma 0)) (.int 0) (.int 0) (.int 0) (.int 0) (.ref (ma 1)) (.ref (ma 2)) (.null) (.int 1) (.int 10) (.int 900) (.ref (ma 3)) (.ref (ma 4)) (.int 0) (.int 0) (.int 0) (.ref (ma 5)) (.int 1000) (.int 50) (.int 50) (.int 1000) (.int 10) (.int 0) (.int 3000) (.int 0) (.int 0) (.int 0) H.size ) rfl rfl rfl rfl rfl ax_45 rfl rfl ax_46 ⟨Nat.le_of_ble_eq_true rfl, Nat.le_of_ble_eq_true rfl⟩ rfl rfl (Nat.le_of_ble_eq_true rfl) dL_law_2679 ⟨(Nat.le_of_ble_eq_true rfl), (Nat.le_of_ble_eq_true rfl)⟩) hP hD hS hA rfl rfl rfl (by decide) (fun ad2679 H locs hP hD hS => ?_)
            have hP : va_P D vwCl [(aj, .inl (cy 2, 1, .inr (.inl (fun _ => 0)))), (am, .inr (15, [.int 1, .ref (ma 0), .int 0, .int 0, .int 0, .int 0, .ref (ma 1), .ref (ma 2), .null, .int 1, .int 10, .int 900, .ref (ma 3), .ref (ma 4), .int 0, .int 0, .int 0, .ref (ma 5), .int 1000, .int 50, .int 50, .int 1000, .int 10, .int 0, .int 3000, .int 0, .int 0, .int 0]))] H := hP
            have hD : va_D (AL s) [(aj, .inl (cy 2, 1, .inr (.inl (fun _ => 0)))), (am, .inr (15, [.int 1, .ref (ma 0), .int 0, .int 0, .int 0, .int 0, .ref (ma 1), .ref (ma 2), .null, .int 1, .int 10, .int 900, .ref (ma 3), .ref (ma 4), .int 0, .int 0, .int 0, .ref (ma 5), .int 1000, .int 50, .int 50, .int 1000, .int 10, .int 0, .int 3000, .int 0, .int 0, .int 0]))] := hD
            refine lv_iload hx hb dL_law_2682 (lv_at hl 1 rfl) ?_
            refine lv_icmp_eq (tgt := 2689) hx hb dL_law_2684 (by decide) (fun _ => ?_) (fun z => absurd (by decide) z)
            refine lv_iload hx hb dL_law_2689 (lv_at hl 1 rfl) ?_
            refine lv_if_ne (tgt := 2706) hx hb dL_law_2691 (by decide) (fun _ => ?_) (fun z => absurd z (by decide))
            refine lv_goto (tgt := 2947) hx hb dL_law_2706 (by decide) ?_
            exact law_tail LC hS (Nat.le_of_ble_eq_true rfl) (Nat.le_of_ble_eq_true rfl) (lv_sub hl [2, 7] rfl)
          · by_cases c5 : (200000 : Int32) < x4
            · refine lv_aload_n hx hb dL_law_2617 rfl (lv_at hl 4 rfl) ?_
              refine lv_aload_n hx hb dL_law_2618 rfl (lv_at hl 5 rfl) ?_
              refine lv_iload hx hb dL_law_2619 (lv_at hl 0 rfl) ?_
              refine lv_iconst (v := 1) hx hb dL_law_2621 (by decide) ?_
              refine lv_iadd hx hb dL_law_2622 ?_
              refine tp_i 1 (by decide) ?_
              refine va_sld hx hb hX hbl hbA hS (by unfold vp_in; decide) dL_law_2623 ?_
              refine tp_i x1 e1 ?_
              refine lv_aload_n hx hb dL_law_2624 rfl (lv_at hl 5 rfl) ?_
              refine lv_iload hx hb dL_law_2625 (lv_at hl 0 rfl) ?_
              refine lv_iconst (v := 2) hx hb dL_law_2627 (by decide) ?_
              refine lv_iadd hx hb dL_law_2628 ?_
              refine tp_i 2 (by decide) ?_
              refine va_sld hx hb hX hbl hbA hS (by unfold vp_in; decide) dL_law_2629 ?_
              refine tp_i x2 e2 ?_
              refine lv_aload_n hx hb dL_law_2630 rfl (lv_at hl 5 rfl) ?_
              refine lv_iload hx hb dL_law_2631 (lv_at hl 0 rfl) ?_
              refine lv_iconst (v := 3) hx hb dL_law_2633 (by decide) ?_
              refine lv_iadd hx hb dL_law_2634 ?_
              refine tp_i 3 (by decide) ?_
              refine va_sld hx hb hX hbl hbA hS (by unfold vp_in; decide) dL_law_2635 ?_
              refine tp_i x3 e3 ?_
              refine lv_aload_n hx hb dL_law_2636 rfl (lv_at hl 5 rfl) ?_
              refine lv_iload hx hb dL_law_2637 (lv_at hl 0 rfl) ?_
              refine lv_iconst (v := 4) hx hb dL_law_2639 (by decide) ?_
              refine lv_iadd hx hb dL_law_2640 ?_
              refine tp_i 4 (by decide) ?_
              refine va_sld hx hb hX hbl hbA hS (by unfold vp_in; decide) dL_law_2641 ?_
              refine tp_i x4 e4 ?_
              refine lv_aload_n hx hb dL_law_2642 rfl (lv_at hl 2 rfl) ?_
              refine ca_i (isC := [0]) (isR := [1, 2]) (wr := [(am, .inr (15, [.int 0, .ref (ma 0), .int 0, .int 0, .int 0, .int 0, .ref (ma 1), .ref (ma 2), .null, .int 1, .int 10, .int 900, .ref (ma 3), .ref (ma 4), .int 0, .int 0, .int 0, .ref (ma 5), .int 1000, .int 50, .int 50, .int 1000, .int 10, .int 0, .int 3000, .int 0, .int 0, .int 0])), (aj, .inl (cy 2, 1, .inr (.inl (fun _ => 0))))]) (rn_SW (isC := [0]) (wc := [(ax, .inr (14, [.ref (xa 0), .ref (xa 13), .ref (xa 18), .ref (xa 34), .ref (xa 45), .ref (xa 49), .ref (xa 50)]))]) (As := [.ref ax, .int x1, .int x2, .int x3, .int x4, .ref aj]) (rest := []) (n := 6) hx hb hml hown hts hE hS hP hD hA hl.1 (k648_L_claim l hst D cy g x1 x2 x3 x4 ax aj (.ref (xa 0)) (.ref (xa 13)) (.ref (xa 18)) (.ref (xa 34)) (.ref (xa 45)) (.ref (xa 49)) (.ref (xa 50)) H.size c0 c1 c2 c3) rfl rfl ax_448 rfl rfl ax_449 ⟨Nat.le_of_ble_eq_true rfl, Nat.le_of_ble_eq_true rfl⟩ rfl rfl (Nat.le_of_ble_eq_true rfl) dL_law_2643 ⟨(Nat.le_of_ble_eq_true rfl), (Nat.le_of_ble_eq_true rfl)⟩) hP hD hS hA rfl rfl rfl (by decide) (fun ad2643 H locs hP hD hS => ?_)
              have hP : va_P D vwCl [(am, .inr (15, [.int 0, .ref (ma 0), .int 0, .int 0, .int 0, .int 0, .ref (ma 1), .ref (ma 2), .null, .int 1, .int 10, .int 900, .ref (ma 3), .ref (ma 4), .int 0, .int 0, .int 0, .ref (ma 5), .int 1000, .int 50, .int 50, .int 1000, .int 10, .int 0, .int 3000, .int 0, .int 0, .int 0])), (aj, .inl (cy 2, 1, .inr (.inl (fun _ => 0))))] H := hP
              have hD : va_D (AL s) [(am, .inr (15, [.int 0, .ref (ma 0), .int 0, .int 0, .int 0, .int 0, .ref (ma 1), .ref (ma 2), .null, .int 1, .int 10, .int 900, .ref (ma 3), .ref (ma 4), .int 0, .int 0, .int 0, .ref (ma 5), .int 1000, .int 50, .int 50, .int 1000, .int 10, .int 0, .int 3000, .int 0, .int 0, .int 0])), (aj, .inl (cy 2, 1, .inr (.inl (fun _ => 0))))] := hD
              refine lv_istore (lv' := [(6, .int 1), (5, .int 0), (4, .ref ao), (3, .ref aj), (2, .ref am), (1, .ref ax), (0, .ref b)]) hx hb dL_law_2646 hl (Nat.le_of_ble_eq_true rfl) rfl (fun ls hl => ?_)
              refine lv_aload_n hx hb dL_law_2648 rfl (lv_at hl 4 rfl) ?_
              refine lv_aload_n hx hb dL_law_2649 rfl (lv_at hl 6 rfl) ?_
              refine lv_iload hx hb dL_law_2650 (lv_at hl 1 rfl) ?_
              refine lv_iconst (v := 1) hx hb dL_law_2652 (by decide) ?_
              refine lv_iadd hx hb dL_law_2653 ?_
              refine tp_i 1 (by decide) ?_
              refine va_sld hx hb hX hbl hbA hS (by unfold vp_in; decide) dL_law_2654 ?_
              refine tp_i x1 e1 ?_
              refine lv_aload_n hx hb dL_law_2655 rfl (lv_at hl 6 rfl) ?_
              refine lv_iload hx hb dL_law_2656 (lv_at hl 1 rfl) ?_
              refine lv_iconst (v := 2) hx hb dL_law_2658 (by decide) ?_
              refine lv_iadd hx hb dL_law_2659 ?_
              refine tp_i 2 (by decide) ?_
              refine va_sld hx hb hX hbl hbA hS (by unfold vp_in; decide) dL_law_2660 ?_
              refine tp_i x2 e2 ?_
              refine lv_aload_n hx hb dL_law_2661 rfl (lv_at hl 6 rfl) ?_
              refine lv_iload hx hb dL_law_2662 (lv_at hl 1 rfl) ?_
              refine lv_iconst (v := 3) hx hb dL_law_2664 (by decide) ?_
              refine lv_iadd hx hb dL_law_2665 ?_
              refine tp_i 3 (by decide) ?_
              refine va_sld hx hb hX hbl hbA hS (by unfold vp_in; decide) dL_law_2666 ?_
              refine tp_i x3 e3 ?_
              refine lv_aload_n hx hb dL_law_2667 rfl (lv_at hl 6 rfl) ?_
              refine lv_iload hx hb dL_law_2668 (lv_at hl 1 rfl) ?_
              refine lv_iconst (v := 4) hx hb dL_law_2670 (by decide) ?_
              refine lv_iadd hx hb dL_law_2671 ?_
              refine tp_i 4 (by decide) ?_
              refine va_sld hx hb hX hbl hbA hS (by unfold vp_in; decide) dL_law_2672 ?_
              refine tp_i x4 e4 ?_
              refine ca_i (isC := [0]) (isR := [1]) (wr := [(aj, .inl (cy 2, 1, .inr (.inl (fun _ => 0))))]) (rn_V (ci := 15) (q0 := 0) (isC := [0]) (wc := [(am, .inr (15, [.int 0, .ref (ma 0), .int 0, .int 0, .int 0, .int 0, .ref (ma 1), .ref (ma 2), .null, .int 1, .int 10, .int 900, .ref (ma 3), .ref (ma 4), .int 0, .int 0, .int 0, .ref (ma 5), .int 1000, .int 50, .int 50, .int 1000, .int 10, .int 0, .int 3000, .int 0, .int 0, .int 0]))]) (As := [.int x1, .int x2, .int x3, .int x4]) (rest := []) (n := 4) hx hb hml hown hts hE hS hP hD hA hl.1 (k633_X10_claim l D cy g x1 x2 x3 x4 am (.int 0) (.ref (ma 0)) (.int 0) (.int 0) (.int 0) (.int 0) (.ref (ma 1)) (.ref (ma 2)) (.null) (.int 1) (.int 10) (.int 900) (.ref (ma 3)) (.ref (ma 4)) (.int 0) (.int 0) (.int 0) (.ref (ma 5)) (.int 1000) (.int 50) (.int 50) (.int 1000) (.int 10) (.int 0) (.int 3000) (.int 0) (.int 0) (.int 0) H.size c4 c5) rfl rfl rfl rfl rfl ax_450 rfl rfl ax_451 ⟨Nat.le_of_ble_eq_true rfl, Nat.le_of_ble_eq_true rfl⟩ rfl rfl (Nat.le_of_ble_eq_true rfl) dL_law_2673 ⟨(Nat.le_of_ble_eq_true rfl), (Nat.le_of_ble_eq_true rfl)⟩) hP hD hS hA rfl rfl rfl (by decide) (fun ad2673 H locs hP hD hS => ?_)
              have hP : va_P D vwCl [(aj, .inl (cy 2, 1, .inr (.inl (fun _ => 0)))), (am, .inr (15, [.int 1, .ref (ma 0), .int 0, .int 0, .int 0, .int 0, .ref (ma 1), .ref (ma 2), .null, .int 1, .int 10, .int 900, .ref (ma 3), .ref (ma 4), .int 0, .int 0, .int 0, .ref (ma 5), .int 1000, .int 50, .int 50, .int 1000, .int 10, .int 0, .int 3000, .int 0, .int 0, .int 0]))] H := hP
              have hD : va_D (AL s) [(aj, .inl (cy 2, 1, .inr (.inl (fun _ => 0)))), (am, .inr (15, [.int 1, .ref (ma 0), .int 0, .int 0, .int 0, .int 0, .ref (ma 1), .ref (ma 2), .null, .int 1, .int 10, .int 900, .ref (ma 3), .ref (ma 4), .int 0, .int 0, .int 0, .ref (ma 5), .int 1000, .int 50, .int 50, .int 1000, .int 10, .int 0, .int 3000, .int 0, .int 0, .int 0]))] := hD
              refine lv_istore (lv' := [(7, .int 32), (6, .int 1), (5, .int 0), (4, .ref ao), (3, .ref aj), (2, .ref am), (1, .ref ax), (0, .ref b)]) hx hb dL_law_2676 hl (Nat.le_of_ble_eq_true rfl) rfl (fun ls hl => ?_)
              refine lv_aload_n hx hb dL_law_2678 rfl (lv_at hl 5 rfl) ?_
              refine ca_i (isC := [1]) (isR := [0]) (wr := [(aj, .inl (cy 2, 1, .inr (.inl (fun _ => 0))))]) (rn_V (ci := 15) (q0 := 1) (isC := [1]) (wc := [(am, .inr (15, [.int 1, .ref (ma 0), .int 0, .int 0, .int 0, .int 0, .ref (ma 1), .ref (ma 2), .null, .int 1, .int 10, .int 900, .ref (ma 3), .ref (ma 4), .int 0, .int 0, .int 0, .ref (ma 5), .int 1000, .int 50, .int 50, .int 1000, .int 10, .int 0, .int 3000, .int 0, .int 0, .int 0]))]) (As := []) (rest := []) (n := 0) hx hb hml hown hts hE hS hP hD hA hl.1 (k24_X10_thrown l D cy g am (.ref (ma 0)) (.int 0) (.int 0) (.int 0) (.int 0) (.ref (ma 1)) (.ref (ma 2)) (.null) (.int 1) (.int 10) (.int 900) (.ref (ma 3)) (.ref (ma 4)) (.int 0) (.int 0) (.int 0) (.ref (ma 5)) (.int 1000) (.int 50) (.int 50) (.int 1000) (.int 10) (.int 0) (.int 3000) (.int 0) (.int 0) (.int 0) H.size ) rfl rfl rfl rfl rfl ax_45 rfl rfl ax_46 ⟨Nat.le_of_ble_eq_true rfl, Nat.le_of_ble_eq_true rfl⟩ rfl rfl (Nat.le_of_ble_eq_true rfl) dL_law_2679 ⟨(Nat.le_of_ble_eq_true rfl), (Nat.le_of_ble_eq_true rfl)⟩) hP hD hS hA rfl rfl rfl (by decide) (fun ad2679 H locs hP hD hS => ?_)
              have hP : va_P D vwCl [(aj, .inl (cy 2, 1, .inr (.inl (fun _ => 0)))), (am, .inr (15, [.int 1, .ref (ma 0), .int 0, .int 0, .int 0, .int 0, .ref (ma 1), .ref (ma 2), .null, .int 1, .int 10, .int 900, .ref (ma 3), .ref (ma 4), .int 0, .int 0, .int 0, .ref (ma 5), .int 1000, .int 50, .int 50, .int 1000, .int 10, .int 0, .int 3000, .int 0, .int 0, .int 0]))] H := hP
              have hD : va_D (AL s) [(aj, .inl (cy 2, 1, .inr (.inl (fun _ => 0)))), (am, .inr (15, [.int 1, .ref (ma 0), .int 0, .int 0, .int 0, .int 0, .ref (ma 1), .ref (ma 2), .null, .int 1, .int 10, .int 900, .ref (ma 3), .ref (ma 4), .int 0, .int 0, .int 0, .ref (ma 5), .int 1000, .int 50, .int 50, .int 1000, .int 10, .int 0, .int 3000, .int 0, .int 0, .int 0]))] := hD
              refine lv_iload hx hb dL_law_2682 (lv_at hl 1 rfl) ?_
              refine lv_icmp_eq (tgt := 2689) hx hb dL_law_2684 (by decide) (fun _ => ?_) (fun z => absurd (by decide) z)
              refine lv_iload hx hb dL_law_2689 (lv_at hl 1 rfl) ?_
              refine lv_if_ne (tgt := 2706) hx hb dL_law_2691 (by decide) (fun _ => ?_) (fun z => absurd z (by decide))
              refine lv_goto (tgt := 2947) hx hb dL_law_2706 (by decide) ?_
              exact law_tail LC hS (Nat.le_of_ble_eq_true rfl) (Nat.le_of_ble_eq_true rfl) (lv_sub hl [2, 7] rfl)
            · refine lv_aload_n hx hb dL_law_2617 rfl (lv_at hl 4 rfl) ?_
              refine lv_aload_n hx hb dL_law_2618 rfl (lv_at hl 5 rfl) ?_
              refine lv_iload hx hb dL_law_2619 (lv_at hl 0 rfl) ?_
              refine lv_iconst (v := 1) hx hb dL_law_2621 (by decide) ?_
              refine lv_iadd hx hb dL_law_2622 ?_
              refine tp_i 1 (by decide) ?_
              refine va_sld hx hb hX hbl hbA hS (by unfold vp_in; decide) dL_law_2623 ?_
              refine tp_i x1 e1 ?_
              refine lv_aload_n hx hb dL_law_2624 rfl (lv_at hl 5 rfl) ?_
              refine lv_iload hx hb dL_law_2625 (lv_at hl 0 rfl) ?_
              refine lv_iconst (v := 2) hx hb dL_law_2627 (by decide) ?_
              refine lv_iadd hx hb dL_law_2628 ?_
              refine tp_i 2 (by decide) ?_
              refine va_sld hx hb hX hbl hbA hS (by unfold vp_in; decide) dL_law_2629 ?_
              refine tp_i x2 e2 ?_
              refine lv_aload_n hx hb dL_law_2630 rfl (lv_at hl 5 rfl) ?_
              refine lv_iload hx hb dL_law_2631 (lv_at hl 0 rfl) ?_
              refine lv_iconst (v := 3) hx hb dL_law_2633 (by decide) ?_
              refine lv_iadd hx hb dL_law_2634 ?_
              refine tp_i 3 (by decide) ?_
              refine va_sld hx hb hX hbl hbA hS (by unfold vp_in; decide) dL_law_2635 ?_
              refine tp_i x3 e3 ?_
              refine lv_aload_n hx hb dL_law_2636 rfl (lv_at hl 5 rfl) ?_
              refine lv_iload hx hb dL_law_2637 (lv_at hl 0 rfl) ?_
              refine lv_iconst (v := 4) hx hb dL_law_2639 (by decide) ?_
              refine lv_iadd hx hb dL_law_2640 ?_
              refine tp_i 4 (by decide) ?_
              refine va_sld hx hb hX hbl hbA hS (by unfold vp_in; decide) dL_law_2641 ?_
              refine tp_i x4 e4 ?_
              refine lv_aload_n hx hb dL_law_2642 rfl (lv_at hl 2 rfl) ?_
              refine ca_i (isC := [0]) (isR := [1, 2]) (wr := [(am, .inr (15, [.int 0, .ref (ma 0), .int 0, .int 0, .int 0, .int 0, .ref (ma 1), .ref (ma 2), .null, .int 1, .int 10, .int 900, .ref (ma 3), .ref (ma 4), .int 0, .int 0, .int 0, .ref (ma 5), .int 1000, .int 50, .int 50, .int 1000, .int 10, .int 0, .int 3000, .int 0, .int 0, .int 0])), (aj, .inl (cy 2, 1, .inr (.inl (fun _ => 0))))]) (rn_SW (isC := [0]) (wc := [(ax, .inr (14, [.ref (xa 0), .ref (xa 13), .ref (xa 18), .ref (xa 34), .ref (xa 45), .ref (xa 49), .ref (xa 50)]))]) (As := [.ref ax, .int x1, .int x2, .int x3, .int x4, .ref aj]) (rest := []) (n := 6) hx hb hml hown hts hE hS hP hD hA hl.1 (k648_L_claim l hst D cy g x1 x2 x3 x4 ax aj (.ref (xa 0)) (.ref (xa 13)) (.ref (xa 18)) (.ref (xa 34)) (.ref (xa 45)) (.ref (xa 49)) (.ref (xa 50)) H.size c0 c1 c2 c3) rfl rfl ax_448 rfl rfl ax_449 ⟨Nat.le_of_ble_eq_true rfl, Nat.le_of_ble_eq_true rfl⟩ rfl rfl (Nat.le_of_ble_eq_true rfl) dL_law_2643 ⟨(Nat.le_of_ble_eq_true rfl), (Nat.le_of_ble_eq_true rfl)⟩) hP hD hS hA rfl rfl rfl (by decide) (fun ad2643 H locs hP hD hS => ?_)
              have hP : va_P D vwCl [(am, .inr (15, [.int 0, .ref (ma 0), .int 0, .int 0, .int 0, .int 0, .ref (ma 1), .ref (ma 2), .null, .int 1, .int 10, .int 900, .ref (ma 3), .ref (ma 4), .int 0, .int 0, .int 0, .ref (ma 5), .int 1000, .int 50, .int 50, .int 1000, .int 10, .int 0, .int 3000, .int 0, .int 0, .int 0])), (aj, .inl (cy 2, 1, .inr (.inl (fun _ => 0))))] H := hP
              have hD : va_D (AL s) [(am, .inr (15, [.int 0, .ref (ma 0), .int 0, .int 0, .int 0, .int 0, .ref (ma 1), .ref (ma 2), .null, .int 1, .int 10, .int 900, .ref (ma 3), .ref (ma 4), .int 0, .int 0, .int 0, .ref (ma 5), .int 1000, .int 50, .int 50, .int 1000, .int 10, .int 0, .int 3000, .int 0, .int 0, .int 0])), (aj, .inl (cy 2, 1, .inr (.inl (fun _ => 0))))] := hD
              refine lv_istore (lv' := [(6, .int 1), (5, .int 0), (4, .ref ao), (3, .ref aj), (2, .ref am), (1, .ref ax), (0, .ref b)]) hx hb dL_law_2646 hl (Nat.le_of_ble_eq_true rfl) rfl (fun ls hl => ?_)
              refine lv_aload_n hx hb dL_law_2648 rfl (lv_at hl 4 rfl) ?_
              refine lv_aload_n hx hb dL_law_2649 rfl (lv_at hl 6 rfl) ?_
              refine lv_iload hx hb dL_law_2650 (lv_at hl 1 rfl) ?_
              refine lv_iconst (v := 1) hx hb dL_law_2652 (by decide) ?_
              refine lv_iadd hx hb dL_law_2653 ?_
              refine tp_i 1 (by decide) ?_
              refine va_sld hx hb hX hbl hbA hS (by unfold vp_in; decide) dL_law_2654 ?_
              refine tp_i x1 e1 ?_
              refine lv_aload_n hx hb dL_law_2655 rfl (lv_at hl 6 rfl) ?_
              refine lv_iload hx hb dL_law_2656 (lv_at hl 1 rfl) ?_
              refine lv_iconst (v := 2) hx hb dL_law_2658 (by decide) ?_
              refine lv_iadd hx hb dL_law_2659 ?_
              refine tp_i 2 (by decide) ?_
              refine va_sld hx hb hX hbl hbA hS (by unfold vp_in; decide) dL_law_2660 ?_
              refine tp_i x2 e2 ?_
              refine lv_aload_n hx hb dL_law_2661 rfl (lv_at hl 6 rfl) ?_
              refine lv_iload hx hb dL_law_2662 (lv_at hl 1 rfl) ?_
              refine lv_iconst (v := 3) hx hb dL_law_2664 (by decide) ?_
              refine lv_iadd hx hb dL_law_2665 ?_
              refine tp_i 3 (by decide) ?_
              refine va_sld hx hb hX hbl hbA hS (by unfold vp_in; decide) dL_law_2666 ?_
              refine tp_i x3 e3 ?_
              refine lv_aload_n hx hb dL_law_2667 rfl (lv_at hl 6 rfl) ?_
              refine lv_iload hx hb dL_law_2668 (lv_at hl 1 rfl) ?_
              refine lv_iconst (v := 4) hx hb dL_law_2670 (by decide) ?_
              refine lv_iadd hx hb dL_law_2671 ?_
              refine tp_i 4 (by decide) ?_
              refine va_sld hx hb hX hbl hbA hS (by unfold vp_in; decide) dL_law_2672 ?_
              refine tp_i x4 e4 ?_
              refine ca_i (isC := [0]) (isR := [1]) (wr := [(aj, .inl (cy 2, 1, .inr (.inl (fun _ => 0))))]) (rn_V (ci := 15) (q0 := 0) (isC := [0]) (wc := [(am, .inr (15, [.int 0, .ref (ma 0), .int 0, .int 0, .int 0, .int 0, .ref (ma 1), .ref (ma 2), .null, .int 1, .int 10, .int 900, .ref (ma 3), .ref (ma 4), .int 0, .int 0, .int 0, .ref (ma 5), .int 1000, .int 50, .int 50, .int 1000, .int 10, .int 0, .int 3000, .int 0, .int 0, .int 0]))]) (As := [.int x1, .int x2, .int x3, .int x4]) (rest := []) (n := 4) hx hb hml hown hts hE hS hP hD hA hl.1 (k650_X10_claim l D cy g x1 x2 x3 x4 am (.int 0) (.ref (ma 0)) (.int 0) (.int 0) (.int 0) (.int 0) (.ref (ma 1)) (.ref (ma 2)) (.null) (.int 1) (.int 10) (.int 900) (.ref (ma 3)) (.ref (ma 4)) (.int 0) (.int 0) (.int 0) (.ref (ma 5)) (.int 1000) (.int 50) (.int 50) (.int 1000) (.int 10) (.int 0) (.int 3000) (.int 0) (.int 0) (.int 0) H.size c4 c5 c0 c1 c2 c3) rfl rfl rfl rfl rfl ax_450 rfl rfl ax_451 ⟨Nat.le_of_ble_eq_true rfl, Nat.le_of_ble_eq_true rfl⟩ rfl rfl (Nat.le_of_ble_eq_true rfl) dL_law_2673 ⟨(Nat.le_of_ble_eq_true rfl), (Nat.le_of_ble_eq_true rfl)⟩) hP hD hS hA rfl rfl rfl (by decide) (fun ad2673 H locs hP hD hS => ?_)
              have hP : va_P D vwCl [(aj, .inl (cy 2, 1, .inr (.inl (fun _ => 0)))), (am, .inr (15, [.int 1, .ref (ma 0), .int 0, .int 0, .int 0, .int 0, .ref (ma 1), .ref (ma 2), .null, .int 1, .int 10, .int 900, .ref (ma 3), .ref (ma 4), .int 0, .int 0, .int 0, .ref (ma 5), .int 1000, .int 50, .int 50, .int 1000, .int 10, .int 0, .int 3000, .int 0, .int 0, .int 0]))] H := hP
              have hD : va_D (AL s) [(aj, .inl (cy 2, 1, .inr (.inl (fun _ => 0)))), (am, .inr (15, [.int 1, .ref (ma 0), .int 0, .int 0, .int 0, .int 0, .ref (ma 1), .ref (ma 2), .null, .int 1, .int 10, .int 900, .ref (ma 3), .ref (ma 4), .int 0, .int 0, .int 0, .ref (ma 5), .int 1000, .int 50, .int 50, .int 1000, .int 10, .int 0, .int 3000, .int 0, .int 0, .int 0]))] := hD
              refine lv_istore (lv' := [(7, .int 32), (6, .int 1), (5, .int 0), (4, .ref ao), (3, .ref aj), (2, .ref am), (1, .ref ax), (0, .ref b)]) hx hb dL_law_2676 hl (Nat.le_of_ble_eq_true rfl) rfl (fun ls hl => ?_)
              refine lv_aload_n hx hb dL_law_2678 rfl (lv_at hl 5 rfl) ?_
              refine ca_i (isC := [1]) (isR := [0]) (wr := [(aj, .inl (cy 2, 1, .inr (.inl (fun _ => 0))))]) (rn_V (ci := 15) (q0 := 1) (isC := [1]) (wc := [(am, .inr (15, [.int 1, .ref (ma 0), .int 0, .int 0, .int 0, .int 0, .ref (ma 1), .ref (ma 2), .null, .int 1, .int 10, .int 900, .ref (ma 3), .ref (ma 4), .int 0, .int 0, .int 0, .ref (ma 5), .int 1000, .int 50, .int 50, .int 1000, .int 10, .int 0, .int 3000, .int 0, .int 0, .int 0]))]) (As := []) (rest := []) (n := 0) hx hb hml hown hts hE hS hP hD hA hl.1 (k24_X10_thrown l D cy g am (.ref (ma 0)) (.int 0) (.int 0) (.int 0) (.int 0) (.ref (ma 1)) (.ref (ma 2)) (.null) (.int 1) (.int 10) (.int 900) (.ref (ma 3)) (.ref (ma 4)) (.int 0) (.int 0) (.int 0) (.ref (ma 5)) (.int 1000) (.int 50) (.int 50) (.int 1000) (.int 10) (.int 0) (.int 3000) (.int 0) (.int 0) (.int 0) H.size ) rfl rfl rfl rfl rfl ax_45 rfl rfl ax_46 ⟨Nat.le_of_ble_eq_true rfl, Nat.le_of_ble_eq_true rfl⟩ rfl rfl (Nat.le_of_ble_eq_true rfl) dL_law_2679 ⟨(Nat.le_of_ble_eq_true rfl), (Nat.le_of_ble_eq_true rfl)⟩) hP hD hS hA rfl rfl rfl (by decide) (fun ad2679 H locs hP hD hS => ?_)
              have hP : va_P D vwCl [(aj, .inl (cy 2, 1, .inr (.inl (fun _ => 0)))), (am, .inr (15, [.int 1, .ref (ma 0), .int 0, .int 0, .int 0, .int 0, .ref (ma 1), .ref (ma 2), .null, .int 1, .int 10, .int 900, .ref (ma 3), .ref (ma 4), .int 0, .int 0, .int 0, .ref (ma 5), .int 1000, .int 50, .int 50, .int 1000, .int 10, .int 0, .int 3000, .int 0, .int 0, .int 0]))] H := hP
              have hD : va_D (AL s) [(aj, .inl (cy 2, 1, .inr (.inl (fun _ => 0)))), (am, .inr (15, [.int 1, .ref (ma 0), .int 0, .int 0, .int 0, .int 0, .ref (ma 1), .ref (ma 2), .null, .int 1, .int 10, .int 900, .ref (ma 3), .ref (ma 4), .int 0, .int 0, .int 0, .ref (ma 5), .int 1000, .int 50, .int 50, .int 1000, .int 10, .int 0, .int 3000, .int 0, .int 0, .int 0]))] := hD
              refine lv_iload hx hb dL_law_2682 (lv_at hl 1 rfl) ?_
              refine lv_icmp_eq (tgt := 2689) hx hb dL_law_2684 (by decide) (fun _ => ?_) (fun z => absurd (by decide) z)
              refine lv_iload hx hb dL_law_2689 (lv_at hl 1 rfl) ?_
              refine lv_if_ne (tgt := 2706) hx hb dL_law_2691 (by decide) (fun _ => ?_) (fun z => absurd z (by decide))
              refine lv_goto (tgt := 2947) hx hb dL_law_2706 (by decide) ?_
              exact law_tail LC hS (Nat.le_of_ble_eq_true rfl) (Nat.le_of_ble_eq_true rfl) (lv_sub hl [2, 7] rfl)
        · by_cases c4 : x3 < 50
          · by_cases c5 : x4 < 0
            · refine lv_aload_n hx hb dL_law_2617 rfl (lv_at hl 4 rfl) ?_
              refine lv_aload_n hx hb dL_law_2618 rfl (lv_at hl 5 rfl) ?_
              refine lv_iload hx hb dL_law_2619 (lv_at hl 0 rfl) ?_
              refine lv_iconst (v := 1) hx hb dL_law_2621 (by decide) ?_
              refine lv_iadd hx hb dL_law_2622 ?_
              refine tp_i 1 (by decide) ?_
              refine va_sld hx hb hX hbl hbA hS (by unfold vp_in; decide) dL_law_2623 ?_
              refine tp_i x1 e1 ?_
              refine lv_aload_n hx hb dL_law_2624 rfl (lv_at hl 5 rfl) ?_
              refine lv_iload hx hb dL_law_2625 (lv_at hl 0 rfl) ?_
              refine lv_iconst (v := 2) hx hb dL_law_2627 (by decide) ?_
              refine lv_iadd hx hb dL_law_2628 ?_
              refine tp_i 2 (by decide) ?_
              refine va_sld hx hb hX hbl hbA hS (by unfold vp_in; decide) dL_law_2629 ?_
              refine tp_i x2 e2 ?_
              refine lv_aload_n hx hb dL_law_2630 rfl (lv_at hl 5 rfl) ?_
              refine lv_iload hx hb dL_law_2631 (lv_at hl 0 rfl) ?_
              refine lv_iconst (v := 3) hx hb dL_law_2633 (by decide) ?_
              refine lv_iadd hx hb dL_law_2634 ?_
              refine tp_i 3 (by decide) ?_
              refine va_sld hx hb hX hbl hbA hS (by unfold vp_in; decide) dL_law_2635 ?_
              refine tp_i x3 e3 ?_
              refine lv_aload_n hx hb dL_law_2636 rfl (lv_at hl 5 rfl) ?_
              refine lv_iload hx hb dL_law_2637 (lv_at hl 0 rfl) ?_
              refine lv_iconst (v := 4) hx hb dL_law_2639 (by decide) ?_
              refine lv_iadd hx hb dL_law_2640 ?_
              refine tp_i 4 (by decide) ?_
              refine va_sld hx hb hX hbl hbA hS (by unfold vp_in; decide) dL_law_2641 ?_
              refine tp_i x4 e4 ?_
              refine lv_aload_n hx hb dL_law_2642 rfl (lv_at hl 2 rfl) ?_
              refine ca_i (isC := [0]) (isR := [1, 2]) (wr := [(am, .inr (15, [.int 0, .ref (ma 0), .int 0, .int 0, .int 0, .int 0, .ref (ma 1), .ref (ma 2), .null, .int 1, .int 10, .int 900, .ref (ma 3), .ref (ma 4), .int 0, .int 0, .int 0, .ref (ma 5), .int 1000, .int 50, .int 50, .int 1000, .int 10, .int 0, .int 3000, .int 0, .int 0, .int 0])), (aj, .inl (cy 2, 1, .inr (.inl (fun _ => 0))))]) (rn_SW (isC := [0]) (wc := [(ax, .inr (14, [.ref (xa 0), .ref (xa 13), .ref (xa 18), .ref (xa 34), .ref (xa 45), .ref (xa 49), .ref (xa 50)]))]) (As := [.ref ax, .int x1, .int x2, .int x3, .int x4, .ref aj]) (rest := []) (n := 6) hx hb hml hown hts hE hS hP hD hA hl.1 (k653_L_claim l hst D cy g x1 x2 x3 x4 ax aj (.ref (xa 0)) (.ref (xa 13)) (.ref (xa 18)) (.ref (xa 34)) (.ref (xa 45)) (.ref (xa 49)) (.ref (xa 50)) H.size c0 c1 c2 c3 c4) rfl rfl ax_448 rfl rfl ax_449 ⟨Nat.le_of_ble_eq_true rfl, Nat.le_of_ble_eq_true rfl⟩ rfl rfl (Nat.le_of_ble_eq_true rfl) dL_law_2643 ⟨(Nat.le_of_ble_eq_true rfl), (Nat.le_of_ble_eq_true rfl)⟩) hP hD hS hA rfl rfl rfl (by decide) (fun ad2643 H locs hP hD hS => ?_)
              have hP : va_P D vwCl [(am, .inr (15, [.int 0, .ref (ma 0), .int 0, .int 0, .int 0, .int 0, .ref (ma 1), .ref (ma 2), .null, .int 1, .int 10, .int 900, .ref (ma 3), .ref (ma 4), .int 0, .int 0, .int 0, .ref (ma 5), .int 1000, .int 50, .int 50, .int 1000, .int 10, .int 0, .int 3000, .int 0, .int 0, .int 0])), (aj, .inl (cy 2, 1, .inr (.inl (fun _ => 0))))] H := hP
              have hD : va_D (AL s) [(am, .inr (15, [.int 0, .ref (ma 0), .int 0, .int 0, .int 0, .int 0, .ref (ma 1), .ref (ma 2), .null, .int 1, .int 10, .int 900, .ref (ma 3), .ref (ma 4), .int 0, .int 0, .int 0, .ref (ma 5), .int 1000, .int 50, .int 50, .int 1000, .int 10, .int 0, .int 3000, .int 0, .int 0, .int 0])), (aj, .inl (cy 2, 1, .inr (.inl (fun _ => 0))))] := hD
              refine lv_istore (lv' := [(6, .int 1), (5, .int 0), (4, .ref ao), (3, .ref aj), (2, .ref am), (1, .ref ax), (0, .ref b)]) hx hb dL_law_2646 hl (Nat.le_of_ble_eq_true rfl) rfl (fun ls hl => ?_)
              refine lv_aload_n hx hb dL_law_2648 rfl (lv_at hl 4 rfl) ?_
              refine lv_aload_n hx hb dL_law_2649 rfl (lv_at hl 6 rfl) ?_
              refine lv_iload hx hb dL_law_2650 (lv_at hl 1 rfl) ?_
              refine lv_iconst (v := 1) hx hb dL_law_2652 (by decide) ?_
              refine lv_iadd hx hb dL_law_2653 ?_
              refine tp_i 1 (by decide) ?_
              refine va_sld hx hb hX hbl hbA hS (by unfold vp_in; decide) dL_law_2654 ?_
              refine tp_i x1 e1 ?_
              refine lv_aload_n hx hb dL_law_2655 rfl (lv_at hl 6 rfl) ?_
              refine lv_iload hx hb dL_law_2656 (lv_at hl 1 rfl) ?_
              refine lv_iconst (v := 2) hx hb dL_law_2658 (by decide) ?_
              refine lv_iadd hx hb dL_law_2659 ?_
              refine tp_i 2 (by decide) ?_
              refine va_sld hx hb hX hbl hbA hS (by unfold vp_in; decide) dL_law_2660 ?_
              refine tp_i x2 e2 ?_
              refine lv_aload_n hx hb dL_law_2661 rfl (lv_at hl 6 rfl) ?_
              refine lv_iload hx hb dL_law_2662 (lv_at hl 1 rfl) ?_
              refine lv_iconst (v := 3) hx hb dL_law_2664 (by decide) ?_
              refine lv_iadd hx hb dL_law_2665 ?_
              refine tp_i 3 (by decide) ?_
              refine va_sld hx hb hX hbl hbA hS (by unfold vp_in; decide) dL_law_2666 ?_
              refine tp_i x3 e3 ?_
              refine lv_aload_n hx hb dL_law_2667 rfl (lv_at hl 6 rfl) ?_
              refine lv_iload hx hb dL_law_2668 (lv_at hl 1 rfl) ?_
              refine lv_iconst (v := 4) hx hb dL_law_2670 (by decide) ?_
              refine lv_iadd hx hb dL_law_2671 ?_
              refine tp_i 4 (by decide) ?_
              refine va_sld hx hb hX hbl hbA hS (by unfold vp_in; decide) dL_law_2672 ?_
              refine tp_i x4 e4 ?_
              refine ca_i (isC := [0]) (isR := [1]) (wr := [(aj, .inl (cy 2, 1, .inr (.inl (fun _ => 0))))]) (rn_V (ci := 15) (q0 := 0) (isC := [0]) (wc := [(am, .inr (15, [.int 0, .ref (ma 0), .int 0, .int 0, .int 0, .int 0, .ref (ma 1), .ref (ma 2), .null, .int 1, .int 10, .int 900, .ref (ma 3), .ref (ma 4), .int 0, .int 0, .int 0, .ref (ma 5), .int 1000, .int 50, .int 50, .int 1000, .int 10, .int 0, .int 3000, .int 0, .int 0, .int 0]))]) (As := [.int x1, .int x2, .int x3, .int x4]) (rest := []) (n := 4) hx hb hml hown hts hE hS hP hD hA hl.1 (k632_X10_claim l D cy g x1 x2 x3 x4 am (.int 0) (.ref (ma 0)) (.int 0) (.int 0) (.int 0) (.int 0) (.ref (ma 1)) (.ref (ma 2)) (.null) (.int 1) (.int 10) (.int 900) (.ref (ma 3)) (.ref (ma 4)) (.int 0) (.int 0) (.int 0) (.ref (ma 5)) (.int 1000) (.int 50) (.int 50) (.int 1000) (.int 10) (.int 0) (.int 3000) (.int 0) (.int 0) (.int 0) H.size c5) rfl rfl rfl rfl rfl ax_450 rfl rfl ax_451 ⟨Nat.le_of_ble_eq_true rfl, Nat.le_of_ble_eq_true rfl⟩ rfl rfl (Nat.le_of_ble_eq_true rfl) dL_law_2673 ⟨(Nat.le_of_ble_eq_true rfl), (Nat.le_of_ble_eq_true rfl)⟩) hP hD hS hA rfl rfl rfl (by decide) (fun ad2673 H locs hP hD hS => ?_)
              have hP : va_P D vwCl [(aj, .inl (cy 2, 1, .inr (.inl (fun _ => 0)))), (am, .inr (15, [.int 1, .ref (ma 0), .int 0, .int 0, .int 0, .int 0, .ref (ma 1), .ref (ma 2), .null, .int 1, .int 10, .int 900, .ref (ma 3), .ref (ma 4), .int 0, .int 0, .int 0, .ref (ma 5), .int 1000, .int 50, .int 50, .int 1000, .int 10, .int 0, .int 3000, .int 0, .int 0, .int 0]))] H := hP
              have hD : va_D (AL s) [(aj, .inl (cy 2, 1, .inr (.inl (fun _ => 0)))), (am, .inr (15, [.int 1, .ref (ma 0), .int 0, .int 0, .int 0, .int 0, .ref (ma 1), .ref (ma 2), .null, .int 1, .int 10, .int 900, .ref (ma 3), .ref (ma 4), .int 0, .int 0, .int 0, .ref (ma 5), .int 1000, .int 50, .int 50, .int 1000, .int 10, .int 0, .int 3000, .int 0, .int 0, .int 0]))] := hD
              refine lv_istore (lv' := [(7, .int 32), (6, .int 1), (5, .int 0), (4, .ref ao), (3, .ref aj), (2, .ref am), (1, .ref ax), (0, .ref b)]) hx hb dL_law_2676 hl (Nat.le_of_ble_eq_true rfl) rfl (fun ls hl => ?_)
              refine lv_aload_n hx hb dL_law_2678 rfl (lv_at hl 5 rfl) ?_
              refine ca_i (isC := [1]) (isR := [0]) (wr := [(aj, .inl (cy 2, 1, .inr (.inl (fun _ => 0))))]) (rn_V (ci := 15) (q0 := 1) (isC := [1]) (wc := [(am, .inr (15, [.int 1, .ref (ma 0), .int 0, .int 0, .int 0, .int 0, .ref (ma 1), .ref (ma 2), .null, .int 1, .int 10, .int 900, .ref (ma 3), .ref (ma 4), .int 0, .int 0, .int 0, .ref (ma 5), .int 1000, .int 50, .int 50, .int 1000, .int 10, .int 0, .int 3000, .int 0, .int 0, .int 0]))]) (As := []) (rest := []) (n := 0) hx hb hml hown hts hE hS hP hD hA hl.1 (k24_X10_thrown l D cy g am (.ref (ma 0)) (.int 0) (.int 0) (.int 0) (.int 0) (.ref (ma 1)) (.ref (ma 2)) (.null) (.int 1) (.int 10) (.int 900) (.ref (ma 3)) (.ref (ma 4)) (.int 0) (.int 0) (.int 0) (.ref (ma 5)) (.int 1000) (.int 50) (.int 50) (.int 1000) (.int 10) (.int 0) (.int 3000) (.int 0) (.int 0) (.int 0) H.size ) rfl rfl rfl rfl rfl ax_45 rfl rfl ax_46 ⟨Nat.le_of_ble_eq_true rfl, Nat.le_of_ble_eq_true rfl⟩ rfl rfl (Nat.le_of_ble_eq_true rfl) dL_law_2679 ⟨(Nat.le_of_ble_eq_true rfl), (Nat.le_of_ble_eq_true rfl)⟩) hP hD hS hA rfl rfl rfl (by decide) (fun ad2679 H locs hP hD hS => ?_)
              have hP : va_P D vwCl [(aj, .inl (cy 2, 1, .inr (.inl (fun _ => 0)))), (am, .inr (15, [.int 1, .ref (ma 0), .int 0, .int 0, .int 0, .int 0, .ref (ma 1), .ref (ma 2), .null, .int 1, .int 10, .int 900, .ref (ma 3), .ref (ma 4), .int 0, .int 0, .int 0, .ref (ma 5), .int 1000, .int 50, .int 50, .int 1000, .int 10, .int 0, .int 3000, .int 0, .int 0, .int 0]))] H := hP
              have hD : va_D (AL s) [(aj, .inl (cy 2, 1, .inr (.inl (fun _ => 0)))), (am, .inr (15, [.int 1, .ref (ma 0), .int 0, .int 0, .int 0, .int 0, .ref (ma 1), .ref (ma 2), .null, .int 1, .int 10, .int 900, .ref (ma 3), .ref (ma 4), .int 0, .int 0, .int 0, .ref (ma 5), .int 1000, .int 50, .int 50, .int 1000, .int 10, .int 0, .int 3000, .int 0, .int 0, .int 0]))] := hD
              refine lv_iload hx hb dL_law_2682 (lv_at hl 1 rfl) ?_
              refine lv_icmp_eq (tgt := 2689) hx hb dL_law_2684 (by decide) (fun _ => ?_) (fun z => absurd (by decide) z)
              refine lv_iload hx hb dL_law_2689 (lv_at hl 1 rfl) ?_
              refine lv_if_ne (tgt := 2706) hx hb dL_law_2691 (by decide) (fun _ => ?_) (fun z => absurd z (by decide))
              refine lv_goto (tgt := 2947) hx hb dL_law_2706 (by decide) ?_
              exact law_tail LC hS (Nat.le_of_ble_eq_true rfl) (Nat.le_of_ble_eq_true rfl) (lv_sub hl [2, 7] rfl)
            · by_cases c6 : (200000 : Int32) < x4
              · refine lv_aload_n hx hb dL_law_2617 rfl (lv_at hl 4 rfl) ?_
                refine lv_aload_n hx hb dL_law_2618 rfl (lv_at hl 5 rfl) ?_
                refine lv_iload hx hb dL_law_2619 (lv_at hl 0 rfl) ?_
                refine lv_iconst (v := 1) hx hb dL_law_2621 (by decide) ?_
                refine lv_iadd hx hb dL_law_2622 ?_
                refine tp_i 1 (by decide) ?_
                refine va_sld hx hb hX hbl hbA hS (by unfold vp_in; decide) dL_law_2623 ?_
                refine tp_i x1 e1 ?_
                refine lv_aload_n hx hb dL_law_2624 rfl (lv_at hl 5 rfl) ?_
                refine lv_iload hx hb dL_law_2625 (lv_at hl 0 rfl) ?_
                refine lv_iconst (v := 2) hx hb dL_law_2627 (by decide) ?_
                refine lv_iadd hx hb dL_law_2628 ?_
                refine tp_i 2 (by decide) ?_
                refine va_sld hx hb hX hbl hbA hS (by unfold vp_in; decide) dL_law_2629 ?_
                refine tp_i x2 e2 ?_
                refine lv_aload_n hx hb dL_law_2630 rfl (lv_at hl 5 rfl) ?_
                refine lv_iload hx hb dL_law_2631 (lv_at hl 0 rfl) ?_
                refine lv_iconst (v := 3) hx hb dL_law_2633 (by decide) ?_
                refine lv_iadd hx hb dL_law_2634 ?_
                refine tp_i 3 (by decide) ?_
                refine va_sld hx hb hX hbl hbA hS (by unfold vp_in; decide) dL_law_2635 ?_
                refine tp_i x3 e3 ?_
                refine lv_aload_n hx hb dL_law_2636 rfl (lv_at hl 5 rfl) ?_
                refine lv_iload hx hb dL_law_2637 (lv_at hl 0 rfl) ?_
                refine lv_iconst (v := 4) hx hb dL_law_2639 (by decide) ?_
                refine lv_iadd hx hb dL_law_2640 ?_
                refine tp_i 4 (by decide) ?_
                refine va_sld hx hb hX hbl hbA hS (by unfold vp_in; decide) dL_law_2641 ?_
                refine tp_i x4 e4 ?_
                refine lv_aload_n hx hb dL_law_2642 rfl (lv_at hl 2 rfl) ?_
                refine ca_i (isC := [0]) (isR := [1, 2]) (wr := [(am, .inr (15, [.int 0, .ref (ma 0), .int 0, .int 0, .int 0, .int 0, .ref (ma 1), .ref (ma 2), .null, .int 1, .int 10, .int 900, .ref (ma 3), .ref (ma 4), .int 0, .int 0, .int 0, .ref (ma 5), .int 1000, .int 50, .int 50, .int 1000, .int 10, .int 0, .int 3000, .int 0, .int 0, .int 0])), (aj, .inl (cy 2, 1, .inr (.inl (fun _ => 0))))]) (rn_SW (isC := [0]) (wc := [(ax, .inr (14, [.ref (xa 0), .ref (xa 13), .ref (xa 18), .ref (xa 34), .ref (xa 45), .ref (xa 49), .ref (xa 50)]))]) (As := [.ref ax, .int x1, .int x2, .int x3, .int x4, .ref aj]) (rest := []) (n := 6) hx hb hml hown hts hE hS hP hD hA hl.1 (k653_L_claim l hst D cy g x1 x2 x3 x4 ax aj (.ref (xa 0)) (.ref (xa 13)) (.ref (xa 18)) (.ref (xa 34)) (.ref (xa 45)) (.ref (xa 49)) (.ref (xa 50)) H.size c0 c1 c2 c3 c4) rfl rfl ax_448 rfl rfl ax_449 ⟨Nat.le_of_ble_eq_true rfl, Nat.le_of_ble_eq_true rfl⟩ rfl rfl (Nat.le_of_ble_eq_true rfl) dL_law_2643 ⟨(Nat.le_of_ble_eq_true rfl), (Nat.le_of_ble_eq_true rfl)⟩) hP hD hS hA rfl rfl rfl (by decide) (fun ad2643 H locs hP hD hS => ?_)
                have hP : va_P D vwCl [(am, .inr (15, [.int 0, .ref (ma 0), .int 0, .int 0, .int 0, .int 0, .ref (ma 1), .ref (ma 2), .null, .int 1, .int 10, .int 900, .ref (ma 3), .ref (ma 4), .int 0, .int 0, .int 0, .ref (ma 5), .int 1000, .int 50, .int 50, .int 1000, .int 10, .int 0, .int 3000, .int 0, .int 0, .int 0])), (aj, .inl (cy 2, 1, .inr (.inl (fun _ => 0))))] H := hP
                have hD : va_D (AL s) [(am, .inr (15, [.int 0, .ref (ma 0), .int 0, .int 0, .int 0, .int 0, .ref (ma 1), .ref (ma 2), .null, .int 1, .int 10, .int 900, .ref (ma 3), .ref (ma 4), .int 0, .int 0, .int 0, .ref (ma 5), .int 1000, .int 50, .int 50, .int 1000, .int 10, .int 0, .int 3000, .int 0, .int 0, .int 0])), (aj, .inl (cy 2, 1, .inr (.inl (fun _ => 0))))] := hD
                refine lv_istore (lv' := [(6, .int 1), (5, .int 0), (4, .ref ao), (3, .ref aj), (2, .ref am), (1, .ref ax), (0, .ref b)]) hx hb dL_law_2646 hl (Nat.le_of_ble_eq_true rfl) rfl (fun ls hl => ?_)
                refine lv_aload_n hx hb dL_law_2648 rfl (lv_at hl 4 rfl) ?_
                refine lv_aload_n hx hb dL_law_2649 rfl (lv_at hl 6 rfl) ?_
                refine lv_iload hx hb dL_law_2650 (lv_at hl 1 rfl) ?_
                refine lv_iconst (v := 1) hx hb dL_law_2652 (by decide) ?_
                refine lv_iadd hx hb dL_law_2653 ?_
                refine tp_i 1 (by decide) ?_
                refine va_sld hx hb hX hbl hbA hS (by unfold vp_in; decide) dL_law_2654 ?_
                refine tp_i x1 e1 ?_
                refine lv_aload_n hx hb dL_law_2655 rfl (lv_at hl 6 rfl) ?_
                refine lv_iload hx hb dL_law_2656 (lv_at hl 1 rfl) ?_
                refine lv_iconst (v := 2) hx hb dL_law_2658 (by decide) ?_
                refine lv_iadd hx hb dL_law_2659 ?_
                refine tp_i 2 (by decide) ?_
                refine va_sld hx hb hX hbl hbA hS (by unfold vp_in; decide) dL_law_2660 ?_
                refine tp_i x2 e2 ?_
                refine lv_aload_n hx hb dL_law_2661 rfl (lv_at hl 6 rfl) ?_
                refine lv_iload hx hb dL_law_2662 (lv_at hl 1 rfl) ?_
                refine lv_iconst (v := 3) hx hb dL_law_2664 (by decide) ?_
                refine lv_iadd hx hb dL_law_2665 ?_
                refine tp_i 3 (by decide) ?_
                refine va_sld hx hb hX hbl hbA hS (by unfold vp_in; decide) dL_law_2666 ?_
                refine tp_i x3 e3 ?_
                refine lv_aload_n hx hb dL_law_2667 rfl (lv_at hl 6 rfl) ?_
                refine lv_iload hx hb dL_law_2668 (lv_at hl 1 rfl) ?_
                refine lv_iconst (v := 4) hx hb dL_law_2670 (by decide) ?_
                refine lv_iadd hx hb dL_law_2671 ?_
                refine tp_i 4 (by decide) ?_
                refine va_sld hx hb hX hbl hbA hS (by unfold vp_in; decide) dL_law_2672 ?_
                refine tp_i x4 e4 ?_
                refine ca_i (isC := [0]) (isR := [1]) (wr := [(aj, .inl (cy 2, 1, .inr (.inl (fun _ => 0))))]) (rn_V (ci := 15) (q0 := 0) (isC := [0]) (wc := [(am, .inr (15, [.int 0, .ref (ma 0), .int 0, .int 0, .int 0, .int 0, .ref (ma 1), .ref (ma 2), .null, .int 1, .int 10, .int 900, .ref (ma 3), .ref (ma 4), .int 0, .int 0, .int 0, .ref (ma 5), .int 1000, .int 50, .int 50, .int 1000, .int 10, .int 0, .int 3000, .int 0, .int 0, .int 0]))]) (As := [.int x1, .int x2, .int x3, .int x4]) (rest := []) (n := 4) hx hb hml hown hts hE hS hP hD hA hl.1 (k633_X10_claim l D cy g x1 x2 x3 x4 am (.int 0) (.ref (ma 0)) (.int 0) (.int 0) (.int 0) (.int 0) (.ref (ma 1)) (.ref (ma 2)) (.null) (.int 1) (.int 10) (.int 900) (.ref (ma 3)) (.ref (ma 4)) (.int 0) (.int 0) (.int 0) (.ref (ma 5)) (.int 1000) (.int 50) (.int 50) (.int 1000) (.int 10) (.int 0) (.int 3000) (.int 0) (.int 0) (.int 0) H.size c5 c6) rfl rfl rfl rfl rfl ax_450 rfl rfl ax_451 ⟨Nat.le_of_ble_eq_true rfl, Nat.le_of_ble_eq_true rfl⟩ rfl rfl (Nat.le_of_ble_eq_true rfl) dL_law_2673 ⟨(Nat.le_of_ble_eq_true rfl), (Nat.le_of_ble_eq_true rfl)⟩) hP hD hS hA rfl rfl rfl (by decide) (fun ad2673 H locs hP hD hS => ?_)
                have hP : va_P D vwCl [(aj, .inl (cy 2, 1, .inr (.inl (fun _ => 0)))), (am, .inr (15, [.int 1, .ref (ma 0), .int 0, .int 0, .int 0, .int 0, .ref (ma 1), .ref (ma 2), .null, .int 1, .int 10, .int 900, .ref (ma 3), .ref (ma 4), .int 0, .int 0, .int 0, .ref (ma 5), .int 1000, .int 50, .int 50, .int 1000, .int 10, .int 0, .int 3000, .int 0, .int 0, .int 0]))] H := hP
                have hD : va_D (AL s) [(aj, .inl (cy 2, 1, .inr (.inl (fun _ => 0)))), (am, .inr (15, [.int 1, .ref (ma 0), .int 0, .int 0, .int 0, .int 0, .ref (ma 1), .ref (ma 2), .null, .int 1, .int 10, .int 900, .ref (ma 3), .ref (ma 4), .int 0, .int 0, .int 0, .ref (ma 5), .int 1000, .int 50, .int 50, .int 1000, .int 10, .int 0, .int 3000, .int 0, .int 0, .int 0]))] := hD
                refine lv_istore (lv' := [(7, .int 32), (6, .int 1), (5, .int 0), (4, .ref ao), (3, .ref aj), (2, .ref am), (1, .ref ax), (0, .ref b)]) hx hb dL_law_2676 hl (Nat.le_of_ble_eq_true rfl) rfl (fun ls hl => ?_)
                refine lv_aload_n hx hb dL_law_2678 rfl (lv_at hl 5 rfl) ?_
                refine ca_i (isC := [1]) (isR := [0]) (wr := [(aj, .inl (cy 2, 1, .inr (.inl (fun _ => 0))))]) (rn_V (ci := 15) (q0 := 1) (isC := [1]) (wc := [(am, .inr (15, [.int 1, .ref (ma 0), .int 0, .int 0, .int 0, .int 0, .ref (ma 1), .ref (ma 2), .null, .int 1, .int 10, .int 900, .ref (ma 3), .ref (ma 4), .int 0, .int 0, .int 0, .ref (ma 5), .int 1000, .int 50, .int 50, .int 1000, .int 10, .int 0, .int 3000, .int 0, .int 0, .int 0]))]) (As := []) (rest := []) (n := 0) hx hb hml hown hts hE hS hP hD hA hl.1 (k24_X10_thrown l D cy g am (.ref (ma 0)) (.int 0) (.int 0) (.int 0) (.int 0) (.ref (ma 1)) (.ref (ma 2)) (.null) (.int 1) (.int 10) (.int 900) (.ref (ma 3)) (.ref (ma 4)) (.int 0) (.int 0) (.int 0) (.ref (ma 5)) (.int 1000) (.int 50) (.int 50) (.int 1000) (.int 10) (.int 0) (.int 3000) (.int 0) (.int 0) (.int 0) H.size ) rfl rfl rfl rfl rfl ax_45 rfl rfl ax_46 ⟨Nat.le_of_ble_eq_true rfl, Nat.le_of_ble_eq_true rfl⟩ rfl rfl (Nat.le_of_ble_eq_true rfl) dL_law_2679 ⟨(Nat.le_of_ble_eq_true rfl), (Nat.le_of_ble_eq_true rfl)⟩) hP hD hS hA rfl rfl rfl (by decide) (fun ad2679 H locs hP hD hS => ?_)
                have hP : va_P D vwCl [(aj, .inl (cy 2, 1, .inr (.inl (fun _ => 0)))), (am, .inr (15, [.int 1, .ref (ma 0), .int 0, .int 0, .int 0, .int 0, .ref (ma 1), .ref (ma 2), .null, .int 1, .int 10, .int 900, .ref (ma 3), .ref (ma 4), .int 0, .int 0, .int 0, .ref (ma 5), .int 1000, .int 50, .int 50, .int 1000, .int 10, .int 0, .int 3000, .int 0, .int 0, .int 0]))] H := hP
                have hD : va_D (AL s) [(aj, .inl (cy 2, 1, .inr (.inl (fun _ => 0)))), (am, .inr (15, [.int 1, .ref (ma 0), .int 0, .int 0, .int 0, .int 0, .ref (ma 1), .ref (ma 2), .null, .int 1, .int 10, .int 900, .ref (ma 3), .ref (ma 4), .int 0, .int 0, .int 0, .ref (ma 5), .int 1000, .int 50, .int 50, .int 1000, .int 10, .int 0, .int 3000, .int 0, .int 0, .int 0]))] := hD
                refine lv_iload hx hb dL_law_2682 (lv_at hl 1 rfl) ?_
                refine lv_icmp_eq (tgt := 2689) hx hb dL_law_2684 (by decide) (fun _ => ?_) (fun z => absurd (by decide) z)
                refine lv_iload hx hb dL_law_2689 (lv_at hl 1 rfl) ?_
                refine lv_if_ne (tgt := 2706) hx hb dL_law_2691 (by decide) (fun _ => ?_) (fun z => absurd z (by decide))
                refine lv_goto (tgt := 2947) hx hb dL_law_2706 (by decide) ?_
                exact law_tail LC hS (Nat.le_of_ble_eq_true rfl) (Nat.le_of_ble_eq_true rfl) (lv_sub hl [2, 7] rfl)
              · refine lv_aload_n hx hb dL_law_2617 rfl (lv_at hl 4 rfl) ?_
                refine lv_aload_n hx hb dL_law_2618 rfl (lv_at hl 5 rfl) ?_
                refine lv_iload hx hb dL_law_2619 (lv_at hl 0 rfl) ?_
                refine lv_iconst (v := 1) hx hb dL_law_2621 (by decide) ?_
                refine lv_iadd hx hb dL_law_2622 ?_
                refine tp_i 1 (by decide) ?_
                refine va_sld hx hb hX hbl hbA hS (by unfold vp_in; decide) dL_law_2623 ?_
                refine tp_i x1 e1 ?_
                refine lv_aload_n hx hb dL_law_2624 rfl (lv_at hl 5 rfl) ?_
                refine lv_iload hx hb dL_law_2625 (lv_at hl 0 rfl) ?_
                refine lv_iconst (v := 2) hx hb dL_law_2627 (by decide) ?_
                refine lv_iadd hx hb dL_law_2628 ?_
                refine tp_i 2 (by decide) ?_
                refine va_sld hx hb hX hbl hbA hS (by unfold vp_in; decide) dL_law_2629 ?_
                refine tp_i x2 e2 ?_
                refine lv_aload_n hx hb dL_law_2630 rfl (lv_at hl 5 rfl) ?_
                refine lv_iload hx hb dL_law_2631 (lv_at hl 0 rfl) ?_
                refine lv_iconst (v := 3) hx hb dL_law_2633 (by decide) ?_
                refine lv_iadd hx hb dL_law_2634 ?_
                refine tp_i 3 (by decide) ?_
                refine va_sld hx hb hX hbl hbA hS (by unfold vp_in; decide) dL_law_2635 ?_
                refine tp_i x3 e3 ?_
                refine lv_aload_n hx hb dL_law_2636 rfl (lv_at hl 5 rfl) ?_
                refine lv_iload hx hb dL_law_2637 (lv_at hl 0 rfl) ?_
                refine lv_iconst (v := 4) hx hb dL_law_2639 (by decide) ?_
                refine lv_iadd hx hb dL_law_2640 ?_
                refine tp_i 4 (by decide) ?_
                refine va_sld hx hb hX hbl hbA hS (by unfold vp_in; decide) dL_law_2641 ?_
                refine tp_i x4 e4 ?_
                refine lv_aload_n hx hb dL_law_2642 rfl (lv_at hl 2 rfl) ?_
                refine ca_i (isC := [0]) (isR := [1, 2]) (wr := [(am, .inr (15, [.int 0, .ref (ma 0), .int 0, .int 0, .int 0, .int 0, .ref (ma 1), .ref (ma 2), .null, .int 1, .int 10, .int 900, .ref (ma 3), .ref (ma 4), .int 0, .int 0, .int 0, .ref (ma 5), .int 1000, .int 50, .int 50, .int 1000, .int 10, .int 0, .int 3000, .int 0, .int 0, .int 0])), (aj, .inl (cy 2, 1, .inr (.inl (fun _ => 0))))]) (rn_SW (isC := [0]) (wc := [(ax, .inr (14, [.ref (xa 0), .ref (xa 13), .ref (xa 18), .ref (xa 34), .ref (xa 45), .ref (xa 49), .ref (xa 50)]))]) (As := [.ref ax, .int x1, .int x2, .int x3, .int x4, .ref aj]) (rest := []) (n := 6) hx hb hml hown hts hE hS hP hD hA hl.1 (k653_L_claim l hst D cy g x1 x2 x3 x4 ax aj (.ref (xa 0)) (.ref (xa 13)) (.ref (xa 18)) (.ref (xa 34)) (.ref (xa 45)) (.ref (xa 49)) (.ref (xa 50)) H.size c0 c1 c2 c3 c4) rfl rfl ax_448 rfl rfl ax_449 ⟨Nat.le_of_ble_eq_true rfl, Nat.le_of_ble_eq_true rfl⟩ rfl rfl (Nat.le_of_ble_eq_true rfl) dL_law_2643 ⟨(Nat.le_of_ble_eq_true rfl), (Nat.le_of_ble_eq_true rfl)⟩) hP hD hS hA rfl rfl rfl (by decide) (fun ad2643 H locs hP hD hS => ?_)
                have hP : va_P D vwCl [(am, .inr (15, [.int 0, .ref (ma 0), .int 0, .int 0, .int 0, .int 0, .ref (ma 1), .ref (ma 2), .null, .int 1, .int 10, .int 900, .ref (ma 3), .ref (ma 4), .int 0, .int 0, .int 0, .ref (ma 5), .int 1000, .int 50, .int 50, .int 1000, .int 10, .int 0, .int 3000, .int 0, .int 0, .int 0])), (aj, .inl (cy 2, 1, .inr (.inl (fun _ => 0))))] H := hP
                have hD : va_D (AL s) [(am, .inr (15, [.int 0, .ref (ma 0), .int 0, .int 0, .int 0, .int 0, .ref (ma 1), .ref (ma 2), .null, .int 1, .int 10, .int 900, .ref (ma 3), .ref (ma 4), .int 0, .int 0, .int 0, .ref (ma 5), .int 1000, .int 50, .int 50, .int 1000, .int 10, .int 0, .int 3000, .int 0, .int 0, .int 0])), (aj, .inl (cy 2, 1, .inr (.inl (fun _ => 0))))] := hD
                refine lv_istore (lv' := [(6, .int 1), (5, .int 0), (4, .ref ao), (3, .ref aj), (2, .ref am), (1, .ref ax), (0, .ref b)]) hx hb dL_law_2646 hl (Nat.le_of_ble_eq_true rfl) rfl (fun ls hl => ?_)
                refine lv_aload_n hx hb dL_law_2648 rfl (lv_at hl 4 rfl) ?_
                refine lv_aload_n hx hb dL_law_2649 rfl (lv_at hl 6 rfl) ?_
                refine lv_iload hx hb dL_law_2650 (lv_at hl 1 rfl) ?_
                refine lv_iconst (v := 1) hx hb dL_law_2652 (by decide) ?_
                refine lv_iadd hx hb dL_law_2653 ?_
                refine tp_i 1 (by decide) ?_
                refine va_sld hx hb hX hbl hbA hS (by unfold vp_in; decide) dL_law_2654 ?_
                refine tp_i x1 e1 ?_
                refine lv_aload_n hx hb dL_law_2655 rfl (lv_at hl 6 rfl) ?_
                refine lv_iload hx hb dL_law_2656 (lv_at hl 1 rfl) ?_
                refine lv_iconst (v := 2) hx hb dL_law_2658 (by decide) ?_
                refine lv_iadd hx hb dL_law_2659 ?_
                refine tp_i 2 (by decide) ?_
                refine va_sld hx hb hX hbl hbA hS (by unfold vp_in; decide) dL_law_2660 ?_
                refine tp_i x2 e2 ?_
                refine lv_aload_n hx hb dL_law_2661 rfl (lv_at hl 6 rfl) ?_
                refine lv_iload hx hb dL_law_2662 (lv_at hl 1 rfl) ?_
                refine lv_iconst (v := 3) hx hb dL_law_2664 (by decide) ?_
                refine lv_iadd hx hb dL_law_2665 ?_
                refine tp_i 3 (by decide) ?_
                refine va_sld hx hb hX hbl hbA hS (by unfold vp_in; decide) dL_law_2666 ?_
                refine tp_i x3 e3 ?_
                refine lv_aload_n hx hb dL_law_2667 rfl (lv_at hl 6 rfl) ?_
                refine lv_iload hx hb dL_law_2668 (lv_at hl 1 rfl) ?_
                refine lv_iconst (v := 4) hx hb dL_law_2670 (by decide) ?_
                refine lv_iadd hx hb dL_law_2671 ?_
                refine tp_i 4 (by decide) ?_
                refine va_sld hx hb hX hbl hbA hS (by unfold vp_in; decide) dL_law_2672 ?_
                refine tp_i x4 e4 ?_
                refine ca_i (isC := [0]) (isR := [1]) (wr := [(aj, .inl (cy 2, 1, .inr (.inl (fun _ => 0))))]) (rn_V (ci := 15) (q0 := 0) (isC := [0]) (wc := [(am, .inr (15, [.int 0, .ref (ma 0), .int 0, .int 0, .int 0, .int 0, .ref (ma 1), .ref (ma 2), .null, .int 1, .int 10, .int 900, .ref (ma 3), .ref (ma 4), .int 0, .int 0, .int 0, .ref (ma 5), .int 1000, .int 50, .int 50, .int 1000, .int 10, .int 0, .int 3000, .int 0, .int 0, .int 0]))]) (As := [.int x1, .int x2, .int x3, .int x4]) (rest := []) (n := 4) hx hb hml hown hts hE hS hP hD hA hl.1 (k655_X10_claim l D cy g x1 x2 x3 x4 am (.int 0) (.ref (ma 0)) (.int 0) (.int 0) (.int 0) (.int 0) (.ref (ma 1)) (.ref (ma 2)) (.null) (.int 1) (.int 10) (.int 900) (.ref (ma 3)) (.ref (ma 4)) (.int 0) (.int 0) (.int 0) (.ref (ma 5)) (.int 1000) (.int 50) (.int 50) (.int 1000) (.int 10) (.int 0) (.int 3000) (.int 0) (.int 0) (.int 0) H.size c5 c6 c0 c1 c2 c3 c4) rfl rfl rfl rfl rfl ax_450 rfl rfl ax_451 ⟨Nat.le_of_ble_eq_true rfl, Nat.le_of_ble_eq_true rfl⟩ rfl rfl (Nat.le_of_ble_eq_true rfl) dL_law_2673 ⟨(Nat.le_of_ble_eq_true rfl), (Nat.le_of_ble_eq_true rfl)⟩) hP hD hS hA rfl rfl rfl (by decide) (fun ad2673 H locs hP hD hS => ?_)
                have hP : va_P D vwCl [(aj, .inl (cy 2, 1, .inr (.inl (fun _ => 0)))), (am, .inr (15, [.int 1, .ref (ma 0), .int 0, .int 0, .int 0, .int 0, .ref (ma 1), .ref (ma 2), .null, .int 1, .int 10, .int 900, .ref (ma 3), .ref (ma 4), .int 0, .int 0, .int 0, .ref (ma 5), .int 1000, .int 50, .int 50, .int 1000, .int 10, .int 0, .int 3000, .int 0, .int 0, .int 0]))] H := hP
                have hD : va_D (AL s) [(aj, .inl (cy 2, 1, .inr (.inl (fun _ => 0)))), (am, .inr (15, [.int 1, .ref (ma 0), .int 0, .int 0, .int 0, .int 0, .ref (ma 1), .ref (ma 2), .null, .int 1, .int 10, .int 900, .ref (ma 3), .ref (ma 4), .int 0, .int 0, .int 0, .ref (ma 5), .int 1000, .int 50, .int 50, .int 1000, .int 10, .int 0, .int 3000, .int 0, .int 0, .int 0]))] := hD
                refine lv_istore (lv' := [(7, .int 32), (6, .int 1), (5, .int 0), (4, .ref ao), (3, .ref aj), (2, .ref am), (1, .ref ax), (0, .ref b)]) hx hb dL_law_2676 hl (Nat.le_of_ble_eq_true rfl) rfl (fun ls hl => ?_)
                refine lv_aload_n hx hb dL_law_2678 rfl (lv_at hl 5 rfl) ?_
                refine ca_i (isC := [1]) (isR := [0]) (wr := [(aj, .inl (cy 2, 1, .inr (.inl (fun _ => 0))))]) (rn_V (ci := 15) (q0 := 1) (isC := [1]) (wc := [(am, .inr (15, [.int 1, .ref (ma 0), .int 0, .int 0, .int 0, .int 0, .ref (ma 1), .ref (ma 2), .null, .int 1, .int 10, .int 900, .ref (ma 3), .ref (ma 4), .int 0, .int 0, .int 0, .ref (ma 5), .int 1000, .int 50, .int 50, .int 1000, .int 10, .int 0, .int 3000, .int 0, .int 0, .int 0]))]) (As := []) (rest := []) (n := 0) hx hb hml hown hts hE hS hP hD hA hl.1 (k24_X10_thrown l D cy g am (.ref (ma 0)) (.int 0) (.int 0) (.int 0) (.int 0) (.ref (ma 1)) (.ref (ma 2)) (.null) (.int 1) (.int 10) (.int 900) (.ref (ma 3)) (.ref (ma 4)) (.int 0) (.int 0) (.int 0) (.ref (ma 5)) (.int 1000) (.int 50) (.int 50) (.int 1000) (.int 10) (.int 0) (.int 3000) (.int 0) (.int 0) (.int 0) H.size ) rfl rfl rfl rfl rfl ax_45 rfl rfl ax_46 ⟨Nat.le_of_ble_eq_true rfl, Nat.le_of_ble_eq_true rfl⟩ rfl rfl (Nat.le_of_ble_eq_true rfl) dL_law_2679 ⟨(Nat.le_of_ble_eq_true rfl), (Nat.le_of_ble_eq_true rfl)⟩) hP hD hS hA rfl rfl rfl (by decide) (fun ad2679 H locs hP hD hS => ?_)
                have hP : va_P D vwCl [(aj, .inl (cy 2, 1, .inr (.inl (fun _ => 0)))), (am, .inr (15, [.int 1, .ref (ma 0), .int 0, .int 0, .int 0, .int 0, .ref (ma 1), .ref (ma 2), .null, .int 1, .int 10, .int 900, .ref (ma 3), .ref (ma 4), .int 0, .int 0, .int 0, .ref (ma 5), .int 1000, .int 50, .int 50, .int 1000, .int 10, .int 0, .int 3000, .int 0, .int 0, .int 0]))] H := hP
                have hD : va_D (AL s) [(aj, .inl (cy 2, 1, .inr (.inl (fun _ => 0)))), (am, .inr (15, [.int 1, .ref (ma 0), .int 0, .int 0, .int 0, .int 0, .ref (ma 1), .ref (ma 2), .null, .int 1, .int 10, .int 900, .ref (ma 3), .ref (ma 4), .int 0, .int 0, .int 0, .ref (ma 5), .int 1000, .int 50, .int 50, .int 1000, .int 10, .int 0, .int 3000, .int 0, .int 0, .int 0]))] := hD
                refine lv_iload hx hb dL_law_2682 (lv_at hl 1 rfl) ?_
                refine lv_icmp_eq (tgt := 2689) hx hb dL_law_2684 (by decide) (fun _ => ?_) (fun z => absurd (by decide) z)
                refine lv_iload hx hb dL_law_2689 (lv_at hl 1 rfl) ?_
                refine lv_if_ne (tgt := 2706) hx hb dL_law_2691 (by decide) (fun _ => ?_) (fun z => absurd z (by decide))
                refine lv_goto (tgt := 2947) hx hb dL_law_2706 (by decide) ?_
                exact law_tail LC hS (Nat.le_of_ble_eq_true rfl) (Nat.le_of_ble_eq_true rfl) (lv_sub hl [2, 7] rfl)
          · by_cases c5 : (2000 : Int32) < x3
            · by_cases c6 : x4 < 0
              · refine lv_aload_n hx hb dL_law_2617 rfl (lv_at hl 4 rfl) ?_
                refine lv_aload_n hx hb dL_law_2618 rfl (lv_at hl 5 rfl) ?_
                refine lv_iload hx hb dL_law_2619 (lv_at hl 0 rfl) ?_
                refine lv_iconst (v := 1) hx hb dL_law_2621 (by decide) ?_
                refine lv_iadd hx hb dL_law_2622 ?_
                refine tp_i 1 (by decide) ?_
                refine va_sld hx hb hX hbl hbA hS (by unfold vp_in; decide) dL_law_2623 ?_
                refine tp_i x1 e1 ?_
                refine lv_aload_n hx hb dL_law_2624 rfl (lv_at hl 5 rfl) ?_
                refine lv_iload hx hb dL_law_2625 (lv_at hl 0 rfl) ?_
                refine lv_iconst (v := 2) hx hb dL_law_2627 (by decide) ?_
                refine lv_iadd hx hb dL_law_2628 ?_
                refine tp_i 2 (by decide) ?_
                refine va_sld hx hb hX hbl hbA hS (by unfold vp_in; decide) dL_law_2629 ?_
                refine tp_i x2 e2 ?_
                refine lv_aload_n hx hb dL_law_2630 rfl (lv_at hl 5 rfl) ?_
                refine lv_iload hx hb dL_law_2631 (lv_at hl 0 rfl) ?_
                refine lv_iconst (v := 3) hx hb dL_law_2633 (by decide) ?_
                refine lv_iadd hx hb dL_law_2634 ?_
                refine tp_i 3 (by decide) ?_
                refine va_sld hx hb hX hbl hbA hS (by unfold vp_in; decide) dL_law_2635 ?_
                refine tp_i x3 e3 ?_
                refine lv_aload_n hx hb dL_law_2636 rfl (lv_at hl 5 rfl) ?_
                refine lv_iload hx hb dL_law_2637 (lv_at hl 0 rfl) ?_
                refine lv_iconst (v := 4) hx hb dL_law_2639 (by decide) ?_
                refine lv_iadd hx hb dL_law_2640 ?_
                refine tp_i 4 (by decide) ?_
                refine va_sld hx hb hX hbl hbA hS (by unfold vp_in; decide) dL_law_2641 ?_
                refine tp_i x4 e4 ?_
                refine lv_aload_n hx hb dL_law_2642 rfl (lv_at hl 2 rfl) ?_
                refine ca_i (isC := [0]) (isR := [1, 2]) (wr := [(am, .inr (15, [.int 0, .ref (ma 0), .int 0, .int 0, .int 0, .int 0, .ref (ma 1), .ref (ma 2), .null, .int 1, .int 10, .int 900, .ref (ma 3), .ref (ma 4), .int 0, .int 0, .int 0, .ref (ma 5), .int 1000, .int 50, .int 50, .int 1000, .int 10, .int 0, .int 3000, .int 0, .int 0, .int 0])), (aj, .inl (cy 2, 1, .inr (.inl (fun _ => 0))))]) (rn_SW (isC := [0]) (wc := [(ax, .inr (14, [.ref (xa 0), .ref (xa 13), .ref (xa 18), .ref (xa 34), .ref (xa 45), .ref (xa 49), .ref (xa 50)]))]) (As := [.ref ax, .int x1, .int x2, .int x3, .int x4, .ref aj]) (rest := []) (n := 6) hx hb hml hown hts hE hS hP hD hA hl.1 (k658_L_claim l hst D cy g x1 x2 x3 x4 ax aj (.ref (xa 0)) (.ref (xa 13)) (.ref (xa 18)) (.ref (xa 34)) (.ref (xa 45)) (.ref (xa 49)) (.ref (xa 50)) H.size c0 c1 c2 c3 c4 c5) rfl rfl ax_448 rfl rfl ax_449 ⟨Nat.le_of_ble_eq_true rfl, Nat.le_of_ble_eq_true rfl⟩ rfl rfl (Nat.le_of_ble_eq_true rfl) dL_law_2643 ⟨(Nat.le_of_ble_eq_true rfl), (Nat.le_of_ble_eq_true rfl)⟩) hP hD hS hA rfl rfl rfl (by decide) (fun ad2643 H locs hP hD hS => ?_)
                have hP : va_P D vwCl [(am, .inr (15, [.int 0, .ref (ma 0), .int 0, .int 0, .int 0, .int 0, .ref (ma 1), .ref (ma 2), .null, .int 1, .int 10, .int 900, .ref (ma 3), .ref (ma 4), .int 0, .int 0, .int 0, .ref (ma 5), .int 1000, .int 50, .int 50, .int 1000, .int 10, .int 0, .int 3000, .int 0, .int 0, .int 0])), (aj, .inl (cy 2, 1, .inr (.inl (fun _ => 0))))] H := hP
                have hD : va_D (AL s) [(am, .inr (15, [.int 0, .ref (ma 0), .int 0, .int 0, .int 0, .int 0, .ref (ma 1), .ref (ma 2), .null, .int 1, .int 10, .int 900, .ref (ma 3), .ref (ma 4), .int 0, .int 0, .int 0, .ref (ma 5), .int 1000, .int 50, .int 50, .int 1000, .int 10, .int 0, .int 3000, .int 0, .int 0, .int 0])), (aj, .inl (cy 2, 1, .inr (.inl (fun _ => 0))))] := hD
                refine lv_istore (lv' := [(6, .int 1), (5, .int 0), (4, .ref ao), (3, .ref aj), (2, .ref am), (1, .ref ax), (0, .ref b)]) hx hb dL_law_2646 hl (Nat.le_of_ble_eq_true rfl) rfl (fun ls hl => ?_)
                refine lv_aload_n hx hb dL_law_2648 rfl (lv_at hl 4 rfl) ?_
                refine lv_aload_n hx hb dL_law_2649 rfl (lv_at hl 6 rfl) ?_
                refine lv_iload hx hb dL_law_2650 (lv_at hl 1 rfl) ?_
                refine lv_iconst (v := 1) hx hb dL_law_2652 (by decide) ?_
                refine lv_iadd hx hb dL_law_2653 ?_
                refine tp_i 1 (by decide) ?_
                refine va_sld hx hb hX hbl hbA hS (by unfold vp_in; decide) dL_law_2654 ?_
                refine tp_i x1 e1 ?_
                refine lv_aload_n hx hb dL_law_2655 rfl (lv_at hl 6 rfl) ?_
                refine lv_iload hx hb dL_law_2656 (lv_at hl 1 rfl) ?_
                refine lv_iconst (v := 2) hx hb dL_law_2658 (by decide) ?_
                refine lv_iadd hx hb dL_law_2659 ?_
                refine tp_i 2 (by decide) ?_
                refine va_sld hx hb hX hbl hbA hS (by unfold vp_in; decide) dL_law_2660 ?_
                refine tp_i x2 e2 ?_
                refine lv_aload_n hx hb dL_law_2661 rfl (lv_at hl 6 rfl) ?_
                refine lv_iload hx hb dL_law_2662 (lv_at hl 1 rfl) ?_
                refine lv_iconst (v := 3) hx hb dL_law_2664 (by decide) ?_
                refine lv_iadd hx hb dL_law_2665 ?_
                refine tp_i 3 (by decide) ?_
                refine va_sld hx hb hX hbl hbA hS (by unfold vp_in; decide) dL_law_2666 ?_
                refine tp_i x3 e3 ?_
                refine lv_aload_n hx hb dL_law_2667 rfl (lv_at hl 6 rfl) ?_
                refine lv_iload hx hb dL_law_2668 (lv_at hl 1 rfl) ?_
                refine lv_iconst (v := 4) hx hb dL_law_2670 (by decide) ?_
                refine lv_iadd hx hb dL_law_2671 ?_
                refine tp_i 4 (by decide) ?_
                refine va_sld hx hb hX hbl hbA hS (by unfold vp_in; decide) dL_law_2672 ?_
                refine tp_i x4 e4 ?_
                refine ca_i (isC := [0]) (isR := [1]) (wr := [(aj, .inl (cy 2, 1, .inr (.inl (fun _ => 0))))]) (rn_V (ci := 15) (q0 := 0) (isC := [0]) (wc := [(am, .inr (15, [.int 0, .ref (ma 0), .int 0, .int 0, .int 0, .int 0, .ref (ma 1), .ref (ma 2), .null, .int 1, .int 10, .int 900, .ref (ma 3), .ref (ma 4), .int 0, .int 0, .int 0, .ref (ma 5), .int 1000, .int 50, .int 50, .int 1000, .int 10, .int 0, .int 3000, .int 0, .int 0, .int 0]))]) (As := [.int x1, .int x2, .int x3, .int x4]) (rest := []) (n := 4) hx hb hml hown hts hE hS hP hD hA hl.1 (k632_X10_claim l D cy g x1 x2 x3 x4 am (.int 0) (.ref (ma 0)) (.int 0) (.int 0) (.int 0) (.int 0) (.ref (ma 1)) (.ref (ma 2)) (.null) (.int 1) (.int 10) (.int 900) (.ref (ma 3)) (.ref (ma 4)) (.int 0) (.int 0) (.int 0) (.ref (ma 5)) (.int 1000) (.int 50) (.int 50) (.int 1000) (.int 10) (.int 0) (.int 3000) (.int 0) (.int 0) (.int 0) H.size c6) rfl rfl rfl rfl rfl ax_450 rfl rfl ax_451 ⟨Nat.le_of_ble_eq_true rfl, Nat.le_of_ble_eq_true rfl⟩ rfl rfl (Nat.le_of_ble_eq_true rfl) dL_law_2673 ⟨(Nat.le_of_ble_eq_true rfl), (Nat.le_of_ble_eq_true rfl)⟩) hP hD hS hA rfl rfl rfl (by decide) (fun ad2673 H locs hP hD hS => ?_)
                have hP : va_P D vwCl [(aj, .inl (cy 2, 1, .inr (.inl (fun _ => 0)))), (am, .inr (15, [.int 1, .ref (ma 0), .int 0, .int 0, .int 0, .int 0, .ref (ma 1), .ref (ma 2), .null, .int 1, .int 10, .int 900, .ref (ma 3), .ref (ma 4), .int 0, .int 0, .int 0, .ref (ma 5), .int 1000, .int 50, .int 50, .int 1000, .int 10, .int 0, .int 3000, .int 0, .int 0, .int 0]))] H := hP
                have hD : va_D (AL s) [(aj, .inl (cy 2, 1, .inr (.inl (fun _ => 0)))), (am, .inr (15, [.int 1, .ref (ma 0), .int 0, .int 0, .int 0, .int 0, .ref (ma 1), .ref (ma 2), .null, .int 1, .int 10, .int 900, .ref (ma 3), .ref (ma 4), .int 0, .int 0, .int 0, .ref (ma 5), .int 1000, .int 50, .int 50, .int 1000, .int 10, .int 0, .int 3000, .int 0, .int 0, .int 0]))] := hD
                refine lv_istore (lv' := [(7, .int 32), (6, .int 1), (5, .int 0), (4, .ref ao), (3, .ref aj), (2, .ref am), (1, .ref ax), (0, .ref b)]) hx hb dL_law_2676 hl (Nat.le_of_ble_eq_true rfl) rfl (fun ls hl => ?_)
                refine lv_aload_n hx hb dL_law_2678 rfl (lv_at hl 5 rfl) ?_
                refine ca_i (isC := [1]) (isR := [0]) (wr := [(aj, .inl (cy 2, 1, .inr (.inl (fun _ => 0))))]) (rn_V (ci := 15) (q0 := 1) (isC := [1]) (wc := [(am, .inr (15, [.int 1, .ref (ma 0), .int 0, .int 0, .int 0, .int 0, .ref (ma 1), .ref (ma 2), .null, .int 1, .int 10, .int 900, .ref (ma 3), .ref (ma 4), .int 0, .int 0, .int 0, .ref (ma 5), .int 1000, .int 50, .int 50, .int 1000, .int 10, .int 0, .int 3000, .int 0, .int 0, .int 0]))]) (As := []) (rest := []) (n := 0) hx hb hml hown hts hE hS hP hD hA hl.1 (k24_X10_thrown l D cy g am (.ref (ma 0)) (.int 0) (.int 0) (.int 0) (.int 0) (.ref (ma 1)) (.ref (ma 2)) (.null) (.int 1) (.int 10) (.int 900) (.ref (ma 3)) (.ref (ma 4)) (.int 0) (.int 0) (.int 0) (.ref (ma 5)) (.int 1000) (.int 50) (.int 50) (.int 1000) (.int 10) (.int 0) (.int 3000) (.int 0) (.int 0) (.int 0) H.size ) rfl rfl rfl rfl rfl ax_45 rfl rfl ax_46 ⟨Nat.le_of_ble_eq_true rfl, Nat.le_of_ble_eq_true rfl⟩ rfl rfl (Nat.le_of_ble_eq_true rfl) dL_law_2679 ⟨(Nat.le_of_ble_eq_true rfl), (Nat.le_of_ble_eq_true rfl)⟩) hP hD hS hA rfl rfl rfl (by decide) (fun ad2679 H locs hP hD hS => ?_)
                have hP : va_P D vwCl [(aj, .inl (cy 2, 1, .inr (.inl (fun _ => 0)))), (am, .inr (15, [.int 1, .ref (ma 0), .int 0, .int 0, .int 0, .int 0, .ref (ma 1), .ref (ma 2), .null, .int 1, .int 10, .int 900, .ref (ma 3), .ref (ma 4), .int 0, .int 0, .int 0, .ref (ma 5), .int 1000, .int 50, .int 50, .int 1000, .int 10, .int 0, .int 3000, .int 0, .int 0, .int 0]))] H := hP
                have hD : va_D (AL s) [(aj, .inl (cy 2, 1, .inr (.inl (fun _ => 0)))), (am, .inr (15, [.int 1, .ref (ma 0), .int 0, .int 0, .int 0, .int 0, .ref (ma 1), .ref (ma 2), .null, .int 1, .int 10, .int 900, .ref (ma 3), .ref (ma 4), .int 0, .int 0, .int 0, .ref (ma 5), .int 1000, .int 50, .int 50, .int 1000, .int 10, .int 0, .int 3000, .int 0, .int 0, .int 0]))] := hD
                refine lv_iload hx hb dL_law_2682 (lv_at hl 1 rfl) ?_
                refine lv_icmp_eq (tgt := 2689) hx hb dL_law_2684 (by decide) (fun _ => ?_) (fun z => absurd (by decide) z)
                refine lv_iload hx hb dL_law_2689 (lv_at hl 1 rfl) ?_
                refine lv_if_ne (tgt := 2706) hx hb dL_law_2691 (by decide) (fun _ => ?_) (fun z => absurd z (by decide))
                refine lv_goto (tgt := 2947) hx hb dL_law_2706 (by decide) ?_
                exact law_tail LC hS (Nat.le_of_ble_eq_true rfl) (Nat.le_of_ble_eq_true rfl) (lv_sub hl [2, 7] rfl)
              · by_cases c7 : (200000 : Int32) < x4
                · refine lv_aload_n hx hb dL_law_2617 rfl (lv_at hl 4 rfl) ?_
                  refine lv_aload_n hx hb dL_law_2618 rfl (lv_at hl 5 rfl) ?_
                  refine lv_iload hx hb dL_law_2619 (lv_at hl 0 rfl) ?_
                  refine lv_iconst (v := 1) hx hb dL_law_2621 (by decide) ?_
                  refine lv_iadd hx hb dL_law_2622 ?_
                  refine tp_i 1 (by decide) ?_
                  refine va_sld hx hb hX hbl hbA hS (by unfold vp_in; decide) dL_law_2623 ?_
                  refine tp_i x1 e1 ?_
                  refine lv_aload_n hx hb dL_law_2624 rfl (lv_at hl 5 rfl) ?_
                  refine lv_iload hx hb dL_law_2625 (lv_at hl 0 rfl) ?_
                  refine lv_iconst (v := 2) hx hb dL_law_2627 (by decide) ?_
                  refine lv_iadd hx hb dL_law_2628 ?_
                  refine tp_i 2 (by decide) ?_
                  refine va_sld hx hb hX hbl hbA hS (by unfold vp_in; decide) dL_law_2629 ?_
                  refine tp_i x2 e2 ?_
                  refine lv_aload_n hx hb dL_law_2630 rfl (lv_at hl 5 rfl) ?_
                  refine lv_iload hx hb dL_law_2631 (lv_at hl 0 rfl) ?_
                  refine lv_iconst (v := 3) hx hb dL_law_2633 (by decide) ?_
                  refine lv_iadd hx hb dL_law_2634 ?_
                  refine tp_i 3 (by decide) ?_
                  refine va_sld hx hb hX hbl hbA hS (by unfold vp_in; decide) dL_law_2635 ?_
                  refine tp_i x3 e3 ?_
                  refine lv_aload_n hx hb dL_law_2636 rfl (lv_at hl 5 rfl) ?_
                  refine lv_iload hx hb dL_law_2637 (lv_at hl 0 rfl) ?_
                  refine lv_iconst (v := 4) hx hb dL_law_2639 (by decide) ?_
                  refine lv_iadd hx hb dL_law_2640 ?_
                  refine tp_i 4 (by decide) ?_
                  refine va_sld hx hb hX hbl hbA hS (by unfold vp_in; decide) dL_law_2641 ?_
                  refine tp_i x4 e4 ?_
                  refine lv_aload_n hx hb dL_law_2642 rfl (lv_at hl 2 rfl) ?_
                  refine ca_i (isC := [0]) (isR := [1, 2]) (wr := [(am, .inr (15, [.int 0, .ref (ma 0), .int 0, .int 0, .int 0, .int 0, .ref (ma 1), .ref (ma 2), .null, .int 1, .int 10, .int 900, .ref (ma 3), .ref (ma 4), .int 0, .int 0, .int 0, .ref (ma 5), .int 1000, .int 50, .int 50, .int 1000, .int 10, .int 0, .int 3000, .int 0, .int 0, .int 0])), (aj, .inl (cy 2, 1, .inr (.inl (fun _ => 0))))]) (rn_SW (isC := [0]) (wc := [(ax, .inr (14, [.ref (xa 0), .ref (xa 13), .ref (xa 18), .ref (xa 34), .ref (xa 45), .ref (xa 49), .ref (xa 50)]))]) (As := [.ref ax, .int x1, .int x2, .int x3, .int x4, .ref aj]) (rest := []) (n := 6) hx hb hml hown hts hE hS hP hD hA hl.1 (k658_L_claim l hst D cy g x1 x2 x3 x4 ax aj (.ref (xa 0)) (.ref (xa 13)) (.ref (xa 18)) (.ref (xa 34)) (.ref (xa 45)) (.ref (xa 49)) (.ref (xa 50)) H.size c0 c1 c2 c3 c4 c5) rfl rfl ax_448 rfl rfl ax_449 ⟨Nat.le_of_ble_eq_true rfl, Nat.le_of_ble_eq_true rfl⟩ rfl rfl (Nat.le_of_ble_eq_true rfl) dL_law_2643 ⟨(Nat.le_of_ble_eq_true rfl), (Nat.le_of_ble_eq_true rfl)⟩) hP hD hS hA rfl rfl rfl (by decide) (fun ad2643 H locs hP hD hS => ?_)
                  have hP : va_P D vwCl [(am, .inr (15, [.int 0, .ref (ma 0), .int 0, .int 0, .int 0, .int 0, .ref (ma 1), .ref (ma 2), .null, .int 1, .int 10, .int 900, .ref (ma 3), .ref (ma 4), .int 0, .int 0, .int 0, .ref (ma 5), .int 1000, .int 50, .int 50, .int 1000, .int 10, .int 0, .int 3000, .int 0, .int 0, .int 0])), (aj, .inl (cy 2, 1, .inr (.inl (fun _ => 0))))] H := hP
                  have hD : va_D (AL s) [(am, .inr (15, [.int 0, .ref (ma 0), .int 0, .int 0, .int 0, .int 0, .ref (ma 1), .ref (ma 2), .null, .int 1, .int 10, .int 900, .ref (ma 3), .ref (ma 4), .int 0, .int 0, .int 0, .ref (ma 5), .int 1000, .int 50, .int 50, .int 1000, .int 10, .int 0, .int 3000, .int 0, .int 0, .int 0])), (aj, .inl (cy 2, 1, .inr (.inl (fun _ => 0))))] := hD
                  refine lv_istore (lv' := [(6, .int 1), (5, .int 0), (4, .ref ao), (3, .ref aj), (2, .ref am), (1, .ref ax), (0, .ref b)]) hx hb dL_law_2646 hl (Nat.le_of_ble_eq_true rfl) rfl (fun ls hl => ?_)
                  refine lv_aload_n hx hb dL_law_2648 rfl (lv_at hl 4 rfl) ?_
                  refine lv_aload_n hx hb dL_law_2649 rfl (lv_at hl 6 rfl) ?_
                  refine lv_iload hx hb dL_law_2650 (lv_at hl 1 rfl) ?_
                  refine lv_iconst (v := 1) hx hb dL_law_2652 (by decide) ?_
                  refine lv_iadd hx hb dL_law_2653 ?_
                  refine tp_i 1 (by decide) ?_
                  refine va_sld hx hb hX hbl hbA hS (by unfold vp_in; decide) dL_law_2654 ?_
                  refine tp_i x1 e1 ?_
                  refine lv_aload_n hx hb dL_law_2655 rfl (lv_at hl 6 rfl) ?_
                  refine lv_iload hx hb dL_law_2656 (lv_at hl 1 rfl) ?_
                  refine lv_iconst (v := 2) hx hb dL_law_2658 (by decide) ?_
                  refine lv_iadd hx hb dL_law_2659 ?_
                  refine tp_i 2 (by decide) ?_
                  refine va_sld hx hb hX hbl hbA hS (by unfold vp_in; decide) dL_law_2660 ?_
                  refine tp_i x2 e2 ?_
                  refine lv_aload_n hx hb dL_law_2661 rfl (lv_at hl 6 rfl) ?_
                  refine lv_iload hx hb dL_law_2662 (lv_at hl 1 rfl) ?_
                  refine lv_iconst (v := 3) hx hb dL_law_2664 (by decide) ?_
                  refine lv_iadd hx hb dL_law_2665 ?_
                  refine tp_i 3 (by decide) ?_
                  refine va_sld hx hb hX hbl hbA hS (by unfold vp_in; decide) dL_law_2666 ?_
                  refine tp_i x3 e3 ?_
                  refine lv_aload_n hx hb dL_law_2667 rfl (lv_at hl 6 rfl) ?_
                  refine lv_iload hx hb dL_law_2668 (lv_at hl 1 rfl) ?_
                  refine lv_iconst (v := 4) hx hb dL_law_2670 (by decide) ?_
                  refine lv_iadd hx hb dL_law_2671 ?_
                  refine tp_i 4 (by decide) ?_
                  refine va_sld hx hb hX hbl hbA hS (by unfold vp_in; decide) dL_law_2672 ?_
                  refine tp_i x4 e4 ?_
                  refine ca_i (isC := [0]) (isR := [1]) (wr := [(aj, .inl (cy 2, 1, .inr (.inl (fun _ => 0))))]) (rn_V (ci := 15) (q0 := 0) (isC := [0]) (wc := [(am, .inr (15, [.int 0, .ref (ma 0), .int 0, .int 0, .int 0, .int 0, .ref (ma 1), .ref (ma 2), .null, .int 1, .int 10, .int 900, .ref (ma 3), .ref (ma 4), .int 0, .int 0, .int 0, .ref (ma 5), .int 1000, .int 50, .int 50, .int 1000, .int 10, .int 0, .int 3000, .int 0, .int 0, .int 0]))]) (As := [.int x1, .int x2, .int x3, .int x4]) (rest := []) (n := 4) hx hb hml hown hts hE hS hP hD hA hl.1 (k633_X10_claim l D cy g x1 x2 x3 x4 am (.int 0) (.ref (ma 0)) (.int 0) (.int 0) (.int 0) (.int 0) (.ref (ma 1)) (.ref (ma 2)) (.null) (.int 1) (.int 10) (.int 900) (.ref (ma 3)) (.ref (ma 4)) (.int 0) (.int 0) (.int 0) (.ref (ma 5)) (.int 1000) (.int 50) (.int 50) (.int 1000) (.int 10) (.int 0) (.int 3000) (.int 0) (.int 0) (.int 0) H.size c6 c7) rfl rfl rfl rfl rfl ax_450 rfl rfl ax_451 ⟨Nat.le_of_ble_eq_true rfl, Nat.le_of_ble_eq_true rfl⟩ rfl rfl (Nat.le_of_ble_eq_true rfl) dL_law_2673 ⟨(Nat.le_of_ble_eq_true rfl), (Nat.le_of_ble_eq_true rfl)⟩) hP hD hS hA rfl rfl rfl (by decide) (fun ad2673 H locs hP hD hS => ?_)
                  have hP : va_P D vwCl [(aj, .inl (cy 2, 1, .inr (.inl (fun _ => 0)))), (am, .inr (15, [.int 1, .ref (ma 0), .int 0, .int 0, .int 0, .int 0, .ref (ma 1), .ref (ma 2), .null, .int 1, .int 10, .int 900, .ref (ma 3), .ref (ma 4), .int 0, .int 0, .int 0, .ref (ma 5), .int 1000, .int 50, .int 50, .int 1000, .int 10, .int 0, .int 3000, .int 0, .int 0, .int 0]))] H := hP
                  have hD : va_D (AL s) [(aj, .inl (cy 2, 1, .inr (.inl (fun _ => 0)))), (am, .inr (15, [.int 1, .ref (ma 0), .int 0, .int 0, .int 0, .int 0, .ref (ma 1), .ref (ma 2), .null, .int 1, .int 10, .int 900, .ref (ma 3), .ref (ma 4), .int 0, .int 0, .int 0, .ref (ma 5), .int 1000, .int 50, .int 50, .int 1000, .int 10, .int 0, .int 3000, .int 0, .int 0, .int 0]))] := hD
                  refine lv_istore (lv' := [(7, .int 32), (6, .int 1), (5, .int 0), (4, .ref ao), (3, .ref aj), (2, .ref am), (1, .ref ax), (0, .ref b)]) hx hb dL_law_2676 hl (Nat.le_of_ble_eq_true rfl) rfl (fun ls hl => ?_)
                  refine lv_aload_n hx hb dL_law_2678 rfl (lv_at hl 5 rfl) ?_
                  refine ca_i (isC := [1]) (isR := [0]) (wr := [(aj, .inl (cy 2, 1, .inr (.inl (fun _ => 0))))]) (rn_V (ci := 15) (q0 := 1) (isC := [1]) (wc := [(am, .inr (15, [.int 1, .ref (ma 0), .int 0, .int 0, .int 0, .int 0, .ref (ma 1), .ref (ma 2), .null, .int 1, .int 10, .int 900, .ref (ma 3), .ref (ma 4), .int 0, .int 0, .int 0, .ref (ma 5), .int 1000, .int 50, .int 50, .int 1000, .int 10, .int 0, .int 3000, .int 0, .int 0, .int 0]))]) (As := []) (rest := []) (n := 0) hx hb hml hown hts hE hS hP hD hA hl.1 (k24_X10_thrown l D cy g am (.ref (ma 0)) (.int 0) (.int 0) (.int 0) (.int 0) (.ref (ma 1)) (.ref (ma 2)) (.null) (.int 1) (.int 10) (.int 900) (.ref (ma 3)) (.ref (ma 4)) (.int 0) (.int 0) (.int 0) (.ref (ma 5)) (.int 1000) (.int 50) (.int 50) (.int 1000) (.int 10) (.int 0) (.int 3000) (.int 0) (.int 0) (.int 0) H.size ) rfl rfl rfl rfl rfl ax_45 rfl rfl ax_46 ⟨Nat.le_of_ble_eq_true rfl, Nat.le_of_ble_eq_true rfl⟩ rfl rfl (Nat.le_of_ble_eq_true rfl) dL_law_2679 ⟨(Nat.le_of_ble_eq_true rfl), (Nat.le_of_ble_eq_true rfl)⟩) hP hD hS hA rfl rfl rfl (by decide) (fun ad2679 H locs hP hD hS => ?_)
                  have hP : va_P D vwCl [(aj, .inl (cy 2, 1, .inr (.inl (fun _ => 0)))), (am, .inr (15, [.int 1, .ref (ma 0), .int 0, .int 0, .int 0, .int 0, .ref (ma 1), .ref (ma 2), .null, .int 1, .int 10, .int 900, .ref (ma 3), .ref (ma 4), .int 0, .int 0, .int 0, .ref (ma 5), .int 1000, .int 50, .int 50, .int 1000, .int 10, .int 0, .int 3000, .int 0, .int 0, .int 0]))] H := hP
                  have hD : va_D (AL s) [(aj, .inl (cy 2, 1, .inr (.inl (fun _ => 0)))), (am, .inr (15, [.int 1, .ref (ma 0), .int 0, .int 0, .int 0, .int 0, .ref (ma 1), .ref (ma 2), .null, .int 1, .int 10, .int 900, .ref (ma 3), .ref (ma 4), .int 0, .int 0, .int 0, .ref (ma 5), .int 1000, .int 50, .int 50, .int 1000, .int 10, .int 0, .int 3000, .int 0, .int 0, .int 0]))] := hD
                  refine lv_iload hx hb dL_law_2682 (lv_at hl 1 rfl) ?_
                  refine lv_icmp_eq (tgt := 2689) hx hb dL_law_2684 (by decide) (fun _ => ?_) (fun z => absurd (by decide) z)
                  refine lv_iload hx hb dL_law_2689 (lv_at hl 1 rfl) ?_
                  refine lv_if_ne (tgt := 2706) hx hb dL_law_2691 (by decide) (fun _ => ?_) (fun z => absurd z (by decide))
                  refine lv_goto (tgt := 2947) hx hb dL_law_2706 (by decide) ?_
                  exact law_tail LC hS (Nat.le_of_ble_eq_true rfl) (Nat.le_of_ble_eq_true rfl) (lv_sub hl [2, 7] rfl)
                · refine lv_aload_n hx hb dL_law_2617 rfl (lv_at hl 4 rfl) ?_
                  refine lv_aload_n hx hb dL_law_2618 rfl (lv_at hl 5 rfl) ?_
                  refine lv_iload hx hb dL_law_2619 (lv_at hl 0 rfl) ?_
                  refine lv_iconst (v := 1) hx hb dL_law_2621 (by decide) ?_
                  refine lv_iadd hx hb dL_law_2622 ?_
                  refine tp_i 1 (by decide) ?_
                  refine va_sld hx hb hX hbl hbA hS (by unfold vp_in; decide) dL_law_2623 ?_
                  refine tp_i x1 e1 ?_
                  refine lv_aload_n hx hb dL_law_2624 rfl (lv_at hl 5 rfl) ?_
                  refine lv_iload hx hb dL_law_2625 (lv_at hl 0 rfl) ?_
                  refine lv_iconst (v := 2) hx hb dL_law_2627 (by decide) ?_
                  refine lv_iadd hx hb dL_law_2628 ?_
                  refine tp_i 2 (by decide) ?_
                  refine va_sld hx hb hX hbl hbA hS (by unfold vp_in; decide) dL_law_2629 ?_
                  refine tp_i x2 e2 ?_
                  refine lv_aload_n hx hb dL_law_2630 rfl (lv_at hl 5 rfl) ?_
                  refine lv_iload hx hb dL_law_2631 (lv_at hl 0 rfl) ?_
                  refine lv_iconst (v := 3) hx hb dL_law_2633 (by decide) ?_
                  refine lv_iadd hx hb dL_law_2634 ?_
                  refine tp_i 3 (by decide) ?_
                  refine va_sld hx hb hX hbl hbA hS (by unfold vp_in; decide) dL_law_2635 ?_
                  refine tp_i x3 e3 ?_
                  refine lv_aload_n hx hb dL_law_2636 rfl (lv_at hl 5 rfl) ?_
                  refine lv_iload hx hb dL_law_2637 (lv_at hl 0 rfl) ?_
                  refine lv_iconst (v := 4) hx hb dL_law_2639 (by decide) ?_
                  refine lv_iadd hx hb dL_law_2640 ?_
                  refine tp_i 4 (by decide) ?_
                  refine va_sld hx hb hX hbl hbA hS (by unfold vp_in; decide) dL_law_2641 ?_
                  refine tp_i x4 e4 ?_
                  refine lv_aload_n hx hb dL_law_2642 rfl (lv_at hl 2 rfl) ?_
                  refine ca_i (isC := [0]) (isR := [1, 2]) (wr := [(am, .inr (15, [.int 0, .ref (ma 0), .int 0, .int 0, .int 0, .int 0, .ref (ma 1), .ref (ma 2), .null, .int 1, .int 10, .int 900, .ref (ma 3), .ref (ma 4), .int 0, .int 0, .int 0, .ref (ma 5), .int 1000, .int 50, .int 50, .int 1000, .int 10, .int 0, .int 3000, .int 0, .int 0, .int 0])), (aj, .inl (cy 2, 1, .inr (.inl (fun _ => 0))))]) (rn_SW (isC := [0]) (wc := [(ax, .inr (14, [.ref (xa 0), .ref (xa 13), .ref (xa 18), .ref (xa 34), .ref (xa 45), .ref (xa 49), .ref (xa 50)]))]) (As := [.ref ax, .int x1, .int x2, .int x3, .int x4, .ref aj]) (rest := []) (n := 6) hx hb hml hown hts hE hS hP hD hA hl.1 (k658_L_claim l hst D cy g x1 x2 x3 x4 ax aj (.ref (xa 0)) (.ref (xa 13)) (.ref (xa 18)) (.ref (xa 34)) (.ref (xa 45)) (.ref (xa 49)) (.ref (xa 50)) H.size c0 c1 c2 c3 c4 c5) rfl rfl ax_448 rfl rfl ax_449 ⟨Nat.le_of_ble_eq_true rfl, Nat.le_of_ble_eq_true rfl⟩ rfl rfl (Nat.le_of_ble_eq_true rfl) dL_law_2643 ⟨(Nat.le_of_ble_eq_true rfl), (Nat.le_of_ble_eq_true rfl)⟩) hP hD hS hA rfl rfl rfl (by decide) (fun ad2643 H locs hP hD hS => ?_)
                  have hP : va_P D vwCl [(am, .inr (15, [.int 0, .ref (ma 0), .int 0, .int 0, .int 0, .int 0, .ref (ma 1), .ref (ma 2), .null, .int 1, .int 10, .int 900, .ref (ma 3), .ref (ma 4), .int 0, .int 0, .int 0, .ref (ma 5), .int 1000, .int 50, .int 50, .int 1000, .int 10, .int 0, .int 3000, .int 0, .int 0, .int 0])), (aj, .inl (cy 2, 1, .inr (.inl (fun _ => 0))))] H := hP
                  have hD : va_D (AL s) [(am, .inr (15, [.int 0, .ref (ma 0), .int 0, .int 0, .int 0, .int 0, .ref (ma 1), .ref (ma 2), .null, .int 1, .int 10, .int 900, .ref (ma 3), .ref (ma 4), .int 0, .int 0, .int 0, .ref (ma 5), .int 1000, .int 50, .int 50, .int 1000, .int 10, .int 0, .int 3000, .int 0, .int 0, .int 0])), (aj, .inl (cy 2, 1, .inr (.inl (fun _ => 0))))] := hD
                  refine lv_istore (lv' := [(6, .int 1), (5, .int 0), (4, .ref ao), (3, .ref aj), (2, .ref am), (1, .ref ax), (0, .ref b)]) hx hb dL_law_2646 hl (Nat.le_of_ble_eq_true rfl) rfl (fun ls hl => ?_)
                  refine lv_aload_n hx hb dL_law_2648 rfl (lv_at hl 4 rfl) ?_
                  refine lv_aload_n hx hb dL_law_2649 rfl (lv_at hl 6 rfl) ?_
                  refine lv_iload hx hb dL_law_2650 (lv_at hl 1 rfl) ?_
                  refine lv_iconst (v := 1) hx hb dL_law_2652 (by decide) ?_
                  refine lv_iadd hx hb dL_law_2653 ?_
                  refine tp_i 1 (by decide) ?_
                  refine va_sld hx hb hX hbl hbA hS (by unfold vp_in; decide) dL_law_2654 ?_
                  refine tp_i x1 e1 ?_
                  refine lv_aload_n hx hb dL_law_2655 rfl (lv_at hl 6 rfl) ?_
                  refine lv_iload hx hb dL_law_2656 (lv_at hl 1 rfl) ?_
                  refine lv_iconst (v := 2) hx hb dL_law_2658 (by decide) ?_
                  refine lv_iadd hx hb dL_law_2659 ?_
                  refine tp_i 2 (by decide) ?_
                  refine va_sld hx hb hX hbl hbA hS (by unfold vp_in; decide) dL_law_2660 ?_
                  refine tp_i x2 e2 ?_
                  refine lv_aload_n hx hb dL_law_2661 rfl (lv_at hl 6 rfl) ?_
                  refine lv_iload hx hb dL_law_2662 (lv_at hl 1 rfl) ?_
                  refine lv_iconst (v := 3) hx hb dL_law_2664 (by decide) ?_
                  refine lv_iadd hx hb dL_law_2665 ?_
                  refine tp_i 3 (by decide) ?_
                  refine va_sld hx hb hX hbl hbA hS (by unfold vp_in; decide) dL_law_2666 ?_
                  refine tp_i x3 e3 ?_
                  refine lv_aload_n hx hb dL_law_2667 rfl (lv_at hl 6 rfl) ?_
                  refine lv_iload hx hb dL_law_2668 (lv_at hl 1 rfl) ?_
                  refine lv_iconst (v := 4) hx hb dL_law_2670 (by decide) ?_
                  refine lv_iadd hx hb dL_law_2671 ?_
                  refine tp_i 4 (by decide) ?_
                  refine va_sld hx hb hX hbl hbA hS (by unfold vp_in; decide) dL_law_2672 ?_
                  refine tp_i x4 e4 ?_
                  refine ca_i (isC := [0]) (isR := [1]) (wr := [(aj, .inl (cy 2, 1, .inr (.inl (fun _ => 0))))]) (rn_V (ci := 15) (q0 := 0) (isC := [0]) (wc := [(am, .inr (15, [.int 0, .ref (ma 0), .int 0, .int 0, .int 0, .int 0, .ref (ma 1), .ref (ma 2), .null, .int 1, .int 10, .int 900, .ref (ma 3), .ref (ma 4), .int 0, .int 0, .int 0, .ref (ma 5), .int 1000, .int 50, .int 50, .int 1000, .int 10, .int 0, .int 3000, .int 0, .int 0, .int 0]))]) (As := [.int x1, .int x2, .int x3, .int x4]) (rest := []) (n := 4) hx hb hml hown hts hE hS hP hD hA hl.1 (k660_X10_claim l D cy g x1 x2 x3 x4 am (.int 0) (.ref (ma 0)) (.int 0) (.int 0) (.int 0) (.int 0) (.ref (ma 1)) (.ref (ma 2)) (.null) (.int 1) (.int 10) (.int 900) (.ref (ma 3)) (.ref (ma 4)) (.int 0) (.int 0) (.int 0) (.ref (ma 5)) (.int 1000) (.int 50) (.int 50) (.int 1000) (.int 10) (.int 0) (.int 3000) (.int 0) (.int 0) (.int 0) H.size c6 c7 c0 c1 c2 c3 c4 c5) rfl rfl rfl rfl rfl ax_450 rfl rfl ax_451 ⟨Nat.le_of_ble_eq_true rfl, Nat.le_of_ble_eq_true rfl⟩ rfl rfl (Nat.le_of_ble_eq_true rfl) dL_law_2673 ⟨(Nat.le_of_ble_eq_true rfl), (Nat.le_of_ble_eq_true rfl)⟩) hP hD hS hA rfl rfl rfl (by decide) (fun ad2673 H locs hP hD hS => ?_)
                  have hP : va_P D vwCl [(aj, .inl (cy 2, 1, .inr (.inl (fun _ => 0)))), (am, .inr (15, [.int 1, .ref (ma 0), .int 0, .int 0, .int 0, .int 0, .ref (ma 1), .ref (ma 2), .null, .int 1, .int 10, .int 900, .ref (ma 3), .ref (ma 4), .int 0, .int 0, .int 0, .ref (ma 5), .int 1000, .int 50, .int 50, .int 1000, .int 10, .int 0, .int 3000, .int 0, .int 0, .int 0]))] H := hP
                  have hD : va_D (AL s) [(aj, .inl (cy 2, 1, .inr (.inl (fun _ => 0)))), (am, .inr (15, [.int 1, .ref (ma 0), .int 0, .int 0, .int 0, .int 0, .ref (ma 1), .ref (ma 2), .null, .int 1, .int 10, .int 900, .ref (ma 3), .ref (ma 4), .int 0, .int 0, .int 0, .ref (ma 5), .int 1000, .int 50, .int 50, .int 1000, .int 10, .int 0, .int 3000, .int 0, .int 0, .int 0]))] := hD
                  refine lv_istore (lv' := [(7, .int 32), (6, .int 1), (5, .int 0), (4, .ref ao), (3, .ref aj), (2, .ref am), (1, .ref ax), (0, .ref b)]) hx hb dL_law_2676 hl (Nat.le_of_ble_eq_true rfl) rfl (fun ls hl => ?_)
                  refine lv_aload_n hx hb dL_law_2678 rfl (lv_at hl 5 rfl) ?_
                  refine ca_i (isC := [1]) (isR := [0]) (wr := [(aj, .inl (cy 2, 1, .inr (.inl (fun _ => 0))))]) (rn_V (ci := 15) (q0 := 1) (isC := [1]) (wc := [(am, .inr (15, [.int 1, .ref (ma 0), .int 0, .int 0, .int 0, .int 0, .ref (ma 1), .ref (ma 2), .null, .int 1, .int 10, .int 900, .ref (ma 3), .ref (ma 4), .int 0, .int 0, .int 0, .ref (ma 5), .int 1000, .int 50, .int 50, .int 1000, .int 10, .int 0, .int 3000, .int 0, .int 0, .int 0]))]) (As := []) (rest := []) (n := 0) hx hb hml hown hts hE hS hP hD hA hl.1 (k24_X10_thrown l D cy g am (.ref (ma 0)) (.int 0) (.int 0) (.int 0) (.int 0) (.ref (ma 1)) (.ref (ma 2)) (.null) (.int 1) (.int 10) (.int 900) (.ref (ma 3)) (.ref (ma 4)) (.int 0) (.int 0) (.int 0) (.ref (ma 5)) (.int 1000) (.int 50) (.int 50) (.int 1000) (.int 10) (.int 0) (.int 3000) (.int 0) (.int 0) (.int 0) H.size ) rfl rfl rfl rfl rfl ax_45 rfl rfl ax_46 ⟨Nat.le_of_ble_eq_true rfl, Nat.le_of_ble_eq_true rfl⟩ rfl rfl (Nat.le_of_ble_eq_true rfl) dL_law_2679 ⟨(Nat.le_of_ble_eq_true rfl), (Nat.le_of_ble_eq_true rfl)⟩) hP hD hS hA rfl rfl rfl (by decide) (fun ad2679 H locs hP hD hS => ?_)
                  have hP : va_P D vwCl [(aj, .inl (cy 2, 1, .inr (.inl (fun _ => 0)))), (am, .inr (15, [.int 1, .ref (ma 0), .int 0, .int 0, .int 0, .int 0, .ref (ma 1), .ref (ma 2), .null, .int 1, .int 10, .int 900, .ref (ma 3), .ref (ma 4), .int 0, .int 0, .int 0, .ref (ma 5), .int 1000, .int 50, .int 50, .int 1000, .int 10, .int 0, .int 3000, .int 0, .int 0, .int 0]))] H := hP
                  have hD : va_D (AL s) [(aj, .inl (cy 2, 1, .inr (.inl (fun _ => 0)))), (am, .inr (15, [.int 1, .ref (ma 0), .int 0, .int 0, .int 0, .int 0, .ref (ma 1), .ref (ma 2), .null, .int 1, .int 10, .int 900, .ref (ma 3), .ref (ma 4), .int 0, .int 0, .int 0, .ref (ma 5), .int 1000, .int 50, .int 50, .int 1000, .int 10, .int 0, .int 3000, .int 0, .int 0, .int 0]))] := hD
                  refine lv_iload hx hb dL_law_2682 (lv_at hl 1 rfl) ?_
                  refine lv_icmp_eq (tgt := 2689) hx hb dL_law_2684 (by decide) (fun _ => ?_) (fun z => absurd (by decide) z)
                  refine lv_iload hx hb dL_law_2689 (lv_at hl 1 rfl) ?_
                  refine lv_if_ne (tgt := 2706) hx hb dL_law_2691 (by decide) (fun _ => ?_) (fun z => absurd z (by decide))
                  refine lv_goto (tgt := 2947) hx hb dL_law_2706 (by decide) ?_
                  exact law_tail LC hS (Nat.le_of_ble_eq_true rfl) (Nat.le_of_ble_eq_true rfl) (lv_sub hl [2, 7] rfl)
            · by_cases c6 : x3 < x2
              · by_cases c7 : x4 < 0
                · refine lv_aload_n hx hb dL_law_2617 rfl (lv_at hl 4 rfl) ?_
                  refine lv_aload_n hx hb dL_law_2618 rfl (lv_at hl 5 rfl) ?_
                  refine lv_iload hx hb dL_law_2619 (lv_at hl 0 rfl) ?_
                  refine lv_iconst (v := 1) hx hb dL_law_2621 (by decide) ?_
                  refine lv_iadd hx hb dL_law_2622 ?_
                  refine tp_i 1 (by decide) ?_
                  refine va_sld hx hb hX hbl hbA hS (by unfold vp_in; decide) dL_law_2623 ?_
                  refine tp_i x1 e1 ?_
                  refine lv_aload_n hx hb dL_law_2624 rfl (lv_at hl 5 rfl) ?_
                  refine lv_iload hx hb dL_law_2625 (lv_at hl 0 rfl) ?_
                  refine lv_iconst (v := 2) hx hb dL_law_2627 (by decide) ?_
                  refine lv_iadd hx hb dL_law_2628 ?_
                  refine tp_i 2 (by decide) ?_
                  refine va_sld hx hb hX hbl hbA hS (by unfold vp_in; decide) dL_law_2629 ?_
                  refine tp_i x2 e2 ?_
                  refine lv_aload_n hx hb dL_law_2630 rfl (lv_at hl 5 rfl) ?_
                  refine lv_iload hx hb dL_law_2631 (lv_at hl 0 rfl) ?_
                  refine lv_iconst (v := 3) hx hb dL_law_2633 (by decide) ?_
                  refine lv_iadd hx hb dL_law_2634 ?_
                  refine tp_i 3 (by decide) ?_
                  refine va_sld hx hb hX hbl hbA hS (by unfold vp_in; decide) dL_law_2635 ?_
                  refine tp_i x3 e3 ?_
                  refine lv_aload_n hx hb dL_law_2636 rfl (lv_at hl 5 rfl) ?_
                  refine lv_iload hx hb dL_law_2637 (lv_at hl 0 rfl) ?_
                  refine lv_iconst (v := 4) hx hb dL_law_2639 (by decide) ?_
                  refine lv_iadd hx hb dL_law_2640 ?_
                  refine tp_i 4 (by decide) ?_
                  refine va_sld hx hb hX hbl hbA hS (by unfold vp_in; decide) dL_law_2641 ?_
                  refine tp_i x4 e4 ?_
                  refine lv_aload_n hx hb dL_law_2642 rfl (lv_at hl 2 rfl) ?_
                  refine ca_i (isC := [0]) (isR := [1, 2]) (wr := [(am, .inr (15, [.int 0, .ref (ma 0), .int 0, .int 0, .int 0, .int 0, .ref (ma 1), .ref (ma 2), .null, .int 1, .int 10, .int 900, .ref (ma 3), .ref (ma 4), .int 0, .int 0, .int 0, .ref (ma 5), .int 1000, .int 50, .int 50, .int 1000, .int 10, .int 0, .int 3000, .int 0, .int 0, .int 0])), (aj, .inl (cy 2, 1, .inr (.inl (fun _ => 0))))]) (rn_SW (isC := [0]) (wc := [(ax, .inr (14, [.ref (xa 0), .ref (xa 13), .ref (xa 18), .ref (xa 34), .ref (xa 45), .ref (xa 49), .ref (xa 50)]))]) (As := [.ref ax, .int x1, .int x2, .int x3, .int x4, .ref aj]) (rest := []) (n := 6) hx hb hml hown hts hE hS hP hD hA hl.1 (k663_L_claim l hst D cy g x1 x2 x3 x4 ax aj (.ref (xa 0)) (.ref (xa 13)) (.ref (xa 18)) (.ref (xa 34)) (.ref (xa 45)) (.ref (xa 49)) (.ref (xa 50)) H.size c0 c1 c2 c3 c4 c5 c6 c7) rfl rfl ax_448 rfl rfl ax_449 ⟨Nat.le_of_ble_eq_true rfl, Nat.le_of_ble_eq_true rfl⟩ rfl rfl (Nat.le_of_ble_eq_true rfl) dL_law_2643 ⟨(Nat.le_of_ble_eq_true rfl), (Nat.le_of_ble_eq_true rfl)⟩) hP hD hS hA rfl rfl rfl (by decide) (fun ad2643 H locs hP hD hS => ?_)
                  have hP : va_P D vwCl [(am, .inr (15, [.int 0, .ref (ma 0), .int 0, .int 0, .int 0, .int 0, .ref (ma 1), .ref (ma 2), .null, .int 1, .int 10, .int 900, .ref (ma 3), .ref (ma 4), .int 0, .int 0, .int 0, .ref (ma 5), .int 1000, .int 50, .int 50, .int 1000, .int 10, .int 0, .int 3000, .int 0, .int 0, .int 0])), (aj, .inl (cy 2, 1, .inr (.inl (fun _ => 0))))] H := hP
                  have hD : va_D (AL s) [(am, .inr (15, [.int 0, .ref (ma 0), .int 0, .int 0, .int 0, .int 0, .ref (ma 1), .ref (ma 2), .null, .int 1, .int 10, .int 900, .ref (ma 3), .ref (ma 4), .int 0, .int 0, .int 0, .ref (ma 5), .int 1000, .int 50, .int 50, .int 1000, .int 10, .int 0, .int 3000, .int 0, .int 0, .int 0])), (aj, .inl (cy 2, 1, .inr (.inl (fun _ => 0))))] := hD
                  refine lv_istore (lv' := [(6, .int 1), (5, .int 0), (4, .ref ao), (3, .ref aj), (2, .ref am), (1, .ref ax), (0, .ref b)]) hx hb dL_law_2646 hl (Nat.le_of_ble_eq_true rfl) rfl (fun ls hl => ?_)
                  refine lv_aload_n hx hb dL_law_2648 rfl (lv_at hl 4 rfl) ?_
                  refine lv_aload_n hx hb dL_law_2649 rfl (lv_at hl 6 rfl) ?_
                  refine lv_iload hx hb dL_law_2650 (lv_at hl 1 rfl) ?_
                  refine lv_iconst (v := 1) hx hb dL_law_2652 (by decide) ?_
                  refine lv_iadd hx hb dL_law_2653 ?_
                  refine tp_i 1 (by decide) ?_
                  refine va_sld hx hb hX hbl hbA hS (by unfold vp_in; decide) dL_law_2654 ?_
                  refine tp_i x1 e1 ?_
                  refine lv_aload_n hx hb dL_law_2655 rfl (lv_at hl 6 rfl) ?_
                  refine lv_iload hx hb dL_law_2656 (lv_at hl 1 rfl) ?_
                  refine lv_iconst (v := 2) hx hb dL_law_2658 (by decide) ?_
                  refine lv_iadd hx hb dL_law_2659 ?_
                  refine tp_i 2 (by decide) ?_
                  refine va_sld hx hb hX hbl hbA hS (by unfold vp_in; decide) dL_law_2660 ?_
                  refine tp_i x2 e2 ?_
                  refine lv_aload_n hx hb dL_law_2661 rfl (lv_at hl 6 rfl) ?_
                  refine lv_iload hx hb dL_law_2662 (lv_at hl 1 rfl) ?_
                  refine lv_iconst (v := 3) hx hb dL_law_2664 (by decide) ?_
                  refine lv_iadd hx hb dL_law_2665 ?_
                  refine tp_i 3 (by decide) ?_
                  refine va_sld hx hb hX hbl hbA hS (by unfold vp_in; decide) dL_law_2666 ?_
                  refine tp_i x3 e3 ?_
                  refine lv_aload_n hx hb dL_law_2667 rfl (lv_at hl 6 rfl) ?_
                  refine lv_iload hx hb dL_law_2668 (lv_at hl 1 rfl) ?_
                  refine lv_iconst (v := 4) hx hb dL_law_2670 (by decide) ?_
                  refine lv_iadd hx hb dL_law_2671 ?_
                  refine tp_i 4 (by decide) ?_
                  refine va_sld hx hb hX hbl hbA hS (by unfold vp_in; decide) dL_law_2672 ?_
                  refine tp_i x4 e4 ?_
                  refine ca_i (isC := [0]) (isR := [1]) (wr := [(aj, .inl (cy 2, 1, .inr (.inl (fun _ => 0))))]) (rn_V (ci := 15) (q0 := 0) (isC := [0]) (wc := [(am, .inr (15, [.int 0, .ref (ma 0), .int 0, .int 0, .int 0, .int 0, .ref (ma 1), .ref (ma 2), .null, .int 1, .int 10, .int 900, .ref (ma 3), .ref (ma 4), .int 0, .int 0, .int 0, .ref (ma 5), .int 1000, .int 50, .int 50, .int 1000, .int 10, .int 0, .int 3000, .int 0, .int 0, .int 0]))]) (As := [.int x1, .int x2, .int x3, .int x4]) (rest := []) (n := 4) hx hb hml hown hts hE hS hP hD hA hl.1 (k632_X10_claim l D cy g x1 x2 x3 x4 am (.int 0) (.ref (ma 0)) (.int 0) (.int 0) (.int 0) (.int 0) (.ref (ma 1)) (.ref (ma 2)) (.null) (.int 1) (.int 10) (.int 900) (.ref (ma 3)) (.ref (ma 4)) (.int 0) (.int 0) (.int 0) (.ref (ma 5)) (.int 1000) (.int 50) (.int 50) (.int 1000) (.int 10) (.int 0) (.int 3000) (.int 0) (.int 0) (.int 0) H.size c7) rfl rfl rfl rfl rfl ax_450 rfl rfl ax_451 ⟨Nat.le_of_ble_eq_true rfl, Nat.le_of_ble_eq_true rfl⟩ rfl rfl (Nat.le_of_ble_eq_true rfl) dL_law_2673 ⟨(Nat.le_of_ble_eq_true rfl), (Nat.le_of_ble_eq_true rfl)⟩) hP hD hS hA rfl rfl rfl (by decide) (fun ad2673 H locs hP hD hS => ?_)
                  have hP : va_P D vwCl [(aj, .inl (cy 2, 1, .inr (.inl (fun _ => 0)))), (am, .inr (15, [.int 1, .ref (ma 0), .int 0, .int 0, .int 0, .int 0, .ref (ma 1), .ref (ma 2), .null, .int 1, .int 10, .int 900, .ref (ma 3), .ref (ma 4), .int 0, .int 0, .int 0, .ref (ma 5), .int 1000, .int 50, .int 50, .int 1000, .int 10, .int 0, .int 3000, .int 0, .int 0, .int 0]))] H := hP
                  have hD : va_D (AL s) [(aj, .inl (cy 2, 1, .inr (.inl (fun _ => 0)))), (am, .inr (15, [.int 1, .ref (ma 0), .int 0, .int 0, .int 0, .int 0, .ref (ma 1), .ref (ma 2), .null, .int 1, .int 10, .int 900, .ref (ma 3), .ref (ma 4), .int 0, .int 0, .int 0, .ref (ma 5), .int 1000, .int 50, .int 50, .int 1000, .int 10, .int 0, .int 3000, .int 0, .int 0, .int 0]))] := hD
                  refine lv_istore (lv' := [(7, .int 32), (6, .int 1), (5, .int 0), (4, .ref ao), (3, .ref aj), (2, .ref am), (1, .ref ax), (0, .ref b)]) hx hb dL_law_2676 hl (Nat.le_of_ble_eq_true rfl) rfl (fun ls hl => ?_)
                  refine lv_aload_n hx hb dL_law_2678 rfl (lv_at hl 5 rfl) ?_
                  refine ca_i (isC := [1]) (isR := [0]) (wr := [(aj, .inl (cy 2, 1, .inr (.inl (fun _ => 0))))]) (rn_V (ci := 15) (q0 := 1) (isC := [1]) (wc := [(am, .inr (15, [.int 1, .ref (ma 0), .int 0, .int 0, .int 0, .int 0, .ref (ma 1), .ref (ma 2), .null, .int 1, .int 10, .int 900, .ref (ma 3), .ref (ma 4), .int 0, .int 0, .int 0, .ref (ma 5), .int 1000, .int 50, .int 50, .int 1000, .int 10, .int 0, .int 3000, .int 0, .int 0, .int 0]))]) (As := []) (rest := []) (n := 0) hx hb hml hown hts hE hS hP hD hA hl.1 (k24_X10_thrown l D cy g am (.ref (ma 0)) (.int 0) (.int 0) (.int 0) (.int 0) (.ref (ma 1)) (.ref (ma 2)) (.null) (.int 1) (.int 10) (.int 900) (.ref (ma 3)) (.ref (ma 4)) (.int 0) (.int 0) (.int 0) (.ref (ma 5)) (.int 1000) (.int 50) (.int 50) (.int 1000) (.int 10) (.int 0) (.int 3000) (.int 0) (.int 0) (.int 0) H.size ) rfl rfl rfl rfl rfl ax_45 rfl rfl ax_46 ⟨Nat.le_of_ble_eq_true rfl, Nat.le_of_ble_eq_true rfl⟩ rfl rfl (Nat.le_of_ble_eq_true rfl) dL_law_2679 ⟨(Nat.le_of_ble_eq_true rfl), (Nat.le_of_ble_eq_true rfl)⟩) hP hD hS hA rfl rfl rfl (by decide) (fun ad2679 H locs hP hD hS => ?_)
                  have hP : va_P D vwCl [(aj, .inl (cy 2, 1, .inr (.inl (fun _ => 0)))), (am, .inr (15, [.int 1, .ref (ma 0), .int 0, .int 0, .int 0, .int 0, .ref (ma 1), .ref (ma 2), .null, .int 1, .int 10, .int 900, .ref (ma 3), .ref (ma 4), .int 0, .int 0, .int 0, .ref (ma 5), .int 1000, .int 50, .int 50, .int 1000, .int 10, .int 0, .int 3000, .int 0, .int 0, .int 0]))] H := hP
                  have hD : va_D (AL s) [(aj, .inl (cy 2, 1, .inr (.inl (fun _ => 0)))), (am, .inr (15, [.int 1, .ref (ma 0), .int 0, .int 0, .int 0, .int 0, .ref (ma 1), .ref (ma 2), .null, .int 1, .int 10, .int 900, .ref (ma 3), .ref (ma 4), .int 0, .int 0, .int 0, .ref (ma 5), .int 1000, .int 50, .int 50, .int 1000, .int 10, .int 0, .int 3000, .int 0, .int 0, .int 0]))] := hD
                  refine lv_iload hx hb dL_law_2682 (lv_at hl 1 rfl) ?_
                  refine lv_icmp_eq (tgt := 2689) hx hb dL_law_2684 (by decide) (fun _ => ?_) (fun z => absurd (by decide) z)
                  refine lv_iload hx hb dL_law_2689 (lv_at hl 1 rfl) ?_
                  refine lv_if_ne (tgt := 2706) hx hb dL_law_2691 (by decide) (fun _ => ?_) (fun z => absurd z (by decide))
                  refine lv_goto (tgt := 2947) hx hb dL_law_2706 (by decide) ?_
                  exact law_tail LC hS (Nat.le_of_ble_eq_true rfl) (Nat.le_of_ble_eq_true rfl) (lv_sub hl [2, 7] rfl)
                · by_cases c8 : (200000 : Int32) < x4
                  · refine lv_aload_n hx hb dL_law_2617 rfl (lv_at hl 4 rfl) ?_
                    refine lv_aload_n hx hb dL_law_2618 rfl (lv_at hl 5 rfl) ?_
                    refine lv_iload hx hb dL_law_2619 (lv_at hl 0 rfl) ?_
                    refine lv_iconst (v := 1) hx hb dL_law_2621 (by decide) ?_
                    refine lv_iadd hx hb dL_law_2622 ?_
                    refine tp_i 1 (by decide) ?_
                    refine va_sld hx hb hX hbl hbA hS (by unfold vp_in; decide) dL_law_2623 ?_
                    refine tp_i x1 e1 ?_
                    refine lv_aload_n hx hb dL_law_2624 rfl (lv_at hl 5 rfl) ?_
                    refine lv_iload hx hb dL_law_2625 (lv_at hl 0 rfl) ?_
                    refine lv_iconst (v := 2) hx hb dL_law_2627 (by decide) ?_
                    refine lv_iadd hx hb dL_law_2628 ?_
                    refine tp_i 2 (by decide) ?_
                    refine va_sld hx hb hX hbl hbA hS (by unfold vp_in; decide) dL_law_2629 ?_
                    refine tp_i x2 e2 ?_
                    refine lv_aload_n hx hb dL_law_2630 rfl (lv_at hl 5 rfl) ?_
                    refine lv_iload hx hb dL_law_2631 (lv_at hl 0 rfl) ?_
                    refine lv_iconst (v := 3) hx hb dL_law_2633 (by decide) ?_
                    refine lv_iadd hx hb dL_law_2634 ?_
                    refine tp_i 3 (by decide) ?_
                    refine va_sld hx hb hX hbl hbA hS (by unfold vp_in; decide) dL_law_2635 ?_
                    refine tp_i x3 e3 ?_
                    refine lv_aload_n hx hb dL_law_2636 rfl (lv_at hl 5 rfl) ?_
                    refine lv_iload hx hb dL_law_2637 (lv_at hl 0 rfl) ?_
                    refine lv_iconst (v := 4) hx hb dL_law_2639 (by decide) ?_
                    refine lv_iadd hx hb dL_law_2640 ?_
                    refine tp_i 4 (by decide) ?_
                    refine va_sld hx hb hX hbl hbA hS (by unfold vp_in; decide) dL_law_2641 ?_
                    refine tp_i x4 e4 ?_
                    refine lv_aload_n hx hb dL_law_2642 rfl (lv_at hl 2 rfl) ?_
                    refine ca_i (isC := [0]) (isR := [1, 2]) (wr := [(am, .inr (15, [.int 0, .ref (ma 0), .int 0, .int 0, .int 0, .int 0, .ref (ma 1), .ref (ma 2), .null, .int 1, .int 10, .int 900, .ref (ma 3), .ref (ma 4), .int 0, .int 0, .int 0, .ref (ma 5), .int 1000, .int 50, .int 50, .int 1000, .int 10, .int 0, .int 3000, .int 0, .int 0, .int 0])), (aj, .inl (cy 2, 1, .inr (.inl (fun _ => 0))))]) (rn_SW (isC := [0]) (wc := [(ax, .inr (14, [.ref (xa 0), .ref (xa 13), .ref (xa 18), .ref (xa 34), .ref (xa 45), .ref (xa 49), .ref (xa 50)]))]) (As := [.ref ax, .int x1, .int x2, .int x3, .int x4, .ref aj]) (rest := []) (n := 6) hx hb hml hown hts hE hS hP hD hA hl.1 (k665_L_claim l hst D cy g x1 x2 x3 x4 ax aj (.ref (xa 0)) (.ref (xa 13)) (.ref (xa 18)) (.ref (xa 34)) (.ref (xa 45)) (.ref (xa 49)) (.ref (xa 50)) H.size c0 c1 c2 c3 c4 c5 c6 c7 c8) rfl rfl ax_448 rfl rfl ax_449 ⟨Nat.le_of_ble_eq_true rfl, Nat.le_of_ble_eq_true rfl⟩ rfl rfl (Nat.le_of_ble_eq_true rfl) dL_law_2643 ⟨(Nat.le_of_ble_eq_true rfl), (Nat.le_of_ble_eq_true rfl)⟩) hP hD hS hA rfl rfl rfl (by decide) (fun ad2643 H locs hP hD hS => ?_)
                    have hP : va_P D vwCl [(am, .inr (15, [.int 0, .ref (ma 0), .int 0, .int 0, .int 0, .int 0, .ref (ma 1), .ref (ma 2), .null, .int 1, .int 10, .int 900, .ref (ma 3), .ref (ma 4), .int 0, .int 0, .int 0, .ref (ma 5), .int 1000, .int 50, .int 50, .int 1000, .int 10, .int 0, .int 3000, .int 0, .int 0, .int 0])), (aj, .inl (cy 2, 1, .inr (.inl (fun _ => 0))))] H := hP
                    have hD : va_D (AL s) [(am, .inr (15, [.int 0, .ref (ma 0), .int 0, .int 0, .int 0, .int 0, .ref (ma 1), .ref (ma 2), .null, .int 1, .int 10, .int 900, .ref (ma 3), .ref (ma 4), .int 0, .int 0, .int 0, .ref (ma 5), .int 1000, .int 50, .int 50, .int 1000, .int 10, .int 0, .int 3000, .int 0, .int 0, .int 0])), (aj, .inl (cy 2, 1, .inr (.inl (fun _ => 0))))] := hD
                    refine lv_istore (lv' := [(6, .int 1), (5, .int 0), (4, .ref ao), (3, .ref aj), (2, .ref am), (1, .ref ax), (0, .ref b)]) hx hb dL_law_2646 hl (Nat.le_of_ble_eq_true rfl) rfl (fun ls hl => ?_)
                    refine lv_aload_n hx hb dL_law_2648 rfl (lv_at hl 4 rfl) ?_
                    refine lv_aload_n hx hb dL_law_2649 rfl (lv_at hl 6 rfl) ?_
                    refine lv_iload hx hb dL_law_2650 (lv_at hl 1 rfl) ?_
                    refine lv_iconst (v := 1) hx hb dL_law_2652 (by decide) ?_
                    refine lv_iadd hx hb dL_law_2653 ?_
                    refine tp_i 1 (by decide) ?_
                    refine va_sld hx hb hX hbl hbA hS (by unfold vp_in; decide) dL_law_2654 ?_
                    refine tp_i x1 e1 ?_
                    refine lv_aload_n hx hb dL_law_2655 rfl (lv_at hl 6 rfl) ?_
                    refine lv_iload hx hb dL_law_2656 (lv_at hl 1 rfl) ?_
                    refine lv_iconst (v := 2) hx hb dL_law_2658 (by decide) ?_
                    refine lv_iadd hx hb dL_law_2659 ?_
                    refine tp_i 2 (by decide) ?_
                    refine va_sld hx hb hX hbl hbA hS (by unfold vp_in; decide) dL_law_2660 ?_
                    refine tp_i x2 e2 ?_
                    refine lv_aload_n hx hb dL_law_2661 rfl (lv_at hl 6 rfl) ?_
                    refine lv_iload hx hb dL_law_2662 (lv_at hl 1 rfl) ?_
                    refine lv_iconst (v := 3) hx hb dL_law_2664 (by decide) ?_
                    refine lv_iadd hx hb dL_law_2665 ?_
                    refine tp_i 3 (by decide) ?_
                    refine va_sld hx hb hX hbl hbA hS (by unfold vp_in; decide) dL_law_2666 ?_
                    refine tp_i x3 e3 ?_
                    refine lv_aload_n hx hb dL_law_2667 rfl (lv_at hl 6 rfl) ?_
                    refine lv_iload hx hb dL_law_2668 (lv_at hl 1 rfl) ?_
                    refine lv_iconst (v := 4) hx hb dL_law_2670 (by decide) ?_
                    refine lv_iadd hx hb dL_law_2671 ?_
                    refine tp_i 4 (by decide) ?_
                    refine va_sld hx hb hX hbl hbA hS (by unfold vp_in; decide) dL_law_2672 ?_
                    refine tp_i x4 e4 ?_
                    refine ca_i (isC := [0]) (isR := [1]) (wr := [(aj, .inl (cy 2, 1, .inr (.inl (fun _ => 0))))]) (rn_V (ci := 15) (q0 := 0) (isC := [0]) (wc := [(am, .inr (15, [.int 0, .ref (ma 0), .int 0, .int 0, .int 0, .int 0, .ref (ma 1), .ref (ma 2), .null, .int 1, .int 10, .int 900, .ref (ma 3), .ref (ma 4), .int 0, .int 0, .int 0, .ref (ma 5), .int 1000, .int 50, .int 50, .int 1000, .int 10, .int 0, .int 3000, .int 0, .int 0, .int 0]))]) (As := [.int x1, .int x2, .int x3, .int x4]) (rest := []) (n := 4) hx hb hml hown hts hE hS hP hD hA hl.1 (k633_X10_claim l D cy g x1 x2 x3 x4 am (.int 0) (.ref (ma 0)) (.int 0) (.int 0) (.int 0) (.int 0) (.ref (ma 1)) (.ref (ma 2)) (.null) (.int 1) (.int 10) (.int 900) (.ref (ma 3)) (.ref (ma 4)) (.int 0) (.int 0) (.int 0) (.ref (ma 5)) (.int 1000) (.int 50) (.int 50) (.int 1000) (.int 10) (.int 0) (.int 3000) (.int 0) (.int 0) (.int 0) H.size c7 c8) rfl rfl rfl rfl rfl ax_450 rfl rfl ax_451 ⟨Nat.le_of_ble_eq_true rfl, Nat.le_of_ble_eq_true rfl⟩ rfl rfl (Nat.le_of_ble_eq_true rfl) dL_law_2673 ⟨(Nat.le_of_ble_eq_true rfl), (Nat.le_of_ble_eq_true rfl)⟩) hP hD hS hA rfl rfl rfl (by decide) (fun ad2673 H locs hP hD hS => ?_)
                    have hP : va_P D vwCl [(aj, .inl (cy 2, 1, .inr (.inl (fun _ => 0)))), (am, .inr (15, [.int 1, .ref (ma 0), .int 0, .int 0, .int 0, .int 0, .ref (ma 1), .ref (ma 2), .null, .int 1, .int 10, .int 900, .ref (ma 3), .ref (ma 4), .int 0, .int 0, .int 0, .ref (ma 5), .int 1000, .int 50, .int 50, .int 1000, .int 10, .int 0, .int 3000, .int 0, .int 0, .int 0]))] H := hP
                    have hD : va_D (AL s) [(aj, .inl (cy 2, 1, .inr (.inl (fun _ => 0)))), (am, .inr (15, [.int 1, .ref (ma 0), .int 0, .int 0, .int 0, .int 0, .ref (ma 1), .ref (ma 2), .null, .int 1, .int 10, .int 900, .ref (ma 3), .ref (ma 4), .int 0, .int 0, .int 0, .ref (ma 5), .int 1000, .int 50, .int 50, .int 1000, .int 10, .int 0, .int 3000, .int 0, .int 0, .int 0]))] := hD
                    refine lv_istore (lv' := [(7, .int 32), (6, .int 1), (5, .int 0), (4, .ref ao), (3, .ref aj), (2, .ref am), (1, .ref ax), (0, .ref b)]) hx hb dL_law_2676 hl (Nat.le_of_ble_eq_true rfl) rfl (fun ls hl => ?_)
                    refine lv_aload_n hx hb dL_law_2678 rfl (lv_at hl 5 rfl) ?_
                    refine ca_i (isC := [1]) (isR := [0]) (wr := [(aj, .inl (cy 2, 1, .inr (.inl (fun _ => 0))))]) (rn_V (ci := 15) (q0 := 1) (isC := [1]) (wc := [(am, .inr (15, [.int 1, .ref (ma 0), .int 0, .int 0, .int 0, .int 0, .ref (ma 1), .ref (ma 2), .null, .int 1, .int 10, .int 900, .ref (ma 3), .ref (ma 4), .int 0, .int 0, .int 0, .ref (ma 5), .int 1000, .int 50, .int 50, .int 1000, .int 10, .int 0, .int 3000, .int 0, .int 0, .int 0]))]) (As := []) (rest := []) (n := 0) hx hb hml hown hts hE hS hP hD hA hl.1 (k24_X10_thrown l D cy g am (.ref (ma 0)) (.int 0) (.int 0) (.int 0) (.int 0) (.ref (ma 1)) (.ref (ma 2)) (.null) (.int 1) (.int 10) (.int 900) (.ref (ma 3)) (.ref (ma 4)) (.int 0) (.int 0) (.int 0) (.ref (ma 5)) (.int 1000) (.int 50) (.int 50) (.int 1000) (.int 10) (.int 0) (.int 3000) (.int 0) (.int 0) (.int 0) H.size ) rfl rfl rfl rfl rfl ax_45 rfl rfl ax_46 ⟨Nat.le_of_ble_eq_true rfl, Nat.le_of_ble_eq_true rfl⟩ rfl rfl (Nat.le_of_ble_eq_true rfl) dL_law_2679 ⟨(Nat.le_of_ble_eq_true rfl), (Nat.le_of_ble_eq_true rfl)⟩) hP hD hS hA rfl rfl rfl (by decide) (fun ad2679 H locs hP hD hS => ?_)
                    have hP : va_P D vwCl [(aj, .inl (cy 2, 1, .inr (.inl (fun _ => 0)))), (am, .inr (15, [.int 1, .ref (ma 0), .int 0, .int 0, .int 0, .int 0, .ref (ma 1), .ref (ma 2), .null, .int 1, .int 10, .int 900, .ref (ma 3), .ref (ma 4), .int 0, .int 0, .int 0, .ref (ma 5), .int 1000, .int 50, .int 50, .int 1000, .int 10, .int 0, .int 3000, .int 0, .int 0, .int 0]))] H := hP
                    have hD : va_D (AL s) [(aj, .inl (cy 2, 1, .inr (.inl (fun _ => 0)))), (am, .inr (15, [.int 1, .ref (ma 0), .int 0, .int 0, .int 0, .int 0, .ref (ma 1), .ref (ma 2), .null, .int 1, .int 10, .int 900, .ref (ma 3), .ref (ma 4), .int 0, .int 0, .int 0, .ref (ma 5), .int 1000, .int 50, .int 50, .int 1000, .int 10, .int 0, .int 3000, .int 0, .int 0, .int 0]))] := hD
                    refine lv_iload hx hb dL_law_2682 (lv_at hl 1 rfl) ?_
                    refine lv_icmp_eq (tgt := 2689) hx hb dL_law_2684 (by decide) (fun _ => ?_) (fun z => absurd (by decide) z)
                    refine lv_iload hx hb dL_law_2689 (lv_at hl 1 rfl) ?_
                    refine lv_if_ne (tgt := 2706) hx hb dL_law_2691 (by decide) (fun _ => ?_) (fun z => absurd z (by decide))
                    refine lv_goto (tgt := 2947) hx hb dL_law_2706 (by decide) ?_
                    exact law_tail LC hS (Nat.le_of_ble_eq_true rfl) (Nat.le_of_ble_eq_true rfl) (lv_sub hl [2, 7] rfl)
                  · by_cases c9 : x1 < x4
                    · refine lv_aload_n hx hb dL_law_2617 rfl (lv_at hl 4 rfl) ?_
                      refine lv_aload_n hx hb dL_law_2618 rfl (lv_at hl 5 rfl) ?_
                      refine lv_iload hx hb dL_law_2619 (lv_at hl 0 rfl) ?_
                      refine lv_iconst (v := 1) hx hb dL_law_2621 (by decide) ?_
                      refine lv_iadd hx hb dL_law_2622 ?_
                      refine tp_i 1 (by decide) ?_
                      refine va_sld hx hb hX hbl hbA hS (by unfold vp_in; decide) dL_law_2623 ?_
                      refine tp_i x1 e1 ?_
                      refine lv_aload_n hx hb dL_law_2624 rfl (lv_at hl 5 rfl) ?_
                      refine lv_iload hx hb dL_law_2625 (lv_at hl 0 rfl) ?_
                      refine lv_iconst (v := 2) hx hb dL_law_2627 (by decide) ?_
                      refine lv_iadd hx hb dL_law_2628 ?_
                      refine tp_i 2 (by decide) ?_
                      refine va_sld hx hb hX hbl hbA hS (by unfold vp_in; decide) dL_law_2629 ?_
                      refine tp_i x2 e2 ?_
                      refine lv_aload_n hx hb dL_law_2630 rfl (lv_at hl 5 rfl) ?_
                      refine lv_iload hx hb dL_law_2631 (lv_at hl 0 rfl) ?_
                      refine lv_iconst (v := 3) hx hb dL_law_2633 (by decide) ?_
                      refine lv_iadd hx hb dL_law_2634 ?_
                      refine tp_i 3 (by decide) ?_
                      refine va_sld hx hb hX hbl hbA hS (by unfold vp_in; decide) dL_law_2635 ?_
                      refine tp_i x3 e3 ?_
                      refine lv_aload_n hx hb dL_law_2636 rfl (lv_at hl 5 rfl) ?_
                      refine lv_iload hx hb dL_law_2637 (lv_at hl 0 rfl) ?_
                      refine lv_iconst (v := 4) hx hb dL_law_2639 (by decide) ?_
                      refine lv_iadd hx hb dL_law_2640 ?_
                      refine tp_i 4 (by decide) ?_
                      refine va_sld hx hb hX hbl hbA hS (by unfold vp_in; decide) dL_law_2641 ?_
                      refine tp_i x4 e4 ?_
                      refine lv_aload_n hx hb dL_law_2642 rfl (lv_at hl 2 rfl) ?_
                      refine ca_i (isC := [0, 2]) (isR := [1]) (wr := [(am, .inr (15, [.int 0, .ref (ma 0), .int 0, .int 0, .int 0, .int 0, .ref (ma 1), .ref (ma 2), .null, .int 1, .int 10, .int 900, .ref (ma 3), .ref (ma 4), .int 0, .int 0, .int 0, .ref (ma 5), .int 1000, .int 50, .int 50, .int 1000, .int 10, .int 0, .int 3000, .int 0, .int 0, .int 0]))]) (rn_SW (isC := [0, 2]) (wc := [(ax, .inr (14, [.ref (xa 0), .ref (xa 13), .ref (xa 18), .ref (xa 34), .ref (xa 45), .ref (xa 49), .ref (xa 50)])), (aj, .inl (cy 2, 1, .inr (.inl (fun _ => 0))))]) (As := [.ref ax, .int x1, .int x2, .int x3, .int x4, .ref aj]) (rest := []) (n := 6) hx hb hml hown hts hE hS hP hD hA hl.1 (k667_L_claim l D cy g x1 x2 x3 x4 ax aj (.ref (xa 0)) (.ref (xa 13)) (.ref (xa 18)) (.ref (xa 34)) (.ref (xa 45)) (.ref (xa 49)) (.ref (xa 50)) (fun _ => 0) H.size c0 c1 c2 c3 c4 c5 c6 c7 c8 c9) rfl rfl ax_448 rfl rfl ax_449 ⟨Nat.le_of_ble_eq_true rfl, Nat.le_of_ble_eq_true rfl⟩ rfl rfl (Nat.le_of_ble_eq_true rfl) dL_law_2643 ⟨(Nat.le_of_ble_eq_true rfl), (Nat.le_of_ble_eq_true rfl)⟩) hP hD hS hA rfl rfl rfl (by decide) (fun ad2643 H locs hP hD hS => ?_)
                      have hP : va_P D vwCl [(am, .inr (15, [.int 0, .ref (ma 0), .int 0, .int 0, .int 0, .int 0, .ref (ma 1), .ref (ma 2), .null, .int 1, .int 10, .int 900, .ref (ma 3), .ref (ma 4), .int 0, .int 0, .int 0, .ref (ma 5), .int 1000, .int 50, .int 50, .int 1000, .int 10, .int 0, .int 3000, .int 0, .int 0, .int 0])), (aj, .inl (cy 2, 1, .inr (.inl (vp_updL (fun _ => 0) (0 : Int32).toNatClampNeg 101))))] H := hP
                      have hD : va_D (AL s) [(am, .inr (15, [.int 0, .ref (ma 0), .int 0, .int 0, .int 0, .int 0, .ref (ma 1), .ref (ma 2), .null, .int 1, .int 10, .int 900, .ref (ma 3), .ref (ma 4), .int 0, .int 0, .int 0, .ref (ma 5), .int 1000, .int 50, .int 50, .int 1000, .int 10, .int 0, .int 3000, .int 0, .int 0, .int 0])), (aj, .inl (cy 2, 1, .inr (.inl (vp_updL (fun _ => 0) (0 : Int32).toNatClampNeg 101))))] := hD
                      refine lv_istore (lv' := [(6, .int 0), (5, .int 0), (4, .ref ao), (3, .ref aj), (2, .ref am), (1, .ref ax), (0, .ref b)]) hx hb dL_law_2646 hl (Nat.le_of_ble_eq_true rfl) rfl (fun ls hl => ?_)
                      refine lv_aload_n hx hb dL_law_2648 rfl (lv_at hl 4 rfl) ?_
                      refine lv_aload_n hx hb dL_law_2649 rfl (lv_at hl 6 rfl) ?_
                      refine lv_iload hx hb dL_law_2650 (lv_at hl 1 rfl) ?_
                      refine lv_iconst (v := 1) hx hb dL_law_2652 (by decide) ?_
                      refine lv_iadd hx hb dL_law_2653 ?_
                      refine tp_i 1 (by decide) ?_
                      refine va_sld hx hb hX hbl hbA hS (by unfold vp_in; decide) dL_law_2654 ?_
                      refine tp_i x1 e1 ?_
                      refine lv_aload_n hx hb dL_law_2655 rfl (lv_at hl 6 rfl) ?_
                      refine lv_iload hx hb dL_law_2656 (lv_at hl 1 rfl) ?_
                      refine lv_iconst (v := 2) hx hb dL_law_2658 (by decide) ?_
                      refine lv_iadd hx hb dL_law_2659 ?_
                      refine tp_i 2 (by decide) ?_
                      refine va_sld hx hb hX hbl hbA hS (by unfold vp_in; decide) dL_law_2660 ?_
                      refine tp_i x2 e2 ?_
                      refine lv_aload_n hx hb dL_law_2661 rfl (lv_at hl 6 rfl) ?_
                      refine lv_iload hx hb dL_law_2662 (lv_at hl 1 rfl) ?_
                      refine lv_iconst (v := 3) hx hb dL_law_2664 (by decide) ?_
                      refine lv_iadd hx hb dL_law_2665 ?_
                      refine tp_i 3 (by decide) ?_
                      refine va_sld hx hb hX hbl hbA hS (by unfold vp_in; decide) dL_law_2666 ?_
                      refine tp_i x3 e3 ?_
                      refine lv_aload_n hx hb dL_law_2667 rfl (lv_at hl 6 rfl) ?_
                      refine lv_iload hx hb dL_law_2668 (lv_at hl 1 rfl) ?_
                      refine lv_iconst (v := 4) hx hb dL_law_2670 (by decide) ?_
                      refine lv_iadd hx hb dL_law_2671 ?_
                      refine tp_i 4 (by decide) ?_
                      refine va_sld hx hb hX hbl hbA hS (by unfold vp_in; decide) dL_law_2672 ?_
                      refine tp_i x4 e4 ?_
                      refine ca_i (isC := [0]) (isR := [1]) (wr := [(aj, .inl (cy 2, 1, .inr (.inl (vp_updL (fun _ => 0) (0 : Int32).toNatClampNeg 101))))]) (rn_V (ci := 15) (q0 := 0) (isC := [0]) (wc := [(am, .inr (15, [.int 0, .ref (ma 0), .int 0, .int 0, .int 0, .int 0, .ref (ma 1), .ref (ma 2), .null, .int 1, .int 10, .int 900, .ref (ma 3), .ref (ma 4), .int 0, .int 0, .int 0, .ref (ma 5), .int 1000, .int 50, .int 50, .int 1000, .int 10, .int 0, .int 3000, .int 0, .int 0, .int 0]))]) (As := [.int x1, .int x2, .int x3, .int x4]) (rest := []) (n := 4) hx hb hml hown hts hE hS hP hD hA hl.1 (k669_X10_claim l D cy g x1 x2 x3 x4 am (.int 0) (.ref (ma 0)) (.int 0) (.int 0) (.int 0) (.int 0) (.ref (ma 1)) (.ref (ma 2)) (.null) (.int 1) (.int 10) (.int 900) (.ref (ma 3)) (.ref (ma 4)) (.int 0) (.int 0) (.int 0) (.ref (ma 5)) (.int 1000) (.int 50) (.int 50) (.int 1000) (.int 10) (.int 0) (.int 3000) (.int 0) (.int 0) (.int 0) H.size c7 c8 c0 c1 c2 c3 c4 c5 c6 c9) rfl rfl rfl rfl rfl ax_450 rfl rfl ax_451 ⟨Nat.le_of_ble_eq_true rfl, Nat.le_of_ble_eq_true rfl⟩ rfl rfl (Nat.le_of_ble_eq_true rfl) dL_law_2673 ⟨(Nat.le_of_ble_eq_true rfl), (Nat.le_of_ble_eq_true rfl)⟩) hP hD hS hA rfl rfl rfl (by decide) (fun ad2673 H locs hP hD hS => ?_)
                      have hP : va_P D vwCl [(aj, .inl (cy 2, 1, .inr (.inl (vp_updL (fun _ => 0) (0 : Int32).toNatClampNeg 101)))), (am, .inr (15, [.int 0, .ref (ma 0), .int 0, .int 0, .int 0, .int 0, .ref (ma 1), .ref (ma 2), .null, .int 1, .int 10, .int 900, .ref (ma 3), .ref (ma 4), .int 0, .int 0, .int 0, .ref (ma 5), .int 1000, .int 50, .int 50, .int 1000, .int 10, .int 0, .int 3000, .int 0, .int 0, .int 0]))] H := hP
                      have hD : va_D (AL s) [(aj, .inl (cy 2, 1, .inr (.inl (vp_updL (fun _ => 0) (0 : Int32).toNatClampNeg 101)))), (am, .inr (15, [.int 0, .ref (ma 0), .int 0, .int 0, .int 0, .int 0, .ref (ma 1), .ref (ma 2), .null, .int 1, .int 10, .int 900, .ref (ma 3), .ref (ma 4), .int 0, .int 0, .int 0, .ref (ma 5), .int 1000, .int 50, .int 50, .int 1000, .int 10, .int 0, .int 3000, .int 0, .int 0, .int 0]))] := hD
                      refine lv_istore (lv' := [(7, .int 101), (6, .int 0), (5, .int 0), (4, .ref ao), (3, .ref aj), (2, .ref am), (1, .ref ax), (0, .ref b)]) hx hb dL_law_2676 hl (Nat.le_of_ble_eq_true rfl) rfl (fun ls hl => ?_)
                      refine lv_aload_n hx hb dL_law_2678 rfl (lv_at hl 5 rfl) ?_
                      refine ca_i (isC := [1]) (isR := [0]) (wr := [(aj, .inl (cy 2, 1, .inr (.inl (vp_updL (fun _ => 0) (0 : Int32).toNatClampNeg 101))))]) (rn_V (ci := 15) (q0 := 1) (isC := [1]) (wc := [(am, .inr (15, [.int 0, .ref (ma 0), .int 0, .int 0, .int 0, .int 0, .ref (ma 1), .ref (ma 2), .null, .int 1, .int 10, .int 900, .ref (ma 3), .ref (ma 4), .int 0, .int 0, .int 0, .ref (ma 5), .int 1000, .int 50, .int 50, .int 1000, .int 10, .int 0, .int 3000, .int 0, .int 0, .int 0]))]) (As := []) (rest := []) (n := 0) hx hb hml hown hts hE hS hP hD hA hl.1 (k52_X10_thrown l D cy g am (.ref (ma 0)) (.int 0) (.int 0) (.int 0) (.int 0) (.ref (ma 1)) (.ref (ma 2)) (.null) (.int 1) (.int 10) (.int 900) (.ref (ma 3)) (.ref (ma 4)) (.int 0) (.int 0) (.int 0) (.ref (ma 5)) (.int 1000) (.int 50) (.int 50) (.int 1000) (.int 10) (.int 0) (.int 3000) (.int 0) (.int 0) (.int 0) H.size ) rfl rfl rfl rfl rfl ax_45 rfl rfl ax_46 ⟨Nat.le_of_ble_eq_true rfl, Nat.le_of_ble_eq_true rfl⟩ rfl rfl (Nat.le_of_ble_eq_true rfl) dL_law_2679 ⟨(Nat.le_of_ble_eq_true rfl), (Nat.le_of_ble_eq_true rfl)⟩) hP hD hS hA rfl rfl rfl (by decide) (fun ad2679 H locs hP hD hS => ?_)
                      have hP : va_P D vwCl [(aj, .inl (cy 2, 1, .inr (.inl (vp_updL (fun _ => 0) (0 : Int32).toNatClampNeg 101)))), (am, .inr (15, [.int 0, .ref (ma 0), .int 0, .int 0, .int 0, .int 0, .ref (ma 1), .ref (ma 2), .null, .int 1, .int 10, .int 900, .ref (ma 3), .ref (ma 4), .int 0, .int 0, .int 0, .ref (ma 5), .int 1000, .int 50, .int 50, .int 1000, .int 10, .int 0, .int 3000, .int 0, .int 0, .int 0]))] H := hP
                      have hD : va_D (AL s) [(aj, .inl (cy 2, 1, .inr (.inl (vp_updL (fun _ => 0) (0 : Int32).toNatClampNeg 101)))), (am, .inr (15, [.int 0, .ref (ma 0), .int 0, .int 0, .int 0, .int 0, .ref (ma 1), .ref (ma 2), .null, .int 1, .int 10, .int 900, .ref (ma 3), .ref (ma 4), .int 0, .int 0, .int 0, .ref (ma 5), .int 1000, .int 50, .int 50, .int 1000, .int 10, .int 0, .int 3000, .int 0, .int 0, .int 0]))] := hD
                      refine lv_iload hx hb dL_law_2682 (lv_at hl 1 rfl) ?_
                      refine lv_icmp_eq (tgt := 2689) hx hb dL_law_2684 (by decide) (fun _ => ?_) (fun z => absurd (by decide) z)
                      refine lv_iload hx hb dL_law_2689 (lv_at hl 1 rfl) ?_
                      refine lv_if_ne (tgt := 2706) hx hb dL_law_2691 (by decide) (fun z => absurd (by decide) z) (fun _ => ?_)
                      refine lv_aload_n hx hb dL_law_2694 rfl (lv_at hl 4 rfl) ?_
                      refine lv_iconst (v := 0) hx hb dL_law_2695 (by decide) ?_
                      refine va_lald hx hb hE.1 hP 0 2 rfl rfl (by unfold vp_in; decide) dL_law_2696 ?_
                      refine tp_l 101 rfl ?_
                      refine lv_iload hx hb dL_law_2697 (lv_at hl 0 rfl) ?_
                      refine lv_i2l (v := 101) hx hb dL_law_2699 (by decide) ?_
                      refine W.lcmp hx hb dL_law_2700 ?_
                      refine tp_i 0 (by decide) ?_
                      refine lv_if_eq (tgt := 2706) hx hb dL_law_2701 (by decide) (fun _ => ?_) (fun z => absurd (by decide) z)
                      refine lv_goto (tgt := 2947) hx hb dL_law_2706 (by decide) ?_
                      exact law_tail LC hS (Nat.le_of_ble_eq_true rfl) (Nat.le_of_ble_eq_true rfl) (lv_sub hl [2, 7] rfl)
                    · by_cases c10 : (((1000 * (x1 - x4)) / x3) - (dU (1000 * x1) x2)) < 0
                      · have d0 : ¬ (1073741824 : Int32) < x2 := by
                            have w0 : (50 : Int32).toInt = 50 := by decide
                            have w1 : (2000 : Int32).toInt = 2000 := by decide
                            have w2 : (1073741824 : Int32).toInt = 1073741824 := by decide
                            have z0 := c2
                            rw [fa_lt] at z0
                            have z1 := c3
                            rw [fa_lt] at z1
                            rw [fa_lt]
                            omega
                        have d1 : ¬ (1073741824 : Int32) < x3 := by
                            have w0 : (50 : Int32).toInt = 50 := by decide
                            have w1 : (2000 : Int32).toInt = 2000 := by decide
                            have w2 : (1073741824 : Int32).toInt = 1073741824 := by decide
                            have z0 := c4
                            rw [fa_lt] at z0
                            have z1 := c5
                            rw [fa_lt] at z1
                            rw [fa_lt]
                            omega
                        have d2 : ¬ x3 < 1 := by
                            have w0 : (1 : Int32).toInt = 1 := by decide
                            have w1 : (50 : Int32).toInt = 50 := by decide
                            have w2 : (2000 : Int32).toInt = 2000 := by decide
                            have w3 : (1073741824 : Int32).toInt = 1073741824 := by decide
                            have z0 := c4
                            rw [fa_lt] at z0
                            have z1 := c5
                            rw [fa_lt] at z1
                            have z2 := d1
                            rw [fa_lt] at z2
                            rw [fa_lt]
                            omega
                        have d3 : ¬ x3 = 0 := by
                            have w0 : (0 : Int32).toInt = 0 := by decide
                            have w1 : (1 : Int32).toInt = 1 := by decide
                            have w2 : (50 : Int32).toInt = 50 := by decide
                            have w3 : (2000 : Int32).toInt = 2000 := by decide
                            have w4 : (1073741824 : Int32).toInt = 1073741824 := by decide
                            have z0 := c4
                            rw [fa_lt] at z0
                            have z1 := c5
                            rw [fa_lt] at z1
                            have z2 := d1
                            rw [fa_lt] at z2
                            have z3 := d2
                            rw [fa_lt] at z3
                            rw [fa_eq]
                            omega
                        have d4 : ¬ x2 < 1 := by
                            have w0 : (1 : Int32).toInt = 1 := by decide
                            have w1 : (50 : Int32).toInt = 50 := by decide
                            have w2 : (2000 : Int32).toInt = 2000 := by decide
                            have w3 : (1073741824 : Int32).toInt = 1073741824 := by decide
                            have z0 := c2
                            rw [fa_lt] at z0
                            have z1 := c3
                            rw [fa_lt] at z1
                            have z2 := d0
                            rw [fa_lt] at z2
                            rw [fa_lt]
                            omega
                        have d5 : ¬ x2 = 0 := by
                            have w0 : (0 : Int32).toInt = 0 := by decide
                            have w1 : (1 : Int32).toInt = 1 := by decide
                            have w2 : (50 : Int32).toInt = 50 := by decide
                            have w3 : (2000 : Int32).toInt = 2000 := by decide
                            have w4 : (1073741824 : Int32).toInt = 1073741824 := by decide
                            have z0 := c2
                            rw [fa_lt] at z0
                            have z1 := c3
                            rw [fa_lt] at z1
                            have z2 := d0
                            rw [fa_lt] at z2
                            have z3 := d4
                            rw [fa_lt] at z3
                            rw [fa_eq]
                            omega
                        have d6 : ¬ (x1 - x4) < 0 := by
                            have w0 : (0 : Int32).toInt = 0 := by decide
                            have w1 : (1 : Int32).toInt = 1 := by decide
                            have w2 : (100000 : Int32).toInt = 100000 := by decide
                            have w3 : (200000 : Int32).toInt = 200000 := by decide
                            have z0 := c0
                            rw [fa_lt] at z0
                            have z1 := c1
                            rw [fa_lt] at z1
                            have z2 := c7
                            rw [fa_lt] at z2
                            have z3 := c8
                            rw [fa_lt] at z3
                            have z4 := c9
                            rw [fa_lt] at z4
                            have hs := sub_i (a := x1) (b := x4) (by omega) (by omega) (by omega) (by omega)
                            rw [fa_lt]
                            omega
                        have d7 : ¬ (100000 : Int32) < (x1 - x4) := by
                            have w0 : (0 : Int32).toInt = 0 := by decide
                            have w1 : (1 : Int32).toInt = 1 := by decide
                            have w2 : (100000 : Int32).toInt = 100000 := by decide
                            have w3 : (200000 : Int32).toInt = 200000 := by decide
                            have z0 := c0
                            rw [fa_lt] at z0
                            have z1 := c1
                            rw [fa_lt] at z1
                            have z2 := c7
                            rw [fa_lt] at z2
                            have z3 := c8
                            rw [fa_lt] at z3
                            have z4 := c9
                            rw [fa_lt] at z4
                            have hs := sub_i (a := x1) (b := x4) (by omega) (by omega) (by omega) (by omega)
                            rw [fa_lt]
                            omega
                        refine lv_aload_n hx hb dL_law_2617 rfl (lv_at hl 4 rfl) ?_
                        refine lv_aload_n hx hb dL_law_2618 rfl (lv_at hl 5 rfl) ?_
                        refine lv_iload hx hb dL_law_2619 (lv_at hl 0 rfl) ?_
                        refine lv_iconst (v := 1) hx hb dL_law_2621 (by decide) ?_
                        refine lv_iadd hx hb dL_law_2622 ?_
                        refine tp_i 1 (by decide) ?_
                        refine va_sld hx hb hX hbl hbA hS (by unfold vp_in; decide) dL_law_2623 ?_
                        refine tp_i x1 e1 ?_
                        refine lv_aload_n hx hb dL_law_2624 rfl (lv_at hl 5 rfl) ?_
                        refine lv_iload hx hb dL_law_2625 (lv_at hl 0 rfl) ?_
                        refine lv_iconst (v := 2) hx hb dL_law_2627 (by decide) ?_
                        refine lv_iadd hx hb dL_law_2628 ?_
                        refine tp_i 2 (by decide) ?_
                        refine va_sld hx hb hX hbl hbA hS (by unfold vp_in; decide) dL_law_2629 ?_
                        refine tp_i x2 e2 ?_
                        refine lv_aload_n hx hb dL_law_2630 rfl (lv_at hl 5 rfl) ?_
                        refine lv_iload hx hb dL_law_2631 (lv_at hl 0 rfl) ?_
                        refine lv_iconst (v := 3) hx hb dL_law_2633 (by decide) ?_
                        refine lv_iadd hx hb dL_law_2634 ?_
                        refine tp_i 3 (by decide) ?_
                        refine va_sld hx hb hX hbl hbA hS (by unfold vp_in; decide) dL_law_2635 ?_
                        refine tp_i x3 e3 ?_
                        refine lv_aload_n hx hb dL_law_2636 rfl (lv_at hl 5 rfl) ?_
                        refine lv_iload hx hb dL_law_2637 (lv_at hl 0 rfl) ?_
                        refine lv_iconst (v := 4) hx hb dL_law_2639 (by decide) ?_
                        refine lv_iadd hx hb dL_law_2640 ?_
                        refine tp_i 4 (by decide) ?_
                        refine va_sld hx hb hX hbl hbA hS (by unfold vp_in; decide) dL_law_2641 ?_
                        refine tp_i x4 e4 ?_
                        refine lv_aload_n hx hb dL_law_2642 rfl (lv_at hl 2 rfl) ?_
                        refine ca_i (isC := [0, 2]) (isR := [1]) (wr := [(am, .inr (15, [.int 0, .ref (ma 0), .int 0, .int 0, .int 0, .int 0, .ref (ma 1), .ref (ma 2), .null, .int 1, .int 10, .int 900, .ref (ma 3), .ref (ma 4), .int 0, .int 0, .int 0, .ref (ma 5), .int 1000, .int 50, .int 50, .int 1000, .int 10, .int 0, .int 3000, .int 0, .int 0, .int 0]))]) (rn_SW (isC := [0, 2]) (wc := [(ax, .inr (14, [.ref (xa 0), .ref (xa 13), .ref (xa 18), .ref (xa 34), .ref (xa 45), .ref (xa 49), .ref (xa 50)])), (aj, .inl (cy 2, 1, .inr (.inl (fun _ => 0))))]) (As := [.ref ax, .int x1, .int x2, .int x3, .int x4, .ref aj]) (rest := []) (n := 6) hx hb hml hown hts hE hS hP hD hA hl.1 (k674_L_claim l D cy g x1 x2 x3 x4 ax aj (.ref (xa 0)) (.ref (xa 13)) (.ref (xa 18)) (.ref (xa 34)) (.ref (xa 45)) (.ref (xa 49)) (.ref (xa 50)) (fun _ => 0) H.size c0 c1 c2 c3 c4 c5 c6 c7 c8 c9 d0 d1 d2 d3 d4 c10) rfl rfl ax_448 rfl rfl ax_449 ⟨Nat.le_of_ble_eq_true rfl, Nat.le_of_ble_eq_true rfl⟩ rfl rfl (Nat.le_of_ble_eq_true rfl) dL_law_2643 ⟨(Nat.le_of_ble_eq_true rfl), (Nat.le_of_ble_eq_true rfl)⟩) hP hD hS hA rfl rfl rfl (by decide) (fun ad2643 H locs hP hD hS => ?_)
                        have hP : va_P D vwCl [(am, .inr (15, [.int 0, .ref (ma 0), .int 0, .int 0, .int 0, .int 0, .ref (ma 1), .ref (ma 2), .null, .int 1, .int 10, .int 900, .ref (ma 3), .ref (ma 4), .int 0, .int 0, .int 0, .ref (ma 5), .int 1000, .int 50, .int 50, .int 1000, .int 10, .int 0, .int 3000, .int 0, .int 0, .int 0])), (aj, .inl (cy 2, 1, .inr (.inl (vp_updL (fun _ => 0) (0 : Int32).toNatClampNeg 100))))] H := hP
                        have hD : va_D (AL s) [(am, .inr (15, [.int 0, .ref (ma 0), .int 0, .int 0, .int 0, .int 0, .ref (ma 1), .ref (ma 2), .null, .int 1, .int 10, .int 900, .ref (ma 3), .ref (ma 4), .int 0, .int 0, .int 0, .ref (ma 5), .int 1000, .int 50, .int 50, .int 1000, .int 10, .int 0, .int 3000, .int 0, .int 0, .int 0])), (aj, .inl (cy 2, 1, .inr (.inl (vp_updL (fun _ => 0) (0 : Int32).toNatClampNeg 100))))] := hD
                        refine lv_istore (lv' := [(6, .int 0), (5, .int 0), (4, .ref ao), (3, .ref aj), (2, .ref am), (1, .ref ax), (0, .ref b)]) hx hb dL_law_2646 hl (Nat.le_of_ble_eq_true rfl) rfl (fun ls hl => ?_)
                        refine lv_aload_n hx hb dL_law_2648 rfl (lv_at hl 4 rfl) ?_
                        refine lv_aload_n hx hb dL_law_2649 rfl (lv_at hl 6 rfl) ?_
                        refine lv_iload hx hb dL_law_2650 (lv_at hl 1 rfl) ?_
                        refine lv_iconst (v := 1) hx hb dL_law_2652 (by decide) ?_
                        refine lv_iadd hx hb dL_law_2653 ?_
                        refine tp_i 1 (by decide) ?_
                        refine va_sld hx hb hX hbl hbA hS (by unfold vp_in; decide) dL_law_2654 ?_
                        refine tp_i x1 e1 ?_
                        refine lv_aload_n hx hb dL_law_2655 rfl (lv_at hl 6 rfl) ?_
                        refine lv_iload hx hb dL_law_2656 (lv_at hl 1 rfl) ?_
                        refine lv_iconst (v := 2) hx hb dL_law_2658 (by decide) ?_
                        refine lv_iadd hx hb dL_law_2659 ?_
                        refine tp_i 2 (by decide) ?_
                        refine va_sld hx hb hX hbl hbA hS (by unfold vp_in; decide) dL_law_2660 ?_
                        refine tp_i x2 e2 ?_
                        refine lv_aload_n hx hb dL_law_2661 rfl (lv_at hl 6 rfl) ?_
                        refine lv_iload hx hb dL_law_2662 (lv_at hl 1 rfl) ?_
                        refine lv_iconst (v := 3) hx hb dL_law_2664 (by decide) ?_
                        refine lv_iadd hx hb dL_law_2665 ?_
                        refine tp_i 3 (by decide) ?_
                        refine va_sld hx hb hX hbl hbA hS (by unfold vp_in; decide) dL_law_2666 ?_
                        refine tp_i x3 e3 ?_
                        refine lv_aload_n hx hb dL_law_2667 rfl (lv_at hl 6 rfl) ?_
                        refine lv_iload hx hb dL_law_2668 (lv_at hl 1 rfl) ?_
                        refine lv_iconst (v := 4) hx hb dL_law_2670 (by decide) ?_
                        refine lv_iadd hx hb dL_law_2671 ?_
                        refine tp_i 4 (by decide) ?_
                        refine va_sld hx hb hX hbl hbA hS (by unfold vp_in; decide) dL_law_2672 ?_
                        refine tp_i x4 e4 ?_
                        refine ca_i (isC := [0]) (isR := [1]) (wr := [(aj, .inl (cy 2, 1, .inr (.inl (vp_updL (fun _ => 0) (0 : Int32).toNatClampNeg 100))))]) (rn_V (ci := 15) (q0 := 0) (isC := [0]) (wc := [(am, .inr (15, [.int 0, .ref (ma 0), .int 0, .int 0, .int 0, .int 0, .ref (ma 1), .ref (ma 2), .null, .int 1, .int 10, .int 900, .ref (ma 3), .ref (ma 4), .int 0, .int 0, .int 0, .ref (ma 5), .int 1000, .int 50, .int 50, .int 1000, .int 10, .int 0, .int 3000, .int 0, .int 0, .int 0]))]) (As := [.int x1, .int x2, .int x3, .int x4]) (rest := []) (n := 4) hx hb hml hown hts hE hS hP hD hA hl.1 (k676_X10_claim l D cy g x1 x2 x3 x4 am (.int 0) (.ref (ma 0)) (.int 0) (.int 0) (.int 0) (.int 0) (.ref (ma 1)) (.ref (ma 2)) (.null) (.int 1) (.int 10) (.int 900) (.ref (ma 3)) (.ref (ma 4)) (.int 0) (.int 0) (.int 0) (.ref (ma 5)) (.int 1000) (.int 50) (.int 50) (.int 1000) (.int 10) (.int 0) (.int 3000) (.int 0) (.int 0) (.int 0) H.size c7 c8 c0 c1 c2 c3 c4 c5 c6 c9 d5 d3 d6 d7 c10) rfl rfl rfl rfl rfl ax_450 rfl rfl ax_451 ⟨Nat.le_of_ble_eq_true rfl, Nat.le_of_ble_eq_true rfl⟩ rfl rfl (Nat.le_of_ble_eq_true rfl) dL_law_2673 ⟨(Nat.le_of_ble_eq_true rfl), (Nat.le_of_ble_eq_true rfl)⟩) hP hD hS hA rfl rfl rfl (by decide) (fun ad2673 H locs hP hD hS => ?_)
                        have hP : va_P D vwCl [(aj, .inl (cy 2, 1, .inr (.inl (vp_updL (fun _ => 0) (0 : Int32).toNatClampNeg 100)))), (am, .inr (15, [.int 0, .ref (ma 0), .int 0, .int 0, .int 0, .int 0, .ref (ma 1), .ref (ma 2), .null, .int 1, .int 10, .int 900, .ref (ma 3), .ref (ma 4), .int 0, .int 0, .int 0, .ref (ma 5), .int 1000, .int 50, .int 50, .int 1000, .int 10, .int 0, .int 3000, .int 0, .int 0, .int 0]))] H := hP
                        have hD : va_D (AL s) [(aj, .inl (cy 2, 1, .inr (.inl (vp_updL (fun _ => 0) (0 : Int32).toNatClampNeg 100)))), (am, .inr (15, [.int 0, .ref (ma 0), .int 0, .int 0, .int 0, .int 0, .ref (ma 1), .ref (ma 2), .null, .int 1, .int 10, .int 900, .ref (ma 3), .ref (ma 4), .int 0, .int 0, .int 0, .ref (ma 5), .int 1000, .int 50, .int 50, .int 1000, .int 10, .int 0, .int 3000, .int 0, .int 0, .int 0]))] := hD
                        refine lv_istore (lv' := [(7, .int 100), (6, .int 0), (5, .int 0), (4, .ref ao), (3, .ref aj), (2, .ref am), (1, .ref ax), (0, .ref b)]) hx hb dL_law_2676 hl (Nat.le_of_ble_eq_true rfl) rfl (fun ls hl => ?_)
                        refine lv_aload_n hx hb dL_law_2678 rfl (lv_at hl 5 rfl) ?_
                        refine ca_i (isC := [1]) (isR := [0]) (wr := [(aj, .inl (cy 2, 1, .inr (.inl (vp_updL (fun _ => 0) (0 : Int32).toNatClampNeg 100))))]) (rn_V (ci := 15) (q0 := 1) (isC := [1]) (wc := [(am, .inr (15, [.int 0, .ref (ma 0), .int 0, .int 0, .int 0, .int 0, .ref (ma 1), .ref (ma 2), .null, .int 1, .int 10, .int 900, .ref (ma 3), .ref (ma 4), .int 0, .int 0, .int 0, .ref (ma 5), .int 1000, .int 50, .int 50, .int 1000, .int 10, .int 0, .int 3000, .int 0, .int 0, .int 0]))]) (As := []) (rest := []) (n := 0) hx hb hml hown hts hE hS hP hD hA hl.1 (k52_X10_thrown l D cy g am (.ref (ma 0)) (.int 0) (.int 0) (.int 0) (.int 0) (.ref (ma 1)) (.ref (ma 2)) (.null) (.int 1) (.int 10) (.int 900) (.ref (ma 3)) (.ref (ma 4)) (.int 0) (.int 0) (.int 0) (.ref (ma 5)) (.int 1000) (.int 50) (.int 50) (.int 1000) (.int 10) (.int 0) (.int 3000) (.int 0) (.int 0) (.int 0) H.size ) rfl rfl rfl rfl rfl ax_45 rfl rfl ax_46 ⟨Nat.le_of_ble_eq_true rfl, Nat.le_of_ble_eq_true rfl⟩ rfl rfl (Nat.le_of_ble_eq_true rfl) dL_law_2679 ⟨(Nat.le_of_ble_eq_true rfl), (Nat.le_of_ble_eq_true rfl)⟩) hP hD hS hA rfl rfl rfl (by decide) (fun ad2679 H locs hP hD hS => ?_)
                        have hP : va_P D vwCl [(aj, .inl (cy 2, 1, .inr (.inl (vp_updL (fun _ => 0) (0 : Int32).toNatClampNeg 100)))), (am, .inr (15, [.int 0, .ref (ma 0), .int 0, .int 0, .int 0, .int 0, .ref (ma 1), .ref (ma 2), .null, .int 1, .int 10, .int 900, .ref (ma 3), .ref (ma 4), .int 0, .int 0, .int 0, .ref (ma 5), .int 1000, .int 50, .int 50, .int 1000, .int 10, .int 0, .int 3000, .int 0, .int 0, .int 0]))] H := hP
                        have hD : va_D (AL s) [(aj, .inl (cy 2, 1, .inr (.inl (vp_updL (fun _ => 0) (0 : Int32).toNatClampNeg 100)))), (am, .inr (15, [.int 0, .ref (ma 0), .int 0, .int 0, .int 0, .int 0, .ref (ma 1), .ref (ma 2), .null, .int 1, .int 10, .int 900, .ref (ma 3), .ref (ma 4), .int 0, .int 0, .int 0, .ref (ma 5), .int 1000, .int 50, .int 50, .int 1000, .int 10, .int 0, .int 3000, .int 0, .int 0, .int 0]))] := hD
                        refine lv_iload hx hb dL_law_2682 (lv_at hl 1 rfl) ?_
                        refine lv_icmp_eq (tgt := 2689) hx hb dL_law_2684 (by decide) (fun _ => ?_) (fun z => absurd (by decide) z)
                        refine lv_iload hx hb dL_law_2689 (lv_at hl 1 rfl) ?_
                        refine lv_if_ne (tgt := 2706) hx hb dL_law_2691 (by decide) (fun z => absurd (by decide) z) (fun _ => ?_)
                        refine lv_aload_n hx hb dL_law_2694 rfl (lv_at hl 4 rfl) ?_
                        refine lv_iconst (v := 0) hx hb dL_law_2695 (by decide) ?_
                        refine va_lald hx hb hE.1 hP 0 2 rfl rfl (by unfold vp_in; decide) dL_law_2696 ?_
                        refine tp_l 100 rfl ?_
                        refine lv_iload hx hb dL_law_2697 (lv_at hl 0 rfl) ?_
                        refine lv_i2l (v := 100) hx hb dL_law_2699 (by decide) ?_
                        refine W.lcmp hx hb dL_law_2700 ?_
                        refine tp_i 0 (by decide) ?_
                        refine lv_if_eq (tgt := 2706) hx hb dL_law_2701 (by decide) (fun _ => ?_) (fun z => absurd (by decide) z)
                        refine lv_goto (tgt := 2947) hx hb dL_law_2706 (by decide) ?_
                        exact law_tail LC hS (Nat.le_of_ble_eq_true rfl) (Nat.le_of_ble_eq_true rfl) (lv_sub hl [2, 7] rfl)
                      · have d0 : ¬ (1073741824 : Int32) < x2 := by
                            have w0 : (50 : Int32).toInt = 50 := by decide
                            have w1 : (2000 : Int32).toInt = 2000 := by decide
                            have w2 : (1073741824 : Int32).toInt = 1073741824 := by decide
                            have z0 := c2
                            rw [fa_lt] at z0
                            have z1 := c3
                            rw [fa_lt] at z1
                            rw [fa_lt]
                            omega
                        have d1 : ¬ (1073741824 : Int32) < x3 := by
                            have w0 : (50 : Int32).toInt = 50 := by decide
                            have w1 : (2000 : Int32).toInt = 2000 := by decide
                            have w2 : (1073741824 : Int32).toInt = 1073741824 := by decide
                            have z0 := c4
                            rw [fa_lt] at z0
                            have z1 := c5
                            rw [fa_lt] at z1
                            rw [fa_lt]
                            omega
                        have d2 : ¬ x3 < 1 := by
                            have w0 : (1 : Int32).toInt = 1 := by decide
                            have w1 : (50 : Int32).toInt = 50 := by decide
                            have w2 : (2000 : Int32).toInt = 2000 := by decide
                            have w3 : (1073741824 : Int32).toInt = 1073741824 := by decide
                            have z0 := c4
                            rw [fa_lt] at z0
                            have z1 := c5
                            rw [fa_lt] at z1
                            have z2 := d1
                            rw [fa_lt] at z2
                            rw [fa_lt]
                            omega
                        have d3 : ¬ x3 = 0 := by
                            have w0 : (0 : Int32).toInt = 0 := by decide
                            have w1 : (1 : Int32).toInt = 1 := by decide
                            have w2 : (50 : Int32).toInt = 50 := by decide
                            have w3 : (2000 : Int32).toInt = 2000 := by decide
                            have w4 : (1073741824 : Int32).toInt = 1073741824 := by decide
                            have z0 := c4
                            rw [fa_lt] at z0
                            have z1 := c5
                            rw [fa_lt] at z1
                            have z2 := d1
                            rw [fa_lt] at z2
                            have z3 := d2
                            rw [fa_lt] at z3
                            rw [fa_eq]
                            omega
                        have d4 : ¬ x2 < 1 := by
                            have w0 : (1 : Int32).toInt = 1 := by decide
                            have w1 : (50 : Int32).toInt = 50 := by decide
                            have w2 : (2000 : Int32).toInt = 2000 := by decide
                            have w3 : (1073741824 : Int32).toInt = 1073741824 := by decide
                            have z0 := c2
                            rw [fa_lt] at z0
                            have z1 := c3
                            rw [fa_lt] at z1
                            have z2 := d0
                            rw [fa_lt] at z2
                            rw [fa_lt]
                            omega
                        have d5 : ¬ x2 = 0 := by
                            have w0 : (0 : Int32).toInt = 0 := by decide
                            have w1 : (1 : Int32).toInt = 1 := by decide
                            have w2 : (50 : Int32).toInt = 50 := by decide
                            have w3 : (2000 : Int32).toInt = 2000 := by decide
                            have w4 : (1073741824 : Int32).toInt = 1073741824 := by decide
                            have z0 := c2
                            rw [fa_lt] at z0
                            have z1 := c3
                            rw [fa_lt] at z1
                            have z2 := d0
                            rw [fa_lt] at z2
                            have z3 := d4
                            rw [fa_lt] at z3
                            rw [fa_eq]
                            omega
                        have d6 : ¬ (x1 - x4) < 0 := by
                            have w0 : (0 : Int32).toInt = 0 := by decide
                            have w1 : (1 : Int32).toInt = 1 := by decide
                            have w2 : (100000 : Int32).toInt = 100000 := by decide
                            have w3 : (200000 : Int32).toInt = 200000 := by decide
                            have z0 := c0
                            rw [fa_lt] at z0
                            have z1 := c1
                            rw [fa_lt] at z1
                            have z2 := c7
                            rw [fa_lt] at z2
                            have z3 := c8
                            rw [fa_lt] at z3
                            have z4 := c9
                            rw [fa_lt] at z4
                            have hs := sub_i (a := x1) (b := x4) (by omega) (by omega) (by omega) (by omega)
                            rw [fa_lt]
                            omega
                        have d7 : ¬ (100000 : Int32) < (x1 - x4) := by
                            have w0 : (0 : Int32).toInt = 0 := by decide
                            have w1 : (1 : Int32).toInt = 1 := by decide
                            have w2 : (100000 : Int32).toInt = 100000 := by decide
                            have w3 : (200000 : Int32).toInt = 200000 := by decide
                            have z0 := c0
                            rw [fa_lt] at z0
                            have z1 := c1
                            rw [fa_lt] at z1
                            have z2 := c7
                            rw [fa_lt] at z2
                            have z3 := c8
                            rw [fa_lt] at z3
                            have z4 := c9
                            rw [fa_lt] at z4
                            have hs := sub_i (a := x1) (b := x4) (by omega) (by omega) (by omega) (by omega)
                            rw [fa_lt]
                            omega
                        refine lv_aload_n hx hb dL_law_2617 rfl (lv_at hl 4 rfl) ?_
                        refine lv_aload_n hx hb dL_law_2618 rfl (lv_at hl 5 rfl) ?_
                        refine lv_iload hx hb dL_law_2619 (lv_at hl 0 rfl) ?_
                        refine lv_iconst (v := 1) hx hb dL_law_2621 (by decide) ?_
                        refine lv_iadd hx hb dL_law_2622 ?_
                        refine tp_i 1 (by decide) ?_
                        refine va_sld hx hb hX hbl hbA hS (by unfold vp_in; decide) dL_law_2623 ?_
                        refine tp_i x1 e1 ?_
                        refine lv_aload_n hx hb dL_law_2624 rfl (lv_at hl 5 rfl) ?_
                        refine lv_iload hx hb dL_law_2625 (lv_at hl 0 rfl) ?_
                        refine lv_iconst (v := 2) hx hb dL_law_2627 (by decide) ?_
                        refine lv_iadd hx hb dL_law_2628 ?_
                        refine tp_i 2 (by decide) ?_
                        refine va_sld hx hb hX hbl hbA hS (by unfold vp_in; decide) dL_law_2629 ?_
                        refine tp_i x2 e2 ?_
                        refine lv_aload_n hx hb dL_law_2630 rfl (lv_at hl 5 rfl) ?_
                        refine lv_iload hx hb dL_law_2631 (lv_at hl 0 rfl) ?_
                        refine lv_iconst (v := 3) hx hb dL_law_2633 (by decide) ?_
                        refine lv_iadd hx hb dL_law_2634 ?_
                        refine tp_i 3 (by decide) ?_
                        refine va_sld hx hb hX hbl hbA hS (by unfold vp_in; decide) dL_law_2635 ?_
                        refine tp_i x3 e3 ?_
                        refine lv_aload_n hx hb dL_law_2636 rfl (lv_at hl 5 rfl) ?_
                        refine lv_iload hx hb dL_law_2637 (lv_at hl 0 rfl) ?_
                        refine lv_iconst (v := 4) hx hb dL_law_2639 (by decide) ?_
                        refine lv_iadd hx hb dL_law_2640 ?_
                        refine tp_i 4 (by decide) ?_
                        refine va_sld hx hb hX hbl hbA hS (by unfold vp_in; decide) dL_law_2641 ?_
                        refine tp_i x4 e4 ?_
                        refine lv_aload_n hx hb dL_law_2642 rfl (lv_at hl 2 rfl) ?_
                        refine ca_i (isC := [0, 2]) (isR := [1]) (wr := [(am, .inr (15, [.int 0, .ref (ma 0), .int 0, .int 0, .int 0, .int 0, .ref (ma 1), .ref (ma 2), .null, .int 1, .int 10, .int 900, .ref (ma 3), .ref (ma 4), .int 0, .int 0, .int 0, .ref (ma 5), .int 1000, .int 50, .int 50, .int 1000, .int 10, .int 0, .int 3000, .int 0, .int 0, .int 0]))]) (rn_SW (isC := [0, 2]) (wc := [(ax, .inr (14, [.ref (xa 0), .ref (xa 13), .ref (xa 18), .ref (xa 34), .ref (xa 45), .ref (xa 49), .ref (xa 50)])), (aj, .inl (cy 2, 1, .inr (.inl (fun _ => 0))))]) (As := [.ref ax, .int x1, .int x2, .int x3, .int x4, .ref aj]) (rest := []) (n := 6) hx hb hml hown hts hE hS hP hD hA hl.1 (k678_L_claim l D cy g x1 x2 x3 x4 ax aj (.ref (xa 0)) (.ref (xa 13)) (.ref (xa 18)) (.ref (xa 34)) (.ref (xa 45)) (.ref (xa 49)) (.ref (xa 50)) (fun _ => 0) H.size c0 c1 c2 c3 c4 c5 c6 c7 c8 c9 d0 d1 d2 d3 d4 c10) rfl rfl ax_448 rfl rfl ax_449 ⟨Nat.le_of_ble_eq_true rfl, Nat.le_of_ble_eq_true rfl⟩ rfl rfl (Nat.le_of_ble_eq_true rfl) dL_law_2643 ⟨(Nat.le_of_ble_eq_true rfl), (Nat.le_of_ble_eq_true rfl)⟩) hP hD hS hA rfl rfl rfl (by decide) (fun ad2643 H locs hP hD hS => ?_)
                        have hP : va_P D vwCl [(am, .inr (15, [.int 0, .ref (ma 0), .int 0, .int 0, .int 0, .int 0, .ref (ma 1), .ref (ma 2), .null, .int 1, .int 10, .int 900, .ref (ma 3), .ref (ma 4), .int 0, .int 0, .int 0, .ref (ma 5), .int 1000, .int 50, .int 50, .int 1000, .int 10, .int 0, .int 3000, .int 0, .int 0, .int 0])), (aj, .inl (cy 2, 1, .inr (.inl (vp_updL (fun _ => 0) (0 : Int32).toNatClampNeg 45))))] H := hP
                        have hD : va_D (AL s) [(am, .inr (15, [.int 0, .ref (ma 0), .int 0, .int 0, .int 0, .int 0, .ref (ma 1), .ref (ma 2), .null, .int 1, .int 10, .int 900, .ref (ma 3), .ref (ma 4), .int 0, .int 0, .int 0, .ref (ma 5), .int 1000, .int 50, .int 50, .int 1000, .int 10, .int 0, .int 3000, .int 0, .int 0, .int 0])), (aj, .inl (cy 2, 1, .inr (.inl (vp_updL (fun _ => 0) (0 : Int32).toNatClampNeg 45))))] := hD
                        refine lv_istore (lv' := [(6, .int 0), (5, .int 0), (4, .ref ao), (3, .ref aj), (2, .ref am), (1, .ref ax), (0, .ref b)]) hx hb dL_law_2646 hl (Nat.le_of_ble_eq_true rfl) rfl (fun ls hl => ?_)
                        refine lv_aload_n hx hb dL_law_2648 rfl (lv_at hl 4 rfl) ?_
                        refine lv_aload_n hx hb dL_law_2649 rfl (lv_at hl 6 rfl) ?_
                        refine lv_iload hx hb dL_law_2650 (lv_at hl 1 rfl) ?_
                        refine lv_iconst (v := 1) hx hb dL_law_2652 (by decide) ?_
                        refine lv_iadd hx hb dL_law_2653 ?_
                        refine tp_i 1 (by decide) ?_
                        refine va_sld hx hb hX hbl hbA hS (by unfold vp_in; decide) dL_law_2654 ?_
                        refine tp_i x1 e1 ?_
                        refine lv_aload_n hx hb dL_law_2655 rfl (lv_at hl 6 rfl) ?_
                        refine lv_iload hx hb dL_law_2656 (lv_at hl 1 rfl) ?_
                        refine lv_iconst (v := 2) hx hb dL_law_2658 (by decide) ?_
                        refine lv_iadd hx hb dL_law_2659 ?_
                        refine tp_i 2 (by decide) ?_
                        refine va_sld hx hb hX hbl hbA hS (by unfold vp_in; decide) dL_law_2660 ?_
                        refine tp_i x2 e2 ?_
                        refine lv_aload_n hx hb dL_law_2661 rfl (lv_at hl 6 rfl) ?_
                        refine lv_iload hx hb dL_law_2662 (lv_at hl 1 rfl) ?_
                        refine lv_iconst (v := 3) hx hb dL_law_2664 (by decide) ?_
                        refine lv_iadd hx hb dL_law_2665 ?_
                        refine tp_i 3 (by decide) ?_
                        refine va_sld hx hb hX hbl hbA hS (by unfold vp_in; decide) dL_law_2666 ?_
                        refine tp_i x3 e3 ?_
                        refine lv_aload_n hx hb dL_law_2667 rfl (lv_at hl 6 rfl) ?_
                        refine lv_iload hx hb dL_law_2668 (lv_at hl 1 rfl) ?_
                        refine lv_iconst (v := 4) hx hb dL_law_2670 (by decide) ?_
                        refine lv_iadd hx hb dL_law_2671 ?_
                        refine tp_i 4 (by decide) ?_
                        refine va_sld hx hb hX hbl hbA hS (by unfold vp_in; decide) dL_law_2672 ?_
                        refine tp_i x4 e4 ?_
                        refine ca_i (isC := [0]) (isR := [1]) (wr := [(aj, .inl (cy 2, 1, .inr (.inl (vp_updL (fun _ => 0) (0 : Int32).toNatClampNeg 45))))]) (rn_V (ci := 15) (q0 := 0) (isC := [0]) (wc := [(am, .inr (15, [.int 0, .ref (ma 0), .int 0, .int 0, .int 0, .int 0, .ref (ma 1), .ref (ma 2), .null, .int 1, .int 10, .int 900, .ref (ma 3), .ref (ma 4), .int 0, .int 0, .int 0, .ref (ma 5), .int 1000, .int 50, .int 50, .int 1000, .int 10, .int 0, .int 3000, .int 0, .int 0, .int 0]))]) (As := [.int x1, .int x2, .int x3, .int x4]) (rest := []) (n := 4) hx hb hml hown hts hE hS hP hD hA hl.1 (k679_X10_claim l D cy g x1 x2 x3 x4 am (.int 0) (.ref (ma 0)) (.int 0) (.int 0) (.int 0) (.int 0) (.ref (ma 1)) (.ref (ma 2)) (.null) (.int 1) (.int 10) (.int 900) (.ref (ma 3)) (.ref (ma 4)) (.int 0) (.int 0) (.int 0) (.ref (ma 5)) (.int 1000) (.int 50) (.int 50) (.int 1000) (.int 10) (.int 0) (.int 3000) (.int 0) (.int 0) (.int 0) H.size c7 c8 c0 c1 c2 c3 c4 c5 c6 c9 d5 d3 d6 d7 c10) rfl rfl rfl rfl rfl ax_450 rfl rfl ax_451 ⟨Nat.le_of_ble_eq_true rfl, Nat.le_of_ble_eq_true rfl⟩ rfl rfl (Nat.le_of_ble_eq_true rfl) dL_law_2673 ⟨(Nat.le_of_ble_eq_true rfl), (Nat.le_of_ble_eq_true rfl)⟩) hP hD hS hA rfl rfl rfl (by decide) (fun ad2673 H locs hP hD hS => ?_)
                        have hP : va_P D vwCl [(aj, .inl (cy 2, 1, .inr (.inl (vp_updL (fun _ => 0) (0 : Int32).toNatClampNeg 45)))), (am, .inr (15, [.int 0, .ref (ma 0), .int 0, .int 0, .int 0, .int 0, .ref (ma 1), .ref (ma 2), .null, .int 1, .int 10, .int 900, .ref (ma 3), .ref (ma 4), .int 0, .int 0, .int 0, .ref (ma 5), .int 1000, .int 50, .int 50, .int 1000, .int 10, .int 0, .int 3000, .int 0, .int 0, .int 0]))] H := hP
                        have hD : va_D (AL s) [(aj, .inl (cy 2, 1, .inr (.inl (vp_updL (fun _ => 0) (0 : Int32).toNatClampNeg 45)))), (am, .inr (15, [.int 0, .ref (ma 0), .int 0, .int 0, .int 0, .int 0, .ref (ma 1), .ref (ma 2), .null, .int 1, .int 10, .int 900, .ref (ma 3), .ref (ma 4), .int 0, .int 0, .int 0, .ref (ma 5), .int 1000, .int 50, .int 50, .int 1000, .int 10, .int 0, .int 3000, .int 0, .int 0, .int 0]))] := hD
                        refine lv_istore (lv' := [(7, .int 45), (6, .int 0), (5, .int 0), (4, .ref ao), (3, .ref aj), (2, .ref am), (1, .ref ax), (0, .ref b)]) hx hb dL_law_2676 hl (Nat.le_of_ble_eq_true rfl) rfl (fun ls hl => ?_)
                        refine lv_aload_n hx hb dL_law_2678 rfl (lv_at hl 5 rfl) ?_
                        refine ca_i (isC := [1]) (isR := [0]) (wr := [(aj, .inl (cy 2, 1, .inr (.inl (vp_updL (fun _ => 0) (0 : Int32).toNatClampNeg 45))))]) (rn_V (ci := 15) (q0 := 1) (isC := [1]) (wc := [(am, .inr (15, [.int 0, .ref (ma 0), .int 0, .int 0, .int 0, .int 0, .ref (ma 1), .ref (ma 2), .null, .int 1, .int 10, .int 900, .ref (ma 3), .ref (ma 4), .int 0, .int 0, .int 0, .ref (ma 5), .int 1000, .int 50, .int 50, .int 1000, .int 10, .int 0, .int 3000, .int 0, .int 0, .int 0]))]) (As := []) (rest := []) (n := 0) hx hb hml hown hts hE hS hP hD hA hl.1 (k52_X10_thrown l D cy g am (.ref (ma 0)) (.int 0) (.int 0) (.int 0) (.int 0) (.ref (ma 1)) (.ref (ma 2)) (.null) (.int 1) (.int 10) (.int 900) (.ref (ma 3)) (.ref (ma 4)) (.int 0) (.int 0) (.int 0) (.ref (ma 5)) (.int 1000) (.int 50) (.int 50) (.int 1000) (.int 10) (.int 0) (.int 3000) (.int 0) (.int 0) (.int 0) H.size ) rfl rfl rfl rfl rfl ax_45 rfl rfl ax_46 ⟨Nat.le_of_ble_eq_true rfl, Nat.le_of_ble_eq_true rfl⟩ rfl rfl (Nat.le_of_ble_eq_true rfl) dL_law_2679 ⟨(Nat.le_of_ble_eq_true rfl), (Nat.le_of_ble_eq_true rfl)⟩) hP hD hS hA rfl rfl rfl (by decide) (fun ad2679 H locs hP hD hS => ?_)
                        have hP : va_P D vwCl [(aj, .inl (cy 2, 1, .inr (.inl (vp_updL (fun _ => 0) (0 : Int32).toNatClampNeg 45)))), (am, .inr (15, [.int 0, .ref (ma 0), .int 0, .int 0, .int 0, .int 0, .ref (ma 1), .ref (ma 2), .null, .int 1, .int 10, .int 900, .ref (ma 3), .ref (ma 4), .int 0, .int 0, .int 0, .ref (ma 5), .int 1000, .int 50, .int 50, .int 1000, .int 10, .int 0, .int 3000, .int 0, .int 0, .int 0]))] H := hP
                        have hD : va_D (AL s) [(aj, .inl (cy 2, 1, .inr (.inl (vp_updL (fun _ => 0) (0 : Int32).toNatClampNeg 45)))), (am, .inr (15, [.int 0, .ref (ma 0), .int 0, .int 0, .int 0, .int 0, .ref (ma 1), .ref (ma 2), .null, .int 1, .int 10, .int 900, .ref (ma 3), .ref (ma 4), .int 0, .int 0, .int 0, .ref (ma 5), .int 1000, .int 50, .int 50, .int 1000, .int 10, .int 0, .int 3000, .int 0, .int 0, .int 0]))] := hD
                        refine lv_iload hx hb dL_law_2682 (lv_at hl 1 rfl) ?_
                        refine lv_icmp_eq (tgt := 2689) hx hb dL_law_2684 (by decide) (fun _ => ?_) (fun z => absurd (by decide) z)
                        refine lv_iload hx hb dL_law_2689 (lv_at hl 1 rfl) ?_
                        refine lv_if_ne (tgt := 2706) hx hb dL_law_2691 (by decide) (fun z => absurd (by decide) z) (fun _ => ?_)
                        refine lv_aload_n hx hb dL_law_2694 rfl (lv_at hl 4 rfl) ?_
                        refine lv_iconst (v := 0) hx hb dL_law_2695 (by decide) ?_
                        refine va_lald hx hb hE.1 hP 0 2 rfl rfl (by unfold vp_in; decide) dL_law_2696 ?_
                        refine tp_l 45 rfl ?_
                        refine lv_iload hx hb dL_law_2697 (lv_at hl 0 rfl) ?_
                        refine lv_i2l (v := 45) hx hb dL_law_2699 (by decide) ?_
                        refine W.lcmp hx hb dL_law_2700 ?_
                        refine tp_i 0 (by decide) ?_
                        refine lv_if_eq (tgt := 2706) hx hb dL_law_2701 (by decide) (fun _ => ?_) (fun z => absurd (by decide) z)
                        refine lv_goto (tgt := 2947) hx hb dL_law_2706 (by decide) ?_
                        exact law_tail LC hS (Nat.le_of_ble_eq_true rfl) (Nat.le_of_ble_eq_true rfl) (lv_sub hl [2, 7] rfl)
              · by_cases c7 : x4 < 0
                · refine lv_aload_n hx hb dL_law_2617 rfl (lv_at hl 4 rfl) ?_
                  refine lv_aload_n hx hb dL_law_2618 rfl (lv_at hl 5 rfl) ?_
                  refine lv_iload hx hb dL_law_2619 (lv_at hl 0 rfl) ?_
                  refine lv_iconst (v := 1) hx hb dL_law_2621 (by decide) ?_
                  refine lv_iadd hx hb dL_law_2622 ?_
                  refine tp_i 1 (by decide) ?_
                  refine va_sld hx hb hX hbl hbA hS (by unfold vp_in; decide) dL_law_2623 ?_
                  refine tp_i x1 e1 ?_
                  refine lv_aload_n hx hb dL_law_2624 rfl (lv_at hl 5 rfl) ?_
                  refine lv_iload hx hb dL_law_2625 (lv_at hl 0 rfl) ?_
                  refine lv_iconst (v := 2) hx hb dL_law_2627 (by decide) ?_
                  refine lv_iadd hx hb dL_law_2628 ?_
                  refine tp_i 2 (by decide) ?_
                  refine va_sld hx hb hX hbl hbA hS (by unfold vp_in; decide) dL_law_2629 ?_
                  refine tp_i x2 e2 ?_
                  refine lv_aload_n hx hb dL_law_2630 rfl (lv_at hl 5 rfl) ?_
                  refine lv_iload hx hb dL_law_2631 (lv_at hl 0 rfl) ?_
                  refine lv_iconst (v := 3) hx hb dL_law_2633 (by decide) ?_
                  refine lv_iadd hx hb dL_law_2634 ?_
                  refine tp_i 3 (by decide) ?_
                  refine va_sld hx hb hX hbl hbA hS (by unfold vp_in; decide) dL_law_2635 ?_
                  refine tp_i x3 e3 ?_
                  refine lv_aload_n hx hb dL_law_2636 rfl (lv_at hl 5 rfl) ?_
                  refine lv_iload hx hb dL_law_2637 (lv_at hl 0 rfl) ?_
                  refine lv_iconst (v := 4) hx hb dL_law_2639 (by decide) ?_
                  refine lv_iadd hx hb dL_law_2640 ?_
                  refine tp_i 4 (by decide) ?_
                  refine va_sld hx hb hX hbl hbA hS (by unfold vp_in; decide) dL_law_2641 ?_
                  refine tp_i x4 e4 ?_
                  refine lv_aload_n hx hb dL_law_2642 rfl (lv_at hl 2 rfl) ?_
                  refine ca_i (isC := [0]) (isR := [1, 2]) (wr := [(am, .inr (15, [.int 0, .ref (ma 0), .int 0, .int 0, .int 0, .int 0, .ref (ma 1), .ref (ma 2), .null, .int 1, .int 10, .int 900, .ref (ma 3), .ref (ma 4), .int 0, .int 0, .int 0, .ref (ma 5), .int 1000, .int 50, .int 50, .int 1000, .int 10, .int 0, .int 3000, .int 0, .int 0, .int 0])), (aj, .inl (cy 2, 1, .inr (.inl (fun _ => 0))))]) (rn_SW (isC := [0]) (wc := [(ax, .inr (14, [.ref (xa 0), .ref (xa 13), .ref (xa 18), .ref (xa 34), .ref (xa 45), .ref (xa 49), .ref (xa 50)]))]) (As := [.ref ax, .int x1, .int x2, .int x3, .int x4, .ref aj]) (rest := []) (n := 6) hx hb hml hown hts hE hS hP hD hA hl.1 (k682_L_claim l hst D cy g x1 x2 x3 x4 ax aj (.ref (xa 0)) (.ref (xa 13)) (.ref (xa 18)) (.ref (xa 34)) (.ref (xa 45)) (.ref (xa 49)) (.ref (xa 50)) H.size c0 c1 c2 c3 c4 c5 c6) rfl rfl ax_448 rfl rfl ax_449 ⟨Nat.le_of_ble_eq_true rfl, Nat.le_of_ble_eq_true rfl⟩ rfl rfl (Nat.le_of_ble_eq_true rfl) dL_law_2643 ⟨(Nat.le_of_ble_eq_true rfl), (Nat.le_of_ble_eq_true rfl)⟩) hP hD hS hA rfl rfl rfl (by decide) (fun ad2643 H locs hP hD hS => ?_)
                  have hP : va_P D vwCl [(am, .inr (15, [.int 0, .ref (ma 0), .int 0, .int 0, .int 0, .int 0, .ref (ma 1), .ref (ma 2), .null, .int 1, .int 10, .int 900, .ref (ma 3), .ref (ma 4), .int 0, .int 0, .int 0, .ref (ma 5), .int 1000, .int 50, .int 50, .int 1000, .int 10, .int 0, .int 3000, .int 0, .int 0, .int 0])), (aj, .inl (cy 2, 1, .inr (.inl (fun _ => 0))))] H := hP
                  have hD : va_D (AL s) [(am, .inr (15, [.int 0, .ref (ma 0), .int 0, .int 0, .int 0, .int 0, .ref (ma 1), .ref (ma 2), .null, .int 1, .int 10, .int 900, .ref (ma 3), .ref (ma 4), .int 0, .int 0, .int 0, .ref (ma 5), .int 1000, .int 50, .int 50, .int 1000, .int 10, .int 0, .int 3000, .int 0, .int 0, .int 0])), (aj, .inl (cy 2, 1, .inr (.inl (fun _ => 0))))] := hD
                  refine lv_istore (lv' := [(6, .int 1), (5, .int 0), (4, .ref ao), (3, .ref aj), (2, .ref am), (1, .ref ax), (0, .ref b)]) hx hb dL_law_2646 hl (Nat.le_of_ble_eq_true rfl) rfl (fun ls hl => ?_)
                  refine lv_aload_n hx hb dL_law_2648 rfl (lv_at hl 4 rfl) ?_
                  refine lv_aload_n hx hb dL_law_2649 rfl (lv_at hl 6 rfl) ?_
                  refine lv_iload hx hb dL_law_2650 (lv_at hl 1 rfl) ?_
                  refine lv_iconst (v := 1) hx hb dL_law_2652 (by decide) ?_
                  refine lv_iadd hx hb dL_law_2653 ?_
                  refine tp_i 1 (by decide) ?_
                  refine va_sld hx hb hX hbl hbA hS (by unfold vp_in; decide) dL_law_2654 ?_
                  refine tp_i x1 e1 ?_
                  refine lv_aload_n hx hb dL_law_2655 rfl (lv_at hl 6 rfl) ?_
                  refine lv_iload hx hb dL_law_2656 (lv_at hl 1 rfl) ?_
                  refine lv_iconst (v := 2) hx hb dL_law_2658 (by decide) ?_
                  refine lv_iadd hx hb dL_law_2659 ?_
                  refine tp_i 2 (by decide) ?_
                  refine va_sld hx hb hX hbl hbA hS (by unfold vp_in; decide) dL_law_2660 ?_
                  refine tp_i x2 e2 ?_
                  refine lv_aload_n hx hb dL_law_2661 rfl (lv_at hl 6 rfl) ?_
                  refine lv_iload hx hb dL_law_2662 (lv_at hl 1 rfl) ?_
                  refine lv_iconst (v := 3) hx hb dL_law_2664 (by decide) ?_
                  refine lv_iadd hx hb dL_law_2665 ?_
                  refine tp_i 3 (by decide) ?_
                  refine va_sld hx hb hX hbl hbA hS (by unfold vp_in; decide) dL_law_2666 ?_
                  refine tp_i x3 e3 ?_
                  refine lv_aload_n hx hb dL_law_2667 rfl (lv_at hl 6 rfl) ?_
                  refine lv_iload hx hb dL_law_2668 (lv_at hl 1 rfl) ?_
                  refine lv_iconst (v := 4) hx hb dL_law_2670 (by decide) ?_
                  refine lv_iadd hx hb dL_law_2671 ?_
                  refine tp_i 4 (by decide) ?_
                  refine va_sld hx hb hX hbl hbA hS (by unfold vp_in; decide) dL_law_2672 ?_
                  refine tp_i x4 e4 ?_
                  refine ca_i (isC := [0]) (isR := [1]) (wr := [(aj, .inl (cy 2, 1, .inr (.inl (fun _ => 0))))]) (rn_V (ci := 15) (q0 := 0) (isC := [0]) (wc := [(am, .inr (15, [.int 0, .ref (ma 0), .int 0, .int 0, .int 0, .int 0, .ref (ma 1), .ref (ma 2), .null, .int 1, .int 10, .int 900, .ref (ma 3), .ref (ma 4), .int 0, .int 0, .int 0, .ref (ma 5), .int 1000, .int 50, .int 50, .int 1000, .int 10, .int 0, .int 3000, .int 0, .int 0, .int 0]))]) (As := [.int x1, .int x2, .int x3, .int x4]) (rest := []) (n := 4) hx hb hml hown hts hE hS hP hD hA hl.1 (k632_X10_claim l D cy g x1 x2 x3 x4 am (.int 0) (.ref (ma 0)) (.int 0) (.int 0) (.int 0) (.int 0) (.ref (ma 1)) (.ref (ma 2)) (.null) (.int 1) (.int 10) (.int 900) (.ref (ma 3)) (.ref (ma 4)) (.int 0) (.int 0) (.int 0) (.ref (ma 5)) (.int 1000) (.int 50) (.int 50) (.int 1000) (.int 10) (.int 0) (.int 3000) (.int 0) (.int 0) (.int 0) H.size c7) rfl rfl rfl rfl rfl ax_450 rfl rfl ax_451 ⟨Nat.le_of_ble_eq_true rfl, Nat.le_of_ble_eq_true rfl⟩ rfl rfl (Nat.le_of_ble_eq_true rfl) dL_law_2673 ⟨(Nat.le_of_ble_eq_true rfl), (Nat.le_of_ble_eq_true rfl)⟩) hP hD hS hA rfl rfl rfl (by decide) (fun ad2673 H locs hP hD hS => ?_)
                  have hP : va_P D vwCl [(aj, .inl (cy 2, 1, .inr (.inl (fun _ => 0)))), (am, .inr (15, [.int 1, .ref (ma 0), .int 0, .int 0, .int 0, .int 0, .ref (ma 1), .ref (ma 2), .null, .int 1, .int 10, .int 900, .ref (ma 3), .ref (ma 4), .int 0, .int 0, .int 0, .ref (ma 5), .int 1000, .int 50, .int 50, .int 1000, .int 10, .int 0, .int 3000, .int 0, .int 0, .int 0]))] H := hP
                  have hD : va_D (AL s) [(aj, .inl (cy 2, 1, .inr (.inl (fun _ => 0)))), (am, .inr (15, [.int 1, .ref (ma 0), .int 0, .int 0, .int 0, .int 0, .ref (ma 1), .ref (ma 2), .null, .int 1, .int 10, .int 900, .ref (ma 3), .ref (ma 4), .int 0, .int 0, .int 0, .ref (ma 5), .int 1000, .int 50, .int 50, .int 1000, .int 10, .int 0, .int 3000, .int 0, .int 0, .int 0]))] := hD
                  refine lv_istore (lv' := [(7, .int 32), (6, .int 1), (5, .int 0), (4, .ref ao), (3, .ref aj), (2, .ref am), (1, .ref ax), (0, .ref b)]) hx hb dL_law_2676 hl (Nat.le_of_ble_eq_true rfl) rfl (fun ls hl => ?_)
                  refine lv_aload_n hx hb dL_law_2678 rfl (lv_at hl 5 rfl) ?_
                  refine ca_i (isC := [1]) (isR := [0]) (wr := [(aj, .inl (cy 2, 1, .inr (.inl (fun _ => 0))))]) (rn_V (ci := 15) (q0 := 1) (isC := [1]) (wc := [(am, .inr (15, [.int 1, .ref (ma 0), .int 0, .int 0, .int 0, .int 0, .ref (ma 1), .ref (ma 2), .null, .int 1, .int 10, .int 900, .ref (ma 3), .ref (ma 4), .int 0, .int 0, .int 0, .ref (ma 5), .int 1000, .int 50, .int 50, .int 1000, .int 10, .int 0, .int 3000, .int 0, .int 0, .int 0]))]) (As := []) (rest := []) (n := 0) hx hb hml hown hts hE hS hP hD hA hl.1 (k24_X10_thrown l D cy g am (.ref (ma 0)) (.int 0) (.int 0) (.int 0) (.int 0) (.ref (ma 1)) (.ref (ma 2)) (.null) (.int 1) (.int 10) (.int 900) (.ref (ma 3)) (.ref (ma 4)) (.int 0) (.int 0) (.int 0) (.ref (ma 5)) (.int 1000) (.int 50) (.int 50) (.int 1000) (.int 10) (.int 0) (.int 3000) (.int 0) (.int 0) (.int 0) H.size ) rfl rfl rfl rfl rfl ax_45 rfl rfl ax_46 ⟨Nat.le_of_ble_eq_true rfl, Nat.le_of_ble_eq_true rfl⟩ rfl rfl (Nat.le_of_ble_eq_true rfl) dL_law_2679 ⟨(Nat.le_of_ble_eq_true rfl), (Nat.le_of_ble_eq_true rfl)⟩) hP hD hS hA rfl rfl rfl (by decide) (fun ad2679 H locs hP hD hS => ?_)
                  have hP : va_P D vwCl [(aj, .inl (cy 2, 1, .inr (.inl (fun _ => 0)))), (am, .inr (15, [.int 1, .ref (ma 0), .int 0, .int 0, .int 0, .int 0, .ref (ma 1), .ref (ma 2), .null, .int 1, .int 10, .int 900, .ref (ma 3), .ref (ma 4), .int 0, .int 0, .int 0, .ref (ma 5), .int 1000, .int 50, .int 50, .int 1000, .int 10, .int 0, .int 3000, .int 0, .int 0, .int 0]))] H := hP
                  have hD : va_D (AL s) [(aj, .inl (cy 2, 1, .inr (.inl (fun _ => 0)))), (am, .inr (15, [.int 1, .ref (ma 0), .int 0, .int 0, .int 0, .int 0, .ref (ma 1), .ref (ma 2), .null, .int 1, .int 10, .int 900, .ref (ma 3), .ref (ma 4), .int 0, .int 0, .int 0, .ref (ma 5), .int 1000, .int 50, .int 50, .int 1000, .int 10, .int 0, .int 3000, .int 0, .int 0, .int 0]))] := hD
                  refine lv_iload hx hb dL_law_2682 (lv_at hl 1 rfl) ?_
                  refine lv_icmp_eq (tgt := 2689) hx hb dL_law_2684 (by decide) (fun _ => ?_) (fun z => absurd (by decide) z)
                  refine lv_iload hx hb dL_law_2689 (lv_at hl 1 rfl) ?_
                  refine lv_if_ne (tgt := 2706) hx hb dL_law_2691 (by decide) (fun _ => ?_) (fun z => absurd z (by decide))
                  refine lv_goto (tgt := 2947) hx hb dL_law_2706 (by decide) ?_
                  exact law_tail LC hS (Nat.le_of_ble_eq_true rfl) (Nat.le_of_ble_eq_true rfl) (lv_sub hl [2, 7] rfl)
                · by_cases c8 : (200000 : Int32) < x4
                  · refine lv_aload_n hx hb dL_law_2617 rfl (lv_at hl 4 rfl) ?_
                    refine lv_aload_n hx hb dL_law_2618 rfl (lv_at hl 5 rfl) ?_
                    refine lv_iload hx hb dL_law_2619 (lv_at hl 0 rfl) ?_
                    refine lv_iconst (v := 1) hx hb dL_law_2621 (by decide) ?_
                    refine lv_iadd hx hb dL_law_2622 ?_
                    refine tp_i 1 (by decide) ?_
                    refine va_sld hx hb hX hbl hbA hS (by unfold vp_in; decide) dL_law_2623 ?_
                    refine tp_i x1 e1 ?_
                    refine lv_aload_n hx hb dL_law_2624 rfl (lv_at hl 5 rfl) ?_
                    refine lv_iload hx hb dL_law_2625 (lv_at hl 0 rfl) ?_
                    refine lv_iconst (v := 2) hx hb dL_law_2627 (by decide) ?_
                    refine lv_iadd hx hb dL_law_2628 ?_
                    refine tp_i 2 (by decide) ?_
                    refine va_sld hx hb hX hbl hbA hS (by unfold vp_in; decide) dL_law_2629 ?_
                    refine tp_i x2 e2 ?_
                    refine lv_aload_n hx hb dL_law_2630 rfl (lv_at hl 5 rfl) ?_
                    refine lv_iload hx hb dL_law_2631 (lv_at hl 0 rfl) ?_
                    refine lv_iconst (v := 3) hx hb dL_law_2633 (by decide) ?_
                    refine lv_iadd hx hb dL_law_2634 ?_
                    refine tp_i 3 (by decide) ?_
                    refine va_sld hx hb hX hbl hbA hS (by unfold vp_in; decide) dL_law_2635 ?_
                    refine tp_i x3 e3 ?_
                    refine lv_aload_n hx hb dL_law_2636 rfl (lv_at hl 5 rfl) ?_
                    refine lv_iload hx hb dL_law_2637 (lv_at hl 0 rfl) ?_
                    refine lv_iconst (v := 4) hx hb dL_law_2639 (by decide) ?_
                    refine lv_iadd hx hb dL_law_2640 ?_
                    refine tp_i 4 (by decide) ?_
                    refine va_sld hx hb hX hbl hbA hS (by unfold vp_in; decide) dL_law_2641 ?_
                    refine tp_i x4 e4 ?_
                    refine lv_aload_n hx hb dL_law_2642 rfl (lv_at hl 2 rfl) ?_
                    refine ca_i (isC := [0]) (isR := [1, 2]) (wr := [(am, .inr (15, [.int 0, .ref (ma 0), .int 0, .int 0, .int 0, .int 0, .ref (ma 1), .ref (ma 2), .null, .int 1, .int 10, .int 900, .ref (ma 3), .ref (ma 4), .int 0, .int 0, .int 0, .ref (ma 5), .int 1000, .int 50, .int 50, .int 1000, .int 10, .int 0, .int 3000, .int 0, .int 0, .int 0])), (aj, .inl (cy 2, 1, .inr (.inl (fun _ => 0))))]) (rn_SW (isC := [0]) (wc := [(ax, .inr (14, [.ref (xa 0), .ref (xa 13), .ref (xa 18), .ref (xa 34), .ref (xa 45), .ref (xa 49), .ref (xa 50)]))]) (As := [.ref ax, .int x1, .int x2, .int x3, .int x4, .ref aj]) (rest := []) (n := 6) hx hb hml hown hts hE hS hP hD hA hl.1 (k682_L_claim l hst D cy g x1 x2 x3 x4 ax aj (.ref (xa 0)) (.ref (xa 13)) (.ref (xa 18)) (.ref (xa 34)) (.ref (xa 45)) (.ref (xa 49)) (.ref (xa 50)) H.size c0 c1 c2 c3 c4 c5 c6) rfl rfl ax_448 rfl rfl ax_449 ⟨Nat.le_of_ble_eq_true rfl, Nat.le_of_ble_eq_true rfl⟩ rfl rfl (Nat.le_of_ble_eq_true rfl) dL_law_2643 ⟨(Nat.le_of_ble_eq_true rfl), (Nat.le_of_ble_eq_true rfl)⟩) hP hD hS hA rfl rfl rfl (by decide) (fun ad2643 H locs hP hD hS => ?_)
                    have hP : va_P D vwCl [(am, .inr (15, [.int 0, .ref (ma 0), .int 0, .int 0, .int 0, .int 0, .ref (ma 1), .ref (ma 2), .null, .int 1, .int 10, .int 900, .ref (ma 3), .ref (ma 4), .int 0, .int 0, .int 0, .ref (ma 5), .int 1000, .int 50, .int 50, .int 1000, .int 10, .int 0, .int 3000, .int 0, .int 0, .int 0])), (aj, .inl (cy 2, 1, .inr (.inl (fun _ => 0))))] H := hP
                    have hD : va_D (AL s) [(am, .inr (15, [.int 0, .ref (ma 0), .int 0, .int 0, .int 0, .int 0, .ref (ma 1), .ref (ma 2), .null, .int 1, .int 10, .int 900, .ref (ma 3), .ref (ma 4), .int 0, .int 0, .int 0, .ref (ma 5), .int 1000, .int 50, .int 50, .int 1000, .int 10, .int 0, .int 3000, .int 0, .int 0, .int 0])), (aj, .inl (cy 2, 1, .inr (.inl (fun _ => 0))))] := hD
                    refine lv_istore (lv' := [(6, .int 1), (5, .int 0), (4, .ref ao), (3, .ref aj), (2, .ref am), (1, .ref ax), (0, .ref b)]) hx hb dL_law_2646 hl (Nat.le_of_ble_eq_true rfl) rfl (fun ls hl => ?_)
                    refine lv_aload_n hx hb dL_law_2648 rfl (lv_at hl 4 rfl) ?_
                    refine lv_aload_n hx hb dL_law_2649 rfl (lv_at hl 6 rfl) ?_
                    refine lv_iload hx hb dL_law_2650 (lv_at hl 1 rfl) ?_
                    refine lv_iconst (v := 1) hx hb dL_law_2652 (by decide) ?_
                    refine lv_iadd hx hb dL_law_2653 ?_
                    refine tp_i 1 (by decide) ?_
                    refine va_sld hx hb hX hbl hbA hS (by unfold vp_in; decide) dL_law_2654 ?_
                    refine tp_i x1 e1 ?_
                    refine lv_aload_n hx hb dL_law_2655 rfl (lv_at hl 6 rfl) ?_
                    refine lv_iload hx hb dL_law_2656 (lv_at hl 1 rfl) ?_
                    refine lv_iconst (v := 2) hx hb dL_law_2658 (by decide) ?_
                    refine lv_iadd hx hb dL_law_2659 ?_
                    refine tp_i 2 (by decide) ?_
                    refine va_sld hx hb hX hbl hbA hS (by unfold vp_in; decide) dL_law_2660 ?_
                    refine tp_i x2 e2 ?_
                    refine lv_aload_n hx hb dL_law_2661 rfl (lv_at hl 6 rfl) ?_
                    refine lv_iload hx hb dL_law_2662 (lv_at hl 1 rfl) ?_
                    refine lv_iconst (v := 3) hx hb dL_law_2664 (by decide) ?_
                    refine lv_iadd hx hb dL_law_2665 ?_
                    refine tp_i 3 (by decide) ?_
                    refine va_sld hx hb hX hbl hbA hS (by unfold vp_in; decide) dL_law_2666 ?_
                    refine tp_i x3 e3 ?_
                    refine lv_aload_n hx hb dL_law_2667 rfl (lv_at hl 6 rfl) ?_
                    refine lv_iload hx hb dL_law_2668 (lv_at hl 1 rfl) ?_
                    refine lv_iconst (v := 4) hx hb dL_law_2670 (by decide) ?_
                    refine lv_iadd hx hb dL_law_2671 ?_
                    refine tp_i 4 (by decide) ?_
                    refine va_sld hx hb hX hbl hbA hS (by unfold vp_in; decide) dL_law_2672 ?_
                    refine tp_i x4 e4 ?_
                    refine ca_i (isC := [0]) (isR := [1]) (wr := [(aj, .inl (cy 2, 1, .inr (.inl (fun _ => 0))))]) (rn_V (ci := 15) (q0 := 0) (isC := [0]) (wc := [(am, .inr (15, [.int 0, .ref (ma 0), .int 0, .int 0, .int 0, .int 0, .ref (ma 1), .ref (ma 2), .null, .int 1, .int 10, .int 900, .ref (ma 3), .ref (ma 4), .int 0, .int 0, .int 0, .ref (ma 5), .int 1000, .int 50, .int 50, .int 1000, .int 10, .int 0, .int 3000, .int 0, .int 0, .int 0]))]) (As := [.int x1, .int x2, .int x3, .int x4]) (rest := []) (n := 4) hx hb hml hown hts hE hS hP hD hA hl.1 (k633_X10_claim l D cy g x1 x2 x3 x4 am (.int 0) (.ref (ma 0)) (.int 0) (.int 0) (.int 0) (.int 0) (.ref (ma 1)) (.ref (ma 2)) (.null) (.int 1) (.int 10) (.int 900) (.ref (ma 3)) (.ref (ma 4)) (.int 0) (.int 0) (.int 0) (.ref (ma 5)) (.int 1000) (.int 50) (.int 50) (.int 1000) (.int 10) (.int 0) (.int 3000) (.int 0) (.int 0) (.int 0) H.size c7 c8) rfl rfl rfl rfl rfl ax_450 rfl rfl ax_451 ⟨Nat.le_of_ble_eq_true rfl, Nat.le_of_ble_eq_true rfl⟩ rfl rfl (Nat.le_of_ble_eq_true rfl) dL_law_2673 ⟨(Nat.le_of_ble_eq_true rfl), (Nat.le_of_ble_eq_true rfl)⟩) hP hD hS hA rfl rfl rfl (by decide) (fun ad2673 H locs hP hD hS => ?_)
                    have hP : va_P D vwCl [(aj, .inl (cy 2, 1, .inr (.inl (fun _ => 0)))), (am, .inr (15, [.int 1, .ref (ma 0), .int 0, .int 0, .int 0, .int 0, .ref (ma 1), .ref (ma 2), .null, .int 1, .int 10, .int 900, .ref (ma 3), .ref (ma 4), .int 0, .int 0, .int 0, .ref (ma 5), .int 1000, .int 50, .int 50, .int 1000, .int 10, .int 0, .int 3000, .int 0, .int 0, .int 0]))] H := hP
                    have hD : va_D (AL s) [(aj, .inl (cy 2, 1, .inr (.inl (fun _ => 0)))), (am, .inr (15, [.int 1, .ref (ma 0), .int 0, .int 0, .int 0, .int 0, .ref (ma 1), .ref (ma 2), .null, .int 1, .int 10, .int 900, .ref (ma 3), .ref (ma 4), .int 0, .int 0, .int 0, .ref (ma 5), .int 1000, .int 50, .int 50, .int 1000, .int 10, .int 0, .int 3000, .int 0, .int 0, .int 0]))] := hD
                    refine lv_istore (lv' := [(7, .int 32), (6, .int 1), (5, .int 0), (4, .ref ao), (3, .ref aj), (2, .ref am), (1, .ref ax), (0, .ref b)]) hx hb dL_law_2676 hl (Nat.le_of_ble_eq_true rfl) rfl (fun ls hl => ?_)
                    refine lv_aload_n hx hb dL_law_2678 rfl (lv_at hl 5 rfl) ?_
                    refine ca_i (isC := [1]) (isR := [0]) (wr := [(aj, .inl (cy 2, 1, .inr (.inl (fun _ => 0))))]) (rn_V (ci := 15) (q0 := 1) (isC := [1]) (wc := [(am, .inr (15, [.int 1, .ref (ma 0), .int 0, .int 0, .int 0, .int 0, .ref (ma 1), .ref (ma 2), .null, .int 1, .int 10, .int 900, .ref (ma 3), .ref (ma 4), .int 0, .int 0, .int 0, .ref (ma 5), .int 1000, .int 50, .int 50, .int 1000, .int 10, .int 0, .int 3000, .int 0, .int 0, .int 0]))]) (As := []) (rest := []) (n := 0) hx hb hml hown hts hE hS hP hD hA hl.1 (k24_X10_thrown l D cy g am (.ref (ma 0)) (.int 0) (.int 0) (.int 0) (.int 0) (.ref (ma 1)) (.ref (ma 2)) (.null) (.int 1) (.int 10) (.int 900) (.ref (ma 3)) (.ref (ma 4)) (.int 0) (.int 0) (.int 0) (.ref (ma 5)) (.int 1000) (.int 50) (.int 50) (.int 1000) (.int 10) (.int 0) (.int 3000) (.int 0) (.int 0) (.int 0) H.size ) rfl rfl rfl rfl rfl ax_45 rfl rfl ax_46 ⟨Nat.le_of_ble_eq_true rfl, Nat.le_of_ble_eq_true rfl⟩ rfl rfl (Nat.le_of_ble_eq_true rfl) dL_law_2679 ⟨(Nat.le_of_ble_eq_true rfl), (Nat.le_of_ble_eq_true rfl)⟩) hP hD hS hA rfl rfl rfl (by decide) (fun ad2679 H locs hP hD hS => ?_)
                    have hP : va_P D vwCl [(aj, .inl (cy 2, 1, .inr (.inl (fun _ => 0)))), (am, .inr (15, [.int 1, .ref (ma 0), .int 0, .int 0, .int 0, .int 0, .ref (ma 1), .ref (ma 2), .null, .int 1, .int 10, .int 900, .ref (ma 3), .ref (ma 4), .int 0, .int 0, .int 0, .ref (ma 5), .int 1000, .int 50, .int 50, .int 1000, .int 10, .int 0, .int 3000, .int 0, .int 0, .int 0]))] H := hP
                    have hD : va_D (AL s) [(aj, .inl (cy 2, 1, .inr (.inl (fun _ => 0)))), (am, .inr (15, [.int 1, .ref (ma 0), .int 0, .int 0, .int 0, .int 0, .ref (ma 1), .ref (ma 2), .null, .int 1, .int 10, .int 900, .ref (ma 3), .ref (ma 4), .int 0, .int 0, .int 0, .ref (ma 5), .int 1000, .int 50, .int 50, .int 1000, .int 10, .int 0, .int 3000, .int 0, .int 0, .int 0]))] := hD
                    refine lv_iload hx hb dL_law_2682 (lv_at hl 1 rfl) ?_
                    refine lv_icmp_eq (tgt := 2689) hx hb dL_law_2684 (by decide) (fun _ => ?_) (fun z => absurd (by decide) z)
                    refine lv_iload hx hb dL_law_2689 (lv_at hl 1 rfl) ?_
                    refine lv_if_ne (tgt := 2706) hx hb dL_law_2691 (by decide) (fun _ => ?_) (fun z => absurd z (by decide))
                    refine lv_goto (tgt := 2947) hx hb dL_law_2706 (by decide) ?_
                    exact law_tail LC hS (Nat.le_of_ble_eq_true rfl) (Nat.le_of_ble_eq_true rfl) (lv_sub hl [2, 7] rfl)
                  · refine lv_aload_n hx hb dL_law_2617 rfl (lv_at hl 4 rfl) ?_
                    refine lv_aload_n hx hb dL_law_2618 rfl (lv_at hl 5 rfl) ?_
                    refine lv_iload hx hb dL_law_2619 (lv_at hl 0 rfl) ?_
                    refine lv_iconst (v := 1) hx hb dL_law_2621 (by decide) ?_
                    refine lv_iadd hx hb dL_law_2622 ?_
                    refine tp_i 1 (by decide) ?_
                    refine va_sld hx hb hX hbl hbA hS (by unfold vp_in; decide) dL_law_2623 ?_
                    refine tp_i x1 e1 ?_
                    refine lv_aload_n hx hb dL_law_2624 rfl (lv_at hl 5 rfl) ?_
                    refine lv_iload hx hb dL_law_2625 (lv_at hl 0 rfl) ?_
                    refine lv_iconst (v := 2) hx hb dL_law_2627 (by decide) ?_
                    refine lv_iadd hx hb dL_law_2628 ?_
                    refine tp_i 2 (by decide) ?_
                    refine va_sld hx hb hX hbl hbA hS (by unfold vp_in; decide) dL_law_2629 ?_
                    refine tp_i x2 e2 ?_
                    refine lv_aload_n hx hb dL_law_2630 rfl (lv_at hl 5 rfl) ?_
                    refine lv_iload hx hb dL_law_2631 (lv_at hl 0 rfl) ?_
                    refine lv_iconst (v := 3) hx hb dL_law_2633 (by decide) ?_
                    refine lv_iadd hx hb dL_law_2634 ?_
                    refine tp_i 3 (by decide) ?_
                    refine va_sld hx hb hX hbl hbA hS (by unfold vp_in; decide) dL_law_2635 ?_
                    refine tp_i x3 e3 ?_
                    refine lv_aload_n hx hb dL_law_2636 rfl (lv_at hl 5 rfl) ?_
                    refine lv_iload hx hb dL_law_2637 (lv_at hl 0 rfl) ?_
                    refine lv_iconst (v := 4) hx hb dL_law_2639 (by decide) ?_
                    refine lv_iadd hx hb dL_law_2640 ?_
                    refine tp_i 4 (by decide) ?_
                    refine va_sld hx hb hX hbl hbA hS (by unfold vp_in; decide) dL_law_2641 ?_
                    refine tp_i x4 e4 ?_
                    refine lv_aload_n hx hb dL_law_2642 rfl (lv_at hl 2 rfl) ?_
                    refine ca_i (isC := [0]) (isR := [1, 2]) (wr := [(am, .inr (15, [.int 0, .ref (ma 0), .int 0, .int 0, .int 0, .int 0, .ref (ma 1), .ref (ma 2), .null, .int 1, .int 10, .int 900, .ref (ma 3), .ref (ma 4), .int 0, .int 0, .int 0, .ref (ma 5), .int 1000, .int 50, .int 50, .int 1000, .int 10, .int 0, .int 3000, .int 0, .int 0, .int 0])), (aj, .inl (cy 2, 1, .inr (.inl (fun _ => 0))))]) (rn_SW (isC := [0]) (wc := [(ax, .inr (14, [.ref (xa 0), .ref (xa 13), .ref (xa 18), .ref (xa 34), .ref (xa 45), .ref (xa 49), .ref (xa 50)]))]) (As := [.ref ax, .int x1, .int x2, .int x3, .int x4, .ref aj]) (rest := []) (n := 6) hx hb hml hown hts hE hS hP hD hA hl.1 (k682_L_claim l hst D cy g x1 x2 x3 x4 ax aj (.ref (xa 0)) (.ref (xa 13)) (.ref (xa 18)) (.ref (xa 34)) (.ref (xa 45)) (.ref (xa 49)) (.ref (xa 50)) H.size c0 c1 c2 c3 c4 c5 c6) rfl rfl ax_448 rfl rfl ax_449 ⟨Nat.le_of_ble_eq_true rfl, Nat.le_of_ble_eq_true rfl⟩ rfl rfl (Nat.le_of_ble_eq_true rfl) dL_law_2643 ⟨(Nat.le_of_ble_eq_true rfl), (Nat.le_of_ble_eq_true rfl)⟩) hP hD hS hA rfl rfl rfl (by decide) (fun ad2643 H locs hP hD hS => ?_)
                    have hP : va_P D vwCl [(am, .inr (15, [.int 0, .ref (ma 0), .int 0, .int 0, .int 0, .int 0, .ref (ma 1), .ref (ma 2), .null, .int 1, .int 10, .int 900, .ref (ma 3), .ref (ma 4), .int 0, .int 0, .int 0, .ref (ma 5), .int 1000, .int 50, .int 50, .int 1000, .int 10, .int 0, .int 3000, .int 0, .int 0, .int 0])), (aj, .inl (cy 2, 1, .inr (.inl (fun _ => 0))))] H := hP
                    have hD : va_D (AL s) [(am, .inr (15, [.int 0, .ref (ma 0), .int 0, .int 0, .int 0, .int 0, .ref (ma 1), .ref (ma 2), .null, .int 1, .int 10, .int 900, .ref (ma 3), .ref (ma 4), .int 0, .int 0, .int 0, .ref (ma 5), .int 1000, .int 50, .int 50, .int 1000, .int 10, .int 0, .int 3000, .int 0, .int 0, .int 0])), (aj, .inl (cy 2, 1, .inr (.inl (fun _ => 0))))] := hD
                    refine lv_istore (lv' := [(6, .int 1), (5, .int 0), (4, .ref ao), (3, .ref aj), (2, .ref am), (1, .ref ax), (0, .ref b)]) hx hb dL_law_2646 hl (Nat.le_of_ble_eq_true rfl) rfl (fun ls hl => ?_)
                    refine lv_aload_n hx hb dL_law_2648 rfl (lv_at hl 4 rfl) ?_
                    refine lv_aload_n hx hb dL_law_2649 rfl (lv_at hl 6 rfl) ?_
                    refine lv_iload hx hb dL_law_2650 (lv_at hl 1 rfl) ?_
                    refine lv_iconst (v := 1) hx hb dL_law_2652 (by decide) ?_
                    refine lv_iadd hx hb dL_law_2653 ?_
                    refine tp_i 1 (by decide) ?_
                    refine va_sld hx hb hX hbl hbA hS (by unfold vp_in; decide) dL_law_2654 ?_
                    refine tp_i x1 e1 ?_
                    refine lv_aload_n hx hb dL_law_2655 rfl (lv_at hl 6 rfl) ?_
                    refine lv_iload hx hb dL_law_2656 (lv_at hl 1 rfl) ?_
                    refine lv_iconst (v := 2) hx hb dL_law_2658 (by decide) ?_
                    refine lv_iadd hx hb dL_law_2659 ?_
                    refine tp_i 2 (by decide) ?_
                    refine va_sld hx hb hX hbl hbA hS (by unfold vp_in; decide) dL_law_2660 ?_
                    refine tp_i x2 e2 ?_
                    refine lv_aload_n hx hb dL_law_2661 rfl (lv_at hl 6 rfl) ?_
                    refine lv_iload hx hb dL_law_2662 (lv_at hl 1 rfl) ?_
                    refine lv_iconst (v := 3) hx hb dL_law_2664 (by decide) ?_
                    refine lv_iadd hx hb dL_law_2665 ?_
                    refine tp_i 3 (by decide) ?_
                    refine va_sld hx hb hX hbl hbA hS (by unfold vp_in; decide) dL_law_2666 ?_
                    refine tp_i x3 e3 ?_
                    refine lv_aload_n hx hb dL_law_2667 rfl (lv_at hl 6 rfl) ?_
                    refine lv_iload hx hb dL_law_2668 (lv_at hl 1 rfl) ?_
                    refine lv_iconst (v := 4) hx hb dL_law_2670 (by decide) ?_
                    refine lv_iadd hx hb dL_law_2671 ?_
                    refine tp_i 4 (by decide) ?_
                    refine va_sld hx hb hX hbl hbA hS (by unfold vp_in; decide) dL_law_2672 ?_
                    refine tp_i x4 e4 ?_
                    refine ca_i (isC := [0]) (isR := [1]) (wr := [(aj, .inl (cy 2, 1, .inr (.inl (fun _ => 0))))]) (rn_V (ci := 15) (q0 := 0) (isC := [0]) (wc := [(am, .inr (15, [.int 0, .ref (ma 0), .int 0, .int 0, .int 0, .int 0, .ref (ma 1), .ref (ma 2), .null, .int 1, .int 10, .int 900, .ref (ma 3), .ref (ma 4), .int 0, .int 0, .int 0, .ref (ma 5), .int 1000, .int 50, .int 50, .int 1000, .int 10, .int 0, .int 3000, .int 0, .int 0, .int 0]))]) (As := [.int x1, .int x2, .int x3, .int x4]) (rest := []) (n := 4) hx hb hml hown hts hE hS hP hD hA hl.1 (k684_X10_claim l D cy g x1 x2 x3 x4 am (.int 0) (.ref (ma 0)) (.int 0) (.int 0) (.int 0) (.int 0) (.ref (ma 1)) (.ref (ma 2)) (.null) (.int 1) (.int 10) (.int 900) (.ref (ma 3)) (.ref (ma 4)) (.int 0) (.int 0) (.int 0) (.ref (ma 5)) (.int 1000) (.int 50) (.int 50) (.int 1000) (.int 10) (.int 0) (.int 3000) (.int 0) (.int 0) (.int 0) H.size c7 c8 c0 c1 c2 c3 c4 c5 c6) rfl rfl rfl rfl rfl ax_450 rfl rfl ax_451 ⟨Nat.le_of_ble_eq_true rfl, Nat.le_of_ble_eq_true rfl⟩ rfl rfl (Nat.le_of_ble_eq_true rfl) dL_law_2673 ⟨(Nat.le_of_ble_eq_true rfl), (Nat.le_of_ble_eq_true rfl)⟩) hP hD hS hA rfl rfl rfl (by decide) (fun ad2673 H locs hP hD hS => ?_)
                    have hP : va_P D vwCl [(aj, .inl (cy 2, 1, .inr (.inl (fun _ => 0)))), (am, .inr (15, [.int 1, .ref (ma 0), .int 0, .int 0, .int 0, .int 0, .ref (ma 1), .ref (ma 2), .null, .int 1, .int 10, .int 900, .ref (ma 3), .ref (ma 4), .int 0, .int 0, .int 0, .ref (ma 5), .int 1000, .int 50, .int 50, .int 1000, .int 10, .int 0, .int 3000, .int 0, .int 0, .int 0]))] H := hP
                    have hD : va_D (AL s) [(aj, .inl (cy 2, 1, .inr (.inl (fun _ => 0)))), (am, .inr (15, [.int 1, .ref (ma 0), .int 0, .int 0, .int 0, .int 0, .ref (ma 1), .ref (ma 2), .null, .int 1, .int 10, .int 900, .ref (ma 3), .ref (ma 4), .int 0, .int 0, .int 0, .ref (ma 5), .int 1000, .int 50, .int 50, .int 1000, .int 10, .int 0, .int 3000, .int 0, .int 0, .int 0]))] := hD
                    refine lv_istore (lv' := [(7, .int 32), (6, .int 1), (5, .int 0), (4, .ref ao), (3, .ref aj), (2, .ref am), (1, .ref ax), (0, .ref b)]) hx hb dL_law_2676 hl (Nat.le_of_ble_eq_true rfl) rfl (fun ls hl => ?_)
                    refine lv_aload_n hx hb dL_law_2678 rfl (lv_at hl 5 rfl) ?_
                    refine ca_i (isC := [1]) (isR := [0]) (wr := [(aj, .inl (cy 2, 1, .inr (.inl (fun _ => 0))))]) (rn_V (ci := 15) (q0 := 1) (isC := [1]) (wc := [(am, .inr (15, [.int 1, .ref (ma 0), .int 0, .int 0, .int 0, .int 0, .ref (ma 1), .ref (ma 2), .null, .int 1, .int 10, .int 900, .ref (ma 3), .ref (ma 4), .int 0, .int 0, .int 0, .ref (ma 5), .int 1000, .int 50, .int 50, .int 1000, .int 10, .int 0, .int 3000, .int 0, .int 0, .int 0]))]) (As := []) (rest := []) (n := 0) hx hb hml hown hts hE hS hP hD hA hl.1 (k24_X10_thrown l D cy g am (.ref (ma 0)) (.int 0) (.int 0) (.int 0) (.int 0) (.ref (ma 1)) (.ref (ma 2)) (.null) (.int 1) (.int 10) (.int 900) (.ref (ma 3)) (.ref (ma 4)) (.int 0) (.int 0) (.int 0) (.ref (ma 5)) (.int 1000) (.int 50) (.int 50) (.int 1000) (.int 10) (.int 0) (.int 3000) (.int 0) (.int 0) (.int 0) H.size ) rfl rfl rfl rfl rfl ax_45 rfl rfl ax_46 ⟨Nat.le_of_ble_eq_true rfl, Nat.le_of_ble_eq_true rfl⟩ rfl rfl (Nat.le_of_ble_eq_true rfl) dL_law_2679 ⟨(Nat.le_of_ble_eq_true rfl), (Nat.le_of_ble_eq_true rfl)⟩) hP hD hS hA rfl rfl rfl (by decide) (fun ad2679 H locs hP hD hS => ?_)
                    have hP : va_P D vwCl [(aj, .inl (cy 2, 1, .inr (.inl (fun _ => 0)))), (am, .inr (15, [.int 1, .ref (ma 0), .int 0, .int 0, .int 0, .int 0, .ref (ma 1), .ref (ma 2), .null, .int 1, .int 10, .int 900, .ref (ma 3), .ref (ma 4), .int 0, .int 0, .int 0, .ref (ma 5), .int 1000, .int 50, .int 50, .int 1000, .int 10, .int 0, .int 3000, .int 0, .int 0, .int 0]))] H := hP
                    have hD : va_D (AL s) [(aj, .inl (cy 2, 1, .inr (.inl (fun _ => 0)))), (am, .inr (15, [.int 1, .ref (ma 0), .int 0, .int 0, .int 0, .int 0, .ref (ma 1), .ref (ma 2), .null, .int 1, .int 10, .int 900, .ref (ma 3), .ref (ma 4), .int 0, .int 0, .int 0, .ref (ma 5), .int 1000, .int 50, .int 50, .int 1000, .int 10, .int 0, .int 3000, .int 0, .int 0, .int 0]))] := hD
                    refine lv_iload hx hb dL_law_2682 (lv_at hl 1 rfl) ?_
                    refine lv_icmp_eq (tgt := 2689) hx hb dL_law_2684 (by decide) (fun _ => ?_) (fun z => absurd (by decide) z)
                    refine lv_iload hx hb dL_law_2689 (lv_at hl 1 rfl) ?_
                    refine lv_if_ne (tgt := 2706) hx hb dL_law_2691 (by decide) (fun _ => ?_) (fun z => absurd z (by decide))
                    refine lv_goto (tgt := 2947) hx hb dL_law_2706 (by decide) ?_
                    exact law_tail LC hS (Nat.le_of_ble_eq_true rfl) (Nat.le_of_ble_eq_true rfl) (lv_sub hl [2, 7] rfl)

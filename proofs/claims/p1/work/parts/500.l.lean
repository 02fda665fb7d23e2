set_option maxHeartbeats 4000000 in
set_option maxRecDepth 100000 in
theorem lc_0 {p : Program} {e : Env} {s : State} {m : MethodId} {below : List Frame} {meth : Method} {c : Code} {l : Launch} {b : Nat} {xs : Nat → Int32} {D : va_G} {cy : Nat → ClassId} {g : Nat → Nat} (hst : l.stackTraces = false) (LC : LCtx p s m meth c b xs D cy g) (ax am aj ao : Nat) (xa ma : Nat → Nat) (x1 x2 x3 x4 : Int32) (e1 : xs (1 : Int32).toNatClampNeg = x1) (e2 : xs (2 : Int32).toNatClampNeg = x2) (e3 : xs (3 : Int32).toNatClampNeg = x3) (e4 : xs (4 : Int32).toNatClampNeg = x4) {H : Heap} {locs : List Loc} (hP : va_P D vwCl [(ax, .inr (14, [.ref (xa 0), .ref (xa 13), .ref (xa 18), .ref (xa 34), .ref (xa 45), .ref (xa 49), .ref (xa 50)])), ((xa 0), .inr (5, [.ref (xa 1), .ref (xa 2), .int 0, .ref (xa 3), .ref (xa 5), .ref (xa 7), .ref (xa 9), .ref (xa 11)])), ((xa 1), .inl (cy 1, 8, .inl (fun _ => 0))), ((xa 2), .inl (cy 4, 8, .inr (.inr (.inr (.inr (fun _ => none)))))), ((xa 50), .inr (11, [.long 0, .int 0, .int 0, .int 0, .long 900])), (am, .inr (15, [.int 0, .ref (ma 0), .int 0, .int 0, .int 0, .int 0, .ref (ma 1), .ref (ma 2), .null, .int 1, .int 10, .int 900, .ref (ma 3), .ref (ma 4), .int 0, .int 0, .int 0, .ref (ma 5), .int 1000, .int 50, .int 50, .int 1000, .int 10, .int 0, .int 3000, .int 0, .int 0, .int 0])), ((ma 0), .inr (4, [.int 0, .ref (g 0), .int 0])), (aj, .inl (cy 2, 1, .inr (.inl (fun _ => 0))))] H) (hD : va_D (AL s) [(ax, .inr (14, [.ref (xa 0), .ref (xa 13), .ref (xa 18), .ref (xa 34), .ref (xa 45), .ref (xa 49), .ref (xa 50)])), ((xa 0), .inr (5, [.ref (xa 1), .ref (xa 2), .int 0, .ref (xa 3), .ref (xa 5), .ref (xa 7), .ref (xa 9), .ref (xa 11)])), ((xa 1), .inl (cy 1, 8, .inl (fun _ => 0))), ((xa 2), .inl (cy 4, 8, .inr (.inr (.inr (.inr (fun _ => none)))))), ((xa 50), .inr (11, [.long 0, .int 0, .int 0, .int 0, .long 900])), (am, .inr (15, [.int 0, .ref (ma 0), .int 0, .int 0, .int 0, .int 0, .ref (ma 1), .ref (ma 2), .null, .int 1, .int 10, .int 900, .ref (ma 3), .ref (ma 4), .int 0, .int 0, .int 0, .ref (ma 5), .int 1000, .int 50, .int 50, .int 1000, .int 10, .int 0, .int 3000, .int 0, .int 0, .int 0])), ((ma 0), .inr (4, [.int 0, .ref (g 0), .int 0])), (aj, .inl (cy 2, 1, .inr (.inl (fun _ => 0))))]) (hS : va_S (AL s) s.heap H locs) (ls : Array Slot) (hl : lv_has ls 9 [(5, .int 0), (4, .ref ao), (3, .ref aj), (2, .ref am), (1, .ref ax), (0, .ref b)]) : W p l e room_1 s m #[Value.ref b] below meth c H locs 100 1000 (lw_Z below #[Value.ref b] s) (F0 m 264 ls []) := by
  obtain ⟨hx, hb, hr, hml, hown, hlk, hts, hE, hX, hbl⟩ := id LC
  have hA : ∀ q, s.heap.size ≤ q → (AL s) q := fun _ h => h
  have hbA : ¬ (AL s) b := Nat.not_le.mpr hbl
  by_cases c0 : x1 < 50
  · refine lv_aload_n hx hb dL_law_264 rfl (lv_at hl 4 rfl) ?_
    refine lv_aload_n hx hb dL_law_265 rfl (lv_at hl 5 rfl) ?_
    refine lv_iload hx hb dL_law_266 (lv_at hl 0 rfl) ?_
    refine lv_iconst (v := 1) hx hb dL_law_268 (by decide) ?_
    refine lv_iadd hx hb dL_law_269 ?_
    refine tp_i 1 (by decide) ?_
    refine va_sld hx hb hX hbl hbA hS (by unfold vp_in; decide) dL_law_270 ?_
    refine tp_i x1 e1 ?_
    refine lv_aload_n hx hb dL_law_271 rfl (lv_at hl 5 rfl) ?_
    refine lv_iload hx hb dL_law_272 (lv_at hl 0 rfl) ?_
    refine lv_iconst (v := 2) hx hb dL_law_274 (by decide) ?_
    refine lv_iadd hx hb dL_law_275 ?_
    refine tp_i 2 (by decide) ?_
    refine va_sld hx hb hX hbl hbA hS (by unfold vp_in; decide) dL_law_276 ?_
    refine tp_i x2 e2 ?_
    refine lv_aload_n hx hb dL_law_277 rfl (lv_at hl 2 rfl) ?_
    refine ca_i (isC := [0]) (isR := [1, 2, 3, 4, 5, 6, 7]) (wr := [((xa 0), .inr (5, [.ref (xa 1), .ref (xa 2), .int 0, .ref (xa 3), .ref (xa 5), .ref (xa 7), .ref (xa 9), .ref (xa 11)])), ((xa 1), .inl (cy 1, 8, .inl (fun _ => 0))), ((xa 2), .inl (cy 4, 8, .inr (.inr (.inr (.inr (fun _ => none)))))), ((xa 50), .inr (11, [.long 0, .int 0, .int 0, .int 0, .long 900])), (am, .inr (15, [.int 0, .ref (ma 0), .int 0, .int 0, .int 0, .int 0, .ref (ma 1), .ref (ma 2), .null, .int 1, .int 10, .int 900, .ref (ma 3), .ref (ma 4), .int 0, .int 0, .int 0, .ref (ma 5), .int 1000, .int 50, .int 50, .int 1000, .int 10, .int 0, .int 3000, .int 0, .int 0, .int 0])), ((ma 0), .inr (4, [.int 0, .ref (g 0), .int 0])), (aj, .inl (cy 2, 1, .inr (.inl (fun _ => 0))))]) (rn_SW (isC := [0]) (wc := [(ax, .inr (14, [.ref (xa 0), .ref (xa 13), .ref (xa 18), .ref (xa 34), .ref (xa 45), .ref (xa 49), .ref (xa 50)]))]) (As := [.ref ax, .int x1, .int x2, .ref aj]) (rest := []) (n := 4) hx hb hml hown hts hE hS hP hD hA hl.1 (k19_L_addBody l hst D cy g x1 x2 ax aj (.ref (xa 0)) (.ref (xa 13)) (.ref (xa 18)) (.ref (xa 34)) (.ref (xa 45)) (.ref (xa 49)) (.ref (xa 50)) H.size c0) rfl rfl ax_35 rfl rfl ax_36 ⟨Nat.le_of_ble_eq_true rfl, Nat.le_of_ble_eq_true rfl⟩ rfl rfl (Nat.le_of_ble_eq_true rfl) dL_law_278 ⟨(Nat.le_of_ble_eq_true rfl), (Nat.le_of_ble_eq_true rfl)⟩) hP hD hS hA rfl rfl rfl (by decide) (fun ad278 H locs hP hD hS => ?_)
    have hP : va_P D vwCl [((xa 0), .inr (5, [.ref (xa 1), .ref (xa 2), .int 0, .ref (xa 3), .ref (xa 5), .ref (xa 7), .ref (xa 9), .ref (xa 11)])), ((xa 1), .inl (cy 1, 8, .inl (fun _ => 0))), ((xa 2), .inl (cy 4, 8, .inr (.inr (.inr (.inr (fun _ => none)))))), ((xa 50), .inr (11, [.long 0, .int 0, .int 0, .int 0, .long 900])), (am, .inr (15, [.int 0, .ref (ma 0), .int 0, .int 0, .int 0, .int 0, .ref (ma 1), .ref (ma 2), .null, .int 1, .int 10, .int 900, .ref (ma 3), .ref (ma 4), .int 0, .int 0, .int 0, .ref (ma 5), .int 1000, .int 50, .int 50, .int 1000, .int 10, .int 0, .int 3000, .int 0, .int 0, .int 0])), ((ma 0), .inr (4, [.int 0, .ref (g 0), .int 0])), (aj, .inl (cy 2, 1, .inr (.inl (fun _ => 0))))] H := hP
    have hD : va_D (AL s) [((xa 0), .inr (5, [.ref (xa 1), .ref (xa 2), .int 0, .ref (xa 3), .ref (xa 5), .ref (xa 7), .ref (xa 9), .ref (xa 11)])), ((xa 1), .inl (cy 1, 8, .inl (fun _ => 0))), ((xa 2), .inl (cy 4, 8, .inr (.inr (.inr (.inr (fun _ => none)))))), ((xa 50), .inr (11, [.long 0, .int 0, .int 0, .int 0, .long 900])), (am, .inr (15, [.int 0, .ref (ma 0), .int 0, .int 0, .int 0, .int 0, .ref (ma 1), .ref (ma 2), .null, .int 1, .int 10, .int 900, .ref (ma 3), .ref (ma 4), .int 0, .int 0, .int 0, .ref (ma 5), .int 1000, .int 50, .int 50, .int 1000, .int 10, .int 0, .int 3000, .int 0, .int 0, .int 0])), ((ma 0), .inr (4, [.int 0, .ref (g 0), .int 0])), (aj, .inl (cy 2, 1, .inr (.inl (fun _ => 0))))] := hD
    refine lv_istore (lv' := [(6, .int 1), (5, .int 0), (4, .ref ao), (3, .ref aj), (2, .ref am), (1, .ref ax), (0, .ref b)]) hx hb dL_law_281 hl (Nat.le_of_ble_eq_true rfl) rfl (fun ls hl => ?_)
    refine lv_aload_n hx hb dL_law_283 rfl (lv_at hl 4 rfl) ?_
    refine lv_aload_n hx hb dL_law_284 rfl (lv_at hl 6 rfl) ?_
    refine lv_iload hx hb dL_law_285 (lv_at hl 1 rfl) ?_
    refine lv_iconst (v := 1) hx hb dL_law_287 (by decide) ?_
    refine lv_iadd hx hb dL_law_288 ?_
    refine tp_i 1 (by decide) ?_
    refine va_sld hx hb hX hbl hbA hS (by unfold vp_in; decide) dL_law_289 ?_
    refine tp_i x1 e1 ?_
    refine lv_aload_n hx hb dL_law_290 rfl (lv_at hl 6 rfl) ?_
    refine lv_iload hx hb dL_law_291 (lv_at hl 1 rfl) ?_
    refine lv_iconst (v := 2) hx hb dL_law_293 (by decide) ?_
    refine lv_iadd hx hb dL_law_294 ?_
    refine tp_i 2 (by decide) ?_
    refine va_sld hx hb hX hbl hbA hS (by unfold vp_in; decide) dL_law_295 ?_
    refine tp_i x2 e2 ?_
    refine ca_i (isC := [4]) (isR := [0, 1, 2, 3, 5, 6]) (wr := [((xa 0), .inr (5, [.ref (xa 1), .ref (xa 2), .int 0, .ref (xa 3), .ref (xa 5), .ref (xa 7), .ref (xa 9), .ref (xa 11)])), ((xa 1), .inl (cy 1, 8, .inl (fun _ => 0))), ((xa 2), .inl (cy 4, 8, .inr (.inr (.inr (.inr (fun _ => none)))))), ((xa 50), .inr (11, [.long 0, .int 0, .int 0, .int 0, .long 900])), ((ma 0), .inr (4, [.int 0, .ref (g 0), .int 0])), (aj, .inl (cy 2, 1, .inr (.inl (fun _ => 0))))]) (rn_V (ci := 15) (q0 := 4) (isC := [4]) (wc := [(am, .inr (15, [.int 0, .ref (ma 0), .int 0, .int 0, .int 0, .int 0, .ref (ma 1), .ref (ma 2), .null, .int 1, .int 10, .int 900, .ref (ma 3), .ref (ma 4), .int 0, .int 0, .int 0, .ref (ma 5), .int 1000, .int 50, .int 50, .int 1000, .int 10, .int 0, .int 3000, .int 0, .int 0, .int 0]))]) (As := [.int x1, .int x2]) (rest := []) (n := 2) hx hb hml hown hts hE hS hP hD hA hl.1 (k23_X10_addBody l D cy g x1 x2 am (.int 0) (.ref (ma 0)) (.int 0) (.int 0) (.int 0) (.int 0) (.ref (ma 1)) (.ref (ma 2)) (.null) (.int 1) (.int 10) (.int 900) (.ref (ma 3)) (.ref (ma 4)) (.int 0) (.int 0) (.int 0) (.ref (ma 5)) (.int 1000) (.int 50) (.int 50) (.int 1000) (.int 10) (.int 0) (.int 3000) (.int 0) (.int 0) (.int 0) H.size c0) rfl rfl rfl rfl rfl ax_43 rfl rfl ax_44 ⟨Nat.le_of_ble_eq_true rfl, Nat.le_of_ble_eq_true rfl⟩ rfl rfl (Nat.le_of_ble_eq_true rfl) dL_law_296 ⟨(Nat.le_of_ble_eq_true rfl), (Nat.le_of_ble_eq_true rfl)⟩) hP hD hS hA rfl rfl rfl (by decide) (fun ad296 H locs hP hD hS => ?_)
    have hP : va_P D vwCl [((xa 0), .inr (5, [.ref (xa 1), .ref (xa 2), .int 0, .ref (xa 3), .ref (xa 5), .ref (xa 7), .ref (xa 9), .ref (xa 11)])), ((xa 1), .inl (cy 1, 8, .inl (fun _ => 0))), ((xa 2), .inl (cy 4, 8, .inr (.inr (.inr (.inr (fun _ => none)))))), ((xa 50), .inr (11, [.long 0, .int 0, .int 0, .int 0, .long 900])), ((ma 0), .inr (4, [.int 0, .ref (g 0), .int 0])), (aj, .inl (cy 2, 1, .inr (.inl (fun _ => 0)))), (am, .inr (15, [.int 1, .ref (ma 0), .int 0, .int 0, .int 0, .int 0, .ref (ma 1), .ref (ma 2), .null, .int 1, .int 10, .int 900, .ref (ma 3), .ref (ma 4), .int 0, .int 0, .int 0, .ref (ma 5), .int 1000, .int 50, .int 50, .int 1000, .int 10, .int 0, .int 3000, .int 0, .int 0, .int 0]))] H := hP
    have hD : va_D (AL s) [((xa 0), .inr (5, [.ref (xa 1), .ref (xa 2), .int 0, .ref (xa 3), .ref (xa 5), .ref (xa 7), .ref (xa 9), .ref (xa 11)])), ((xa 1), .inl (cy 1, 8, .inl (fun _ => 0))), ((xa 2), .inl (cy 4, 8, .inr (.inr (.inr (.inr (fun _ => none)))))), ((xa 50), .inr (11, [.long 0, .int 0, .int 0, .int 0, .long 900])), ((ma 0), .inr (4, [.int 0, .ref (g 0), .int 0])), (aj, .inl (cy 2, 1, .inr (.inl (fun _ => 0)))), (am, .inr (15, [.int 1, .ref (ma 0), .int 0, .int 0, .int 0, .int 0, .ref (ma 1), .ref (ma 2), .null, .int 1, .int 10, .int 900, .ref (ma 3), .ref (ma 4), .int 0, .int 0, .int 0, .ref (ma 5), .int 1000, .int 50, .int 50, .int 1000, .int 10, .int 0, .int 3000, .int 0, .int 0, .int 0]))] := hD
    refine lv_istore (lv' := [(7, .int (-1)), (6, .int 1), (5, .int 0), (4, .ref ao), (3, .ref aj), (2, .ref am), (1, .ref ax), (0, .ref b)]) hx hb dL_law_299 hl (Nat.le_of_ble_eq_true rfl) rfl (fun ls hl => ?_)
    refine lv_aload_n hx hb dL_law_301 rfl (lv_at hl 5 rfl) ?_
    refine ca_i (isC := [6]) (isR := [0, 1, 2, 3, 4, 5]) (wr := [((xa 0), .inr (5, [.ref (xa 1), .ref (xa 2), .int 0, .ref (xa 3), .ref (xa 5), .ref (xa 7), .ref (xa 9), .ref (xa 11)])), ((xa 1), .inl (cy 1, 8, .inl (fun _ => 0))), ((xa 2), .inl (cy 4, 8, .inr (.inr (.inr (.inr (fun _ => none)))))), ((xa 50), .inr (11, [.long 0, .int 0, .int 0, .int 0, .long 900])), ((ma 0), .inr (4, [.int 0, .ref (g 0), .int 0])), (aj, .inl (cy 2, 1, .inr (.inl (fun _ => 0))))]) (rn_V (ci := 15) (q0 := 6) (isC := [6]) (wc := [(am, .inr (15, [.int 1, .ref (ma 0), .int 0, .int 0, .int 0, .int 0, .ref (ma 1), .ref (ma 2), .null, .int 1, .int 10, .int 900, .ref (ma 3), .ref (ma 4), .int 0, .int 0, .int 0, .ref (ma 5), .int 1000, .int 50, .int 50, .int 1000, .int 10, .int 0, .int 3000, .int 0, .int 0, .int 0]))]) (As := []) (rest := []) (n := 0) hx hb hml hown hts hE hS hP hD hA hl.1 (k24_X10_thrown l D cy g am (.ref (ma 0)) (.int 0) (.int 0) (.int 0) (.int 0) (.ref (ma 1)) (.ref (ma 2)) (.null) (.int 1) (.int 10) (.int 900) (.ref (ma 3)) (.ref (ma 4)) (.int 0) (.int 0) (.int 0) (.ref (ma 5)) (.int 1000) (.int 50) (.int 50) (.int 1000) (.int 10) (.int 0) (.int 3000) (.int 0) (.int 0) (.int 0) H.size ) rfl rfl rfl rfl rfl ax_45 rfl rfl ax_46 ⟨Nat.le_of_ble_eq_true rfl, Nat.le_of_ble_eq_true rfl⟩ rfl rfl (Nat.le_of_ble_eq_true rfl) dL_law_302 ⟨(Nat.le_of_ble_eq_true rfl), (Nat.le_of_ble_eq_true rfl)⟩) hP hD hS hA rfl rfl rfl (by decide) (fun ad302 H locs hP hD hS => ?_)
    have hP : va_P D vwCl [((xa 0), .inr (5, [.ref (xa 1), .ref (xa 2), .int 0, .ref (xa 3), .ref (xa 5), .ref (xa 7), .ref (xa 9), .ref (xa 11)])), ((xa 1), .inl (cy 1, 8, .inl (fun _ => 0))), ((xa 2), .inl (cy 4, 8, .inr (.inr (.inr (.inr (fun _ => none)))))), ((xa 50), .inr (11, [.long 0, .int 0, .int 0, .int 0, .long 900])), ((ma 0), .inr (4, [.int 0, .ref (g 0), .int 0])), (aj, .inl (cy 2, 1, .inr (.inl (fun _ => 0)))), (am, .inr (15, [.int 1, .ref (ma 0), .int 0, .int 0, .int 0, .int 0, .ref (ma 1), .ref (ma 2), .null, .int 1, .int 10, .int 900, .ref (ma 3), .ref (ma 4), .int 0, .int 0, .int 0, .ref (ma 5), .int 1000, .int 50, .int 50, .int 1000, .int 10, .int 0, .int 3000, .int 0, .int 0, .int 0]))] H := hP
    have hD : va_D (AL s) [((xa 0), .inr (5, [.ref (xa 1), .ref (xa 2), .int 0, .ref (xa 3), .ref (xa 5), .ref (xa 7), .ref (xa 9), .ref (xa 11)])), ((xa 1), .inl (cy 1, 8, .inl (fun _ => 0))), ((xa 2), .inl (cy 4, 8, .inr (.inr (.inr (.inr (fun _ => none)))))), ((xa 50), .inr (11, [.long 0, .int 0, .int 0, .int 0, .long 900])), ((ma 0), .inr (4, [.int 0, .ref (g 0), .int 0])), (aj, .inl (cy 2, 1, .inr (.inl (fun _ => 0)))), (am, .inr (15, [.int 1, .ref (ma 0), .int 0, .int 0, .int 0, .int 0, .ref (ma 1), .ref (ma 2), .null, .int 1, .int 10, .int 900, .ref (ma 3), .ref (ma 4), .int 0, .int 0, .int 0, .ref (ma 5), .int 1000, .int 50, .int 50, .int 1000, .int 10, .int 0, .int 3000, .int 0, .int 0, .int 0]))] := hD
    refine lv_iload hx hb dL_law_305 (lv_at hl 1 rfl) ?_
    refine lv_icmp_eq (tgt := 312) hx hb dL_law_307 (by decide) (fun _ => ?_) (fun z => absurd (by decide) z)
    refine lv_iload hx hb dL_law_312 (lv_at hl 1 rfl) ?_
    refine lv_if_ne (tgt := 329) hx hb dL_law_314 (by decide) (fun _ => ?_) (fun z => absurd z (by decide))
    refine lv_goto (tgt := 2947) hx hb dL_law_329 (by decide) ?_
    exact law_tail LC hS (Nat.le_of_ble_eq_true rfl) (Nat.le_of_ble_eq_true rfl) (lv_sub hl [2, 7] rfl)
  · by_cases c1 : (2000 : Int32) < x1
    · refine lv_aload_n hx hb dL_law_264 rfl (lv_at hl 4 rfl) ?_
      refine lv_aload_n hx hb dL_law_265 rfl (lv_at hl 5 rfl) ?_
      refine lv_iload hx hb dL_law_266 (lv_at hl 0 rfl) ?_
      refine lv_iconst (v := 1) hx hb dL_law_268 (by decide) ?_
      refine lv_iadd hx hb dL_law_269 ?_
      refine tp_i 1 (by decide) ?_
      refine va_sld hx hb hX hbl hbA hS (by unfold vp_in; decide) dL_law_270 ?_
      refine tp_i x1 e1 ?_
      refine lv_aload_n hx hb dL_law_271 rfl (lv_at hl 5 rfl) ?_
      refine lv_iload hx hb dL_law_272 (lv_at hl 0 rfl) ?_
      refine lv_iconst (v := 2) hx hb dL_law_274 (by decide) ?_
      refine lv_iadd hx hb dL_law_275 ?_
      refine tp_i 2 (by decide) ?_
      refine va_sld hx hb hX hbl hbA hS (by unfold vp_in; decide) dL_law_276 ?_
      refine tp_i x2 e2 ?_
      refine lv_aload_n hx hb dL_law_277 rfl (lv_at hl 2 rfl) ?_
      refine ca_i (isC := [0]) (isR := [1, 2, 3, 4, 5, 6, 7]) (wr := [((xa 0), .inr (5, [.ref (xa 1), .ref (xa 2), .int 0, .ref (xa 3), .ref (xa 5), .ref (xa 7), .ref (xa 9), .ref (xa 11)])), ((xa 1), .inl (cy 1, 8, .inl (fun _ => 0))), ((xa 2), .inl (cy 4, 8, .inr (.inr (.inr (.inr (fun _ => none)))))), ((xa 50), .inr (11, [.long 0, .int 0, .int 0, .int 0, .long 900])), (am, .inr (15, [.int 0, .ref (ma 0), .int 0, .int 0, .int 0, .int 0, .ref (ma 1), .ref (ma 2), .null, .int 1, .int 10, .int 900, .ref (ma 3), .ref (ma 4), .int 0, .int 0, .int 0, .ref (ma 5), .int 1000, .int 50, .int 50, .int 1000, .int 10, .int 0, .int 3000, .int 0, .int 0, .int 0])), ((ma 0), .inr (4, [.int 0, .ref (g 0), .int 0])), (aj, .inl (cy 2, 1, .inr (.inl (fun _ => 0))))]) (rn_SW (isC := [0]) (wc := [(ax, .inr (14, [.ref (xa 0), .ref (xa 13), .ref (xa 18), .ref (xa 34), .ref (xa 45), .ref (xa 49), .ref (xa 50)]))]) (As := [.ref ax, .int x1, .int x2, .ref aj]) (rest := []) (n := 4) hx hb hml hown hts hE hS hP hD hA hl.1 (k27_L_addBody l hst D cy g x1 x2 ax aj (.ref (xa 0)) (.ref (xa 13)) (.ref (xa 18)) (.ref (xa 34)) (.ref (xa 45)) (.ref (xa 49)) (.ref (xa 50)) H.size c0 c1) rfl rfl ax_35 rfl rfl ax_36 ⟨Nat.le_of_ble_eq_true rfl, Nat.le_of_ble_eq_true rfl⟩ rfl rfl (Nat.le_of_ble_eq_true rfl) dL_law_278 ⟨(Nat.le_of_ble_eq_true rfl), (Nat.le_of_ble_eq_true rfl)⟩) hP hD hS hA rfl rfl rfl (by decide) (fun ad278 H locs hP hD hS => ?_)
      have hP : va_P D vwCl [((xa 0), .inr (5, [.ref (xa 1), .ref (xa 2), .int 0, .ref (xa 3), .ref (xa 5), .ref (xa 7), .ref (xa 9), .ref (xa 11)])), ((xa 1), .inl (cy 1, 8, .inl (fun _ => 0))), ((xa 2), .inl (cy 4, 8, .inr (.inr (.inr (.inr (fun _ => none)))))), ((xa 50), .inr (11, [.long 0, .int 0, .int 0, .int 0, .long 900])), (am, .inr (15, [.int 0, .ref (ma 0), .int 0, .int 0, .int 0, .int 0, .ref (ma 1), .ref (ma 2), .null, .int 1, .int 10, .int 900, .ref (ma 3), .ref (ma 4), .int 0, .int 0, .int 0, .ref (ma 5), .int 1000, .int 50, .int 50, .int 1000, .int 10, .int 0, .int 3000, .int 0, .int 0, .int 0])), ((ma 0), .inr (4, [.int 0, .ref (g 0), .int 0])), (aj, .inl (cy 2, 1, .inr (.inl (fun _ => 0))))] H := hP
      have hD : va_D (AL s) [((xa 0), .inr (5, [.ref (xa 1), .ref (xa 2), .int 0, .ref (xa 3), .ref (xa 5), .ref (xa 7), .ref (xa 9), .ref (xa 11)])), ((xa 1), .inl (cy 1, 8, .inl (fun _ => 0))), ((xa 2), .inl (cy 4, 8, .inr (.inr (.inr (.inr (fun _ => none)))))), ((xa 50), .inr (11, [.long 0, .int 0, .int 0, .int 0, .long 900])), (am, .inr (15, [.int 0, .ref (ma 0), .int 0, .int 0, .int 0, .int 0, .ref (ma 1), .ref (ma 2), .null, .int 1, .int 10, .int 900, .ref (ma 3), .ref (ma 4), .int 0, .int 0, .int 0, .ref (ma 5), .int 1000, .int 50, .int 50, .int 1000, .int 10, .int 0, .int 3000, .int 0, .int 0, .int 0])), ((ma 0), .inr (4, [.int 0, .ref (g 0), .int 0])), (aj, .inl (cy 2, 1, .inr (.inl (fun _ => 0))))] := hD
      refine lv_istore (lv' := [(6, .int 1), (5, .int 0), (4, .ref ao), (3, .ref aj), (2, .ref am), (1, .ref ax), (0, .ref b)]) hx hb dL_law_281 hl (Nat.le_of_ble_eq_true rfl) rfl (fun ls hl => ?_)
      refine lv_aload_n hx hb dL_law_283 rfl (lv_at hl 4 rfl) ?_
      refine lv_aload_n hx hb dL_law_284 rfl (lv_at hl 6 rfl) ?_
      refine lv_iload hx hb dL_law_285 (lv_at hl 1 rfl) ?_
      refine lv_iconst (v := 1) hx hb dL_law_287 (by decide) ?_
      refine lv_iadd hx hb dL_law_288 ?_
      refine tp_i 1 (by decide) ?_
      refine va_sld hx hb hX hbl hbA hS (by unfold vp_in; decide) dL_law_289 ?_
      refine tp_i x1 e1 ?_
      refine lv_aload_n hx hb dL_law_290 rfl (lv_at hl 6 rfl) ?_
      refine lv_iload hx hb dL_law_291 (lv_at hl 1 rfl) ?_
      refine lv_iconst (v := 2) hx hb dL_law_293 (by decide) ?_
      refine lv_iadd hx hb dL_law_294 ?_
      refine tp_i 2 (by decide) ?_
      refine va_sld hx hb hX hbl hbA hS (by unfold vp_in; decide) dL_law_295 ?_
      refine tp_i x2 e2 ?_
      refine ca_i (isC := [4]) (isR := [0, 1, 2, 3, 5, 6]) (wr := [((xa 0), .inr (5, [.ref (xa 1), .ref (xa 2), .int 0, .ref (xa 3), .ref (xa 5), .ref (xa 7), .ref (xa 9), .ref (xa 11)])), ((xa 1), .inl (cy 1, 8, .inl (fun _ => 0))), ((xa 2), .inl (cy 4, 8, .inr (.inr (.inr (.inr (fun _ => none)))))), ((xa 50), .inr (11, [.long 0, .int 0, .int 0, .int 0, .long 900])), ((ma 0), .inr (4, [.int 0, .ref (g 0), .int 0])), (aj, .inl (cy 2, 1, .inr (.inl (fun _ => 0))))]) (rn_V (ci := 15) (q0 := 4) (isC := [4]) (wc := [(am, .inr (15, [.int 0, .ref (ma 0), .int 0, .int 0, .int 0, .int 0, .ref (ma 1), .ref (ma 2), .null, .int 1, .int 10, .int 900, .ref (ma 3), .ref (ma 4), .int 0, .int 0, .int 0, .ref (ma 5), .int 1000, .int 50, .int 50, .int 1000, .int 10, .int 0, .int 3000, .int 0, .int 0, .int 0]))]) (As := [.int x1, .int x2]) (rest := []) (n := 2) hx hb hml hown hts hE hS hP hD hA hl.1 (k29_X10_addBody l D cy g x1 x2 am (.int 0) (.ref (ma 0)) (.int 0) (.int 0) (.int 0) (.int 0) (.ref (ma 1)) (.ref (ma 2)) (.null) (.int 1) (.int 10) (.int 900) (.ref (ma 3)) (.ref (ma 4)) (.int 0) (.int 0) (.int 0) (.ref (ma 5)) (.int 1000) (.int 50) (.int 50) (.int 1000) (.int 10) (.int 0) (.int 3000) (.int 0) (.int 0) (.int 0) H.size c0 c1) rfl rfl rfl rfl rfl ax_43 rfl rfl ax_44 ⟨Nat.le_of_ble_eq_true rfl, Nat.le_of_ble_eq_true rfl⟩ rfl rfl (Nat.le_of_ble_eq_true rfl) dL_law_296 ⟨(Nat.le_of_ble_eq_true rfl), (Nat.le_of_ble_eq_true rfl)⟩) hP hD hS hA rfl rfl rfl (by decide) (fun ad296 H locs hP hD hS => ?_)
      have hP : va_P D vwCl [((xa 0), .inr (5, [.ref (xa 1), .ref (xa 2), .int 0, .ref (xa 3), .ref (xa 5), .ref (xa 7), .ref (xa 9), .ref (xa 11)])), ((xa 1), .inl (cy 1, 8, .inl (fun _ => 0))), ((xa 2), .inl (cy 4, 8, .inr (.inr (.inr (.inr (fun _ => none)))))), ((xa 50), .inr (11, [.long 0, .int 0, .int 0, .int 0, .long 900])), ((ma 0), .inr (4, [.int 0, .ref (g 0), .int 0])), (aj, .inl (cy 2, 1, .inr (.inl (fun _ => 0)))), (am, .inr (15, [.int 1, .ref (ma 0), .int 0, .int 0, .int 0, .int 0, .ref (ma 1), .ref (ma 2), .null, .int 1, .int 10, .int 900, .ref (ma 3), .ref (ma 4), .int 0, .int 0, .int 0, .ref (ma 5), .int 1000, .int 50, .int 50, .int 1000, .int 10, .int 0, .int 3000, .int 0, .int 0, .int 0]))] H := hP
      have hD : va_D (AL s) [((xa 0), .inr (5, [.ref (xa 1), .ref (xa 2), .int 0, .ref (xa 3), .ref (xa 5), .ref (xa 7), .ref (xa 9), .ref (xa 11)])), ((xa 1), .inl (cy 1, 8, .inl (fun _ => 0))), ((xa 2), .inl (cy 4, 8, .inr (.inr (.inr (.inr (fun _ => none)))))), ((xa 50), .inr (11, [.long 0, .int 0, .int 0, .int 0, .long 900])), ((ma 0), .inr (4, [.int 0, .ref (g 0), .int 0])), (aj, .inl (cy 2, 1, .inr (.inl (fun _ => 0)))), (am, .inr (15, [.int 1, .ref (ma 0), .int 0, .int 0, .int 0, .int 0, .ref (ma 1), .ref (ma 2), .null, .int 1, .int 10, .int 900, .ref (ma 3), .ref (ma 4), .int 0, .int 0, .int 0, .ref (ma 5), .int 1000, .int 50, .int 50, .int 1000, .int 10, .int 0, .int 3000, .int 0, .int 0, .int 0]))] := hD
      refine lv_istore (lv' := [(7, .int (-1)), (6, .int 1), (5, .int 0), (4, .ref ao), (3, .ref aj), (2, .ref am), (1, .ref ax), (0, .ref b)]) hx hb dL_law_299 hl (Nat.le_of_ble_eq_true rfl) rfl (fun ls hl => ?_)
      refine lv_aload_n hx hb dL_law_301 rfl (lv_at hl 5 rfl) ?_
      refine ca_i (isC := [6]) (isR := [0, 1, 2, 3, 4, 5]) (wr := [((xa 0), .inr (5, [.ref (xa 1), .ref (xa 2), .int 0, .ref (xa 3), .ref (xa 5), .ref (xa 7), .ref (xa 9), .ref (xa 11)])), ((xa 1), .inl (cy 1, 8, .inl (fun _ => 0))), ((xa 2), .inl (cy 4, 8, .inr (.inr (.inr (.inr (fun _ => none)))))), ((xa 50), .inr (11, [.long 0, .int 0, .int 0, .int 0, .long 900])), ((ma 0), .inr (4, [.int 0, .ref (g 0), .int 0])), (aj, .inl (cy 2, 1, .inr (.inl (fun _ => 0))))]) (rn_V (ci := 15) (q0 := 6) (isC := [6]) (wc := [(am, .inr (15, [.int 1, .ref (ma 0), .int 0, .int 0, .int 0, .int 0, .ref (ma 1), .ref (ma 2), .null, .int 1, .int 10, .int 900, .ref (ma 3), .ref (ma 4), .int 0, .int 0, .int 0, .ref (ma 5), .int 1000, .int 50, .int 50, .int 1000, .int 10, .int 0, .int 3000, .int 0, .int 0, .int 0]))]) (As := []) (rest := []) (n := 0) hx hb hml hown hts hE hS hP hD hA hl.1 (k24_X10_thrown l D cy g am (.ref (ma 0)) (.int 0) (.int 0) (.int 0) (.int 0) (.ref (ma 1)) (.ref (ma 2)) (.null) (.int 1) (.int 10) (.int 900) (.ref (ma 3)) (.ref (ma 4)) (.int 0) (.int 0) (.int 0) (.ref (ma 5)) (.int 1000) (.int 50) (.int 50) (.int 1000) (.int 10) (.int 0) (.int 3000) (.int 0) (.int 0) (.int 0) H.size ) rfl rfl rfl rfl rfl ax_45 rfl rfl ax_46 ⟨Nat.le_of_ble_eq_true rfl, Nat.le_of_ble_eq_true rfl⟩ rfl rfl (Nat.le_of_ble_eq_true rfl) dL_law_302 ⟨(Nat.le_of_ble_eq_true rfl), (Nat.le_of_ble_eq_true rfl)⟩) hP hD hS hA rfl rfl rfl (by decide) (fun ad302 H locs hP hD hS => ?_)
      have hP : va_P D vwCl [((xa 0), .inr (5, [.ref (xa 1), .ref (xa 2), .int 0, .ref (xa 3), .ref (xa 5), .ref (xa 7), .ref (xa 9), .ref (xa 11)])), ((xa 1), .inl (cy 1, 8, .inl (fun _ => 0))), ((xa 2), .inl (cy 4, 8, .inr (.inr (.inr (.inr (fun _ => none)))))), ((xa 50), .inr (11, [.long 0, .int 0, .int 0, .int 0, .long 900])), ((ma 0), .inr (4, [.int 0, .ref (g 0), .int 0])), (aj, .inl (cy 2, 1, .inr (.inl (fun _ => 0)))), (am, .inr (15, [.int 1, .ref (ma 0), .int 0, .int 0, .int 0, .int 0, .ref (ma 1), .ref (ma 2), .null, .int 1, .int 10, .int 900, .ref (ma 3), .ref (ma 4), .int 0, .int 0, .int 0, .ref (ma 5), .int 1000, .int 50, .int 50, .int 1000, .int 10, .int 0, .int 3000, .int 0, .int 0, .int 0]))] H := hP
      have hD : va_D (AL s) [((xa 0), .inr (5, [.ref (xa 1), .ref (xa 2), .int 0, .ref (xa 3), .ref (xa 5), .ref (xa 7), .ref (xa 9), .ref (xa 11)])), ((xa 1), .inl (cy 1, 8, .inl (fun _ => 0))), ((xa 2), .inl (cy 4, 8, .inr (.inr (.inr (.inr (fun _ => none)))))), ((xa 50), .inr (11, [.long 0, .int 0, .int 0, .int 0, .long 900])), ((ma 0), .inr (4, [.int 0, .ref (g 0), .int 0])), (aj, .inl (cy 2, 1, .inr (.inl (fun _ => 0)))), (am, .inr (15, [.int 1, .ref (ma 0), .int 0, .int 0, .int 0, .int 0, .ref (ma 1), .ref (ma 2), .null, .int 1, .int 10, .int 900, .ref (ma 3), .ref (ma 4), .int 0, .int 0, .int 0, .ref (ma 5), .int 1000, .int 50, .int 50, .int 1000, .int 10, .int 0, .int 3000, .int 0, .int 0, .int 0]))] := hD
      refine lv_iload hx hb dL_law_305 (lv_at hl 1 rfl) ?_
      refine lv_icmp_eq (tgt := 312) hx hb dL_law_307 (by decide) (fun _ => ?_) (fun z => absurd (by decide) z)
      refine lv_iload hx hb dL_law_312 (lv_at hl 1 rfl) ?_
      refine lv_if_ne (tgt := 329) hx hb dL_law_314 (by decide) (fun _ => ?_) (fun z => absurd z (by decide))
      refine lv_goto (tgt := 2947) hx hb dL_law_329 (by decide) ?_
      exact law_tail LC hS (Nat.le_of_ble_eq_true rfl) (Nat.le_of_ble_eq_true rfl) (lv_sub hl [2, 7] rfl)
    · by_cases c2 : x2 < 1
      · refine lv_aload_n hx hb dL_law_264 rfl (lv_at hl 4 rfl) ?_
        refine lv_aload_n hx hb dL_law_265 rfl (lv_at hl 5 rfl) ?_
        refine lv_iload hx hb dL_law_266 (lv_at hl 0 rfl) ?_
        refine lv_iconst (v := 1) hx hb dL_law_268 (by decide) ?_
        refine lv_iadd hx hb dL_law_269 ?_
        refine tp_i 1 (by decide) ?_
        refine va_sld hx hb hX hbl hbA hS (by unfold vp_in; decide) dL_law_270 ?_
        refine tp_i x1 e1 ?_
        refine lv_aload_n hx hb dL_law_271 rfl (lv_at hl 5 rfl) ?_
        refine lv_iload hx hb dL_law_272 (lv_at hl 0 rfl) ?_
        refine lv_iconst (v := 2) hx hb dL_law_274 (by decide) ?_
        refine lv_iadd hx hb dL_law_275 ?_
        refine tp_i 2 (by decide) ?_
        refine va_sld hx hb hX hbl hbA hS (by unfold vp_in; decide) dL_law_276 ?_
        refine tp_i x2 e2 ?_
        refine lv_aload_n hx hb dL_law_277 rfl (lv_at hl 2 rfl) ?_
        refine ca_i (isC := [0]) (isR := [1, 2, 3, 4, 5, 6, 7]) (wr := [((xa 0), .inr (5, [.ref (xa 1), .ref (xa 2), .int 0, .ref (xa 3), .ref (xa 5), .ref (xa 7), .ref (xa 9), .ref (xa 11)])), ((xa 1), .inl (cy 1, 8, .inl (fun _ => 0))), ((xa 2), .inl (cy 4, 8, .inr (.inr (.inr (.inr (fun _ => none)))))), ((xa 50), .inr (11, [.long 0, .int 0, .int 0, .int 0, .long 900])), (am, .inr (15, [.int 0, .ref (ma 0), .int 0, .int 0, .int 0, .int 0, .ref (ma 1), .ref (ma 2), .null, .int 1, .int 10, .int 900, .ref (ma 3), .ref (ma 4), .int 0, .int 0, .int 0, .ref (ma 5), .int 1000, .int 50, .int 50, .int 1000, .int 10, .int 0, .int 3000, .int 0, .int 0, .int 0])), ((ma 0), .inr (4, [.int 0, .ref (g 0), .int 0])), (aj, .inl (cy 2, 1, .inr (.inl (fun _ => 0))))]) (rn_SW (isC := [0]) (wc := [(ax, .inr (14, [.ref (xa 0), .ref (xa 13), .ref (xa 18), .ref (xa 34), .ref (xa 45), .ref (xa 49), .ref (xa 50)]))]) (As := [.ref ax, .int x1, .int x2, .ref aj]) (rest := []) (n := 4) hx hb hml hown hts hE hS hP hD hA hl.1 (k32_L_addBody l hst D cy g x1 x2 ax aj (.ref (xa 0)) (.ref (xa 13)) (.ref (xa 18)) (.ref (xa 34)) (.ref (xa 45)) (.ref (xa 49)) (.ref (xa 50)) H.size c0 c1 c2) rfl rfl ax_35 rfl rfl ax_36 ⟨Nat.le_of_ble_eq_true rfl, Nat.le_of_ble_eq_true rfl⟩ rfl rfl (Nat.le_of_ble_eq_true rfl) dL_law_278 ⟨(Nat.le_of_ble_eq_true rfl), (Nat.le_of_ble_eq_true rfl)⟩) hP hD hS hA rfl rfl rfl (by decide) (fun ad278 H locs hP hD hS => ?_)
        have hP : va_P D vwCl [((xa 0), .inr (5, [.ref (xa 1), .ref (xa 2), .int 0, .ref (xa 3), .ref (xa 5), .ref (xa 7), .ref (xa 9), .ref (xa 11)])), ((xa 1), .inl (cy 1, 8, .inl (fun _ => 0))), ((xa 2), .inl (cy 4, 8, .inr (.inr (.inr (.inr (fun _ => none)))))), ((xa 50), .inr (11, [.long 0, .int 0, .int 0, .int 0, .long 900])), (am, .inr (15, [.int 0, .ref (ma 0), .int 0, .int 0, .int 0, .int 0, .ref (ma 1), .ref (ma 2), .null, .int 1, .int 10, .int 900, .ref (ma 3), .ref (ma 4), .int 0, .int 0, .int 0, .ref (ma 5), .int 1000, .int 50, .int 50, .int 1000, .int 10, .int 0, .int 3000, .int 0, .int 0, .int 0])), ((ma 0), .inr (4, [.int 0, .ref (g 0), .int 0])), (aj, .inl (cy 2, 1, .inr (.inl (fun _ => 0))))] H := hP
        have hD : va_D (AL s) [((xa 0), .inr (5, [.ref (xa 1), .ref (xa 2), .int 0, .ref (xa 3), .ref (xa 5), .ref (xa 7), .ref (xa 9), .ref (xa 11)])), ((xa 1), .inl (cy 1, 8, .inl (fun _ => 0))), ((xa 2), .inl (cy 4, 8, .inr (.inr (.inr (.inr (fun _ => none)))))), ((xa 50), .inr (11, [.long 0, .int 0, .int 0, .int 0, .long 900])), (am, .inr (15, [.int 0, .ref (ma 0), .int 0, .int 0, .int 0, .int 0, .ref (ma 1), .ref (ma 2), .null, .int 1, .int 10, .int 900, .ref (ma 3), .ref (ma 4), .int 0, .int 0, .int 0, .ref (ma 5), .int 1000, .int 50, .int 50, .int 1000, .int 10, .int 0, .int 3000, .int 0, .int 0, .int 0])), ((ma 0), .inr (4, [.int 0, .ref (g 0), .int 0])), (aj, .inl (cy 2, 1, .inr (.inl (fun _ => 0))))] := hD
        refine lv_istore (lv' := [(6, .int 1), (5, .int 0), (4, .ref ao), (3, .ref aj), (2, .ref am), (1, .ref ax), (0, .ref b)]) hx hb dL_law_281 hl (Nat.le_of_ble_eq_true rfl) rfl (fun ls hl => ?_)
        refine lv_aload_n hx hb dL_law_283 rfl (lv_at hl 4 rfl) ?_
        refine lv_aload_n hx hb dL_law_284 rfl (lv_at hl 6 rfl) ?_
        refine lv_iload hx hb dL_law_285 (lv_at hl 1 rfl) ?_
        refine lv_iconst (v := 1) hx hb dL_law_287 (by decide) ?_
        refine lv_iadd hx hb dL_law_288 ?_
        refine tp_i 1 (by decide) ?_
        refine va_sld hx hb hX hbl hbA hS (by unfold vp_in; decide) dL_law_289 ?_
        refine tp_i x1 e1 ?_
        refine lv_aload_n hx hb dL_law_290 rfl (lv_at hl 6 rfl) ?_
        refine lv_iload hx hb dL_law_291 (lv_at hl 1 rfl) ?_
        refine lv_iconst (v := 2) hx hb dL_law_293 (by decide) ?_
        refine lv_iadd hx hb dL_law_294 ?_
        refine tp_i 2 (by decide) ?_
        refine va_sld hx hb hX hbl hbA hS (by unfold vp_in; decide) dL_law_295 ?_
        refine tp_i x2 e2 ?_
        refine ca_i (isC := [4]) (isR := [0, 1, 2, 3, 5, 6]) (wr := [((xa 0), .inr (5, [.ref (xa 1), .ref (xa 2), .int 0, .ref (xa 3), .ref (xa 5), .ref (xa 7), .ref (xa 9), .ref (xa 11)])), ((xa 1), .inl (cy 1, 8, .inl (fun _ => 0))), ((xa 2), .inl (cy 4, 8, .inr (.inr (.inr (.inr (fun _ => none)))))), ((xa 50), .inr (11, [.long 0, .int 0, .int 0, .int 0, .long 900])), ((ma 0), .inr (4, [.int 0, .ref (g 0), .int 0])), (aj, .inl (cy 2, 1, .inr (.inl (fun _ => 0))))]) (rn_V (ci := 15) (q0 := 4) (isC := [4]) (wc := [(am, .inr (15, [.int 0, .ref (ma 0), .int 0, .int 0, .int 0, .int 0, .ref (ma 1), .ref (ma 2), .null, .int 1, .int 10, .int 900, .ref (ma 3), .ref (ma 4), .int 0, .int 0, .int 0, .ref (ma 5), .int 1000, .int 50, .int 50, .int 1000, .int 10, .int 0, .int 3000, .int 0, .int 0, .int 0]))]) (As := [.int x1, .int x2]) (rest := []) (n := 2) hx hb hml hown hts hE hS hP hD hA hl.1 (k34_X10_addBody l D cy g x1 x2 am (.int 0) (.ref (ma 0)) (.int 0) (.int 0) (.int 0) (.int 0) (.ref (ma 1)) (.ref (ma 2)) (.null) (.int 1) (.int 10) (.int 900) (.ref (ma 3)) (.ref (ma 4)) (.int 0) (.int 0) (.int 0) (.ref (ma 5)) (.int 1000) (.int 50) (.int 50) (.int 1000) (.int 10) (.int 0) (.int 3000) (.int 0) (.int 0) (.int 0) H.size c0 c1 c2) rfl rfl rfl rfl rfl ax_43 rfl rfl ax_44 ⟨Nat.le_of_ble_eq_true rfl, Nat.le_of_ble_eq_true rfl⟩ rfl rfl (Nat.le_of_ble_eq_true rfl) dL_law_296 ⟨(Nat.le_of_ble_eq_true rfl), (Nat.le_of_ble_eq_true rfl)⟩) hP hD hS hA rfl rfl rfl (by decide) (fun ad296 H locs hP hD hS => ?_)
        have hP : va_P D vwCl [((xa 0), .inr (5, [.ref (xa 1), .ref (xa 2), .int 0, .ref (xa 3), .ref (xa 5), .ref (xa 7), .ref (xa 9), .ref (xa 11)])), ((xa 1), .inl (cy 1, 8, .inl (fun _ => 0))), ((xa 2), .inl (cy 4, 8, .inr (.inr (.inr (.inr (fun _ => none)))))), ((xa 50), .inr (11, [.long 0, .int 0, .int 0, .int 0, .long 900])), ((ma 0), .inr (4, [.int 0, .ref (g 0), .int 0])), (aj, .inl (cy 2, 1, .inr (.inl (fun _ => 0)))), (am, .inr (15, [.int 1, .ref (ma 0), .int 0, .int 0, .int 0, .int 0, .ref (ma 1), .ref (ma 2), .null, .int 1, .int 10, .int 900, .ref (ma 3), .ref (ma 4), .int 0, .int 0, .int 0, .ref (ma 5), .int 1000, .int 50, .int 50, .int 1000, .int 10, .int 0, .int 3000, .int 0, .int 0, .int 0]))] H := hP
        have hD : va_D (AL s) [((xa 0), .inr (5, [.ref (xa 1), .ref (xa 2), .int 0, .ref (xa 3), .ref (xa 5), .ref (xa 7), .ref (xa 9), .ref (xa 11)])), ((xa 1), .inl (cy 1, 8, .inl (fun _ => 0))), ((xa 2), .inl (cy 4, 8, .inr (.inr (.inr (.inr (fun _ => none)))))), ((xa 50), .inr (11, [.long 0, .int 0, .int 0, .int 0, .long 900])), ((ma 0), .inr (4, [.int 0, .ref (g 0), .int 0])), (aj, .inl (cy 2, 1, .inr (.inl (fun _ => 0)))), (am, .inr (15, [.int 1, .ref (ma 0), .int 0, .int 0, .int 0, .int 0, .ref (ma 1), .ref (ma 2), .null, .int 1, .int 10, .int 900, .ref (ma 3), .ref (ma 4), .int 0, .int 0, .int 0, .ref (ma 5), .int 1000, .int 50, .int 50, .int 1000, .int 10, .int 0, .int 3000, .int 0, .int 0, .int 0]))] := hD
        refine lv_istore (lv' := [(7, .int (-1)), (6, .int 1), (5, .int 0), (4, .ref ao), (3, .ref aj), (2, .ref am), (1, .ref ax), (0, .ref b)]) hx hb dL_law_299 hl (Nat.le_of_ble_eq_true rfl) rfl (fun ls hl => ?_)
        refine lv_aload_n hx hb dL_law_301 rfl (lv_at hl 5 rfl) ?_
        refine ca_i (isC := [6]) (isR := [0, 1, 2, 3, 4, 5]) (wr := [((xa 0), .inr (5, [.ref (xa 1), .ref (xa 2), .int 0, .ref (xa 3), .ref (xa 5), .ref (xa 7), .ref (xa 9), .ref (xa 11)])), ((xa 1), .inl (cy 1, 8, .inl (fun _ => 0))), ((xa 2), .inl (cy 4, 8, .inr (.inr (.inr (.inr (fun _ => none)))))), ((xa 50), .inr (11, [.long 0, .int 0, .int 0, .int 0, .long 900])), ((ma 0), .inr (4, [.int 0, .ref (g 0), .int 0])), (aj, .inl (cy 2, 1, .inr (.inl (fun _ => 0))))]) (rn_V (ci := 15) (q0 := 6) (isC := [6]) (wc := [(am, .inr (15, [.int 1, .ref (ma 0), .int 0, .int 0, .int 0, .int 0, .ref (ma 1), .ref (ma 2), .null, .int 1, .int 10, .int 900, .ref (ma 3), .ref (ma 4), .int 0, .int 0, .int 0, .ref (ma 5), .int 1000, .int 50, .int 50, .int 1000, .int 10, .int 0, .int 3000, .int 0, .int 0, .int 0]))]) (As := []) (rest := []) (n := 0) hx hb hml hown hts hE hS hP hD hA hl.1 (k24_X10_thrown l D cy g am (.ref (ma 0)) (.int 0) (.int 0) (.int 0) (.int 0) (.ref (ma 1)) (.ref (ma 2)) (.null) (.int 1) (.int 10) (.int 900) (.ref (ma 3)) (.ref (ma 4)) (.int 0) (.int 0) (.int 0) (.ref (ma 5)) (.int 1000) (.int 50) (.int 50) (.int 1000) (.int 10) (.int 0) (.int 3000) (.int 0) (.int 0) (.int 0) H.size ) rfl rfl rfl rfl rfl ax_45 rfl rfl ax_46 ⟨Nat.le_of_ble_eq_true rfl, Nat.le_of_ble_eq_true rfl⟩ rfl rfl (Nat.le_of_ble_eq_true rfl) dL_law_302 ⟨(Nat.le_of_ble_eq_true rfl), (Nat.le_of_ble_eq_true rfl)⟩) hP hD hS hA rfl rfl rfl (by decide) (fun ad302 H locs hP hD hS => ?_)
        have hP : va_P D vwCl [((xa 0), .inr (5, [.ref (xa 1), .ref (xa 2), .int 0, .ref (xa 3), .ref (xa 5), .ref (xa 7), .ref (xa 9), .ref (xa 11)])), ((xa 1), .inl (cy 1, 8, .inl (fun _ => 0))), ((xa 2), .inl (cy 4, 8, .inr (.inr (.inr (.inr (fun _ => none)))))), ((xa 50), .inr (11, [.long 0, .int 0, .int 0, .int 0, .long 900])), ((ma 0), .inr (4, [.int 0, .ref (g 0), .int 0])), (aj, .inl (cy 2, 1, .inr (.inl (fun _ => 0)))), (am, .inr (15, [.int 1, .ref (ma 0), .int 0, .int 0, .int 0, .int 0, .ref (ma 1), .ref (ma 2), .null, .int 1, .int 10, .int 900, .ref (ma 3), .ref (ma 4), .int 0, .int 0, .int 0, .ref (ma 5), .int 1000, .int 50, .int 50, .int 1000, .int 10, .int 0, .int 3000, .int 0, .int 0, .int 0]))] H := hP
        have hD : va_D (AL s) [((xa 0), .inr (5, [.ref (xa 1), .ref (xa 2), .int 0, .ref (xa 3), .ref (xa 5), .ref (xa 7), .ref (xa 9), .ref (xa 11)])), ((xa 1), .inl (cy 1, 8, .inl (fun _ => 0))), ((xa 2), .inl (cy 4, 8, .inr (.inr (.inr (.inr (fun _ => none)))))), ((xa 50), .inr (11, [.long 0, .int 0, .int 0, .int 0, .long 900])), ((ma 0), .inr (4, [.int 0, .ref (g 0), .int 0])), (aj, .inl (cy 2, 1, .inr (.inl (fun _ => 0)))), (am, .inr (15, [.int 1, .ref (ma 0), .int 0, .int 0, .int 0, .int 0, .ref (ma 1), .ref (ma 2), .null, .int 1, .int 10, .int 900, .ref (ma 3), .ref (ma 4), .int 0, .int 0, .int 0, .ref (ma 5), .int 1000, .int 50, .int 50, .int 1000, .int 10, .int 0, .int 3000, .int 0, .int 0, .int 0]))] := hD
        refine lv_iload hx hb dL_law_305 (lv_at hl 1 rfl) ?_
        refine lv_icmp_eq (tgt := 312) hx hb dL_law_307 (by decide) (fun _ => ?_) (fun z => absurd (by decide) z)
        refine lv_iload hx hb dL_law_312 (lv_at hl 1 rfl) ?_
        refine lv_if_ne (tgt := 329) hx hb dL_law_314 (by decide) (fun _ => ?_) (fun z => absurd z (by decide))
        refine lv_goto (tgt := 2947) hx hb dL_law_329 (by decide) ?_
        exact law_tail LC hS (Nat.le_of_ble_eq_true rfl) (Nat.le_of_ble_eq_true rfl) (lv_sub hl [2, 7] rfl)
      · by_cases c3 : (1000 : Int32) < x2
        · refine lv_aload_n hx hb dL_law_264 rfl (lv_at hl 4 rfl) ?_
          refine lv_aload_n hx hb dL_law_265 rfl (lv_at hl 5 rfl) ?_
          refine lv_iload hx hb dL_law_266 (lv_at hl 0 rfl) ?_
          refine lv_iconst (v := 1) hx hb dL_law_268 (by decide) ?_
          refine lv_iadd hx hb dL_law_269 ?_
          refine tp_i 1 (by decide) ?_
          refine va_sld hx hb hX hbl hbA hS (by unfold vp_in; decide) dL_law_270 ?_
          refine tp_i x1 e1 ?_
          refine lv_aload_n hx hb dL_law_271 rfl (lv_at hl 5 rfl) ?_
          refine lv_iload hx hb dL_law_272 (lv_at hl 0 rfl) ?_
          refine lv_iconst (v := 2) hx hb dL_law_274 (by decide) ?_
          refine lv_iadd hx hb dL_law_275 ?_
          refine tp_i 2 (by decide) ?_
          refine va_sld hx hb hX hbl hbA hS (by unfold vp_in; decide) dL_law_276 ?_
          refine tp_i x2 e2 ?_
          refine lv_aload_n hx hb dL_law_277 rfl (lv_at hl 2 rfl) ?_
          refine ca_i (isC := [0]) (isR := [1, 2, 3, 4, 5, 6, 7]) (wr := [((xa 0), .inr (5, [.ref (xa 1), .ref (xa 2), .int 0, .ref (xa 3), .ref (xa 5), .ref (xa 7), .ref (xa 9), .ref (xa 11)])), ((xa 1), .inl (cy 1, 8, .inl (fun _ => 0))), ((xa 2), .inl (cy 4, 8, .inr (.inr (.inr (.inr (fun _ => none)))))), ((xa 50), .inr (11, [.long 0, .int 0, .int 0, .int 0, .long 900])), (am, .inr (15, [.int 0, .ref (ma 0), .int 0, .int 0, .int 0, .int 0, .ref (ma 1), .ref (ma 2), .null, .int 1, .int 10, .int 900, .ref (ma 3), .ref (ma 4), .int 0, .int 0, .int 0, .ref (ma 5), .int 1000, .int 50, .int 50, .int 1000, .int 10, .int 0, .int 3000, .int 0, .int 0, .int 0])), ((ma 0), .inr (4, [.int 0, .ref (g 0), .int 0])), (aj, .inl (cy 2, 1, .inr (.inl (fun _ => 0))))]) (rn_SW (isC := [0]) (wc := [(ax, .inr (14, [.ref (xa 0), .ref (xa 13), .ref (xa 18), .ref (xa 34), .ref (xa 45), .ref (xa 49), .ref (xa 50)]))]) (As := [.ref ax, .int x1, .int x2, .ref aj]) (rest := []) (n := 4) hx hb hml hown hts hE hS hP hD hA hl.1 (k36_L_addBody l hst D cy g x1 x2 ax aj (.ref (xa 0)) (.ref (xa 13)) (.ref (xa 18)) (.ref (xa 34)) (.ref (xa 45)) (.ref (xa 49)) (.ref (xa 50)) H.size c0 c1 c2 c3) rfl rfl ax_35 rfl rfl ax_36 ⟨Nat.le_of_ble_eq_true rfl, Nat.le_of_ble_eq_true rfl⟩ rfl rfl (Nat.le_of_ble_eq_true rfl) dL_law_278 ⟨(Nat.le_of_ble_eq_true rfl), (Nat.le_of_ble_eq_true rfl)⟩) hP hD hS hA rfl rfl rfl (by decide) (fun ad278 H locs hP hD hS => ?_)
          have hP : va_P D vwCl [((xa 0), .inr (5, [.ref (xa 1), .ref (xa 2), .int 0, .ref (xa 3), .ref (xa 5), .ref (xa 7), .ref (xa 9), .ref (xa 11)])), ((xa 1), .inl (cy 1, 8, .inl (fun _ => 0))), ((xa 2), .inl (cy 4, 8, .inr (.inr (.inr (.inr (fun _ => none)))))), ((xa 50), .inr (11, [.long 0, .int 0, .int 0, .int 0, .long 900])), (am, .inr (15, [.int 0, .ref (ma 0), .int 0, .int 0, .int 0, .int 0, .ref (ma 1), .ref (ma 2), .null, .int 1, .int 10, .int 900, .ref (ma 3), .ref (ma 4), .int 0, .int 0, .int 0, .ref (ma 5), .int 1000, .int 50, .int 50, .int 1000, .int 10, .int 0, .int 3000, .int 0, .int 0, .int 0])), ((ma 0), .inr (4, [.int 0, .ref (g 0), .int 0])), (aj, .inl (cy 2, 1, .inr (.inl (fun _ => 0))))] H := hP
          have hD : va_D (AL s) [((xa 0), .inr (5, [.ref (xa 1), .ref (xa 2), .int 0, .ref (xa 3), .ref (xa 5), .ref (xa 7), .ref (xa 9), .ref (xa 11)])), ((xa 1), .inl (cy 1, 8, .inl (fun _ => 0))), ((xa 2), .inl (cy 4, 8, .inr (.inr (.inr (.inr (fun _ => none)))))), ((xa 50), .inr (11, [.long 0, .int 0, .int 0, .int 0, .long 900])), (am, .inr (15, [.int 0, .ref (ma 0), .int 0, .int 0, .int 0, .int 0, .ref (ma 1), .ref (ma 2), .null, .int 1, .int 10, .int 900, .ref (ma 3), .ref (ma 4), .int 0, .int 0, .int 0, .ref (ma 5), .int 1000, .int 50, .int 50, .int 1000, .int 10, .int 0, .int 3000, .int 0, .int 0, .int 0])), ((ma 0), .inr (4, [.int 0, .ref (g 0), .int 0])), (aj, .inl (cy 2, 1, .inr (.inl (fun _ => 0))))] := hD
          refine lv_istore (lv' := [(6, .int 1), (5, .int 0), (4, .ref ao), (3, .ref aj), (2, .ref am), (1, .ref ax), (0, .ref b)]) hx hb dL_law_281 hl (Nat.le_of_ble_eq_true rfl) rfl (fun ls hl => ?_)
          refine lv_aload_n hx hb dL_law_283 rfl (lv_at hl 4 rfl) ?_
          refine lv_aload_n hx hb dL_law_284 rfl (lv_at hl 6 rfl) ?_
          refine lv_iload hx hb dL_law_285 (lv_at hl 1 rfl) ?_
          refine lv_iconst (v := 1) hx hb dL_law_287 (by decide) ?_
          refine lv_iadd hx hb dL_law_288 ?_
          refine tp_i 1 (by decide) ?_
          refine va_sld hx hb hX hbl hbA hS (by unfold vp_in; decide) dL_law_289 ?_
          refine tp_i x1 e1 ?_
          refine lv_aload_n hx hb dL_law_290 rfl (lv_at hl 6 rfl) ?_
          refine lv_iload hx hb dL_law_291 (lv_at hl 1 rfl) ?_
          refine lv_iconst (v := 2) hx hb dL_law_293 (by decide) ?_
          refine lv_iadd hx hb dL_law_294 ?_
          refine tp_i 2 (by decide) ?_
          refine va_sld hx hb hX hbl hbA hS (by unfold vp_in; decide) dL_law_295 ?_
          refine tp_i x2 e2 ?_
          refine ca_i (isC := [4]) (isR := [0, 1, 2, 3, 5, 6]) (wr := [((xa 0), .inr (5, [.ref (xa 1), .ref (xa 2), .int 0, .ref (xa 3), .ref (xa 5), .ref (xa 7), .ref (xa 9), .ref (xa 11)])), ((xa 1), .inl (cy 1, 8, .inl (fun _ => 0))), ((xa 2), .inl (cy 4, 8, .inr (.inr (.inr (.inr (fun _ => none)))))), ((xa 50), .inr (11, [.long 0, .int 0, .int 0, .int 0, .long 900])), ((ma 0), .inr (4, [.int 0, .ref (g 0), .int 0])), (aj, .inl (cy 2, 1, .inr (.inl (fun _ => 0))))]) (rn_V (ci := 15) (q0 := 4) (isC := [4]) (wc := [(am, .inr (15, [.int 0, .ref (ma 0), .int 0, .int 0, .int 0, .int 0, .ref (ma 1), .ref (ma 2), .null, .int 1, .int 10, .int 900, .ref (ma 3), .ref (ma 4), .int 0, .int 0, .int 0, .ref (ma 5), .int 1000, .int 50, .int 50, .int 1000, .int 10, .int 0, .int 3000, .int 0, .int 0, .int 0]))]) (As := [.int x1, .int x2]) (rest := []) (n := 2) hx hb hml hown hts hE hS hP hD hA hl.1 (k37_X10_addBody l D cy g x1 x2 am (.int 0) (.ref (ma 0)) (.int 0) (.int 0) (.int 0) (.int 0) (.ref (ma 1)) (.ref (ma 2)) (.null) (.int 1) (.int 10) (.int 900) (.ref (ma 3)) (.ref (ma 4)) (.int 0) (.int 0) (.int 0) (.ref (ma 5)) (.int 1000) (.int 50) (.int 50) (.int 1000) (.int 10) (.int 0) (.int 3000) (.int 0) (.int 0) (.int 0) H.size c0 c1 c2 c3) rfl rfl rfl rfl rfl ax_43 rfl rfl ax_44 ⟨Nat.le_of_ble_eq_true rfl, Nat.le_of_ble_eq_true rfl⟩ rfl rfl (Nat.le_of_ble_eq_true rfl) dL_law_296 ⟨(Nat.le_of_ble_eq_true rfl), (Nat.le_of_ble_eq_true rfl)⟩) hP hD hS hA rfl rfl rfl (by decide) (fun ad296 H locs hP hD hS => ?_)
          have hP : va_P D vwCl [((xa 0), .inr (5, [.ref (xa 1), .ref (xa 2), .int 0, .ref (xa 3), .ref (xa 5), .ref (xa 7), .ref (xa 9), .ref (xa 11)])), ((xa 1), .inl (cy 1, 8, .inl (fun _ => 0))), ((xa 2), .inl (cy 4, 8, .inr (.inr (.inr (.inr (fun _ => none)))))), ((xa 50), .inr (11, [.long 0, .int 0, .int 0, .int 0, .long 900])), ((ma 0), .inr (4, [.int 0, .ref (g 0), .int 0])), (aj, .inl (cy 2, 1, .inr (.inl (fun _ => 0)))), (am, .inr (15, [.int 1, .ref (ma 0), .int 0, .int 0, .int 0, .int 0, .ref (ma 1), .ref (ma 2), .null, .int 1, .int 10, .int 900, .ref (ma 3), .ref (ma 4), .int 0, .int 0, .int 0, .ref (ma 5), .int 1000, .int 50, .int 50, .int 1000, .int 10, .int 0, .int 3000, .int 0, .int 0, .int 0]))] H := hP
          have hD : va_D (AL s) [((xa 0), .inr (5, [.ref (xa 1), .ref (xa 2), .int 0, .ref (xa 3), .ref (xa 5), .ref (xa 7), .ref (xa 9), .ref (xa 11)])), ((xa 1), .inl (cy 1, 8, .inl (fun _ => 0))), ((xa 2), .inl (cy 4, 8, .inr (.inr (.inr (.inr (fun _ => none)))))), ((xa 50), .inr (11, [.long 0, .int 0, .int 0, .int 0, .long 900])), ((ma 0), .inr (4, [.int 0, .ref (g 0), .int 0])), (aj, .inl (cy 2, 1, .inr (.inl (fun _ => 0)))), (am, .inr (15, [.int 1, .ref (ma 0), .int 0, .int 0, .int 0, .int 0, .ref (ma 1), .ref (ma 2), .null, .int 1, .int 10, .int 900, .ref (ma 3), .ref (ma 4), .int 0, .int 0, .int 0, .ref (ma 5), .int 1000, .int 50, .int 50, .int 1000, .int 10, .int 0, .int 3000, .int 0, .int 0, .int 0]))] := hD
          refine lv_istore (lv' := [(7, .int (-1)), (6, .int 1), (5, .int 0), (4, .ref ao), (3, .ref aj), (2, .ref am), (1, .ref ax), (0, .ref b)]) hx hb dL_law_299 hl (Nat.le_of_ble_eq_true rfl) rfl (fun ls hl => ?_)
          refine lv_aload_n hx hb dL_law_301 rfl (lv_at hl 5 rfl) ?_
          refine ca_i (isC := [6]) (isR := [0, 1, 2, 3, 4, 5]) (wr := [((xa 0), .inr (5, [.ref (xa 1), .ref (xa 2), .int 0, .ref (xa 3), .ref (xa 5), .ref (xa 7), .ref (xa 9), .ref (xa 11)])), ((xa 1), .inl (cy 1, 8, .inl (fun _ => 0))), ((xa 2), .inl (cy 4, 8, .inr (.inr (.inr (.inr (fun _ => none)))))), ((xa 50), .inr (11, [.long 0, .int 0, .int 0, .int 0, .long 900])), ((ma 0), .inr (4, [.int 0, .ref (g 0), .int 0])), (aj, .inl (cy 2, 1, .inr (.inl (fun _ => 0))))]) (rn_V (ci := 15) (q0 := 6) (isC := [6]) (wc := [(am, .inr (15, [.int 1, .ref (ma 0), .int 0, .int 0, .int 0, .int 0, .ref (ma 1), .ref (ma 2), .null, .int 1, .int 10, .int 900, .ref (ma 3), .ref (ma 4), .int 0, .int 0, .int 0, .ref (ma 5), .int 1000, .int 50, .int 50, .int 1000, .int 10, .int 0, .int 3000, .int 0, .int 0, .int 0]))]) (As := []) (rest := []) (n := 0) hx hb hml hown hts hE hS hP hD hA hl.1 (k24_X10_thrown l D cy g am (.ref (ma 0)) (.int 0) (.int 0) (.int 0) (.int 0) (.ref (ma 1)) (.ref (ma 2)) (.null) (.int 1) (.int 10) (.int 900) (.ref (ma 3)) (.ref (ma 4)) (.int 0) (.int 0) (.int 0) (.ref (ma 5)) (.int 1000) (.int 50) (.int 50) (.int 1000) (.int 10) (.int 0) (.int 3000) (.int 0) (.int 0) (.int 0) H.size ) rfl rfl rfl rfl rfl ax_45 rfl rfl ax_46 ⟨Nat.le_of_ble_eq_true rfl, Nat.le_of_ble_eq_true rfl⟩ rfl rfl (Nat.le_of_ble_eq_true rfl) dL_law_302 ⟨(Nat.le_of_ble_eq_true rfl), (Nat.le_of_ble_eq_true rfl)⟩) hP hD hS hA rfl rfl rfl (by decide) (fun ad302 H locs hP hD hS => ?_)
          have hP : va_P D vwCl [((xa 0), .inr (5, [.ref (xa 1), .ref (xa 2), .int 0, .ref (xa 3), .ref (xa 5), .ref (xa 7), .ref (xa 9), .ref (xa 11)])), ((xa 1), .inl (cy 1, 8, .inl (fun _ => 0))), ((xa 2), .inl (cy 4, 8, .inr (.inr (.inr (.inr (fun _ => none)))))), ((xa 50), .inr (11, [.long 0, .int 0, .int 0, .int 0, .long 900])), ((ma 0), .inr (4, [.int 0, .ref (g 0), .int 0])), (aj, .inl (cy 2, 1, .inr (.inl (fun _ => 0)))), (am, .inr (15, [.int 1, .ref (ma 0), .int 0, .int 0, .int 0, .int 0, .ref (ma 1), .ref (ma 2), .null, .int 1, .int 10, .int 900, .ref (ma 3), .ref (ma 4), .int 0, .int 0, .int 0, .ref (ma 5), .int 1000, .int 50, .int 50, .int 1000, .int 10, .int 0, .int 3000, .int 0, .int 0, .int 0]))] H := hP
          have hD : va_D (AL s) [((xa 0), .inr (5, [.ref (xa 1), .ref (xa 2), .int 0, .ref (xa 3), .ref (xa 5), .ref (xa 7), .ref (xa 9), .ref (xa 11)])), ((xa 1), .inl (cy 1, 8, .inl (fun _ => 0))), ((xa 2), .inl (cy 4, 8, .inr (.inr (.inr (.inr (fun _ => none)))))), ((xa 50), .inr (11, [.long 0, .int 0, .int 0, .int 0, .long 900])), ((ma 0), .inr (4, [.int 0, .ref (g 0), .int 0])), (aj, .inl (cy 2, 1, .inr (.inl (fun _ => 0)))), (am, .inr (15, [.int 1, .ref (ma 0), .int 0, .int 0, .int 0, .int 0, .ref (ma 1), .ref (ma 2), .null, .int 1, .int 10, .int 900, .ref (ma 3), .ref (ma 4), .int 0, .int 0, .int 0, .ref (ma 5), .int 1000, .int 50, .int 50, .int 1000, .int 10, .int 0, .int 3000, .int 0, .int 0, .int 0]))] := hD
          refine lv_iload hx hb dL_law_305 (lv_at hl 1 rfl) ?_
          refine lv_icmp_eq (tgt := 312) hx hb dL_law_307 (by decide) (fun _ => ?_) (fun z => absurd (by decide) z)
          refine lv_iload hx hb dL_law_312 (lv_at hl 1 rfl) ?_
          refine lv_if_ne (tgt := 329) hx hb dL_law_314 (by decide) (fun _ => ?_) (fun z => absurd z (by decide))
          refine lv_goto (tgt := 2947) hx hb dL_law_329 (by decide) ?_
          exact law_tail LC hS (Nat.le_of_ble_eq_true rfl) (Nat.le_of_ble_eq_true rfl) (lv_sub hl [2, 7] rfl)
        · by_cases c4 : ((x1 * x2).toInt64 &&& 1125899906842623) = 0
          · by_cases c5 : (x1 * x2).toInt64 < 1125899906842624
            · refine lv_aload_n hx hb dL_law_264 rfl (lv_at hl 4 rfl) ?_
              refine lv_aload_n hx hb dL_law_265 rfl (lv_at hl 5 rfl) ?_
              refine lv_iload hx hb dL_law_266 (lv_at hl 0 rfl) ?_
              refine lv_iconst (v := 1) hx hb dL_law_268 (by decide) ?_
              refine lv_iadd hx hb dL_law_269 ?_
              refine tp_i 1 (by decide) ?_
              refine va_sld hx hb hX hbl hbA hS (by unfold vp_in; decide) dL_law_270 ?_
              refine tp_i x1 e1 ?_
              refine lv_aload_n hx hb dL_law_271 rfl (lv_at hl 5 rfl) ?_
              refine lv_iload hx hb dL_law_272 (lv_at hl 0 rfl) ?_
              refine lv_iconst (v := 2) hx hb dL_law_274 (by decide) ?_
              refine lv_iadd hx hb dL_law_275 ?_
              refine tp_i 2 (by decide) ?_
              refine va_sld hx hb hX hbl hbA hS (by unfold vp_in; decide) dL_law_276 ?_
              refine tp_i x2 e2 ?_
              refine lv_aload_n hx hb dL_law_277 rfl (lv_at hl 2 rfl) ?_
              refine ca_i (isC := [0, 1, 4, 2, 3, 7]) (isR := [5, 6]) (wr := [(am, .inr (15, [.int 0, .ref (ma 0), .int 0, .int 0, .int 0, .int 0, .ref (ma 1), .ref (ma 2), .null, .int 1, .int 10, .int 900, .ref (ma 3), .ref (ma 4), .int 0, .int 0, .int 0, .ref (ma 5), .int 1000, .int 50, .int 50, .int 1000, .int 10, .int 0, .int 3000, .int 0, .int 0, .int 0])), ((ma 0), .inr (4, [.int 0, .ref (g 0), .int 0]))]) (rn_SW (isC := [0, 1, 4, 2, 3, 7]) (wc := [(ax, .inr (14, [.ref (xa 0), .ref (xa 13), .ref (xa 18), .ref (xa 34), .ref (xa 45), .ref (xa 49), .ref (xa 50)])), ((xa 0), .inr (5, [.ref (xa 1), .ref (xa 2), .int 0, .ref (xa 3), .ref (xa 5), .ref (xa 7), .ref (xa 9), .ref (xa 11)])), ((xa 50), .inr (11, [.long 0, .int 0, .int 0, .int 0, .long 900])), ((xa 1), .inl (cy 1, 8, .inl (fun _ => 0))), ((xa 2), .inl (cy 4, 8, .inr (.inr (.inr (.inr (fun _ => none)))))), (aj, .inl (cy 2, 1, .inr (.inl (fun _ => 0))))]) (As := [.ref ax, .int x1, .int x2, .ref aj]) (rest := []) (n := 4) hx hb hml hown hts hE hS hP hD hA hl.1 (k42_L_addBody l D cy g x1 x2 ax (xa 0) (xa 50) (xa 1) (xa 2) aj (.ref (xa 13)) (.ref (xa 18)) (.ref (xa 34)) (.ref (xa 45)) (.ref (xa 49)) (.ref (xa 3)) (.ref (xa 5)) (.ref (xa 7)) (.ref (xa 9)) (.ref (xa 11)) (.long 0) (.int 0) (.int 0) (.int 0) (fun _ => 0) (fun _ => 0) H.size c0 c1 c2 c3 c4 c5) rfl rfl ax_35 rfl rfl ax_36 ⟨Nat.le_of_ble_eq_true rfl, Nat.le_of_ble_eq_true rfl⟩ rfl rfl (Nat.le_of_ble_eq_true rfl) dL_law_278 ⟨(Nat.le_of_ble_eq_true rfl), (Nat.le_of_ble_eq_true rfl)⟩) hP hD hS hA rfl rfl rfl (by decide) (fun ad278 H locs hP hD hS => ?_)
              have hP : va_P D vwCl [(am, .inr (15, [.int 0, .ref (ma 0), .int 0, .int 0, .int 0, .int 0, .ref (ma 1), .ref (ma 2), .null, .int 1, .int 10, .int 900, .ref (ma 3), .ref (ma 4), .int 0, .int 0, .int 0, .ref (ma 5), .int 1000, .int 50, .int 50, .int 1000, .int 10, .int 0, .int 3000, .int 0, .int 0, .int 0])), ((ma 0), .inr (4, [.int 0, .ref (g 0), .int 0])), (aj, .inl (cy 2, 1, .inr (.inl (vp_updL (fun _ => 0) (0 : Int32).toNatClampNeg 0))))] H := hP
              have hD : va_D (AL s) [(am, .inr (15, [.int 0, .ref (ma 0), .int 0, .int 0, .int 0, .int 0, .ref (ma 1), .ref (ma 2), .null, .int 1, .int 10, .int 900, .ref (ma 3), .ref (ma 4), .int 0, .int 0, .int 0, .ref (ma 5), .int 1000, .int 50, .int 50, .int 1000, .int 10, .int 0, .int 3000, .int 0, .int 0, .int 0])), ((ma 0), .inr (4, [.int 0, .ref (g 0), .int 0])), (aj, .inl (cy 2, 1, .inr (.inl (vp_updL (fun _ => 0) (0 : Int32).toNatClampNeg 0))))] := hD
              refine lv_istore (lv' := [(6, .int 0), (5, .int 0), (4, .ref ao), (3, .ref aj), (2, .ref am), (1, .ref ax), (0, .ref b)]) hx hb dL_law_281 hl (Nat.le_of_ble_eq_true rfl) rfl (fun ls hl => ?_)
              refine lv_aload_n hx hb dL_law_283 rfl (lv_at hl 4 rfl) ?_
              refine lv_aload_n hx hb dL_law_284 rfl (lv_at hl 6 rfl) ?_
              refine lv_iload hx hb dL_law_285 (lv_at hl 1 rfl) ?_
              refine lv_iconst (v := 1) hx hb dL_law_287 (by decide) ?_
              refine lv_iadd hx hb dL_law_288 ?_
              refine tp_i 1 (by decide) ?_
              refine va_sld hx hb hX hbl hbA hS (by unfold vp_in; decide) dL_law_289 ?_
              refine tp_i x1 e1 ?_
              refine lv_aload_n hx hb dL_law_290 rfl (lv_at hl 6 rfl) ?_
              refine lv_iload hx hb dL_law_291 (lv_at hl 1 rfl) ?_
              refine lv_iconst (v := 2) hx hb dL_law_293 (by decide) ?_
              refine lv_iadd hx hb dL_law_294 ?_
              refine tp_i 2 (by decide) ?_
              refine va_sld hx hb hX hbl hbA hS (by unfold vp_in; decide) dL_law_295 ?_
              refine tp_i x2 e2 ?_
              refine ca_i (isC := [0, 1]) (isR := [2]) (wr := [(aj, .inl (cy 2, 1, .inr (.inl (vp_updL (fun _ => 0) (0 : Int32).toNatClampNeg 0))))]) (rn_V (ci := 15) (q0 := 0) (isC := [0, 1]) (wc := [(am, .inr (15, [.int 0, .ref (ma 0), .int 0, .int 0, .int 0, .int 0, .ref (ma 1), .ref (ma 2), .null, .int 1, .int 10, .int 900, .ref (ma 3), .ref (ma 4), .int 0, .int 0, .int 0, .ref (ma 5), .int 1000, .int 50, .int 50, .int 1000, .int 10, .int 0, .int 3000, .int 0, .int 0, .int 0])), ((ma 0), .inr (4, [.int 0, .ref (g 0), .int 0]))]) (As := [.int x1, .int x2]) (rest := []) (n := 2) hx hb hml hown hts hE hS hP hD hA hl.1 (k51_X10_addBody l D cy g x1 x2 am (ma 0) (.int 0) (.int 0) (.int 0) (.int 0) (.int 0) (.ref (ma 1)) (.ref (ma 2)) (.null) (.int 1) (.int 10) (.int 900) (.ref (ma 3)) (.ref (ma 4)) (.int 0) (.int 0) (.int 0) (.ref (ma 5)) (.int 1000) (.int 50) (.int 50) (.int 1000) (.int 10) (.int 0) (.int 3000) (.int 0) (.int 0) (.int 0) H.size c0 c1 c2 c3) rfl rfl rfl rfl rfl ax_43 rfl rfl ax_44 ⟨Nat.le_of_ble_eq_true rfl, Nat.le_of_ble_eq_true rfl⟩ rfl rfl (Nat.le_of_ble_eq_true rfl) dL_law_296 ⟨(Nat.le_of_ble_eq_true rfl), (Nat.le_of_ble_eq_true rfl)⟩) hP hD hS hA rfl rfl rfl (by decide) (fun ad296 H locs hP hD hS => ?_)
              have hP : va_P D vwCl [(aj, .inl (cy 2, 1, .inr (.inl (vp_updL (fun _ => 0) (0 : Int32).toNatClampNeg 0)))), (am, .inr (15, [.int 0, .ref (ma 0), .int 0, .int 0, .int 0, .int 0, .ref (ma 1), .ref (ma 2), .null, .int 1, .int 10, .int 900, .ref (ma 3), .ref (ma 4), .int 0, .int 0, .int 0, .ref (ma 5), .int 1000, .int 50, .int 50, .int 1000, .int 10, .int 0, .int 3000, .int 0, .int 0, .int 0]))] H := hP
              have hD : va_D (AL s) [(aj, .inl (cy 2, 1, .inr (.inl (vp_updL (fun _ => 0) (0 : Int32).toNatClampNeg 0)))), (am, .inr (15, [.int 0, .ref (ma 0), .int 0, .int 0, .int 0, .int 0, .ref (ma 1), .ref (ma 2), .null, .int 1, .int 10, .int 900, .ref (ma 3), .ref (ma 4), .int 0, .int 0, .int 0, .ref (ma 5), .int 1000, .int 50, .int 50, .int 1000, .int 10, .int 0, .int 3000, .int 0, .int 0, .int 0]))] := hD
              refine lv_istore (lv' := [(7, .int 0), (6, .int 0), (5, .int 0), (4, .ref ao), (3, .ref aj), (2, .ref am), (1, .ref ax), (0, .ref b)]) hx hb dL_law_299 hl (Nat.le_of_ble_eq_true rfl) rfl (fun ls hl => ?_)
              refine lv_aload_n hx hb dL_law_301 rfl (lv_at hl 5 rfl) ?_
              refine ca_i (isC := [1]) (isR := [0]) (wr := [(aj, .inl (cy 2, 1, .inr (.inl (vp_updL (fun _ => 0) (0 : Int32).toNatClampNeg 0))))]) (rn_V (ci := 15) (q0 := 1) (isC := [1]) (wc := [(am, .inr (15, [.int 0, .ref (ma 0), .int 0, .int 0, .int 0, .int 0, .ref (ma 1), .ref (ma 2), .null, .int 1, .int 10, .int 900, .ref (ma 3), .ref (ma 4), .int 0, .int 0, .int 0, .ref (ma 5), .int 1000, .int 50, .int 50, .int 1000, .int 10, .int 0, .int 3000, .int 0, .int 0, .int 0]))]) (As := []) (rest := []) (n := 0) hx hb hml hown hts hE hS hP hD hA hl.1 (k52_X10_thrown l D cy g am (.ref (ma 0)) (.int 0) (.int 0) (.int 0) (.int 0) (.ref (ma 1)) (.ref (ma 2)) (.null) (.int 1) (.int 10) (.int 900) (.ref (ma 3)) (.ref (ma 4)) (.int 0) (.int 0) (.int 0) (.ref (ma 5)) (.int 1000) (.int 50) (.int 50) (.int 1000) (.int 10) (.int 0) (.int 3000) (.int 0) (.int 0) (.int 0) H.size ) rfl rfl rfl rfl rfl ax_45 rfl rfl ax_46 ⟨Nat.le_of_ble_eq_true rfl, Nat.le_of_ble_eq_true rfl⟩ rfl rfl (Nat.le_of_ble_eq_true rfl) dL_law_302 ⟨(Nat.le_of_ble_eq_true rfl), (Nat.le_of_ble_eq_true rfl)⟩) hP hD hS hA rfl rfl rfl (by decide) (fun ad302 H locs hP hD hS => ?_)
              have hP : va_P D vwCl [(aj, .inl (cy 2, 1, .inr (.inl (vp_updL (fun _ => 0) (0 : Int32).toNatClampNeg 0)))), (am, .inr (15, [.int 0, .ref (ma 0), .int 0, .int 0, .int 0, .int 0, .ref (ma 1), .ref (ma 2), .null, .int 1, .int 10, .int 900, .ref (ma 3), .ref (ma 4), .int 0, .int 0, .int 0, .ref (ma 5), .int 1000, .int 50, .int 50, .int 1000, .int 10, .int 0, .int 3000, .int 0, .int 0, .int 0]))] H := hP
              have hD : va_D (AL s) [(aj, .inl (cy 2, 1, .inr (.inl (vp_updL (fun _ => 0) (0 : Int32).toNatClampNeg 0)))), (am, .inr (15, [.int 0, .ref (ma 0), .int 0, .int 0, .int 0, .int 0, .ref (ma 1), .ref (ma 2), .null, .int 1, .int 10, .int 900, .ref (ma 3), .ref (ma 4), .int 0, .int 0, .int 0, .ref (ma 5), .int 1000, .int 50, .int 50, .int 1000, .int 10, .int 0, .int 3000, .int 0, .int 0, .int 0]))] := hD
              refine lv_iload hx hb dL_law_305 (lv_at hl 1 rfl) ?_
              refine lv_icmp_eq (tgt := 312) hx hb dL_law_307 (by decide) (fun _ => ?_) (fun z => absurd (by decide) z)
              refine lv_iload hx hb dL_law_312 (lv_at hl 1 rfl) ?_
              refine lv_if_ne (tgt := 329) hx hb dL_law_314 (by decide) (fun z => absurd (by decide) z) (fun _ => ?_)
              refine lv_aload_n hx hb dL_law_317 rfl (lv_at hl 4 rfl) ?_
              refine lv_iconst (v := 0) hx hb dL_law_318 (by decide) ?_
              refine va_lald hx hb hE.1 hP 0 2 rfl rfl (by unfold vp_in; decide) dL_law_319 ?_
              refine tp_l 0 rfl ?_
              refine lv_iload hx hb dL_law_320 (lv_at hl 0 rfl) ?_
              refine lv_i2l (v := 0) hx hb dL_law_322 (by decide) ?_
              refine W.lcmp hx hb dL_law_323 ?_
              refine tp_i 0 (by decide) ?_
              refine lv_if_eq (tgt := 329) hx hb dL_law_324 (by decide) (fun _ => ?_) (fun z => absurd (by decide) z)
              refine lv_goto (tgt := 2947) hx hb dL_law_329 (by decide) ?_
              exact law_tail LC hS (Nat.le_of_ble_eq_true rfl) (Nat.le_of_ble_eq_true rfl) (lv_sub hl [2, 7] rfl)
            · refine lv_aload_n hx hb dL_law_264 rfl (lv_at hl 4 rfl) ?_
              refine lv_aload_n hx hb dL_law_265 rfl (lv_at hl 5 rfl) ?_
              refine lv_iload hx hb dL_law_266 (lv_at hl 0 rfl) ?_
              refine lv_iconst (v := 1) hx hb dL_law_268 (by decide) ?_
              refine lv_iadd hx hb dL_law_269 ?_
              refine tp_i 1 (by decide) ?_
              refine va_sld hx hb hX hbl hbA hS (by unfold vp_in; decide) dL_law_270 ?_
              refine tp_i x1 e1 ?_
              refine lv_aload_n hx hb dL_law_271 rfl (lv_at hl 5 rfl) ?_
              refine lv_iload hx hb dL_law_272 (lv_at hl 0 rfl) ?_
              refine lv_iconst (v := 2) hx hb dL_law_274 (by decide) ?_
              refine lv_iadd hx hb dL_law_275 ?_
              refine tp_i 2 (by decide) ?_
              refine va_sld hx hb hX hbl hbA hS (by unfold vp_in; decide) dL_law_276 ?_
              refine tp_i x2 e2 ?_
              refine lv_aload_n hx hb dL_law_277 rfl (lv_at hl 2 rfl) ?_
              refine ca_i (isC := [0, 1, 4, 2, 3, 7]) (isR := [5, 6]) (wr := [(am, .inr (15, [.int 0, .ref (ma 0), .int 0, .int 0, .int 0, .int 0, .ref (ma 1), .ref (ma 2), .null, .int 1, .int 10, .int 900, .ref (ma 3), .ref (ma 4), .int 0, .int 0, .int 0, .ref (ma 5), .int 1000, .int 50, .int 50, .int 1000, .int 10, .int 0, .int 3000, .int 0, .int 0, .int 0])), ((ma 0), .inr (4, [.int 0, .ref (g 0), .int 0]))]) (rn_SW (isC := [0, 1, 4, 2, 3, 7]) (wc := [(ax, .inr (14, [.ref (xa 0), .ref (xa 13), .ref (xa 18), .ref (xa 34), .ref (xa 45), .ref (xa 49), .ref (xa 50)])), ((xa 0), .inr (5, [.ref (xa 1), .ref (xa 2), .int 0, .ref (xa 3), .ref (xa 5), .ref (xa 7), .ref (xa 9), .ref (xa 11)])), ((xa 50), .inr (11, [.long 0, .int 0, .int 0, .int 0, .long 900])), ((xa 1), .inl (cy 1, 8, .inl (fun _ => 0))), ((xa 2), .inl (cy 4, 8, .inr (.inr (.inr (.inr (fun _ => none)))))), (aj, .inl (cy 2, 1, .inr (.inl (fun _ => 0))))]) (As := [.ref ax, .int x1, .int x2, .ref aj]) (rest := []) (n := 4) hx hb hml hown hts hE hS hP hD hA hl.1 (k57_L_addBody l D cy g x1 x2 ax (xa 0) (xa 50) (xa 1) (xa 2) aj (.ref (xa 13)) (.ref (xa 18)) (.ref (xa 34)) (.ref (xa 45)) (.ref (xa 49)) (.ref (xa 3)) (.ref (xa 5)) (.ref (xa 7)) (.ref (xa 9)) (.ref (xa 11)) (.long 0) (.int 0) (.int 0) (.int 0) (fun _ => 0) (fun _ => 0) H.size c0 c1 c2 c3 c4 c5) rfl rfl ax_35 rfl rfl ax_36 ⟨Nat.le_of_ble_eq_true rfl, Nat.le_of_ble_eq_true rfl⟩ rfl rfl (Nat.le_of_ble_eq_true rfl) dL_law_278 ⟨(Nat.le_of_ble_eq_true rfl), (Nat.le_of_ble_eq_true rfl)⟩) hP hD hS hA rfl rfl rfl (by decide) (fun ad278 H locs hP hD hS => ?_)
              have hP : va_P D vwCl [(am, .inr (15, [.int 0, .ref (ma 0), .int 0, .int 0, .int 0, .int 0, .ref (ma 1), .ref (ma 2), .null, .int 1, .int 10, .int 900, .ref (ma 3), .ref (ma 4), .int 0, .int 0, .int 0, .ref (ma 5), .int 1000, .int 50, .int 50, .int 1000, .int 10, .int 0, .int 3000, .int 0, .int 0, .int 0])), ((ma 0), .inr (4, [.int 0, .ref (g 0), .int 0])), (aj, .inl (cy 2, 1, .inr (.inl (vp_updL (fun _ => 0) (0 : Int32).toNatClampNeg 0))))] H := hP
              have hD : va_D (AL s) [(am, .inr (15, [.int 0, .ref (ma 0), .int 0, .int 0, .int 0, .int 0, .ref (ma 1), .ref (ma 2), .null, .int 1, .int 10, .int 900, .ref (ma 3), .ref (ma 4), .int 0, .int 0, .int 0, .ref (ma 5), .int 1000, .int 50, .int 50, .int 1000, .int 10, .int 0, .int 3000, .int 0, .int 0, .int 0])), ((ma 0), .inr (4, [.int 0, .ref (g 0), .int 0])), (aj, .inl (cy 2, 1, .inr (.inl (vp_updL (fun _ => 0) (0 : Int32).toNatClampNeg 0))))] := hD
              refine lv_istore (lv' := [(6, .int 0), (5, .int 0), (4, .ref ao), (3, .ref aj), (2, .ref am), (1, .ref ax), (0, .ref b)]) hx hb dL_law_281 hl (Nat.le_of_ble_eq_true rfl) rfl (fun ls hl => ?_)
              refine lv_aload_n hx hb dL_law_283 rfl (lv_at hl 4 rfl) ?_
              refine lv_aload_n hx hb dL_law_284 rfl (lv_at hl 6 rfl) ?_
              refine lv_iload hx hb dL_law_285 (lv_at hl 1 rfl) ?_
              refine lv_iconst (v := 1) hx hb dL_law_287 (by decide) ?_
              refine lv_iadd hx hb dL_law_288 ?_
              refine tp_i 1 (by decide) ?_
              refine va_sld hx hb hX hbl hbA hS (by unfold vp_in; decide) dL_law_289 ?_
              refine tp_i x1 e1 ?_
              refine lv_aload_n hx hb dL_law_290 rfl (lv_at hl 6 rfl) ?_
              refine lv_iload hx hb dL_law_291 (lv_at hl 1 rfl) ?_
              refine lv_iconst (v := 2) hx hb dL_law_293 (by decide) ?_
              refine lv_iadd hx hb dL_law_294 ?_
              refine tp_i 2 (by decide) ?_
              refine va_sld hx hb hX hbl hbA hS (by unfold vp_in; decide) dL_law_295 ?_
              refine tp_i x2 e2 ?_
              refine ca_i (isC := [0, 1]) (isR := [2]) (wr := [(aj, .inl (cy 2, 1, .inr (.inl (vp_updL (fun _ => 0) (0 : Int32).toNatClampNeg 0))))]) (rn_V (ci := 15) (q0 := 0) (isC := [0, 1]) (wc := [(am, .inr (15, [.int 0, .ref (ma 0), .int 0, .int 0, .int 0, .int 0, .ref (ma 1), .ref (ma 2), .null, .int 1, .int 10, .int 900, .ref (ma 3), .ref (ma 4), .int 0, .int 0, .int 0, .ref (ma 5), .int 1000, .int 50, .int 50, .int 1000, .int 10, .int 0, .int 3000, .int 0, .int 0, .int 0])), ((ma 0), .inr (4, [.int 0, .ref (g 0), .int 0]))]) (As := [.int x1, .int x2]) (rest := []) (n := 2) hx hb hml hown hts hE hS hP hD hA hl.1 (k51_X10_addBody l D cy g x1 x2 am (ma 0) (.int 0) (.int 0) (.int 0) (.int 0) (.int 0) (.ref (ma 1)) (.ref (ma 2)) (.null) (.int 1) (.int 10) (.int 900) (.ref (ma 3)) (.ref (ma 4)) (.int 0) (.int 0) (.int 0) (.ref (ma 5)) (.int 1000) (.int 50) (.int 50) (.int 1000) (.int 10) (.int 0) (.int 3000) (.int 0) (.int 0) (.int 0) H.size c0 c1 c2 c3) rfl rfl rfl rfl rfl ax_43 rfl rfl ax_44 ⟨Nat.le_of_ble_eq_true rfl, Nat.le_of_ble_eq_true rfl⟩ rfl rfl (Nat.le_of_ble_eq_true rfl) dL_law_296 ⟨(Nat.le_of_ble_eq_true rfl), (Nat.le_of_ble_eq_true rfl)⟩) hP hD hS hA rfl rfl rfl (by decide) (fun ad296 H locs hP hD hS => ?_)
              have hP : va_P D vwCl [(aj, .inl (cy 2, 1, .inr (.inl (vp_updL (fun _ => 0) (0 : Int32).toNatClampNeg 0)))), (am, .inr (15, [.int 0, .ref (ma 0), .int 0, .int 0, .int 0, .int 0, .ref (ma 1), .ref (ma 2), .null, .int 1, .int 10, .int 900, .ref (ma 3), .ref (ma 4), .int 0, .int 0, .int 0, .ref (ma 5), .int 1000, .int 50, .int 50, .int 1000, .int 10, .int 0, .int 3000, .int 0, .int 0, .int 0]))] H := hP
              have hD : va_D (AL s) [(aj, .inl (cy 2, 1, .inr (.inl (vp_updL (fun _ => 0) (0 : Int32).toNatClampNeg 0)))), (am, .inr (15, [.int 0, .ref (ma 0), .int 0, .int 0, .int 0, .int 0, .ref (ma 1), .ref (ma 2), .null, .int 1, .int 10, .int 900, .ref (ma 3), .ref (ma 4), .int 0, .int 0, .int 0, .ref (ma 5), .int 1000, .int 50, .int 50, .int 1000, .int 10, .int 0, .int 3000, .int 0, .int 0, .int 0]))] := hD
              refine lv_istore (lv' := [(7, .int 0), (6, .int 0), (5, .int 0), (4, .ref ao), (3, .ref aj), (2, .ref am), (1, .ref ax), (0, .ref b)]) hx hb dL_law_299 hl (Nat.le_of_ble_eq_true rfl) rfl (fun ls hl => ?_)
              refine lv_aload_n hx hb dL_law_301 rfl (lv_at hl 5 rfl) ?_
              refine ca_i (isC := [1]) (isR := [0]) (wr := [(aj, .inl (cy 2, 1, .inr (.inl (vp_updL (fun _ => 0) (0 : Int32).toNatClampNeg 0))))]) (rn_V (ci := 15) (q0 := 1) (isC := [1]) (wc := [(am, .inr (15, [.int 0, .ref (ma 0), .int 0, .int 0, .int 0, .int 0, .ref (ma 1), .ref (ma 2), .null, .int 1, .int 10, .int 900, .ref (ma 3), .ref (ma 4), .int 0, .int 0, .int 0, .ref (ma 5), .int 1000, .int 50, .int 50, .int 1000, .int 10, .int 0, .int 3000, .int 0, .int 0, .int 0]))]) (As := []) (rest := []) (n := 0) hx hb hml hown hts hE hS hP hD hA hl.1 (k52_X10_thrown l D cy g am (.ref (ma 0)) (.int 0) (.int 0) (.int 0) (.int 0) (.ref (ma 1)) (.ref (ma 2)) (.null) (.int 1) (.int 10) (.int 900) (.ref (ma 3)) (.ref (ma 4)) (.int 0) (.int 0) (.int 0) (.ref (ma 5)) (.int 1000) (.int 50) (.int 50) (.int 1000) (.int 10) (.int 0) (.int 3000) (.int 0) (.int 0) (.int 0) H.size ) rfl rfl rfl rfl rfl ax_45 rfl rfl ax_46 ⟨Nat.le_of_ble_eq_true rfl, Nat.le_of_ble_eq_true rfl⟩ rfl rfl (Nat.le_of_ble_eq_true rfl) dL_law_302 ⟨(Nat.le_of_ble_eq_true rfl), (Nat.le_of_ble_eq_true rfl)⟩) hP hD hS hA rfl rfl rfl (by decide) (fun ad302 H locs hP hD hS => ?_)
              have hP : va_P D vwCl [(aj, .inl (cy 2, 1, .inr (.inl (vp_updL (fun _ => 0) (0 : Int32).toNatClampNeg 0)))), (am, .inr (15, [.int 0, .ref (ma 0), .int 0, .int 0, .int 0, .int 0, .ref (ma 1), .ref (ma 2), .null, .int 1, .int 10, .int 900, .ref (ma 3), .ref (ma 4), .int 0, .int 0, .int 0, .ref (ma 5), .int 1000, .int 50, .int 50, .int 1000, .int 10, .int 0, .int 3000, .int 0, .int 0, .int 0]))] H := hP
              have hD : va_D (AL s) [(aj, .inl (cy 2, 1, .inr (.inl (vp_updL (fun _ => 0) (0 : Int32).toNatClampNeg 0)))), (am, .inr (15, [.int 0, .ref (ma 0), .int 0, .int 0, .int 0, .int 0, .ref (ma 1), .ref (ma 2), .null, .int 1, .int 10, .int 900, .ref (ma 3), .ref (ma 4), .int 0, .int 0, .int 0, .ref (ma 5), .int 1000, .int 50, .int 50, .int 1000, .int 10, .int 0, .int 3000, .int 0, .int 0, .int 0]))] := hD
              refine lv_iload hx hb dL_law_305 (lv_at hl 1 rfl) ?_
              refine lv_icmp_eq (tgt := 312) hx hb dL_law_307 (by decide) (fun _ => ?_) (fun z => absurd (by decide) z)
              refine lv_iload hx hb dL_law_312 (lv_at hl 1 rfl) ?_
              refine lv_if_ne (tgt := 329) hx hb dL_law_314 (by decide) (fun z => absurd (by decide) z) (fun _ => ?_)
              refine lv_aload_n hx hb dL_law_317 rfl (lv_at hl 4 rfl) ?_
              refine lv_iconst (v := 0) hx hb dL_law_318 (by decide) ?_
              refine va_lald hx hb hE.1 hP 0 2 rfl rfl (by unfold vp_in; decide) dL_law_319 ?_
              refine tp_l 0 rfl ?_
              refine lv_iload hx hb dL_law_320 (lv_at hl 0 rfl) ?_
              refine lv_i2l (v := 0) hx hb dL_law_322 (by decide) ?_
              refine W.lcmp hx hb dL_law_323 ?_
              refine tp_i 0 (by decide) ?_
              refine lv_if_eq (tgt := 329) hx hb dL_law_324 (by decide) (fun _ => ?_) (fun z => absurd (by decide) z)
              refine lv_goto (tgt := 2947) hx hb dL_law_329 (by decide) ?_
              exact law_tail LC hS (Nat.le_of_ble_eq_true rfl) (Nat.le_of_ble_eq_true rfl) (lv_sub hl [2, 7] rfl)
          · by_cases c5 : (x1 * x2).toInt64 < 1125899906842624
            · refine lv_aload_n hx hb dL_law_264 rfl (lv_at hl 4 rfl) ?_
              refine lv_aload_n hx hb dL_law_265 rfl (lv_at hl 5 rfl) ?_
              refine lv_iload hx hb dL_law_266 (lv_at hl 0 rfl) ?_
              refine lv_iconst (v := 1) hx hb dL_law_268 (by decide) ?_
              refine lv_iadd hx hb dL_law_269 ?_
              refine tp_i 1 (by decide) ?_
              refine va_sld hx hb hX hbl hbA hS (by unfold vp_in; decide) dL_law_270 ?_
              refine tp_i x1 e1 ?_
              refine lv_aload_n hx hb dL_law_271 rfl (lv_at hl 5 rfl) ?_
              refine lv_iload hx hb dL_law_272 (lv_at hl 0 rfl) ?_
              refine lv_iconst (v := 2) hx hb dL_law_274 (by decide) ?_
              refine lv_iadd hx hb dL_law_275 ?_
              refine tp_i 2 (by decide) ?_
              refine va_sld hx hb hX hbl hbA hS (by unfold vp_in; decide) dL_law_276 ?_
              refine tp_i x2 e2 ?_
              refine lv_aload_n hx hb dL_law_277 rfl (lv_at hl 2 rfl) ?_
              refine ca_i (isC := [0, 1, 4, 2, 3, 7]) (isR := [5, 6]) (wr := [(am, .inr (15, [.int 0, .ref (ma 0), .int 0, .int 0, .int 0, .int 0, .ref (ma 1), .ref (ma 2), .null, .int 1, .int 10, .int 900, .ref (ma 3), .ref (ma 4), .int 0, .int 0, .int 0, .ref (ma 5), .int 1000, .int 50, .int 50, .int 1000, .int 10, .int 0, .int 3000, .int 0, .int 0, .int 0])), ((ma 0), .inr (4, [.int 0, .ref (g 0), .int 0]))]) (rn_SW (isC := [0, 1, 4, 2, 3, 7]) (wc := [(ax, .inr (14, [.ref (xa 0), .ref (xa 13), .ref (xa 18), .ref (xa 34), .ref (xa 45), .ref (xa 49), .ref (xa 50)])), ((xa 0), .inr (5, [.ref (xa 1), .ref (xa 2), .int 0, .ref (xa 3), .ref (xa 5), .ref (xa 7), .ref (xa 9), .ref (xa 11)])), ((xa 50), .inr (11, [.long 0, .int 0, .int 0, .int 0, .long 900])), ((xa 1), .inl (cy 1, 8, .inl (fun _ => 0))), ((xa 2), .inl (cy 4, 8, .inr (.inr (.inr (.inr (fun _ => none)))))), (aj, .inl (cy 2, 1, .inr (.inl (fun _ => 0))))]) (As := [.ref ax, .int x1, .int x2, .ref aj]) (rest := []) (n := 4) hx hb hml hown hts hE hS hP hD hA hl.1 (k61_L_addBody l D cy g x1 x2 ax (xa 0) (xa 50) (xa 1) (xa 2) aj (.ref (xa 13)) (.ref (xa 18)) (.ref (xa 34)) (.ref (xa 45)) (.ref (xa 49)) (.ref (xa 3)) (.ref (xa 5)) (.ref (xa 7)) (.ref (xa 9)) (.ref (xa 11)) (.long 0) (.int 0) (.int 0) (.int 0) (fun _ => 0) (fun _ => 0) H.size c0 c1 c2 c3 c4 c5) rfl rfl ax_35 rfl rfl ax_36 ⟨Nat.le_of_ble_eq_true rfl, Nat.le_of_ble_eq_true rfl⟩ rfl rfl (Nat.le_of_ble_eq_true rfl) dL_law_278 ⟨(Nat.le_of_ble_eq_true rfl), (Nat.le_of_ble_eq_true rfl)⟩) hP hD hS hA rfl rfl rfl (by decide) (fun ad278 H locs hP hD hS => ?_)
              have hP : va_P D vwCl [(am, .inr (15, [.int 0, .ref (ma 0), .int 0, .int 0, .int 0, .int 0, .ref (ma 1), .ref (ma 2), .null, .int 1, .int 10, .int 900, .ref (ma 3), .ref (ma 4), .int 0, .int 0, .int 0, .ref (ma 5), .int 1000, .int 50, .int 50, .int 1000, .int 10, .int 0, .int 3000, .int 0, .int 0, .int 0])), ((ma 0), .inr (4, [.int 0, .ref (g 0), .int 0])), (aj, .inl (cy 2, 1, .inr (.inl (vp_updL (fun _ => 0) (0 : Int32).toNatClampNeg 0))))] H := hP
              have hD : va_D (AL s) [(am, .inr (15, [.int 0, .ref (ma 0), .int 0, .int 0, .int 0, .int 0, .ref (ma 1), .ref (ma 2), .null, .int 1, .int 10, .int 900, .ref (ma 3), .ref (ma 4), .int 0, .int 0, .int 0, .ref (ma 5), .int 1000, .int 50, .int 50, .int 1000, .int 10, .int 0, .int 3000, .int 0, .int 0, .int 0])), ((ma 0), .inr (4, [.int 0, .ref (g 0), .int 0])), (aj, .inl (cy 2, 1, .inr (.inl (vp_updL (fun _ => 0) (0 : Int32).toNatClampNeg 0))))] := hD
              refine lv_istore (lv' := [(6, .int 0), (5, .int 0), (4, .ref ao), (3, .ref aj), (2, .ref am), (1, .ref ax), (0, .ref b)]) hx hb dL_law_281 hl (Nat.le_of_ble_eq_true rfl) rfl (fun ls hl => ?_)
              refine lv_aload_n hx hb dL_law_283 rfl (lv_at hl 4 rfl) ?_
              refine lv_aload_n hx hb dL_law_284 rfl (lv_at hl 6 rfl) ?_
              refine lv_iload hx hb dL_law_285 (lv_at hl 1 rfl) ?_
              refine lv_iconst (v := 1) hx hb dL_law_287 (by decide) ?_
              refine lv_iadd hx hb dL_law_288 ?_
              refine tp_i 1 (by decide) ?_
              refine va_sld hx hb hX hbl hbA hS (by unfold vp_in; decide) dL_law_289 ?_
              refine tp_i x1 e1 ?_
              refine lv_aload_n hx hb dL_law_290 rfl (lv_at hl 6 rfl) ?_
              refine lv_iload hx hb dL_law_291 (lv_at hl 1 rfl) ?_
              refine lv_iconst (v := 2) hx hb dL_law_293 (by decide) ?_
              refine lv_iadd hx hb dL_law_294 ?_
              refine tp_i 2 (by decide) ?_
              refine va_sld hx hb hX hbl hbA hS (by unfold vp_in; decide) dL_law_295 ?_
              refine tp_i x2 e2 ?_
              refine ca_i (isC := [0, 1]) (isR := [2]) (wr := [(aj, .inl (cy 2, 1, .inr (.inl (vp_updL (fun _ => 0) (0 : Int32).toNatClampNeg 0))))]) (rn_V (ci := 15) (q0 := 0) (isC := [0, 1]) (wc := [(am, .inr (15, [.int 0, .ref (ma 0), .int 0, .int 0, .int 0, .int 0, .ref (ma 1), .ref (ma 2), .null, .int 1, .int 10, .int 900, .ref (ma 3), .ref (ma 4), .int 0, .int 0, .int 0, .ref (ma 5), .int 1000, .int 50, .int 50, .int 1000, .int 10, .int 0, .int 3000, .int 0, .int 0, .int 0])), ((ma 0), .inr (4, [.int 0, .ref (g 0), .int 0]))]) (As := [.int x1, .int x2]) (rest := []) (n := 2) hx hb hml hown hts hE hS hP hD hA hl.1 (k51_X10_addBody l D cy g x1 x2 am (ma 0) (.int 0) (.int 0) (.int 0) (.int 0) (.int 0) (.ref (ma 1)) (.ref (ma 2)) (.null) (.int 1) (.int 10) (.int 900) (.ref (ma 3)) (.ref (ma 4)) (.int 0) (.int 0) (.int 0) (.ref (ma 5)) (.int 1000) (.int 50) (.int 50) (.int 1000) (.int 10) (.int 0) (.int 3000) (.int 0) (.int 0) (.int 0) H.size c0 c1 c2 c3) rfl rfl rfl rfl rfl ax_43 rfl rfl ax_44 ⟨Nat.le_of_ble_eq_true rfl, Nat.le_of_ble_eq_true rfl⟩ rfl rfl (Nat.le_of_ble_eq_true rfl) dL_law_296 ⟨(Nat.le_of_ble_eq_true rfl), (Nat.le_of_ble_eq_true rfl)⟩) hP hD hS hA rfl rfl rfl (by decide) (fun ad296 H locs hP hD hS => ?_)
              have hP : va_P D vwCl [(aj, .inl (cy 2, 1, .inr (.inl (vp_updL (fun _ => 0) (0 : Int32).toNatClampNeg 0)))), (am, .inr (15, [.int 0, .ref (ma 0), .int 0, .int 0, .int 0, .int 0, .ref (ma 1), .ref (ma 2), .null, .int 1, .int 10, .int 900, .ref (ma 3), .ref (ma 4), .int 0, .int 0, .int 0, .ref (ma 5), .int 1000, .int 50, .int 50, .int 1000, .int 10, .int 0, .int 3000, .int 0, .int 0, .int 0]))] H := hP
              have hD : va_D (AL s) [(aj, .inl (cy 2, 1, .inr (.inl (vp_updL (fun _ => 0) (0 : Int32).toNatClampNeg 0)))), (am, .inr (15, [.int 0, .ref (ma 0), .int 0, .int 0, .int 0, .int 0, .ref (ma 1), .ref (ma 2), .null, .int 1, .int 10, .int 900, .ref (ma 3), .ref (ma 4), .int 0, .int 0, .int 0, .ref (ma 5), .int 1000, .int 50, .int 50, .int 1000, .int 10, .int 0, .int 3000, .int 0, .int 0, .int 0]))] := hD
              refine lv_istore (lv' := [(7, .int 0), (6, .int 0), (5, .int 0), (4, .ref ao), (3, .ref aj), (2, .ref am), (1, .ref ax), (0, .ref b)]) hx hb dL_law_299 hl (Nat.le_of_ble_eq_true rfl) rfl (fun ls hl => ?_)
              refine lv_aload_n hx hb dL_law_301 rfl (lv_at hl 5 rfl) ?_
              refine ca_i (isC := [1]) (isR := [0]) (wr := [(aj, .inl (cy 2, 1, .inr (.inl (vp_updL (fun _ => 0) (0 : Int32).toNatClampNeg 0))))]) (rn_V (ci := 15) (q0 := 1) (isC := [1]) (wc := [(am, .inr (15, [.int 0, .ref (ma 0), .int 0, .int 0, .int 0, .int 0, .ref (ma 1), .ref (ma 2), .null, .int 1, .int 10, .int 900, .ref (ma 3), .ref (ma 4), .int 0, .int 0, .int 0, .ref (ma 5), .int 1000, .int 50, .int 50, .int 1000, .int 10, .int 0, .int 3000, .int 0, .int 0, .int 0]))]) (As := []) (rest := []) (n := 0) hx hb hml hown hts hE hS hP hD hA hl.1 (k52_X10_thrown l D cy g am (.ref (ma 0)) (.int 0) (.int 0) (.int 0) (.int 0) (.ref (ma 1)) (.ref (ma 2)) (.null) (.int 1) (.int 10) (.int 900) (.ref (ma 3)) (.ref (ma 4)) (.int 0) (.int 0) (.int 0) (.ref (ma 5)) (.int 1000) (.int 50) (.int 50) (.int 1000) (.int 10) (.int 0) (.int 3000) (.int 0) (.int 0) (.int 0) H.size ) rfl rfl rfl rfl rfl ax_45 rfl rfl ax_46 ⟨Nat.le_of_ble_eq_true rfl, Nat.le_of_ble_eq_true rfl⟩ rfl rfl (Nat.le_of_ble_eq_true rfl) dL_law_302 ⟨(Nat.le_of_ble_eq_true rfl), (Nat.le_of_ble_eq_true rfl)⟩) hP hD hS hA rfl rfl rfl (by decide) (fun ad302 H locs hP hD hS => ?_)
              have hP : va_P D vwCl [(aj, .inl (cy 2, 1, .inr (.inl (vp_updL (fun _ => 0) (0 : Int32).toNatClampNeg 0)))), (am, .inr (15, [.int 0, .ref (ma 0), .int 0, .int 0, .int 0, .int 0, .ref (ma 1), .ref (ma 2), .null, .int 1, .int 10, .int 900, .ref (ma 3), .ref (ma 4), .int 0, .int 0, .int 0, .ref (ma 5), .int 1000, .int 50, .int 50, .int 1000, .int 10, .int 0, .int 3000, .int 0, .int 0, .int 0]))] H := hP
              have hD : va_D (AL s) [(aj, .inl (cy 2, 1, .inr (.inl (vp_updL (fun _ => 0) (0 : Int32).toNatClampNeg 0)))), (am, .inr (15, [.int 0, .ref (ma 0), .int 0, .int 0, .int 0, .int 0, .ref (ma 1), .ref (ma 2), .null, .int 1, .int 10, .int 900, .ref (ma 3), .ref (ma 4), .int 0, .int 0, .int 0, .ref (ma 5), .int 1000, .int 50, .int 50, .int 1000, .int 10, .int 0, .int 3000, .int 0, .int 0, .int 0]))] := hD
              refine lv_iload hx hb dL_law_305 (lv_at hl 1 rfl) ?_
              refine lv_icmp_eq (tgt := 312) hx hb dL_law_307 (by decide) (fun _ => ?_) (fun z => absurd (by decide) z)
              refine lv_iload hx hb dL_law_312 (lv_at hl 1 rfl) ?_
              refine lv_if_ne (tgt := 329) hx hb dL_law_314 (by decide) (fun z => absurd (by decide) z) (fun _ => ?_)
              refine lv_aload_n hx hb dL_law_317 rfl (lv_at hl 4 rfl) ?_
              refine lv_iconst (v := 0) hx hb dL_law_318 (by decide) ?_
              refine va_lald hx hb hE.1 hP 0 2 rfl rfl (by unfold vp_in; decide) dL_law_319 ?_
              refine tp_l 0 rfl ?_
              refine lv_iload hx hb dL_law_320 (lv_at hl 0 rfl) ?_
              refine lv_i2l (v := 0) hx hb dL_law_322 (by decide) ?_
              refine W.lcmp hx hb dL_law_323 ?_
              refine tp_i 0 (by decide) ?_
              refine lv_if_eq (tgt := 329) hx hb dL_law_324 (by decide) (fun _ => ?_) (fun z => absurd (by decide) z)
              refine lv_goto (tgt := 2947) hx hb dL_law_329 (by decide) ?_
              exact law_tail LC hS (Nat.le_of_ble_eq_true rfl) (Nat.le_of_ble_eq_true rfl) (lv_sub hl [2, 7] rfl)
            · refine lv_aload_n hx hb dL_law_264 rfl (lv_at hl 4 rfl) ?_
              refine lv_aload_n hx hb dL_law_265 rfl (lv_at hl 5 rfl) ?_
              refine lv_iload hx hb dL_law_266 (lv_at hl 0 rfl) ?_
              refine lv_iconst (v := 1) hx hb dL_law_268 (by decide) ?_
              refine lv_iadd hx hb dL_law_269 ?_
              refine tp_i 1 (by decide) ?_
              refine va_sld hx hb hX hbl hbA hS (by unfold vp_in; decide) dL_law_270 ?_
              refine tp_i x1 e1 ?_
              refine lv_aload_n hx hb dL_law_271 rfl (lv_at hl 5 rfl) ?_
              refine lv_iload hx hb dL_law_272 (lv_at hl 0 rfl) ?_
              refine lv_iconst (v := 2) hx hb dL_law_274 (by decide) ?_
              refine lv_iadd hx hb dL_law_275 ?_
              refine tp_i 2 (by decide) ?_
              refine va_sld hx hb hX hbl hbA hS (by unfold vp_in; decide) dL_law_276 ?_
              refine tp_i x2 e2 ?_
              refine lv_aload_n hx hb dL_law_277 rfl (lv_at hl 2 rfl) ?_
              refine ca_i (isC := [0, 1, 4, 2, 3, 7]) (isR := [5, 6]) (wr := [(am, .inr (15, [.int 0, .ref (ma 0), .int 0, .int 0, .int 0, .int 0, .ref (ma 1), .ref (ma 2), .null, .int 1, .int 10, .int 900, .ref (ma 3), .ref (ma 4), .int 0, .int 0, .int 0, .ref (ma 5), .int 1000, .int 50, .int 50, .int 1000, .int 10, .int 0, .int 3000, .int 0, .int 0, .int 0])), ((ma 0), .inr (4, [.int 0, .ref (g 0), .int 0]))]) (rn_SW (isC := [0, 1, 4, 2, 3, 7]) (wc := [(ax, .inr (14, [.ref (xa 0), .ref (xa 13), .ref (xa 18), .ref (xa 34), .ref (xa 45), .ref (xa 49), .ref (xa 50)])), ((xa 0), .inr (5, [.ref (xa 1), .ref (xa 2), .int 0, .ref (xa 3), .ref (xa 5), .ref (xa 7), .ref (xa 9), .ref (xa 11)])), ((xa 50), .inr (11, [.long 0, .int 0, .int 0, .int 0, .long 900])), ((xa 1), .inl (cy 1, 8, .inl (fun _ => 0))), ((xa 2), .inl (cy 4, 8, .inr (.inr (.inr (.inr (fun _ => none)))))), (aj, .inl (cy 2, 1, .inr (.inl (fun _ => 0))))]) (As := [.ref ax, .int x1, .int x2, .ref aj]) (rest := []) (n := 4) hx hb hml hown hts hE hS hP hD hA hl.1 (k65_L_addBody l D cy g x1 x2 ax (xa 0) (xa 50) (xa 1) (xa 2) aj (.ref (xa 13)) (.ref (xa 18)) (.ref (xa 34)) (.ref (xa 45)) (.ref (xa 49)) (.ref (xa 3)) (.ref (xa 5)) (.ref (xa 7)) (.ref (xa 9)) (.ref (xa 11)) (.long 0) (.int 0) (.int 0) (.int 0) (fun _ => 0) (fun _ => 0) H.size c0 c1 c2 c3 c4 c5) rfl rfl ax_35 rfl rfl ax_36 ⟨Nat.le_of_ble_eq_true rfl, Nat.le_of_ble_eq_true rfl⟩ rfl rfl (Nat.le_of_ble_eq_true rfl) dL_law_278 ⟨(Nat.le_of_ble_eq_true rfl), (Nat.le_of_ble_eq_true rfl)⟩) hP hD hS hA rfl rfl rfl (by decide) (fun ad278 H locs hP hD hS => ?_)
              have hP : va_P D vwCl [(am, .inr (15, [.int 0, .ref (ma 0), .int 0, .int 0, .int 0, .int 0, .ref (ma 1), .ref (ma 2), .null, .int 1, .int 10, .int 900, .ref (ma 3), .ref (ma 4), .int 0, .int 0, .int 0, .ref (ma 5), .int 1000, .int 50, .int 50, .int 1000, .int 10, .int 0, .int 3000, .int 0, .int 0, .int 0])), ((ma 0), .inr (4, [.int 0, .ref (g 0), .int 0])), (aj, .inl (cy 2, 1, .inr (.inl (vp_updL (fun _ => 0) (0 : Int32).toNatClampNeg 0))))] H := hP
              have hD : va_D (AL s) [(am, .inr (15, [.int 0, .ref (ma 0), .int 0, .int 0, .int 0, .int 0, .ref (ma 1), .ref (ma 2), .null, .int 1, .int 10, .int 900, .ref (ma 3), .ref (ma 4), .int 0, .int 0, .int 0, .ref (ma 5), .int 1000, .int 50, .int 50, .int 1000, .int 10, .int 0, .int 3000, .int 0, .int 0, .int 0])), ((ma 0), .inr (4, [.int 0, .ref (g 0), .int 0])), (aj, .inl (cy 2, 1, .inr (.inl (vp_updL (fun _ => 0) (0 : Int32).toNatClampNeg 0))))] := hD
              refine lv_istore (lv' := [(6, .int 0), (5, .int 0), (4, .ref ao), (3, .ref aj), (2, .ref am), (1, .ref ax), (0, .ref b)]) hx hb dL_law_281 hl (Nat.le_of_ble_eq_true rfl) rfl (fun ls hl => ?_)
              refine lv_aload_n hx hb dL_law_283 rfl (lv_at hl 4 rfl) ?_
              refine lv_aload_n hx hb dL_law_284 rfl (lv_at hl 6 rfl) ?_
              refine lv_iload hx hb dL_law_285 (lv_at hl 1 rfl) ?_
              refine lv_iconst (v := 1) hx hb dL_law_287 (by decide) ?_
              refine lv_iadd hx hb dL_law_288 ?_
              refine tp_i 1 (by decide) ?_
              refine va_sld hx hb hX hbl hbA hS (by unfold vp_in; decide) dL_law_289 ?_
              refine tp_i x1 e1 ?_
              refine lv_aload_n hx hb dL_law_290 rfl (lv_at hl 6 rfl) ?_
              refine lv_iload hx hb dL_law_291 (lv_at hl 1 rfl) ?_
              refine lv_iconst (v := 2) hx hb dL_law_293 (by decide) ?_
              refine lv_iadd hx hb dL_law_294 ?_
              refine tp_i 2 (by decide) ?_
              refine va_sld hx hb hX hbl hbA hS (by unfold vp_in; decide) dL_law_295 ?_
              refine tp_i x2 e2 ?_
              refine ca_i (isC := [0, 1]) (isR := [2]) (wr := [(aj, .inl (cy 2, 1, .inr (.inl (vp_updL (fun _ => 0) (0 : Int32).toNatClampNeg 0))))]) (rn_V (ci := 15) (q0 := 0) (isC := [0, 1]) (wc := [(am, .inr (15, [.int 0, .ref (ma 0), .int 0, .int 0, .int 0, .int 0, .ref (ma 1), .ref (ma 2), .null, .int 1, .int 10, .int 900, .ref (ma 3), .ref (ma 4), .int 0, .int 0, .int 0, .ref (ma 5), .int 1000, .int 50, .int 50, .int 1000, .int 10, .int 0, .int 3000, .int 0, .int 0, .int 0])), ((ma 0), .inr (4, [.int 0, .ref (g 0), .int 0]))]) (As := [.int x1, .int x2]) (rest := []) (n := 2) hx hb hml hown hts hE hS hP hD hA hl.1 (k51_X10_addBody l D cy g x1 x2 am (ma 0) (.int 0) (.int 0) (.int 0) (.int 0) (.int 0) (.ref (ma 1)) (.ref (ma 2)) (.null) (.int 1) (.int 10) (.int 900) (.ref (ma 3)) (.ref (ma 4)) (.int 0) (.int 0) (.int 0) (.ref (ma 5)) (.int 1000) (.int 50) (.int 50) (.int 1000) (.int 10) (.int 0) (.int 3000) (.int 0) (.int 0) (.int 0) H.size c0 c1 c2 c3) rfl rfl rfl rfl rfl ax_43 rfl rfl ax_44 ⟨Nat.le_of_ble_eq_true rfl, Nat.le_of_ble_eq_true rfl⟩ rfl rfl (Nat.le_of_ble_eq_true rfl) dL_law_296 ⟨(Nat.le_of_ble_eq_true rfl), (Nat.le_of_ble_eq_true rfl)⟩) hP hD hS hA rfl rfl rfl (by decide) (fun ad296 H locs hP hD hS => ?_)
              have hP : va_P D vwCl [(aj, .inl (cy 2, 1, .inr (.inl (vp_updL (fun _ => 0) (0 : Int32).toNatClampNeg 0)))), (am, .inr (15, [.int 0, .ref (ma 0), .int 0, .int 0, .int 0, .int 0, .ref (ma 1), .ref (ma 2), .null, .int 1, .int 10, .int 900, .ref (ma 3), .ref (ma 4), .int 0, .int 0, .int 0, .ref (ma 5), .int 1000, .int 50, .int 50, .int 1000, .int 10, .int 0, .int 3000, .int 0, .int 0, .int 0]))] H := hP
              have hD : va_D (AL s) [(aj, .inl (cy 2, 1, .inr (.inl (vp_updL (fun _ => 0) (0 : Int32).toNatClampNeg 0)))), (am, .inr (15, [.int 0, .ref (ma 0), .int 0, .int 0, .int 0, .int 0, .ref (ma 1), .ref (ma 2), .null, .int 1, .int 10, .int 900, .ref (ma 3), .ref (ma 4), .int 0, .int 0, .int 0, .ref (ma 5), .int 1000, .int 50, .int 50, .int 1000, .int 10, .int 0, .int 3000, .int 0, .int 0, .int 0]))] := hD
              refine lv_istore (lv' := [(7, .int 0), (6, .int 0), (5, .int 0), (4, .ref ao), (3, .ref aj), (2, .ref am), (1, .ref ax), (0, .ref b)]) hx hb dL_law_299 hl (Nat.le_of_ble_eq_true rfl) rfl (fun ls hl => ?_)
              refine lv_aload_n hx hb dL_law_301 rfl (lv_at hl 5 rfl) ?_
              refine ca_i (isC := [1]) (isR := [0]) (wr := [(aj, .inl (cy 2, 1, .inr (.inl (vp_updL (fun _ => 0) (0 : Int32).toNatClampNeg 0))))]) (rn_V (ci := 15) (q0 := 1) (isC := [1]) (wc := [(am, .inr (15, [.int 0, .ref (ma 0), .int 0, .int 0, .int 0, .int 0, .ref (ma 1), .ref (ma 2), .null, .int 1, .int 10, .int 900, .ref (ma 3), .ref (ma 4), .int 0, .int 0, .int 0, .ref (ma 5), .int 1000, .int 50, .int 50, .int 1000, .int 10, .int 0, .int 3000, .int 0, .int 0, .int 0]))]) (As := []) (rest := []) (n := 0) hx hb hml hown hts hE hS hP hD hA hl.1 (k52_X10_thrown l D cy g am (.ref (ma 0)) (.int 0) (.int 0) (.int 0) (.int 0) (.ref (ma 1)) (.ref (ma 2)) (.null) (.int 1) (.int 10) (.int 900) (.ref (ma 3)) (.ref (ma 4)) (.int 0) (.int 0) (.int 0) (.ref (ma 5)) (.int 1000) (.int 50) (.int 50) (.int 1000) (.int 10) (.int 0) (.int 3000) (.int 0) (.int 0) (.int 0) H.size ) rfl rfl rfl rfl rfl ax_45 rfl rfl ax_46 ⟨Nat.le_of_ble_eq_true rfl, Nat.le_of_ble_eq_true rfl⟩ rfl rfl (Nat.le_of_ble_eq_true rfl) dL_law_302 ⟨(Nat.le_of_ble_eq_true rfl), (Nat.le_of_ble_eq_true rfl)⟩) hP hD hS hA rfl rfl rfl (by decide) (fun ad302 H locs hP hD hS => ?_)
              have hP : va_P D vwCl [(aj, .inl (cy 2, 1, .inr (.inl (vp_updL (fun _ => 0) (0 : Int32).toNatClampNeg 0)))), (am, .inr (15, [.int 0, .ref (ma 0), .int 0, .int 0, .int 0, .int 0, .ref (ma 1), .ref (ma 2), .null, .int 1, .int 10, .int 900, .ref (ma 3), .ref (ma 4), .int 0, .int 0, .int 0, .ref (ma 5), .int 1000, .int 50, .int 50, .int 1000, .int 10, .int 0, .int 3000, .int 0, .int 0, .int 0]))] H := hP
              have hD : va_D (AL s) [(aj, .inl (cy 2, 1, .inr (.inl (vp_updL (fun _ => 0) (0 : Int32).toNatClampNeg 0)))), (am, .inr (15, [.int 0, .ref (ma 0), .int 0, .int 0, .int 0, .int 0, .ref (ma 1), .ref (ma 2), .null, .int 1, .int 10, .int 900, .ref (ma 3), .ref (ma 4), .int 0, .int 0, .int 0, .ref (ma 5), .int 1000, .int 50, .int 50, .int 1000, .int 10, .int 0, .int 3000, .int 0, .int 0, .int 0]))] := hD
              refine lv_iload hx hb dL_law_305 (lv_at hl 1 rfl) ?_
              refine lv_icmp_eq (tgt := 312) hx hb dL_law_307 (by decide) (fun _ => ?_) (fun z => absurd (by decide) z)
              refine lv_iload hx hb dL_law_312 (lv_at hl 1 rfl) ?_
              refine lv_if_ne (tgt := 329) hx hb dL_law_314 (by decide) (fun z => absurd (by decide) z) (fun _ => ?_)
              refine lv_aload_n hx hb dL_law_317 rfl (lv_at hl 4 rfl) ?_
              refine lv_iconst (v := 0) hx hb dL_law_318 (by decide) ?_
              refine va_lald hx hb hE.1 hP 0 2 rfl rfl (by unfold vp_in; decide) dL_law_319 ?_
              refine tp_l 0 rfl ?_
              refine lv_iload hx hb dL_law_320 (lv_at hl 0 rfl) ?_
              refine lv_i2l (v := 0) hx hb dL_law_322 (by decide) ?_
              refine W.lcmp hx hb dL_law_323 ?_
              refine tp_i 0 (by decide) ?_
              refine lv_if_eq (tgt := 329) hx hb dL_law_324 (by decide) (fun _ => ?_) (fun z => absurd (by decide) z)
              refine lv_goto (tgt := 2947) hx hb dL_law_329 (by decide) ?_
              exact law_tail LC hS (Nat.le_of_ble_eq_true rfl) (Nat.le_of_ble_eq_true rfl) (lv_sub hl [2, 7] rfl)
set_option maxHeartbeats 4000000 in
set_option maxRecDepth 100000 in
theorem lc_1 {p : Program} {e : Env} {s : State} {m : MethodId} {below : List Frame} {meth : Method} {c : Code} {l : Launch} {b : Nat} {xs : Nat → Int32} {D : va_G} {cy : Nat → ClassId} {g : Nat → Nat} (hst : l.stackTraces = false) (LC : LCtx p s m meth c b xs D cy g) (ax am aj ao : Nat) (xa ma : Nat → Nat) (x1 x2 x3 x4 : Int32) (e1 : xs (1 : Int32).toNatClampNeg = x1) (e2 : xs (2 : Int32).toNatClampNeg = x2) (e3 : xs (3 : Int32).toNatClampNeg = x3) (e4 : xs (4 : Int32).toNatClampNeg = x4) {H : Heap} {locs : List Loc} (hP : va_P D vwCl [(ax, .inr (14, [.ref (xa 0), .ref (xa 13), .ref (xa 18), .ref (xa 34), .ref (xa 45), .ref (xa 49), .ref (xa 50)])), ((xa 0), .inr (5, [.ref (xa 1), .ref (xa 2), .int 0, .ref (xa 3), .ref (xa 5), .ref (xa 7), .ref (xa 9), .ref (xa 11)])), (am, .inr (15, [.int 0, .ref (ma 0), .int 0, .int 0, .int 0, .int 0, .ref (ma 1), .ref (ma 2), .null, .int 1, .int 10, .int 900, .ref (ma 3), .ref (ma 4), .int 0, .int 0, .int 0, .ref (ma 5), .int 1000, .int 50, .int 50, .int 1000, .int 10, .int 0, .int 3000, .int 0, .int 0, .int 0])), ((ma 0), .inr (4, [.int 0, .ref (g 0), .int 0]))] H) (hD : va_D (AL s) [(ax, .inr (14, [.ref (xa 0), .ref (xa 13), .ref (xa 18), .ref (xa 34), .ref (xa 45), .ref (xa 49), .ref (xa 50)])), ((xa 0), .inr (5, [.ref (xa 1), .ref (xa 2), .int 0, .ref (xa 3), .ref (xa 5), .ref (xa 7), .ref (xa 9), .ref (xa 11)])), (am, .inr (15, [.int 0, .ref (ma 0), .int 0, .int 0, .int 0, .int 0, .ref (ma 1), .ref (ma 2), .null, .int 1, .int 10, .int 900, .ref (ma 3), .ref (ma 4), .int 0, .int 0, .int 0, .ref (ma 5), .int 1000, .int 50, .int 50, .int 1000, .int 10, .int 0, .int 3000, .int 0, .int 0, .int 0])), ((ma 0), .inr (4, [.int 0, .ref (g 0), .int 0]))]) (hS : va_S (AL s) s.heap H locs) (ls : Array Slot) (hl : lv_has ls 9 [(5, .int 0), (4, .ref ao), (3, .ref aj), (2, .ref am), (1, .ref ax), (0, .ref b)]) : W p l e room_1 s m #[Value.ref b] below meth c H locs 100 1000 (lw_Z below #[Value.ref b] s) (F0 m 332 ls []) := by
  obtain ⟨hx, hb, hr, hml, hown, hlk, hts, hE, hX, hbl⟩ := id LC
  have hA : ∀ q, s.heap.size ≤ q → (AL s) q := fun _ h => h
  have hbA : ¬ (AL s) b := Nat.not_le.mpr hbl
  by_cases c0 : x1 < 0
  · refine lv_aload_n hx hb dL_law_332 rfl (lv_at hl 4 rfl) ?_
    refine lv_aload_n hx hb dL_law_333 rfl (lv_at hl 5 rfl) ?_
    refine lv_iload hx hb dL_law_334 (lv_at hl 0 rfl) ?_
    refine lv_iconst (v := 1) hx hb dL_law_336 (by decide) ?_
    refine lv_iadd hx hb dL_law_337 ?_
    refine tp_i 1 (by decide) ?_
    refine va_sld hx hb hX hbl hbA hS (by unfold vp_in; decide) dL_law_338 ?_
    refine tp_i x1 e1 ?_
    refine lv_aload_n hx hb dL_law_339 rfl (lv_at hl 2 rfl) ?_
    refine ca_i (isC := [0, 1]) (isR := [2, 3]) (wr := [(am, .inr (15, [.int 0, .ref (ma 0), .int 0, .int 0, .int 0, .int 0, .ref (ma 1), .ref (ma 2), .null, .int 1, .int 10, .int 900, .ref (ma 3), .ref (ma 4), .int 0, .int 0, .int 0, .ref (ma 5), .int 1000, .int 50, .int 50, .int 1000, .int 10, .int 0, .int 3000, .int 0, .int 0, .int 0])), ((ma 0), .inr (4, [.int 0, .ref (g 0), .int 0]))]) (rn_SW (isC := [0, 1]) (wc := [(ax, .inr (14, [.ref (xa 0), .ref (xa 13), .ref (xa 18), .ref (xa 34), .ref (xa 45), .ref (xa 49), .ref (xa 50)])), ((xa 0), .inr (5, [.ref (xa 1), .ref (xa 2), .int 0, .ref (xa 3), .ref (xa 5), .ref (xa 7), .ref (xa 9), .ref (xa 11)]))]) (As := [.ref ax, .int x1, .ref aj]) (rest := []) (n := 3) hx hb hml hown hts hE hS hP hD hA hl.1 (k69_L_getTemperature l hst D cy g x1 ax (xa 0) aj (.ref (xa 13)) (.ref (xa 18)) (.ref (xa 34)) (.ref (xa 45)) (.ref (xa 49)) (.ref (xa 50)) (.ref (xa 1)) (.ref (xa 2)) (.int 0) (.ref (xa 3)) (.ref (xa 5)) (.ref (xa 7)) (.ref (xa 9)) (.ref (xa 11)) H.size c0) rfl rfl ax_72 rfl rfl ax_73 ⟨Nat.le_of_ble_eq_true rfl, Nat.le_of_ble_eq_true rfl⟩ rfl rfl (Nat.le_of_ble_eq_true rfl) dL_law_340 ⟨(Nat.le_of_ble_eq_true rfl), (Nat.le_of_ble_eq_true rfl)⟩) hP hD hS hA rfl rfl rfl (by decide) (fun ad340 H locs hP hD hS => ?_)
    have hP : va_P D vwCl [(am, .inr (15, [.int 0, .ref (ma 0), .int 0, .int 0, .int 0, .int 0, .ref (ma 1), .ref (ma 2), .null, .int 1, .int 10, .int 900, .ref (ma 3), .ref (ma 4), .int 0, .int 0, .int 0, .ref (ma 5), .int 1000, .int 50, .int 50, .int 1000, .int 10, .int 0, .int 3000, .int 0, .int 0, .int 0])), ((ma 0), .inr (4, [.int 0, .ref (g 0), .int 0]))] H := hP
    have hD : va_D (AL s) [(am, .inr (15, [.int 0, .ref (ma 0), .int 0, .int 0, .int 0, .int 0, .ref (ma 1), .ref (ma 2), .null, .int 1, .int 10, .int 900, .ref (ma 3), .ref (ma 4), .int 0, .int 0, .int 0, .ref (ma 5), .int 1000, .int 50, .int 50, .int 1000, .int 10, .int 0, .int 3000, .int 0, .int 0, .int 0])), ((ma 0), .inr (4, [.int 0, .ref (g 0), .int 0]))] := hD
    refine lv_istore (lv' := [(6, .int 1), (5, .int 0), (4, .ref ao), (3, .ref aj), (2, .ref am), (1, .ref ax), (0, .ref b)]) hx hb dL_law_343 hl (Nat.le_of_ble_eq_true rfl) rfl (fun ls hl => ?_)
    refine lv_aload_n hx hb dL_law_345 rfl (lv_at hl 4 rfl) ?_
    refine lv_aload_n hx hb dL_law_346 rfl (lv_at hl 6 rfl) ?_
    refine lv_iload hx hb dL_law_347 (lv_at hl 1 rfl) ?_
    refine lv_iconst (v := 1) hx hb dL_law_349 (by decide) ?_
    refine lv_iadd hx hb dL_law_350 ?_
    refine tp_i 1 (by decide) ?_
    refine va_sld hx hb hX hbl hbA hS (by unfold vp_in; decide) dL_law_351 ?_
    refine tp_i x1 e1 ?_
    refine ca_i (isC := [0, 1]) (isR := []) (wr := []) (rn_V (ci := 15) (q0 := 0) (isC := [0, 1]) (wc := [(am, .inr (15, [.int 0, .ref (ma 0), .int 0, .int 0, .int 0, .int 0, .ref (ma 1), .ref (ma 2), .null, .int 1, .int 10, .int 900, .ref (ma 3), .ref (ma 4), .int 0, .int 0, .int 0, .ref (ma 5), .int 1000, .int 50, .int 50, .int 1000, .int 10, .int 0, .int 3000, .int 0, .int 0, .int 0])), ((ma 0), .inr (4, [.int 0, .ref (g 0), .int 0]))]) (As := [.int x1]) (rest := []) (n := 1) hx hb hml hown hts hE hS hP hD hA hl.1 (k72_X10_getTemperature l D cy g x1 am (ma 0) (.int 0) (.int 0) (.int 0) (.int 0) (.int 0) (.ref (ma 1)) (.ref (ma 2)) (.null) (.int 1) (.int 10) (.int 900) (.ref (ma 3)) (.ref (ma 4)) (.int 0) (.int 0) (.int 0) (.ref (ma 5)) (.int 1000) (.int 50) (.int 50) (.int 1000) (.int 10) (.int 0) (.int 3000) (.int 0) (.int 0) (.int 0) (.int 0) (.ref (g 0)) H.size c0) rfl rfl rfl rfl rfl ax_78 rfl rfl ax_79 ⟨Nat.le_of_ble_eq_true rfl, Nat.le_of_ble_eq_true rfl⟩ rfl rfl (Nat.le_of_ble_eq_true rfl) dL_law_352 ⟨(Nat.le_of_ble_eq_true rfl), (Nat.le_of_ble_eq_true rfl)⟩) hP hD hS hA rfl rfl rfl (by decide) (fun ad352 H locs hP hD hS => ?_)
    have hP : va_P D vwCl [(am, .inr (15, [.int 1, .ref (ma 0), .int 0, .int 0, .int 0, .int 0, .ref (ma 1), .ref (ma 2), .null, .int 1, .int 10, .int 900, .ref (ma 3), .ref (ma 4), .int 0, .int 0, .int 0, .ref (ma 5), .int 1000, .int 50, .int 50, .int 1000, .int 10, .int 0, .int 3000, .int 0, .int 0, .int 0]))] H := hP
    have hD : va_D (AL s) [(am, .inr (15, [.int 1, .ref (ma 0), .int 0, .int 0, .int 0, .int 0, .ref (ma 1), .ref (ma 2), .null, .int 1, .int 10, .int 900, .ref (ma 3), .ref (ma 4), .int 0, .int 0, .int 0, .ref (ma 5), .int 1000, .int 50, .int 50, .int 1000, .int 10, .int 0, .int 3000, .int 0, .int 0, .int 0]))] := hD
    refine lv_istore (lv' := [(7, .int (-1)), (6, .int 1), (5, .int 0), (4, .ref ao), (3, .ref aj), (2, .ref am), (1, .ref ax), (0, .ref b)]) hx hb dL_law_355 hl (Nat.le_of_ble_eq_true rfl) rfl (fun ls hl => ?_)
    refine lv_aload_n hx hb dL_law_357 rfl (lv_at hl 5 rfl) ?_
    refine ca_i (isC := [0]) (isR := []) (wr := []) (rn_V (ci := 15) (q0 := 0) (isC := [0]) (wc := [(am, .inr (15, [.int 1, .ref (ma 0), .int 0, .int 0, .int 0, .int 0, .ref (ma 1), .ref (ma 2), .null, .int 1, .int 10, .int 900, .ref (ma 3), .ref (ma 4), .int 0, .int 0, .int 0, .ref (ma 5), .int 1000, .int 50, .int 50, .int 1000, .int 10, .int 0, .int 3000, .int 0, .int 0, .int 0]))]) (As := []) (rest := []) (n := 0) hx hb hml hown hts hE hS hP hD hA hl.1 (k24_X10_thrown l D cy g am (.ref (ma 0)) (.int 0) (.int 0) (.int 0) (.int 0) (.ref (ma 1)) (.ref (ma 2)) (.null) (.int 1) (.int 10) (.int 900) (.ref (ma 3)) (.ref (ma 4)) (.int 0) (.int 0) (.int 0) (.ref (ma 5)) (.int 1000) (.int 50) (.int 50) (.int 1000) (.int 10) (.int 0) (.int 3000) (.int 0) (.int 0) (.int 0) H.size ) rfl rfl rfl rfl rfl ax_45 rfl rfl ax_46 ⟨Nat.le_of_ble_eq_true rfl, Nat.le_of_ble_eq_true rfl⟩ rfl rfl (Nat.le_of_ble_eq_true rfl) dL_law_358 ⟨(Nat.le_of_ble_eq_true rfl), (Nat.le_of_ble_eq_true rfl)⟩) hP hD hS hA rfl rfl rfl (by decide) (fun ad358 H locs hP hD hS => ?_)
    have hP : va_P D vwCl [(am, .inr (15, [.int 1, .ref (ma 0), .int 0, .int 0, .int 0, .int 0, .ref (ma 1), .ref (ma 2), .null, .int 1, .int 10, .int 900, .ref (ma 3), .ref (ma 4), .int 0, .int 0, .int 0, .ref (ma 5), .int 1000, .int 50, .int 50, .int 1000, .int 10, .int 0, .int 3000, .int 0, .int 0, .int 0]))] H := hP
    have hD : va_D (AL s) [(am, .inr (15, [.int 1, .ref (ma 0), .int 0, .int 0, .int 0, .int 0, .ref (ma 1), .ref (ma 2), .null, .int 1, .int 10, .int 900, .ref (ma 3), .ref (ma 4), .int 0, .int 0, .int 0, .ref (ma 5), .int 1000, .int 50, .int 50, .int 1000, .int 10, .int 0, .int 3000, .int 0, .int 0, .int 0]))] := hD
    refine lv_iload hx hb dL_law_361 (lv_at hl 1 rfl) ?_
    refine lv_icmp_eq (tgt := 368) hx hb dL_law_363 (by decide) (fun _ => ?_) (fun z => absurd (by decide) z)
    refine lv_iload hx hb dL_law_368 (lv_at hl 1 rfl) ?_
    refine lv_if_ne (tgt := 385) hx hb dL_law_370 (by decide) (fun _ => ?_) (fun z => absurd z (by decide))
    refine lv_goto (tgt := 2947) hx hb dL_law_385 (by decide) ?_
    exact law_tail LC hS (Nat.le_of_ble_eq_true rfl) (Nat.le_of_ble_eq_true rfl) (lv_sub hl [2, 7] rfl)
  · have d0 : (-1 : Int32) < x1 := by
        have w0 : (-1 : Int32).toInt = -1 := by decide
        have w1 : (0 : Int32).toInt = 0 := by decide
        have z0 := c0
        rw [fa_lt] at z0
        rw [fa_lt]
        omega
    refine lv_aload_n hx hb dL_law_332 rfl (lv_at hl 4 rfl) ?_
    refine lv_aload_n hx hb dL_law_333 rfl (lv_at hl 5 rfl) ?_
    refine lv_iload hx hb dL_law_334 (lv_at hl 0 rfl) ?_
    refine lv_iconst (v := 1) hx hb dL_law_336 (by decide) ?_
    refine lv_iadd hx hb dL_law_337 ?_
    refine tp_i 1 (by decide) ?_
    refine va_sld hx hb hX hbl hbA hS (by unfold vp_in; decide) dL_law_338 ?_
    refine tp_i x1 e1 ?_
    refine lv_aload_n hx hb dL_law_339 rfl (lv_at hl 2 rfl) ?_
    refine ca_i (isC := [0, 1]) (isR := [2, 3]) (wr := [(am, .inr (15, [.int 0, .ref (ma 0), .int 0, .int 0, .int 0, .int 0, .ref (ma 1), .ref (ma 2), .null, .int 1, .int 10, .int 900, .ref (ma 3), .ref (ma 4), .int 0, .int 0, .int 0, .ref (ma 5), .int 1000, .int 50, .int 50, .int 1000, .int 10, .int 0, .int 3000, .int 0, .int 0, .int 0])), ((ma 0), .inr (4, [.int 0, .ref (g 0), .int 0]))]) (rn_SW (isC := [0, 1]) (wc := [(ax, .inr (14, [.ref (xa 0), .ref (xa 13), .ref (xa 18), .ref (xa 34), .ref (xa 45), .ref (xa 49), .ref (xa 50)])), ((xa 0), .inr (5, [.ref (xa 1), .ref (xa 2), .int 0, .ref (xa 3), .ref (xa 5), .ref (xa 7), .ref (xa 9), .ref (xa 11)]))]) (As := [.ref ax, .int x1, .ref aj]) (rest := []) (n := 3) hx hb hml hown hts hE hS hP hD hA hl.1 (k76_L_getTemperature l hst D cy g x1 ax (xa 0) aj (.ref (xa 13)) (.ref (xa 18)) (.ref (xa 34)) (.ref (xa 45)) (.ref (xa 49)) (.ref (xa 50)) (.ref (xa 1)) (.ref (xa 2)) (.ref (xa 3)) (.ref (xa 5)) (.ref (xa 7)) (.ref (xa 9)) (.ref (xa 11)) H.size c0) rfl rfl ax_72 rfl rfl ax_73 ⟨Nat.le_of_ble_eq_true rfl, Nat.le_of_ble_eq_true rfl⟩ rfl rfl (Nat.le_of_ble_eq_true rfl) dL_law_340 ⟨(Nat.le_of_ble_eq_true rfl), (Nat.le_of_ble_eq_true rfl)⟩) hP hD hS hA rfl rfl rfl (by decide) (fun ad340 H locs hP hD hS => ?_)
    have hP : va_P D vwCl [(am, .inr (15, [.int 0, .ref (ma 0), .int 0, .int 0, .int 0, .int 0, .ref (ma 1), .ref (ma 2), .null, .int 1, .int 10, .int 900, .ref (ma 3), .ref (ma 4), .int 0, .int 0, .int 0, .ref (ma 5), .int 1000, .int 50, .int 50, .int 1000, .int 10, .int 0, .int 3000, .int 0, .int 0, .int 0])), ((ma 0), .inr (4, [.int 0, .ref (g 0), .int 0]))] H := hP
    have hD : va_D (AL s) [(am, .inr (15, [.int 0, .ref (ma 0), .int 0, .int 0, .int 0, .int 0, .ref (ma 1), .ref (ma 2), .null, .int 1, .int 10, .int 900, .ref (ma 3), .ref (ma 4), .int 0, .int 0, .int 0, .ref (ma 5), .int 1000, .int 50, .int 50, .int 1000, .int 10, .int 0, .int 3000, .int 0, .int 0, .int 0])), ((ma 0), .inr (4, [.int 0, .ref (g 0), .int 0]))] := hD
    refine lv_istore (lv' := [(6, .int 1), (5, .int 0), (4, .ref ao), (3, .ref aj), (2, .ref am), (1, .ref ax), (0, .ref b)]) hx hb dL_law_343 hl (Nat.le_of_ble_eq_true rfl) rfl (fun ls hl => ?_)
    refine lv_aload_n hx hb dL_law_345 rfl (lv_at hl 4 rfl) ?_
    refine lv_aload_n hx hb dL_law_346 rfl (lv_at hl 6 rfl) ?_
    refine lv_iload hx hb dL_law_347 (lv_at hl 1 rfl) ?_
    refine lv_iconst (v := 1) hx hb dL_law_349 (by decide) ?_
    refine lv_iadd hx hb dL_law_350 ?_
    refine tp_i 1 (by decide) ?_
    refine va_sld hx hb hX hbl hbA hS (by unfold vp_in; decide) dL_law_351 ?_
    refine tp_i x1 e1 ?_
    refine ca_i (isC := [0, 1]) (isR := []) (wr := []) (rn_V (ci := 15) (q0 := 0) (isC := [0, 1]) (wc := [(am, .inr (15, [.int 0, .ref (ma 0), .int 0, .int 0, .int 0, .int 0, .ref (ma 1), .ref (ma 2), .null, .int 1, .int 10, .int 900, .ref (ma 3), .ref (ma 4), .int 0, .int 0, .int 0, .ref (ma 5), .int 1000, .int 50, .int 50, .int 1000, .int 10, .int 0, .int 3000, .int 0, .int 0, .int 0])), ((ma 0), .inr (4, [.int 0, .ref (g 0), .int 0]))]) (As := [.int x1]) (rest := []) (n := 1) hx hb hml hown hts hE hS hP hD hA hl.1 (k79_X10_getTemperature l D cy g x1 am (ma 0) (.int 0) (.int 0) (.int 0) (.int 0) (.int 0) (.ref (ma 1)) (.ref (ma 2)) (.null) (.int 1) (.int 10) (.int 900) (.ref (ma 3)) (.ref (ma 4)) (.int 0) (.int 0) (.int 0) (.ref (ma 5)) (.int 1000) (.int 50) (.int 50) (.int 1000) (.int 10) (.int 0) (.int 3000) (.int 0) (.int 0) (.int 0) (.int 0) (.ref (g 0)) H.size c0 d0) rfl rfl rfl rfl rfl ax_78 rfl rfl ax_79 ⟨Nat.le_of_ble_eq_true rfl, Nat.le_of_ble_eq_true rfl⟩ rfl rfl (Nat.le_of_ble_eq_true rfl) dL_law_352 ⟨(Nat.le_of_ble_eq_true rfl), (Nat.le_of_ble_eq_true rfl)⟩) hP hD hS hA rfl rfl rfl (by decide) (fun ad352 H locs hP hD hS => ?_)
    have hP : va_P D vwCl [(am, .inr (15, [.int 1, .ref (ma 0), .int 0, .int 0, .int 0, .int 0, .ref (ma 1), .ref (ma 2), .null, .int 1, .int 10, .int 900, .ref (ma 3), .ref (ma 4), .int 0, .int 0, .int 0, .ref (ma 5), .int 1000, .int 50, .int 50, .int 1000, .int 10, .int 0, .int 3000, .int 0, .int 0, .int 0]))] H := hP
    have hD : va_D (AL s) [(am, .inr (15, [.int 1, .ref (ma 0), .int 0, .int 0, .int 0, .int 0, .ref (ma 1), .ref (ma 2), .null, .int 1, .int 10, .int 900, .ref (ma 3), .ref (ma 4), .int 0, .int 0, .int 0, .ref (ma 5), .int 1000, .int 50, .int 50, .int 1000, .int 10, .int 0, .int 3000, .int 0, .int 0, .int 0]))] := hD
    refine lv_istore (lv' := [(7, .int (-1)), (6, .int 1), (5, .int 0), (4, .ref ao), (3, .ref aj), (2, .ref am), (1, .ref ax), (0, .ref b)]) hx hb dL_law_355 hl (Nat.le_of_ble_eq_true rfl) rfl (fun ls hl => ?_)
    refine lv_aload_n hx hb dL_law_357 rfl (lv_at hl 5 rfl) ?_
    refine ca_i (isC := [0]) (isR := []) (wr := []) (rn_V (ci := 15) (q0 := 0) (isC := [0]) (wc := [(am, .inr (15, [.int 1, .ref (ma 0), .int 0, .int 0, .int 0, .int 0, .ref (ma 1), .ref (ma 2), .null, .int 1, .int 10, .int 900, .ref (ma 3), .ref (ma 4), .int 0, .int 0, .int 0, .ref (ma 5), .int 1000, .int 50, .int 50, .int 1000, .int 10, .int 0, .int 3000, .int 0, .int 0, .int 0]))]) (As := []) (rest := []) (n := 0) hx hb hml hown hts hE hS hP hD hA hl.1 (k24_X10_thrown l D cy g am (.ref (ma 0)) (.int 0) (.int 0) (.int 0) (.int 0) (.ref (ma 1)) (.ref (ma 2)) (.null) (.int 1) (.int 10) (.int 900) (.ref (ma 3)) (.ref (ma 4)) (.int 0) (.int 0) (.int 0) (.ref (ma 5)) (.int 1000) (.int 50) (.int 50) (.int 1000) (.int 10) (.int 0) (.int 3000) (.int 0) (.int 0) (.int 0) H.size ) rfl rfl rfl rfl rfl ax_45 rfl rfl ax_46 ⟨Nat.le_of_ble_eq_true rfl, Nat.le_of_ble_eq_true rfl⟩ rfl rfl (Nat.le_of_ble_eq_true rfl) dL_law_358 ⟨(Nat.le_of_ble_eq_true rfl), (Nat.le_of_ble_eq_true rfl)⟩) hP hD hS hA rfl rfl rfl (by decide) (fun ad358 H locs hP hD hS => ?_)
    have hP : va_P D vwCl [(am, .inr (15, [.int 1, .ref (ma 0), .int 0, .int 0, .int 0, .int 0, .ref (ma 1), .ref (ma 2), .null, .int 1, .int 10, .int 900, .ref (ma 3), .ref (ma 4), .int 0, .int 0, .int 0, .ref (ma 5), .int 1000, .int 50, .int 50, .int 1000, .int 10, .int 0, .int 3000, .int 0, .int 0, .int 0]))] H := hP
    have hD : va_D (AL s) [(am, .inr (15, [.int 1, .ref (ma 0), .int 0, .int 0, .int 0, .int 0, .ref (ma 1), .ref (ma 2), .null, .int 1, .int 10, .int 900, .ref (ma 3), .ref (ma 4), .int 0, .int 0, .int 0, .ref (ma 5), .int 1000, .int 50, .int 50, .int 1000, .int 10, .int 0, .int 3000, .int 0, .int 0, .int 0]))] := hD
    refine lv_iload hx hb dL_law_361 (lv_at hl 1 rfl) ?_
    refine lv_icmp_eq (tgt := 368) hx hb dL_law_363 (by decide) (fun _ => ?_) (fun z => absurd (by decide) z)
    refine lv_iload hx hb dL_law_368 (lv_at hl 1 rfl) ?_
    refine lv_if_ne (tgt := 385) hx hb dL_law_370 (by decide) (fun _ => ?_) (fun z => absurd z (by decide))
    refine lv_goto (tgt := 2947) hx hb dL_law_385 (by decide) ?_
    exact law_tail LC hS (Nat.le_of_ble_eq_true rfl) (Nat.le_of_ble_eq_true rfl) (lv_sub hl [2, 7] rfl)
set_option maxHeartbeats 4000000 in
set_option maxRecDepth 100000 in
theorem lc_2 {p : Program} {e : Env} {s : State} {m : MethodId} {below : List Frame} {meth : Method} {c : Code} {l : Launch} {b : Nat} {xs : Nat → Int32} {D : va_G} {cy : Nat → ClassId} {g : Nat → Nat} (hst : l.stackTraces = false) (LC : LCtx p s m meth c b xs D cy g) (ax am aj ao : Nat) (xa ma : Nat → Nat) (x1 x2 x3 x4 : Int32) (e1 : xs (1 : Int32).toNatClampNeg = x1) (e2 : xs (2 : Int32).toNatClampNeg = x2) (e3 : xs (3 : Int32).toNatClampNeg = x3) (e4 : xs (4 : Int32).toNatClampNeg = x4) {H : Heap} {locs : List Loc} (hP : va_P D vwCl [(ax, .inr (14, [.ref (xa 0), .ref (xa 13), .ref (xa 18), .ref (xa 34), .ref (xa 45), .ref (xa 49), .ref (xa 50)])), ((xa 0), .inr (5, [.ref (xa 1), .ref (xa 2), .int 0, .ref (xa 3), .ref (xa 5), .ref (xa 7), .ref (xa 9), .ref (xa 11)])), (am, .inr (15, [.int 0, .ref (ma 0), .int 0, .int 0, .int 0, .int 0, .ref (ma 1), .ref (ma 2), .null, .int 1, .int 10, .int 900, .ref (ma 3), .ref (ma 4), .int 0, .int 0, .int 0, .ref (ma 5), .int 1000, .int 50, .int 50, .int 1000, .int 10, .int 0, .int 3000, .int 0, .int 0, .int 0])), ((ma 0), .inr (4, [.int 0, .ref (g 0), .int 0]))] H) (hD : va_D (AL s) [(ax, .inr (14, [.ref (xa 0), .ref (xa 13), .ref (xa 18), .ref (xa 34), .ref (xa 45), .ref (xa 49), .ref (xa 50)])), ((xa 0), .inr (5, [.ref (xa 1), .ref (xa 2), .int 0, .ref (xa 3), .ref (xa 5), .ref (xa 7), .ref (xa 9), .ref (xa 11)])), (am, .inr (15, [.int 0, .ref (ma 0), .int 0, .int 0, .int 0, .int 0, .ref (ma 1), .ref (ma 2), .null, .int 1, .int 10, .int 900, .ref (ma 3), .ref (ma 4), .int 0, .int 0, .int 0, .ref (ma 5), .int 1000, .int 50, .int 50, .int 1000, .int 10, .int 0, .int 3000, .int 0, .int 0, .int 0])), ((ma 0), .inr (4, [.int 0, .ref (g 0), .int 0]))]) (hS : va_S (AL s) s.heap H locs) (ls : Array Slot) (hl : lv_has ls 9 [(5, .int 0), (4, .ref ao), (3, .ref aj), (2, .ref am), (1, .ref ax), (0, .ref b)]) : W p l e room_1 s m #[Value.ref b] below meth c H locs 100 1000 (lw_Z below #[Value.ref b] s) (F0 m 388 ls []) := by
  obtain ⟨hx, hb, hr, hml, hown, hlk, hts, hE, hX, hbl⟩ := id LC
  have hA : ∀ q, s.heap.size ≤ q → (AL s) q := fun _ h => h
  have hbA : ¬ (AL s) b := Nat.not_le.mpr hbl
  by_cases c0 : x1 < 0
  · refine lv_aload_n hx hb dL_law_388 rfl (lv_at hl 4 rfl) ?_
    refine lv_aload_n hx hb dL_law_389 rfl (lv_at hl 5 rfl) ?_
    refine lv_iload hx hb dL_law_390 (lv_at hl 0 rfl) ?_
    refine lv_iconst (v := 1) hx hb dL_law_392 (by decide) ?_
    refine lv_iadd hx hb dL_law_393 ?_
    refine tp_i 1 (by decide) ?_
    refine va_sld hx hb hX hbl hbA hS (by unfold vp_in; decide) dL_law_394 ?_
    refine tp_i x1 e1 ?_
    refine lv_aload_n hx hb dL_law_395 rfl (lv_at hl 2 rfl) ?_
    refine ca_i (isC := [0, 1]) (isR := [2, 3]) (wr := [(am, .inr (15, [.int 0, .ref (ma 0), .int 0, .int 0, .int 0, .int 0, .ref (ma 1), .ref (ma 2), .null, .int 1, .int 10, .int 900, .ref (ma 3), .ref (ma 4), .int 0, .int 0, .int 0, .ref (ma 5), .int 1000, .int 50, .int 50, .int 1000, .int 10, .int 0, .int 3000, .int 0, .int 0, .int 0])), ((ma 0), .inr (4, [.int 0, .ref (g 0), .int 0]))]) (rn_SW (isC := [0, 1]) (wc := [(ax, .inr (14, [.ref (xa 0), .ref (xa 13), .ref (xa 18), .ref (xa 34), .ref (xa 45), .ref (xa 49), .ref (xa 50)])), ((xa 0), .inr (5, [.ref (xa 1), .ref (xa 2), .int 0, .ref (xa 3), .ref (xa 5), .ref (xa 7), .ref (xa 9), .ref (xa 11)]))]) (As := [.ref ax, .int x1, .ref aj]) (rest := []) (n := 3) hx hb hml hown hts hE hS hP hD hA hl.1 (k81_L_getEnergy l hst D cy g x1 ax (xa 0) aj (.ref (xa 13)) (.ref (xa 18)) (.ref (xa 34)) (.ref (xa 45)) (.ref (xa 49)) (.ref (xa 50)) (.ref (xa 1)) (.ref (xa 2)) (.int 0) (.ref (xa 3)) (.ref (xa 5)) (.ref (xa 7)) (.ref (xa 9)) (.ref (xa 11)) H.size c0) rfl rfl ax_82 rfl rfl ax_83 ⟨Nat.le_of_ble_eq_true rfl, Nat.le_of_ble_eq_true rfl⟩ rfl rfl (Nat.le_of_ble_eq_true rfl) dL_law_396 ⟨(Nat.le_of_ble_eq_true rfl), (Nat.le_of_ble_eq_true rfl)⟩) hP hD hS hA rfl rfl rfl (by decide) (fun ad396 H locs hP hD hS => ?_)
    have hP : va_P D vwCl [(am, .inr (15, [.int 0, .ref (ma 0), .int 0, .int 0, .int 0, .int 0, .ref (ma 1), .ref (ma 2), .null, .int 1, .int 10, .int 900, .ref (ma 3), .ref (ma 4), .int 0, .int 0, .int 0, .ref (ma 5), .int 1000, .int 50, .int 50, .int 1000, .int 10, .int 0, .int 3000, .int 0, .int 0, .int 0])), ((ma 0), .inr (4, [.int 0, .ref (g 0), .int 0]))] H := hP
    have hD : va_D (AL s) [(am, .inr (15, [.int 0, .ref (ma 0), .int 0, .int 0, .int 0, .int 0, .ref (ma 1), .ref (ma 2), .null, .int 1, .int 10, .int 900, .ref (ma 3), .ref (ma 4), .int 0, .int 0, .int 0, .ref (ma 5), .int 1000, .int 50, .int 50, .int 1000, .int 10, .int 0, .int 3000, .int 0, .int 0, .int 0])), ((ma 0), .inr (4, [.int 0, .ref (g 0), .int 0]))] := hD
    refine lv_istore (lv' := [(6, .int 1), (5, .int 0), (4, .ref ao), (3, .ref aj), (2, .ref am), (1, .ref ax), (0, .ref b)]) hx hb dL_law_399 hl (Nat.le_of_ble_eq_true rfl) rfl (fun ls hl => ?_)
    refine lv_aload_n hx hb dL_law_401 rfl (lv_at hl 4 rfl) ?_
    refine lv_aload_n hx hb dL_law_402 rfl (lv_at hl 6 rfl) ?_
    refine lv_iload hx hb dL_law_403 (lv_at hl 1 rfl) ?_
    refine lv_iconst (v := 1) hx hb dL_law_405 (by decide) ?_
    refine lv_iadd hx hb dL_law_406 ?_
    refine tp_i 1 (by decide) ?_
    refine va_sld hx hb hX hbl hbA hS (by unfold vp_in; decide) dL_law_407 ?_
    refine tp_i x1 e1 ?_
    refine ca_i (isC := [0, 1]) (isR := []) (wr := []) (rn_V (ci := 15) (q0 := 0) (isC := [0, 1]) (wc := [(am, .inr (15, [.int 0, .ref (ma 0), .int 0, .int 0, .int 0, .int 0, .ref (ma 1), .ref (ma 2), .null, .int 1, .int 10, .int 900, .ref (ma 3), .ref (ma 4), .int 0, .int 0, .int 0, .ref (ma 5), .int 1000, .int 50, .int 50, .int 1000, .int 10, .int 0, .int 3000, .int 0, .int 0, .int 0])), ((ma 0), .inr (4, [.int 0, .ref (g 0), .int 0]))]) (As := [.int x1]) (rest := []) (n := 1) hx hb hml hown hts hE hS hP hD hA hl.1 (k82_X10_getEnergy l D cy g x1 am (ma 0) (.int 0) (.int 0) (.int 0) (.int 0) (.int 0) (.ref (ma 1)) (.ref (ma 2)) (.null) (.int 1) (.int 10) (.int 900) (.ref (ma 3)) (.ref (ma 4)) (.int 0) (.int 0) (.int 0) (.ref (ma 5)) (.int 1000) (.int 50) (.int 50) (.int 1000) (.int 10) (.int 0) (.int 3000) (.int 0) (.int 0) (.int 0) (.int 0) (.ref (g 0)) H.size c0) rfl rfl rfl rfl rfl ax_84 rfl rfl ax_85 ⟨Nat.le_of_ble_eq_true rfl, Nat.le_of_ble_eq_true rfl⟩ rfl rfl (Nat.le_of_ble_eq_true rfl) dL_law_408 ⟨(Nat.le_of_ble_eq_true rfl), (Nat.le_of_ble_eq_true rfl)⟩) hP hD hS hA rfl rfl rfl (by decide) (fun ad408 H locs hP hD hS => ?_)
    have hP : va_P D vwCl [(am, .inr (15, [.int 1, .ref (ma 0), .int 0, .int 0, .int 0, .int 0, .ref (ma 1), .ref (ma 2), .null, .int 1, .int 10, .int 900, .ref (ma 3), .ref (ma 4), .int 0, .int 0, .int 0, .ref (ma 5), .int 1000, .int 50, .int 50, .int 1000, .int 10, .int 0, .int 3000, .int 0, .int 0, .int 0]))] H := hP
    have hD : va_D (AL s) [(am, .inr (15, [.int 1, .ref (ma 0), .int 0, .int 0, .int 0, .int 0, .ref (ma 1), .ref (ma 2), .null, .int 1, .int 10, .int 900, .ref (ma 3), .ref (ma 4), .int 0, .int 0, .int 0, .ref (ma 5), .int 1000, .int 50, .int 50, .int 1000, .int 10, .int 0, .int 3000, .int 0, .int 0, .int 0]))] := hD
    refine lv_istore (lv' := [(7, .int (-1)), (6, .int 1), (5, .int 0), (4, .ref ao), (3, .ref aj), (2, .ref am), (1, .ref ax), (0, .ref b)]) hx hb dL_law_411 hl (Nat.le_of_ble_eq_true rfl) rfl (fun ls hl => ?_)
    refine lv_aload_n hx hb dL_law_413 rfl (lv_at hl 5 rfl) ?_
    refine ca_i (isC := [0]) (isR := []) (wr := []) (rn_V (ci := 15) (q0 := 0) (isC := [0]) (wc := [(am, .inr (15, [.int 1, .ref (ma 0), .int 0, .int 0, .int 0, .int 0, .ref (ma 1), .ref (ma 2), .null, .int 1, .int 10, .int 900, .ref (ma 3), .ref (ma 4), .int 0, .int 0, .int 0, .ref (ma 5), .int 1000, .int 50, .int 50, .int 1000, .int 10, .int 0, .int 3000, .int 0, .int 0, .int 0]))]) (As := []) (rest := []) (n := 0) hx hb hml hown hts hE hS hP hD hA hl.1 (k24_X10_thrown l D cy g am (.ref (ma 0)) (.int 0) (.int 0) (.int 0) (.int 0) (.ref (ma 1)) (.ref (ma 2)) (.null) (.int 1) (.int 10) (.int 900) (.ref (ma 3)) (.ref (ma 4)) (.int 0) (.int 0) (.int 0) (.ref (ma 5)) (.int 1000) (.int 50) (.int 50) (.int 1000) (.int 10) (.int 0) (.int 3000) (.int 0) (.int 0) (.int 0) H.size ) rfl rfl rfl rfl rfl ax_45 rfl rfl ax_46 ⟨Nat.le_of_ble_eq_true rfl, Nat.le_of_ble_eq_true rfl⟩ rfl rfl (Nat.le_of_ble_eq_true rfl) dL_law_414 ⟨(Nat.le_of_ble_eq_true rfl), (Nat.le_of_ble_eq_true rfl)⟩) hP hD hS hA rfl rfl rfl (by decide) (fun ad414 H locs hP hD hS => ?_)
    have hP : va_P D vwCl [(am, .inr (15, [.int 1, .ref (ma 0), .int 0, .int 0, .int 0, .int 0, .ref (ma 1), .ref (ma 2), .null, .int 1, .int 10, .int 900, .ref (ma 3), .ref (ma 4), .int 0, .int 0, .int 0, .ref (ma 5), .int 1000, .int 50, .int 50, .int 1000, .int 10, .int 0, .int 3000, .int 0, .int 0, .int 0]))] H := hP
    have hD : va_D (AL s) [(am, .inr (15, [.int 1, .ref (ma 0), .int 0, .int 0, .int 0, .int 0, .ref (ma 1), .ref (ma 2), .null, .int 1, .int 10, .int 900, .ref (ma 3), .ref (ma 4), .int 0, .int 0, .int 0, .ref (ma 5), .int 1000, .int 50, .int 50, .int 1000, .int 10, .int 0, .int 3000, .int 0, .int 0, .int 0]))] := hD
    refine lv_iload hx hb dL_law_417 (lv_at hl 1 rfl) ?_
    refine lv_icmp_eq (tgt := 424) hx hb dL_law_419 (by decide) (fun _ => ?_) (fun z => absurd (by decide) z)
    refine lv_iload hx hb dL_law_424 (lv_at hl 1 rfl) ?_
    refine lv_if_ne (tgt := 441) hx hb dL_law_426 (by decide) (fun _ => ?_) (fun z => absurd z (by decide))
    refine lv_goto (tgt := 2947) hx hb dL_law_441 (by decide) ?_
    exact law_tail LC hS (Nat.le_of_ble_eq_true rfl) (Nat.le_of_ble_eq_true rfl) (lv_sub hl [2, 7] rfl)
  · have d0 : (-1 : Int32) < x1 := by
        have w0 : (-1 : Int32).toInt = -1 := by decide
        have w1 : (0 : Int32).toInt = 0 := by decide
        have z0 := c0
        rw [fa_lt] at z0
        rw [fa_lt]
        omega
    refine lv_aload_n hx hb dL_law_388 rfl (lv_at hl 4 rfl) ?_
    refine lv_aload_n hx hb dL_law_389 rfl (lv_at hl 5 rfl) ?_
    refine lv_iload hx hb dL_law_390 (lv_at hl 0 rfl) ?_
    refine lv_iconst (v := 1) hx hb dL_law_392 (by decide) ?_
    refine lv_iadd hx hb dL_law_393 ?_
    refine tp_i 1 (by decide) ?_
    refine va_sld hx hb hX hbl hbA hS (by unfold vp_in; decide) dL_law_394 ?_
    refine tp_i x1 e1 ?_
    refine lv_aload_n hx hb dL_law_395 rfl (lv_at hl 2 rfl) ?_
    refine ca_i (isC := [0, 1]) (isR := [2, 3]) (wr := [(am, .inr (15, [.int 0, .ref (ma 0), .int 0, .int 0, .int 0, .int 0, .ref (ma 1), .ref (ma 2), .null, .int 1, .int 10, .int 900, .ref (ma 3), .ref (ma 4), .int 0, .int 0, .int 0, .ref (ma 5), .int 1000, .int 50, .int 50, .int 1000, .int 10, .int 0, .int 3000, .int 0, .int 0, .int 0])), ((ma 0), .inr (4, [.int 0, .ref (g 0), .int 0]))]) (rn_SW (isC := [0, 1]) (wc := [(ax, .inr (14, [.ref (xa 0), .ref (xa 13), .ref (xa 18), .ref (xa 34), .ref (xa 45), .ref (xa 49), .ref (xa 50)])), ((xa 0), .inr (5, [.ref (xa 1), .ref (xa 2), .int 0, .ref (xa 3), .ref (xa 5), .ref (xa 7), .ref (xa 9), .ref (xa 11)]))]) (As := [.ref ax, .int x1, .ref aj]) (rest := []) (n := 3) hx hb hml hown hts hE hS hP hD hA hl.1 (k84_L_getEnergy l hst D cy g x1 ax (xa 0) aj (.ref (xa 13)) (.ref (xa 18)) (.ref (xa 34)) (.ref (xa 45)) (.ref (xa 49)) (.ref (xa 50)) (.ref (xa 1)) (.ref (xa 2)) (.ref (xa 3)) (.ref (xa 5)) (.ref (xa 7)) (.ref (xa 9)) (.ref (xa 11)) H.size c0) rfl rfl ax_82 rfl rfl ax_83 ⟨Nat.le_of_ble_eq_true rfl, Nat.le_of_ble_eq_true rfl⟩ rfl rfl (Nat.le_of_ble_eq_true rfl) dL_law_396 ⟨(Nat.le_of_ble_eq_true rfl), (Nat.le_of_ble_eq_true rfl)⟩) hP hD hS hA rfl rfl rfl (by decide) (fun ad396 H locs hP hD hS => ?_)
    have hP : va_P D vwCl [(am, .inr (15, [.int 0, .ref (ma 0), .int 0, .int 0, .int 0, .int 0, .ref (ma 1), .ref (ma 2), .null, .int 1, .int 10, .int 900, .ref (ma 3), .ref (ma 4), .int 0, .int 0, .int 0, .ref (ma 5), .int 1000, .int 50, .int 50, .int 1000, .int 10, .int 0, .int 3000, .int 0, .int 0, .int 0])), ((ma 0), .inr (4, [.int 0, .ref (g 0), .int 0]))] H := hP
    have hD : va_D (AL s) [(am, .inr (15, [.int 0, .ref (ma 0), .int 0, .int 0, .int 0, .int 0, .ref (ma 1), .ref (ma 2), .null, .int 1, .int 10, .int 900, .ref (ma 3), .ref (ma 4), .int 0, .int 0, .int 0, .ref (ma 5), .int 1000, .int 50, .int 50, .int 1000, .int 10, .int 0, .int 3000, .int 0, .int 0, .int 0])), ((ma 0), .inr (4, [.int 0, .ref (g 0), .int 0]))] := hD
    refine lv_istore (lv' := [(6, .int 1), (5, .int 0), (4, .ref ao), (3, .ref aj), (2, .ref am), (1, .ref ax), (0, .ref b)]) hx hb dL_law_399 hl (Nat.le_of_ble_eq_true rfl) rfl (fun ls hl => ?_)
    refine lv_aload_n hx hb dL_law_401 rfl (lv_at hl 4 rfl) ?_
    refine lv_aload_n hx hb dL_law_402 rfl (lv_at hl 6 rfl) ?_
    refine lv_iload hx hb dL_law_403 (lv_at hl 1 rfl) ?_
    refine lv_iconst (v := 1) hx hb dL_law_405 (by decide) ?_
    refine lv_iadd hx hb dL_law_406 ?_
    refine tp_i 1 (by decide) ?_
    refine va_sld hx hb hX hbl hbA hS (by unfold vp_in; decide) dL_law_407 ?_
    refine tp_i x1 e1 ?_
    refine ca_i (isC := [0, 1]) (isR := []) (wr := []) (rn_V (ci := 15) (q0 := 0) (isC := [0, 1]) (wc := [(am, .inr (15, [.int 0, .ref (ma 0), .int 0, .int 0, .int 0, .int 0, .ref (ma 1), .ref (ma 2), .null, .int 1, .int 10, .int 900, .ref (ma 3), .ref (ma 4), .int 0, .int 0, .int 0, .ref (ma 5), .int 1000, .int 50, .int 50, .int 1000, .int 10, .int 0, .int 3000, .int 0, .int 0, .int 0])), ((ma 0), .inr (4, [.int 0, .ref (g 0), .int 0]))]) (As := [.int x1]) (rest := []) (n := 1) hx hb hml hown hts hE hS hP hD hA hl.1 (k85_X10_getEnergy l D cy g x1 am (ma 0) (.int 0) (.int 0) (.int 0) (.int 0) (.int 0) (.ref (ma 1)) (.ref (ma 2)) (.null) (.int 1) (.int 10) (.int 900) (.ref (ma 3)) (.ref (ma 4)) (.int 0) (.int 0) (.int 0) (.ref (ma 5)) (.int 1000) (.int 50) (.int 50) (.int 1000) (.int 10) (.int 0) (.int 3000) (.int 0) (.int 0) (.int 0) (.int 0) (.ref (g 0)) H.size c0 d0) rfl rfl rfl rfl rfl ax_84 rfl rfl ax_85 ⟨Nat.le_of_ble_eq_true rfl, Nat.le_of_ble_eq_true rfl⟩ rfl rfl (Nat.le_of_ble_eq_true rfl) dL_law_408 ⟨(Nat.le_of_ble_eq_true rfl), (Nat.le_of_ble_eq_true rfl)⟩) hP hD hS hA rfl rfl rfl (by decide) (fun ad408 H locs hP hD hS => ?_)
    have hP : va_P D vwCl [(am, .inr (15, [.int 1, .ref (ma 0), .int 0, .int 0, .int 0, .int 0, .ref (ma 1), .ref (ma 2), .null, .int 1, .int 10, .int 900, .ref (ma 3), .ref (ma 4), .int 0, .int 0, .int 0, .ref (ma 5), .int 1000, .int 50, .int 50, .int 1000, .int 10, .int 0, .int 3000, .int 0, .int 0, .int 0]))] H := hP
    have hD : va_D (AL s) [(am, .inr (15, [.int 1, .ref (ma 0), .int 0, .int 0, .int 0, .int 0, .ref (ma 1), .ref (ma 2), .null, .int 1, .int 10, .int 900, .ref (ma 3), .ref (ma 4), .int 0, .int 0, .int 0, .ref (ma 5), .int 1000, .int 50, .int 50, .int 1000, .int 10, .int 0, .int 3000, .int 0, .int 0, .int 0]))] := hD
    refine lv_istore (lv' := [(7, .int (-1)), (6, .int 1), (5, .int 0), (4, .ref ao), (3, .ref aj), (2, .ref am), (1, .ref ax), (0, .ref b)]) hx hb dL_law_411 hl (Nat.le_of_ble_eq_true rfl) rfl (fun ls hl => ?_)
    refine lv_aload_n hx hb dL_law_413 rfl (lv_at hl 5 rfl) ?_
    refine ca_i (isC := [0]) (isR := []) (wr := []) (rn_V (ci := 15) (q0 := 0) (isC := [0]) (wc := [(am, .inr (15, [.int 1, .ref (ma 0), .int 0, .int 0, .int 0, .int 0, .ref (ma 1), .ref (ma 2), .null, .int 1, .int 10, .int 900, .ref (ma 3), .ref (ma 4), .int 0, .int 0, .int 0, .ref (ma 5), .int 1000, .int 50, .int 50, .int 1000, .int 10, .int 0, .int 3000, .int 0, .int 0, .int 0]))]) (As := []) (rest := []) (n := 0) hx hb hml hown hts hE hS hP hD hA hl.1 (k24_X10_thrown l D cy g am (.ref (ma 0)) (.int 0) (.int 0) (.int 0) (.int 0) (.ref (ma 1)) (.ref (ma 2)) (.null) (.int 1) (.int 10) (.int 900) (.ref (ma 3)) (.ref (ma 4)) (.int 0) (.int 0) (.int 0) (.ref (ma 5)) (.int 1000) (.int 50) (.int 50) (.int 1000) (.int 10) (.int 0) (.int 3000) (.int 0) (.int 0) (.int 0) H.size ) rfl rfl rfl rfl rfl ax_45 rfl rfl ax_46 ⟨Nat.le_of_ble_eq_true rfl, Nat.le_of_ble_eq_true rfl⟩ rfl rfl (Nat.le_of_ble_eq_true rfl) dL_law_414 ⟨(Nat.le_of_ble_eq_true rfl), (Nat.le_of_ble_eq_true rfl)⟩) hP hD hS hA rfl rfl rfl (by decide) (fun ad414 H locs hP hD hS => ?_)
    have hP : va_P D vwCl [(am, .inr (15, [.int 1, .ref (ma 0), .int 0, .int 0, .int 0, .int 0, .ref (ma 1), .ref (ma 2), .null, .int 1, .int 10, .int 900, .ref (ma 3), .ref (ma 4), .int 0, .int 0, .int 0, .ref (ma 5), .int 1000, .int 50, .int 50, .int 1000, .int 10, .int 0, .int 3000, .int 0, .int 0, .int 0]))] H := hP
    have hD : va_D (AL s) [(am, .inr (15, [.int 1, .ref (ma 0), .int 0, .int 0, .int 0, .int 0, .ref (ma 1), .ref (ma 2), .null, .int 1, .int 10, .int 900, .ref (ma 3), .ref (ma 4), .int 0, .int 0, .int 0, .ref (ma 5), .int 1000, .int 50, .int 50, .int 1000, .int 10, .int 0, .int 3000, .int 0, .int 0, .int 0]))] := hD
    refine lv_iload hx hb dL_law_417 (lv_at hl 1 rfl) ?_
    refine lv_icmp_eq (tgt := 424) hx hb dL_law_419 (by decide) (fun _ => ?_) (fun z => absurd (by decide) z)
    refine lv_iload hx hb dL_law_424 (lv_at hl 1 rfl) ?_
    refine lv_if_ne (tgt := 441) hx hb dL_law_426 (by decide) (fun _ => ?_) (fun z => absurd z (by decide))
    refine lv_goto (tgt := 2947) hx hb dL_law_441 (by decide) ?_
    exact law_tail LC hS (Nat.le_of_ble_eq_true rfl) (Nat.le_of_ble_eq_true rfl) (lv_sub hl [2, 7] rfl)
set_option maxHeartbeats 4000000 in
set_option maxRecDepth 100000 in
theorem lc_3 {p : Program} {e : Env} {s : State} {m : MethodId} {below : List Frame} {meth : Method} {c : Code} {l : Launch} {b : Nat} {xs : Nat → Int32} {D : va_G} {cy : Nat → ClassId} {g : Nat → Nat} (hst : l.stackTraces = false) (LC : LCtx p s m meth c b xs D cy g) (ax am aj ao : Nat) (xa ma : Nat → Nat) (x1 x2 x3 x4 : Int32) (e1 : xs (1 : Int32).toNatClampNeg = x1) (e2 : xs (2 : Int32).toNatClampNeg = x2) (e3 : xs (3 : Int32).toNatClampNeg = x3) (e4 : xs (4 : Int32).toNatClampNeg = x4) {H : Heap} {locs : List Loc} (hP : va_P D vwCl [(ax, .inr (14, [.ref (xa 0), .ref (xa 13), .ref (xa 18), .ref (xa 34), .ref (xa 45), .ref (xa 49), .ref (xa 50)])), ((xa 0), .inr (5, [.ref (xa 1), .ref (xa 2), .int 0, .ref (xa 3), .ref (xa 5), .ref (xa 7), .ref (xa 9), .ref (xa 11)])), (am, .inr (15, [.int 0, .ref (ma 0), .int 0, .int 0, .int 0, .int 0, .ref (ma 1), .ref (ma 2), .null, .int 1, .int 10, .int 900, .ref (ma 3), .ref (ma 4), .int 0, .int 0, .int 0, .ref (ma 5), .int 1000, .int 50, .int 50, .int 1000, .int 10, .int 0, .int 3000, .int 0, .int 0, .int 0])), ((ma 0), .inr (4, [.int 0, .ref (g 0), .int 0]))] H) (hD : va_D (AL s) [(ax, .inr (14, [.ref (xa 0), .ref (xa 13), .ref (xa 18), .ref (xa 34), .ref (xa 45), .ref (xa 49), .ref (xa 50)])), ((xa 0), .inr (5, [.ref (xa 1), .ref (xa 2), .int 0, .ref (xa 3), .ref (xa 5), .ref (xa 7), .ref (xa 9), .ref (xa 11)])), (am, .inr (15, [.int 0, .ref (ma 0), .int 0, .int 0, .int 0, .int 0, .ref (ma 1), .ref (ma 2), .null, .int 1, .int 10, .int 900, .ref (ma 3), .ref (ma 4), .int 0, .int 0, .int 0, .ref (ma 5), .int 1000, .int 50, .int 50, .int 1000, .int 10, .int 0, .int 3000, .int 0, .int 0, .int 0])), ((ma 0), .inr (4, [.int 0, .ref (g 0), .int 0]))]) (hS : va_S (AL s) s.heap H locs) (ls : Array Slot) (hl : lv_has ls 9 [(5, .int 0), (4, .ref ao), (3, .ref aj), (2, .ref am), (1, .ref ax), (0, .ref b)]) : W p l e room_1 s m #[Value.ref b] below meth c H locs 100 1000 (lw_Z below #[Value.ref b] s) (F0 m 444 ls []) := by
  obtain ⟨hx, hb, hr, hml, hown, hlk, hts, hE, hX, hbl⟩ := id LC
  have hA : ∀ q, s.heap.size ≤ q → (AL s) q := fun _ h => h
  have hbA : ¬ (AL s) b := Nat.not_le.mpr hbl
  by_cases c0 : x1 < 0
  · refine lv_aload_n hx hb dL_law_444 rfl (lv_at hl 4 rfl) ?_
    refine lv_aload_n hx hb dL_law_445 rfl (lv_at hl 5 rfl) ?_
    refine lv_iload hx hb dL_law_446 (lv_at hl 0 rfl) ?_
    refine lv_iconst (v := 1) hx hb dL_law_448 (by decide) ?_
    refine lv_iadd hx hb dL_law_449 ?_
    refine tp_i 1 (by decide) ?_
    refine va_sld hx hb hX hbl hbA hS (by unfold vp_in; decide) dL_law_450 ?_
    refine tp_i x1 e1 ?_
    refine lv_aload_n hx hb dL_law_451 rfl (lv_at hl 5 rfl) ?_
    refine lv_iload hx hb dL_law_452 (lv_at hl 0 rfl) ?_
    refine lv_iconst (v := 2) hx hb dL_law_454 (by decide) ?_
    refine lv_iadd hx hb dL_law_455 ?_
    refine tp_i 2 (by decide) ?_
    refine va_sld hx hb hX hbl hbA hS (by unfold vp_in; decide) dL_law_456 ?_
    refine tp_i x2 e2 ?_
    refine lv_aload_n hx hb dL_law_457 rfl (lv_at hl 5 rfl) ?_
    refine lv_iload hx hb dL_law_458 (lv_at hl 0 rfl) ?_
    refine lv_iconst (v := 3) hx hb dL_law_460 (by decide) ?_
    refine lv_iadd hx hb dL_law_461 ?_
    refine tp_i 3 (by decide) ?_
    refine va_sld hx hb hX hbl hbA hS (by unfold vp_in; decide) dL_law_462 ?_
    refine tp_i x3 e3 ?_
    refine lv_aload_n hx hb dL_law_463 rfl (lv_at hl 2 rfl) ?_
    refine ca_i (isC := [0, 1]) (isR := [2, 3]) (wr := [(am, .inr (15, [.int 0, .ref (ma 0), .int 0, .int 0, .int 0, .int 0, .ref (ma 1), .ref (ma 2), .null, .int 1, .int 10, .int 900, .ref (ma 3), .ref (ma 4), .int 0, .int 0, .int 0, .ref (ma 5), .int 1000, .int 50, .int 50, .int 1000, .int 10, .int 0, .int 3000, .int 0, .int 0, .int 0])), ((ma 0), .inr (4, [.int 0, .ref (g 0), .int 0]))]) (rn_SW (isC := [0, 1]) (wc := [(ax, .inr (14, [.ref (xa 0), .ref (xa 13), .ref (xa 18), .ref (xa 34), .ref (xa 45), .ref (xa 49), .ref (xa 50)])), ((xa 0), .inr (5, [.ref (xa 1), .ref (xa 2), .int 0, .ref (xa 3), .ref (xa 5), .ref (xa 7), .ref (xa 9), .ref (xa 11)]))]) (As := [.ref ax, .int x1, .int x2, .int x3, .ref aj]) (rest := []) (n := 5) hx hb hml hown hts hE hS hP hD hA hl.1 (k88_L_conduct l hst D cy g x1 x2 x3 ax (xa 0) aj (.ref (xa 13)) (.ref (xa 18)) (.ref (xa 34)) (.ref (xa 45)) (.ref (xa 49)) (.ref (xa 50)) (.ref (xa 1)) (.ref (xa 2)) (.int 0) (.ref (xa 3)) (.ref (xa 5)) (.ref (xa 7)) (.ref (xa 9)) (.ref (xa 11)) H.size c0) rfl rfl ax_90 rfl rfl ax_91 ⟨Nat.le_of_ble_eq_true rfl, Nat.le_of_ble_eq_true rfl⟩ rfl rfl (Nat.le_of_ble_eq_true rfl) dL_law_464 ⟨(Nat.le_of_ble_eq_true rfl), (Nat.le_of_ble_eq_true rfl)⟩) hP hD hS hA rfl rfl rfl (by decide) (fun ad464 H locs hP hD hS => ?_)
    have hP : va_P D vwCl [(am, .inr (15, [.int 0, .ref (ma 0), .int 0, .int 0, .int 0, .int 0, .ref (ma 1), .ref (ma 2), .null, .int 1, .int 10, .int 900, .ref (ma 3), .ref (ma 4), .int 0, .int 0, .int 0, .ref (ma 5), .int 1000, .int 50, .int 50, .int 1000, .int 10, .int 0, .int 3000, .int 0, .int 0, .int 0])), ((ma 0), .inr (4, [.int 0, .ref (g 0), .int 0]))] H := hP
    have hD : va_D (AL s) [(am, .inr (15, [.int 0, .ref (ma 0), .int 0, .int 0, .int 0, .int 0, .ref (ma 1), .ref (ma 2), .null, .int 1, .int 10, .int 900, .ref (ma 3), .ref (ma 4), .int 0, .int 0, .int 0, .ref (ma 5), .int 1000, .int 50, .int 50, .int 1000, .int 10, .int 0, .int 3000, .int 0, .int 0, .int 0])), ((ma 0), .inr (4, [.int 0, .ref (g 0), .int 0]))] := hD
    refine lv_istore (lv' := [(6, .int 1), (5, .int 0), (4, .ref ao), (3, .ref aj), (2, .ref am), (1, .ref ax), (0, .ref b)]) hx hb dL_law_467 hl (Nat.le_of_ble_eq_true rfl) rfl (fun ls hl => ?_)
    refine lv_aload_n hx hb dL_law_469 rfl (lv_at hl 4 rfl) ?_
    refine lv_aload_n hx hb dL_law_470 rfl (lv_at hl 6 rfl) ?_
    refine lv_iload hx hb dL_law_471 (lv_at hl 1 rfl) ?_
    refine lv_iconst (v := 1) hx hb dL_law_473 (by decide) ?_
    refine lv_iadd hx hb dL_law_474 ?_
    refine tp_i 1 (by decide) ?_
    refine va_sld hx hb hX hbl hbA hS (by unfold vp_in; decide) dL_law_475 ?_
    refine tp_i x1 e1 ?_
    refine lv_aload_n hx hb dL_law_476 rfl (lv_at hl 6 rfl) ?_
    refine lv_iload hx hb dL_law_477 (lv_at hl 1 rfl) ?_
    refine lv_iconst (v := 2) hx hb dL_law_479 (by decide) ?_
    refine lv_iadd hx hb dL_law_480 ?_
    refine tp_i 2 (by decide) ?_
    refine va_sld hx hb hX hbl hbA hS (by unfold vp_in; decide) dL_law_481 ?_
    refine tp_i x2 e2 ?_
    refine lv_aload_n hx hb dL_law_482 rfl (lv_at hl 6 rfl) ?_
    refine lv_iload hx hb dL_law_483 (lv_at hl 1 rfl) ?_
    refine lv_iconst (v := 3) hx hb dL_law_485 (by decide) ?_
    refine lv_iadd hx hb dL_law_486 ?_
    refine tp_i 3 (by decide) ?_
    refine va_sld hx hb hX hbl hbA hS (by unfold vp_in; decide) dL_law_487 ?_
    refine tp_i x3 e3 ?_
    refine ca_i (isC := [0, 1]) (isR := []) (wr := []) (rn_V (ci := 15) (q0 := 0) (isC := [0, 1]) (wc := [(am, .inr (15, [.int 0, .ref (ma 0), .int 0, .int 0, .int 0, .int 0, .ref (ma 1), .ref (ma 2), .null, .int 1, .int 10, .int 900, .ref (ma 3), .ref (ma 4), .int 0, .int 0, .int 0, .ref (ma 5), .int 1000, .int 50, .int 50, .int 1000, .int 10, .int 0, .int 3000, .int 0, .int 0, .int 0])), ((ma 0), .inr (4, [.int 0, .ref (g 0), .int 0]))]) (As := [.int x1, .int x2, .int x3]) (rest := []) (n := 3) hx hb hml hown hts hE hS hP hD hA hl.1 (k89_X10_conduct l D cy g x1 x2 x3 am (ma 0) (.int 0) (.int 0) (.int 0) (.int 0) (.int 0) (.ref (ma 1)) (.ref (ma 2)) (.null) (.int 1) (.int 10) (.int 900) (.ref (ma 3)) (.ref (ma 4)) (.int 0) (.int 0) (.int 0) (.ref (ma 5)) (.int 1000) (.int 50) (.int 50) (.int 1000) (.int 10) (.int 0) (.int 3000) (.int 0) (.int 0) (.int 0) (.int 0) (.ref (g 0)) H.size c0) rfl rfl rfl rfl rfl ax_92 rfl rfl ax_93 ⟨Nat.le_of_ble_eq_true rfl, Nat.le_of_ble_eq_true rfl⟩ rfl rfl (Nat.le_of_ble_eq_true rfl) dL_law_488 ⟨(Nat.le_of_ble_eq_true rfl), (Nat.le_of_ble_eq_true rfl)⟩) hP hD hS hA rfl rfl rfl (by decide) (fun ad488 H locs hP hD hS => ?_)
    have hP : va_P D vwCl [(am, .inr (15, [.int 1, .ref (ma 0), .int 0, .int 0, .int 0, .int 0, .ref (ma 1), .ref (ma 2), .null, .int 1, .int 10, .int 900, .ref (ma 3), .ref (ma 4), .int 0, .int 0, .int 0, .ref (ma 5), .int 1000, .int 50, .int 50, .int 1000, .int 10, .int 0, .int 3000, .int 0, .int 0, .int 0]))] H := hP
    have hD : va_D (AL s) [(am, .inr (15, [.int 1, .ref (ma 0), .int 0, .int 0, .int 0, .int 0, .ref (ma 1), .ref (ma 2), .null, .int 1, .int 10, .int 900, .ref (ma 3), .ref (ma 4), .int 0, .int 0, .int 0, .ref (ma 5), .int 1000, .int 50, .int 50, .int 1000, .int 10, .int 0, .int 3000, .int 0, .int 0, .int 0]))] := hD
    refine lv_istore (lv' := [(7, .int (-1)), (6, .int 1), (5, .int 0), (4, .ref ao), (3, .ref aj), (2, .ref am), (1, .ref ax), (0, .ref b)]) hx hb dL_law_491 hl (Nat.le_of_ble_eq_true rfl) rfl (fun ls hl => ?_)
    refine lv_aload_n hx hb dL_law_493 rfl (lv_at hl 5 rfl) ?_
    refine ca_i (isC := [0]) (isR := []) (wr := []) (rn_V (ci := 15) (q0 := 0) (isC := [0]) (wc := [(am, .inr (15, [.int 1, .ref (ma 0), .int 0, .int 0, .int 0, .int 0, .ref (ma 1), .ref (ma 2), .null, .int 1, .int 10, .int 900, .ref (ma 3), .ref (ma 4), .int 0, .int 0, .int 0, .ref (ma 5), .int 1000, .int 50, .int 50, .int 1000, .int 10, .int 0, .int 3000, .int 0, .int 0, .int 0]))]) (As := []) (rest := []) (n := 0) hx hb hml hown hts hE hS hP hD hA hl.1 (k24_X10_thrown l D cy g am (.ref (ma 0)) (.int 0) (.int 0) (.int 0) (.int 0) (.ref (ma 1)) (.ref (ma 2)) (.null) (.int 1) (.int 10) (.int 900) (.ref (ma 3)) (.ref (ma 4)) (.int 0) (.int 0) (.int 0) (.ref (ma 5)) (.int 1000) (.int 50) (.int 50) (.int 1000) (.int 10) (.int 0) (.int 3000) (.int 0) (.int 0) (.int 0) H.size ) rfl rfl rfl rfl rfl ax_45 rfl rfl ax_46 ⟨Nat.le_of_ble_eq_true rfl, Nat.le_of_ble_eq_true rfl⟩ rfl rfl (Nat.le_of_ble_eq_true rfl) dL_law_494 ⟨(Nat.le_of_ble_eq_true rfl), (Nat.le_of_ble_eq_true rfl)⟩) hP hD hS hA rfl rfl rfl (by decide) (fun ad494 H locs hP hD hS => ?_)
    have hP : va_P D vwCl [(am, .inr (15, [.int 1, .ref (ma 0), .int 0, .int 0, .int 0, .int 0, .ref (ma 1), .ref (ma 2), .null, .int 1, .int 10, .int 900, .ref (ma 3), .ref (ma 4), .int 0, .int 0, .int 0, .ref (ma 5), .int 1000, .int 50, .int 50, .int 1000, .int 10, .int 0, .int 3000, .int 0, .int 0, .int 0]))] H := hP
    have hD : va_D (AL s) [(am, .inr (15, [.int 1, .ref (ma 0), .int 0, .int 0, .int 0, .int 0, .ref (ma 1), .ref (ma 2), .null, .int 1, .int 10, .int 900, .ref (ma 3), .ref (ma 4), .int 0, .int 0, .int 0, .ref (ma 5), .int 1000, .int 50, .int 50, .int 1000, .int 10, .int 0, .int 3000, .int 0, .int 0, .int 0]))] := hD
    refine lv_iload hx hb dL_law_497 (lv_at hl 1 rfl) ?_
    refine lv_icmp_eq (tgt := 504) hx hb dL_law_499 (by decide) (fun _ => ?_) (fun z => absurd (by decide) z)
    refine lv_iload hx hb dL_law_504 (lv_at hl 1 rfl) ?_
    refine lv_if_ne (tgt := 521) hx hb dL_law_506 (by decide) (fun _ => ?_) (fun z => absurd z (by decide))
    refine lv_goto (tgt := 2947) hx hb dL_law_521 (by decide) ?_
    exact law_tail LC hS (Nat.le_of_ble_eq_true rfl) (Nat.le_of_ble_eq_true rfl) (lv_sub hl [2, 7] rfl)
  · have d0 : (-1 : Int32) < x1 := by
        have w0 : (-1 : Int32).toInt = -1 := by decide
        have w1 : (0 : Int32).toInt = 0 := by decide
        have z0 := c0
        rw [fa_lt] at z0
        rw [fa_lt]
        omega
    refine lv_aload_n hx hb dL_law_444 rfl (lv_at hl 4 rfl) ?_
    refine lv_aload_n hx hb dL_law_445 rfl (lv_at hl 5 rfl) ?_
    refine lv_iload hx hb dL_law_446 (lv_at hl 0 rfl) ?_
    refine lv_iconst (v := 1) hx hb dL_law_448 (by decide) ?_
    refine lv_iadd hx hb dL_law_449 ?_
    refine tp_i 1 (by decide) ?_
    refine va_sld hx hb hX hbl hbA hS (by unfold vp_in; decide) dL_law_450 ?_
    refine tp_i x1 e1 ?_
    refine lv_aload_n hx hb dL_law_451 rfl (lv_at hl 5 rfl) ?_
    refine lv_iload hx hb dL_law_452 (lv_at hl 0 rfl) ?_
    refine lv_iconst (v := 2) hx hb dL_law_454 (by decide) ?_
    refine lv_iadd hx hb dL_law_455 ?_
    refine tp_i 2 (by decide) ?_
    refine va_sld hx hb hX hbl hbA hS (by unfold vp_in; decide) dL_law_456 ?_
    refine tp_i x2 e2 ?_
    refine lv_aload_n hx hb dL_law_457 rfl (lv_at hl 5 rfl) ?_
    refine lv_iload hx hb dL_law_458 (lv_at hl 0 rfl) ?_
    refine lv_iconst (v := 3) hx hb dL_law_460 (by decide) ?_
    refine lv_iadd hx hb dL_law_461 ?_
    refine tp_i 3 (by decide) ?_
    refine va_sld hx hb hX hbl hbA hS (by unfold vp_in; decide) dL_law_462 ?_
    refine tp_i x3 e3 ?_
    refine lv_aload_n hx hb dL_law_463 rfl (lv_at hl 2 rfl) ?_
    refine ca_i (isC := [0, 1]) (isR := [2, 3]) (wr := [(am, .inr (15, [.int 0, .ref (ma 0), .int 0, .int 0, .int 0, .int 0, .ref (ma 1), .ref (ma 2), .null, .int 1, .int 10, .int 900, .ref (ma 3), .ref (ma 4), .int 0, .int 0, .int 0, .ref (ma 5), .int 1000, .int 50, .int 50, .int 1000, .int 10, .int 0, .int 3000, .int 0, .int 0, .int 0])), ((ma 0), .inr (4, [.int 0, .ref (g 0), .int 0]))]) (rn_SW (isC := [0, 1]) (wc := [(ax, .inr (14, [.ref (xa 0), .ref (xa 13), .ref (xa 18), .ref (xa 34), .ref (xa 45), .ref (xa 49), .ref (xa 50)])), ((xa 0), .inr (5, [.ref (xa 1), .ref (xa 2), .int 0, .ref (xa 3), .ref (xa 5), .ref (xa 7), .ref (xa 9), .ref (xa 11)]))]) (As := [.ref ax, .int x1, .int x2, .int x3, .ref aj]) (rest := []) (n := 5) hx hb hml hown hts hE hS hP hD hA hl.1 (k92_L_conduct l hst D cy g x1 x2 x3 ax (xa 0) aj (.ref (xa 13)) (.ref (xa 18)) (.ref (xa 34)) (.ref (xa 45)) (.ref (xa 49)) (.ref (xa 50)) (.ref (xa 1)) (.ref (xa 2)) (.ref (xa 3)) (.ref (xa 5)) (.ref (xa 7)) (.ref (xa 9)) (.ref (xa 11)) H.size c0) rfl rfl ax_90 rfl rfl ax_91 ⟨Nat.le_of_ble_eq_true rfl, Nat.le_of_ble_eq_true rfl⟩ rfl rfl (Nat.le_of_ble_eq_true rfl) dL_law_464 ⟨(Nat.le_of_ble_eq_true rfl), (Nat.le_of_ble_eq_true rfl)⟩) hP hD hS hA rfl rfl rfl (by decide) (fun ad464 H locs hP hD hS => ?_)
    have hP : va_P D vwCl [(am, .inr (15, [.int 0, .ref (ma 0), .int 0, .int 0, .int 0, .int 0, .ref (ma 1), .ref (ma 2), .null, .int 1, .int 10, .int 900, .ref (ma 3), .ref (ma 4), .int 0, .int 0, .int 0, .ref (ma 5), .int 1000, .int 50, .int 50, .int 1000, .int 10, .int 0, .int 3000, .int 0, .int 0, .int 0])), ((ma 0), .inr (4, [.int 0, .ref (g 0), .int 0]))] H := hP
    have hD : va_D (AL s) [(am, .inr (15, [.int 0, .ref (ma 0), .int 0, .int 0, .int 0, .int 0, .ref (ma 1), .ref (ma 2), .null, .int 1, .int 10, .int 900, .ref (ma 3), .ref (ma 4), .int 0, .int 0, .int 0, .ref (ma 5), .int 1000, .int 50, .int 50, .int 1000, .int 10, .int 0, .int 3000, .int 0, .int 0, .int 0])), ((ma 0), .inr (4, [.int 0, .ref (g 0), .int 0]))] := hD
    refine lv_istore (lv' := [(6, .int 1), (5, .int 0), (4, .ref ao), (3, .ref aj), (2, .ref am), (1, .ref ax), (0, .ref b)]) hx hb dL_law_467 hl (Nat.le_of_ble_eq_true rfl) rfl (fun ls hl => ?_)
    refine lv_aload_n hx hb dL_law_469 rfl (lv_at hl 4 rfl) ?_
    refine lv_aload_n hx hb dL_law_470 rfl (lv_at hl 6 rfl) ?_
    refine lv_iload hx hb dL_law_471 (lv_at hl 1 rfl) ?_
    refine lv_iconst (v := 1) hx hb dL_law_473 (by decide) ?_
    refine lv_iadd hx hb dL_law_474 ?_
    refine tp_i 1 (by decide) ?_
    refine va_sld hx hb hX hbl hbA hS (by unfold vp_in; decide) dL_law_475 ?_
    refine tp_i x1 e1 ?_
    refine lv_aload_n hx hb dL_law_476 rfl (lv_at hl 6 rfl) ?_
    refine lv_iload hx hb dL_law_477 (lv_at hl 1 rfl) ?_
    refine lv_iconst (v := 2) hx hb dL_law_479 (by decide) ?_
    refine lv_iadd hx hb dL_law_480 ?_
    refine tp_i 2 (by decide) ?_
    refine va_sld hx hb hX hbl hbA hS (by unfold vp_in; decide) dL_law_481 ?_
    refine tp_i x2 e2 ?_
    refine lv_aload_n hx hb dL_law_482 rfl (lv_at hl 6 rfl) ?_
    refine lv_iload hx hb dL_law_483 (lv_at hl 1 rfl) ?_
    refine lv_iconst (v := 3) hx hb dL_law_485 (by decide) ?_
    refine lv_iadd hx hb dL_law_486 ?_
    refine tp_i 3 (by decide) ?_
    refine va_sld hx hb hX hbl hbA hS (by unfold vp_in; decide) dL_law_487 ?_
    refine tp_i x3 e3 ?_
    refine ca_i (isC := [0, 1]) (isR := []) (wr := []) (rn_V (ci := 15) (q0 := 0) (isC := [0, 1]) (wc := [(am, .inr (15, [.int 0, .ref (ma 0), .int 0, .int 0, .int 0, .int 0, .ref (ma 1), .ref (ma 2), .null, .int 1, .int 10, .int 900, .ref (ma 3), .ref (ma 4), .int 0, .int 0, .int 0, .ref (ma 5), .int 1000, .int 50, .int 50, .int 1000, .int 10, .int 0, .int 3000, .int 0, .int 0, .int 0])), ((ma 0), .inr (4, [.int 0, .ref (g 0), .int 0]))]) (As := [.int x1, .int x2, .int x3]) (rest := []) (n := 3) hx hb hml hown hts hE hS hP hD hA hl.1 (k93_X10_conduct l D cy g x1 x2 x3 am (ma 0) (.int 0) (.int 0) (.int 0) (.int 0) (.int 0) (.ref (ma 1)) (.ref (ma 2)) (.null) (.int 1) (.int 10) (.int 900) (.ref (ma 3)) (.ref (ma 4)) (.int 0) (.int 0) (.int 0) (.ref (ma 5)) (.int 1000) (.int 50) (.int 50) (.int 1000) (.int 10) (.int 0) (.int 3000) (.int 0) (.int 0) (.int 0) (.int 0) (.ref (g 0)) H.size c0 d0) rfl rfl rfl rfl rfl ax_92 rfl rfl ax_93 ⟨Nat.le_of_ble_eq_true rfl, Nat.le_of_ble_eq_true rfl⟩ rfl rfl (Nat.le_of_ble_eq_true rfl) dL_law_488 ⟨(Nat.le_of_ble_eq_true rfl), (Nat.le_of_ble_eq_true rfl)⟩) hP hD hS hA rfl rfl rfl (by decide) (fun ad488 H locs hP hD hS => ?_)
    have hP : va_P D vwCl [(am, .inr (15, [.int 1, .ref (ma 0), .int 0, .int 0, .int 0, .int 0, .ref (ma 1), .ref (ma 2), .null, .int 1, .int 10, .int 900, .ref (ma 3), .ref (ma 4), .int 0, .int 0, .int 0, .ref (ma 5), .int 1000, .int 50, .int 50, .int 1000, .int 10, .int 0, .int 3000, .int 0, .int 0, .int 0]))] H := hP
    have hD : va_D (AL s) [(am, .inr (15, [.int 1, .ref (ma 0), .int 0, .int 0, .int 0, .int 0, .ref (ma 1), .ref (ma 2), .null, .int 1, .int 10, .int 900, .ref (ma 3), .ref (ma 4), .int 0, .int 0, .int 0, .ref (ma 5), .int 1000, .int 50, .int 50, .int 1000, .int 10, .int 0, .int 3000, .int 0, .int 0, .int 0]))] := hD
    refine lv_istore (lv' := [(7, .int (-1)), (6, .int 1), (5, .int 0), (4, .ref ao), (3, .ref aj), (2, .ref am), (1, .ref ax), (0, .ref b)]) hx hb dL_law_491 hl (Nat.le_of_ble_eq_true rfl) rfl (fun ls hl => ?_)
    refine lv_aload_n hx hb dL_law_493 rfl (lv_at hl 5 rfl) ?_
    refine ca_i (isC := [0]) (isR := []) (wr := []) (rn_V (ci := 15) (q0 := 0) (isC := [0]) (wc := [(am, .inr (15, [.int 1, .ref (ma 0), .int 0, .int 0, .int 0, .int 0, .ref (ma 1), .ref (ma 2), .null, .int 1, .int 10, .int 900, .ref (ma 3), .ref (ma 4), .int 0, .int 0, .int 0, .ref (ma 5), .int 1000, .int 50, .int 50, .int 1000, .int 10, .int 0, .int 3000, .int 0, .int 0, .int 0]))]) (As := []) (rest := []) (n := 0) hx hb hml hown hts hE hS hP hD hA hl.1 (k24_X10_thrown l D cy g am (.ref (ma 0)) (.int 0) (.int 0) (.int 0) (.int 0) (.ref (ma 1)) (.ref (ma 2)) (.null) (.int 1) (.int 10) (.int 900) (.ref (ma 3)) (.ref (ma 4)) (.int 0) (.int 0) (.int 0) (.ref (ma 5)) (.int 1000) (.int 50) (.int 50) (.int 1000) (.int 10) (.int 0) (.int 3000) (.int 0) (.int 0) (.int 0) H.size ) rfl rfl rfl rfl rfl ax_45 rfl rfl ax_46 ⟨Nat.le_of_ble_eq_true rfl, Nat.le_of_ble_eq_true rfl⟩ rfl rfl (Nat.le_of_ble_eq_true rfl) dL_law_494 ⟨(Nat.le_of_ble_eq_true rfl), (Nat.le_of_ble_eq_true rfl)⟩) hP hD hS hA rfl rfl rfl (by decide) (fun ad494 H locs hP hD hS => ?_)
    have hP : va_P D vwCl [(am, .inr (15, [.int 1, .ref (ma 0), .int 0, .int 0, .int 0, .int 0, .ref (ma 1), .ref (ma 2), .null, .int 1, .int 10, .int 900, .ref (ma 3), .ref (ma 4), .int 0, .int 0, .int 0, .ref (ma 5), .int 1000, .int 50, .int 50, .int 1000, .int 10, .int 0, .int 3000, .int 0, .int 0, .int 0]))] H := hP
    have hD : va_D (AL s) [(am, .inr (15, [.int 1, .ref (ma 0), .int 0, .int 0, .int 0, .int 0, .ref (ma 1), .ref (ma 2), .null, .int 1, .int 10, .int 900, .ref (ma 3), .ref (ma 4), .int 0, .int 0, .int 0, .ref (ma 5), .int 1000, .int 50, .int 50, .int 1000, .int 10, .int 0, .int 3000, .int 0, .int 0, .int 0]))] := hD
    refine lv_iload hx hb dL_law_497 (lv_at hl 1 rfl) ?_
    refine lv_icmp_eq (tgt := 504) hx hb dL_law_499 (by decide) (fun _ => ?_) (fun z => absurd (by decide) z)
    refine lv_iload hx hb dL_law_504 (lv_at hl 1 rfl) ?_
    refine lv_if_ne (tgt := 521) hx hb dL_law_506 (by decide) (fun _ => ?_) (fun z => absurd z (by decide))
    refine lv_goto (tgt := 2947) hx hb dL_law_521 (by decide) ?_
    exact law_tail LC hS (Nat.le_of_ble_eq_true rfl) (Nat.le_of_ble_eq_true rfl) (lv_sub hl [2, 7] rfl)
set_option maxHeartbeats 4000000 in
set_option maxRecDepth 100000 in
theorem lc_4 {p : Program} {e : Env} {s : State} {m : MethodId} {below : List Frame} {meth : Method} {c : Code} {l : Launch} {b : Nat} {xs : Nat → Int32} {D : va_G} {cy : Nat → ClassId} {g : Nat → Nat} (hst : l.stackTraces = false) (LC : LCtx p s m meth c b xs D cy g) (ax am aj ao : Nat) (xa ma : Nat → Nat) (x1 x2 x3 x4 : Int32) (e1 : xs (1 : Int32).toNatClampNeg = x1) (e2 : xs (2 : Int32).toNatClampNeg = x2) (e3 : xs (3 : Int32).toNatClampNeg = x3) (e4 : xs (4 : Int32).toNatClampNeg = x4) {H : Heap} {locs : List Loc} (hP : va_P D vwCl [(ax, .inr (14, [.ref (xa 0), .ref (xa 13), .ref (xa 18), .ref (xa 34), .ref (xa 45), .ref (xa 49), .ref (xa 50)])), ((xa 0), .inr (5, [.ref (xa 1), .ref (xa 2), .int 0, .ref (xa 3), .ref (xa 5), .ref (xa 7), .ref (xa 9), .ref (xa 11)])), (am, .inr (15, [.int 0, .ref (ma 0), .int 0, .int 0, .int 0, .int 0, .ref (ma 1), .ref (ma 2), .null, .int 1, .int 10, .int 900, .ref (ma 3), .ref (ma 4), .int 0, .int 0, .int 0, .ref (ma 5), .int 1000, .int 50, .int 50, .int 1000, .int 10, .int 0, .int 3000, .int 0, .int 0, .int 0])), ((ma 0), .inr (4, [.int 0, .ref (g 0), .int 0]))] H) (hD : va_D (AL s) [(ax, .inr (14, [.ref (xa 0), .ref (xa 13), .ref (xa 18), .ref (xa 34), .ref (xa 45), .ref (xa 49), .ref (xa 50)])), ((xa 0), .inr (5, [.ref (xa 1), .ref (xa 2), .int 0, .ref (xa 3), .ref (xa 5), .ref (xa 7), .ref (xa 9), .ref (xa 11)])), (am, .inr (15, [.int 0, .ref (ma 0), .int 0, .int 0, .int 0, .int 0, .ref (ma 1), .ref (ma 2), .null, .int 1, .int 10, .int 900, .ref (ma 3), .ref (ma 4), .int 0, .int 0, .int 0, .ref (ma 5), .int 1000, .int 50, .int 50, .int 1000, .int 10, .int 0, .int 3000, .int 0, .int 0, .int 0])), ((ma 0), .inr (4, [.int 0, .ref (g 0), .int 0]))]) (hS : va_S (AL s) s.heap H locs) (ls : Array Slot) (hl : lv_has ls 9 [(5, .int 0), (4, .ref ao), (3, .ref aj), (2, .ref am), (1, .ref ax), (0, .ref b)]) : W p l e room_1 s m #[Value.ref b] below meth c H locs 100 1000 (lw_Z below #[Value.ref b] s) (F0 m 524 ls []) := by
  obtain ⟨hx, hb, hr, hml, hown, hlk, hts, hE, hX, hbl⟩ := id LC
  have hA : ∀ q, s.heap.size ≤ q → (AL s) q := fun _ h => h
  have hbA : ¬ (AL s) b := Nat.not_le.mpr hbl
  by_cases c0 : x1 < 0
  · refine lv_aload_n hx hb dL_law_524 rfl (lv_at hl 4 rfl) ?_
    refine lv_aload_n hx hb dL_law_525 rfl (lv_at hl 5 rfl) ?_
    refine lv_iload hx hb dL_law_526 (lv_at hl 0 rfl) ?_
    refine lv_iconst (v := 1) hx hb dL_law_528 (by decide) ?_
    refine lv_iadd hx hb dL_law_529 ?_
    refine tp_i 1 (by decide) ?_
    refine va_sld hx hb hX hbl hbA hS (by unfold vp_in; decide) dL_law_530 ?_
    refine tp_i x1 e1 ?_
    refine lv_aload_n hx hb dL_law_531 rfl (lv_at hl 5 rfl) ?_
    refine lv_iload hx hb dL_law_532 (lv_at hl 0 rfl) ?_
    refine lv_iconst (v := 2) hx hb dL_law_534 (by decide) ?_
    refine lv_iadd hx hb dL_law_535 ?_
    refine tp_i 2 (by decide) ?_
    refine va_sld hx hb hX hbl hbA hS (by unfold vp_in; decide) dL_law_536 ?_
    refine tp_i x2 e2 ?_
    refine lv_aload_n hx hb dL_law_537 rfl (lv_at hl 5 rfl) ?_
    refine lv_iload hx hb dL_law_538 (lv_at hl 0 rfl) ?_
    refine lv_iconst (v := 3) hx hb dL_law_540 (by decide) ?_
    refine lv_iadd hx hb dL_law_541 ?_
    refine tp_i 3 (by decide) ?_
    refine va_sld hx hb hX hbl hbA hS (by unfold vp_in; decide) dL_law_542 ?_
    refine tp_i x3 e3 ?_
    refine lv_aload_n hx hb dL_law_543 rfl (lv_at hl 5 rfl) ?_
    refine lv_iload hx hb dL_law_544 (lv_at hl 0 rfl) ?_
    refine lv_iconst (v := 4) hx hb dL_law_546 (by decide) ?_
    refine lv_iadd hx hb dL_law_547 ?_
    refine tp_i 4 (by decide) ?_
    refine va_sld hx hb hX hbl hbA hS (by unfold vp_in; decide) dL_law_548 ?_
    refine tp_i x4 e4 ?_
    refine lv_aload_n hx hb dL_law_549 rfl (lv_at hl 2 rfl) ?_
    refine ca_i (isC := [0, 1]) (isR := [2, 3]) (wr := [(am, .inr (15, [.int 0, .ref (ma 0), .int 0, .int 0, .int 0, .int 0, .ref (ma 1), .ref (ma 2), .null, .int 1, .int 10, .int 900, .ref (ma 3), .ref (ma 4), .int 0, .int 0, .int 0, .ref (ma 5), .int 1000, .int 50, .int 50, .int 1000, .int 10, .int 0, .int 3000, .int 0, .int 0, .int 0])), ((ma 0), .inr (4, [.int 0, .ref (g 0), .int 0]))]) (rn_SW (isC := [0, 1]) (wc := [(ax, .inr (14, [.ref (xa 0), .ref (xa 13), .ref (xa 18), .ref (xa 34), .ref (xa 45), .ref (xa 49), .ref (xa 50)])), ((xa 0), .inr (5, [.ref (xa 1), .ref (xa 2), .int 0, .ref (xa 3), .ref (xa 5), .ref (xa 7), .ref (xa 9), .ref (xa 11)]))]) (As := [.ref ax, .int x1, .int x2, .int x3, .int x4, .ref aj]) (rest := []) (n := 6) hx hb hml hown hts hE hS hP hD hA hl.1 (k95_L_runEngine l hst D cy g x1 x2 x3 x4 ax (xa 0) aj (.ref (xa 13)) (.ref (xa 18)) (.ref (xa 34)) (.ref (xa 45)) (.ref (xa 49)) (.ref (xa 50)) (.ref (xa 1)) (.ref (xa 2)) (.int 0) (.ref (xa 3)) (.ref (xa 5)) (.ref (xa 7)) (.ref (xa 9)) (.ref (xa 11)) H.size c0) rfl rfl ax_96 rfl rfl ax_97 ⟨Nat.le_of_ble_eq_true rfl, Nat.le_of_ble_eq_true rfl⟩ rfl rfl (Nat.le_of_ble_eq_true rfl) dL_law_550 ⟨(Nat.le_of_ble_eq_true rfl), (Nat.le_of_ble_eq_true rfl)⟩) hP hD hS hA rfl rfl rfl (by decide) (fun ad550 H locs hP hD hS => ?_)
    have hP : va_P D vwCl [(am, .inr (15, [.int 0, .ref (ma 0), .int 0, .int 0, .int 0, .int 0, .ref (ma 1), .ref (ma 2), .null, .int 1, .int 10, .int 900, .ref (ma 3), .ref (ma 4), .int 0, .int 0, .int 0, .ref (ma 5), .int 1000, .int 50, .int 50, .int 1000, .int 10, .int 0, .int 3000, .int 0, .int 0, .int 0])), ((ma 0), .inr (4, [.int 0, .ref (g 0), .int 0]))] H := hP
    have hD : va_D (AL s) [(am, .inr (15, [.int 0, .ref (ma 0), .int 0, .int 0, .int 0, .int 0, .ref (ma 1), .ref (ma 2), .null, .int 1, .int 10, .int 900, .ref (ma 3), .ref (ma 4), .int 0, .int 0, .int 0, .ref (ma 5), .int 1000, .int 50, .int 50, .int 1000, .int 10, .int 0, .int 3000, .int 0, .int 0, .int 0])), ((ma 0), .inr (4, [.int 0, .ref (g 0), .int 0]))] := hD
    refine lv_istore (lv' := [(6, .int 1), (5, .int 0), (4, .ref ao), (3, .ref aj), (2, .ref am), (1, .ref ax), (0, .ref b)]) hx hb dL_law_553 hl (Nat.le_of_ble_eq_true rfl) rfl (fun ls hl => ?_)
    refine lv_aload_n hx hb dL_law_555 rfl (lv_at hl 4 rfl) ?_
    refine lv_aload_n hx hb dL_law_556 rfl (lv_at hl 6 rfl) ?_
    refine lv_iload hx hb dL_law_557 (lv_at hl 1 rfl) ?_
    refine lv_iconst (v := 1) hx hb dL_law_559 (by decide) ?_
    refine lv_iadd hx hb dL_law_560 ?_
    refine tp_i 1 (by decide) ?_
    refine va_sld hx hb hX hbl hbA hS (by unfold vp_in; decide) dL_law_561 ?_
    refine tp_i x1 e1 ?_
    refine lv_aload_n hx hb dL_law_562 rfl (lv_at hl 6 rfl) ?_
    refine lv_iload hx hb dL_law_563 (lv_at hl 1 rfl) ?_
    refine lv_iconst (v := 2) hx hb dL_law_565 (by decide) ?_
    refine lv_iadd hx hb dL_law_566 ?_
    refine tp_i 2 (by decide) ?_
    refine va_sld hx hb hX hbl hbA hS (by unfold vp_in; decide) dL_law_567 ?_
    refine tp_i x2 e2 ?_
    refine lv_aload_n hx hb dL_law_568 rfl (lv_at hl 6 rfl) ?_
    refine lv_iload hx hb dL_law_569 (lv_at hl 1 rfl) ?_
    refine lv_iconst (v := 3) hx hb dL_law_571 (by decide) ?_
    refine lv_iadd hx hb dL_law_572 ?_
    refine tp_i 3 (by decide) ?_
    refine va_sld hx hb hX hbl hbA hS (by unfold vp_in; decide) dL_law_573 ?_
    refine tp_i x3 e3 ?_
    refine lv_aload_n hx hb dL_law_574 rfl (lv_at hl 6 rfl) ?_
    refine lv_iload hx hb dL_law_575 (lv_at hl 1 rfl) ?_
    refine lv_iconst (v := 4) hx hb dL_law_577 (by decide) ?_
    refine lv_iadd hx hb dL_law_578 ?_
    refine tp_i 4 (by decide) ?_
    refine va_sld hx hb hX hbl hbA hS (by unfold vp_in; decide) dL_law_579 ?_
    refine tp_i x4 e4 ?_
    refine ca_i (isC := [0, 1]) (isR := []) (wr := []) (rn_V (ci := 15) (q0 := 0) (isC := [0, 1]) (wc := [(am, .inr (15, [.int 0, .ref (ma 0), .int 0, .int 0, .int 0, .int 0, .ref (ma 1), .ref (ma 2), .null, .int 1, .int 10, .int 900, .ref (ma 3), .ref (ma 4), .int 0, .int 0, .int 0, .ref (ma 5), .int 1000, .int 50, .int 50, .int 1000, .int 10, .int 0, .int 3000, .int 0, .int 0, .int 0])), ((ma 0), .inr (4, [.int 0, .ref (g 0), .int 0]))]) (As := [.int x1, .int x2, .int x3, .int x4]) (rest := []) (n := 4) hx hb hml hown hts hE hS hP hD hA hl.1 (k96_X10_runEngine l D cy g x1 x2 x3 x4 am (ma 0) (.int 0) (.int 0) (.int 0) (.int 0) (.int 0) (.ref (ma 1)) (.ref (ma 2)) (.null) (.int 1) (.int 10) (.int 900) (.ref (ma 3)) (.ref (ma 4)) (.int 0) (.int 0) (.int 0) (.ref (ma 5)) (.int 1000) (.int 50) (.int 50) (.int 1000) (.int 10) (.int 0) (.int 3000) (.int 0) (.int 0) (.int 0) (.int 0) (.ref (g 0)) H.size c0) rfl rfl rfl rfl rfl ax_98 rfl rfl ax_99 ⟨Nat.le_of_ble_eq_true rfl, Nat.le_of_ble_eq_true rfl⟩ rfl rfl (Nat.le_of_ble_eq_true rfl) dL_law_580 ⟨(Nat.le_of_ble_eq_true rfl), (Nat.le_of_ble_eq_true rfl)⟩) hP hD hS hA rfl rfl rfl (by decide) (fun ad580 H locs hP hD hS => ?_)
    have hP : va_P D vwCl [(am, .inr (15, [.int 1, .ref (ma 0), .int 0, .int 0, .int 0, .int 0, .ref (ma 1), .ref (ma 2), .null, .int 1, .int 10, .int 900, .ref (ma 3), .ref (ma 4), .int 0, .int 0, .int 0, .ref (ma 5), .int 1000, .int 50, .int 50, .int 1000, .int 10, .int 0, .int 3000, .int 0, .int 0, .int 0]))] H := hP
    have hD : va_D (AL s) [(am, .inr (15, [.int 1, .ref (ma 0), .int 0, .int 0, .int 0, .int 0, .ref (ma 1), .ref (ma 2), .null, .int 1, .int 10, .int 900, .ref (ma 3), .ref (ma 4), .int 0, .int 0, .int 0, .ref (ma 5), .int 1000, .int 50, .int 50, .int 1000, .int 10, .int 0, .int 3000, .int 0, .int 0, .int 0]))] := hD
    refine lv_istore (lv' := [(7, .int (-1)), (6, .int 1), (5, .int 0), (4, .ref ao), (3, .ref aj), (2, .ref am), (1, .ref ax), (0, .ref b)]) hx hb dL_law_583 hl (Nat.le_of_ble_eq_true rfl) rfl (fun ls hl => ?_)
    refine lv_aload_n hx hb dL_law_585 rfl (lv_at hl 5 rfl) ?_
    refine ca_i (isC := [0]) (isR := []) (wr := []) (rn_V (ci := 15) (q0 := 0) (isC := [0]) (wc := [(am, .inr (15, [.int 1, .ref (ma 0), .int 0, .int 0, .int 0, .int 0, .ref (ma 1), .ref (ma 2), .null, .int 1, .int 10, .int 900, .ref (ma 3), .ref (ma 4), .int 0, .int 0, .int 0, .ref (ma 5), .int 1000, .int 50, .int 50, .int 1000, .int 10, .int 0, .int 3000, .int 0, .int 0, .int 0]))]) (As := []) (rest := []) (n := 0) hx hb hml hown hts hE hS hP hD hA hl.1 (k24_X10_thrown l D cy g am (.ref (ma 0)) (.int 0) (.int 0) (.int 0) (.int 0) (.ref (ma 1)) (.ref (ma 2)) (.null) (.int 1) (.int 10) (.int 900) (.ref (ma 3)) (.ref (ma 4)) (.int 0) (.int 0) (.int 0) (.ref (ma 5)) (.int 1000) (.int 50) (.int 50) (.int 1000) (.int 10) (.int 0) (.int 3000) (.int 0) (.int 0) (.int 0) H.size ) rfl rfl rfl rfl rfl ax_45 rfl rfl ax_46 ⟨Nat.le_of_ble_eq_true rfl, Nat.le_of_ble_eq_true rfl⟩ rfl rfl (Nat.le_of_ble_eq_true rfl) dL_law_586 ⟨(Nat.le_of_ble_eq_true rfl), (Nat.le_of_ble_eq_true rfl)⟩) hP hD hS hA rfl rfl rfl (by decide) (fun ad586 H locs hP hD hS => ?_)
    have hP : va_P D vwCl [(am, .inr (15, [.int 1, .ref (ma 0), .int 0, .int 0, .int 0, .int 0, .ref (ma 1), .ref (ma 2), .null, .int 1, .int 10, .int 900, .ref (ma 3), .ref (ma 4), .int 0, .int 0, .int 0, .ref (ma 5), .int 1000, .int 50, .int 50, .int 1000, .int 10, .int 0, .int 3000, .int 0, .int 0, .int 0]))] H := hP
    have hD : va_D (AL s) [(am, .inr (15, [.int 1, .ref (ma 0), .int 0, .int 0, .int 0, .int 0, .ref (ma 1), .ref (ma 2), .null, .int 1, .int 10, .int 900, .ref (ma 3), .ref (ma 4), .int 0, .int 0, .int 0, .ref (ma 5), .int 1000, .int 50, .int 50, .int 1000, .int 10, .int 0, .int 3000, .int 0, .int 0, .int 0]))] := hD
    refine lv_iload hx hb dL_law_589 (lv_at hl 1 rfl) ?_
    refine lv_icmp_eq (tgt := 596) hx hb dL_law_591 (by decide) (fun _ => ?_) (fun z => absurd (by decide) z)
    refine lv_iload hx hb dL_law_596 (lv_at hl 1 rfl) ?_
    refine lv_if_ne (tgt := 613) hx hb dL_law_598 (by decide) (fun _ => ?_) (fun z => absurd z (by decide))
    refine lv_goto (tgt := 2947) hx hb dL_law_613 (by decide) ?_
    exact law_tail LC hS (Nat.le_of_ble_eq_true rfl) (Nat.le_of_ble_eq_true rfl) (lv_sub hl [2, 7] rfl)
  · have d0 : (-1 : Int32) < x1 := by
        have w0 : (-1 : Int32).toInt = -1 := by decide
        have w1 : (0 : Int32).toInt = 0 := by decide
        have z0 := c0
        rw [fa_lt] at z0
        rw [fa_lt]
        omega
    refine lv_aload_n hx hb dL_law_524 rfl (lv_at hl 4 rfl) ?_
    refine lv_aload_n hx hb dL_law_525 rfl (lv_at hl 5 rfl) ?_
    refine lv_iload hx hb dL_law_526 (lv_at hl 0 rfl) ?_
    refine lv_iconst (v := 1) hx hb dL_law_528 (by decide) ?_
    refine lv_iadd hx hb dL_law_529 ?_
    refine tp_i 1 (by decide) ?_
    refine va_sld hx hb hX hbl hbA hS (by unfold vp_in; decide) dL_law_530 ?_
    refine tp_i x1 e1 ?_
    refine lv_aload_n hx hb dL_law_531 rfl (lv_at hl 5 rfl) ?_
    refine lv_iload hx hb dL_law_532 (lv_at hl 0 rfl) ?_
    refine lv_iconst (v := 2) hx hb dL_law_534 (by decide) ?_
    refine lv_iadd hx hb dL_law_535 ?_
    refine tp_i 2 (by decide) ?_
    refine va_sld hx hb hX hbl hbA hS (by unfold vp_in; decide) dL_law_536 ?_
    refine tp_i x2 e2 ?_
    refine lv_aload_n hx hb dL_law_537 rfl (lv_at hl 5 rfl) ?_
    refine lv_iload hx hb dL_law_538 (lv_at hl 0 rfl) ?_
    refine lv_iconst (v := 3) hx hb dL_law_540 (by decide) ?_
    refine lv_iadd hx hb dL_law_541 ?_
    refine tp_i 3 (by decide) ?_
    refine va_sld hx hb hX hbl hbA hS (by unfold vp_in; decide) dL_law_542 ?_
    refine tp_i x3 e3 ?_
    refine lv_aload_n hx hb dL_law_543 rfl (lv_at hl 5 rfl) ?_
    refine lv_iload hx hb dL_law_544 (lv_at hl 0 rfl) ?_
    refine lv_iconst (v := 4) hx hb dL_law_546 (by decide) ?_
    refine lv_iadd hx hb dL_law_547 ?_
    refine tp_i 4 (by decide) ?_
    refine va_sld hx hb hX hbl hbA hS (by unfold vp_in; decide) dL_law_548 ?_
    refine tp_i x4 e4 ?_
    refine lv_aload_n hx hb dL_law_549 rfl (lv_at hl 2 rfl) ?_
    refine ca_i (isC := [0, 1]) (isR := [2, 3]) (wr := [(am, .inr (15, [.int 0, .ref (ma 0), .int 0, .int 0, .int 0, .int 0, .ref (ma 1), .ref (ma 2), .null, .int 1, .int 10, .int 900, .ref (ma 3), .ref (ma 4), .int 0, .int 0, .int 0, .ref (ma 5), .int 1000, .int 50, .int 50, .int 1000, .int 10, .int 0, .int 3000, .int 0, .int 0, .int 0])), ((ma 0), .inr (4, [.int 0, .ref (g 0), .int 0]))]) (rn_SW (isC := [0, 1]) (wc := [(ax, .inr (14, [.ref (xa 0), .ref (xa 13), .ref (xa 18), .ref (xa 34), .ref (xa 45), .ref (xa 49), .ref (xa 50)])), ((xa 0), .inr (5, [.ref (xa 1), .ref (xa 2), .int 0, .ref (xa 3), .ref (xa 5), .ref (xa 7), .ref (xa 9), .ref (xa 11)]))]) (As := [.ref ax, .int x1, .int x2, .int x3, .int x4, .ref aj]) (rest := []) (n := 6) hx hb hml hown hts hE hS hP hD hA hl.1 (k98_L_runEngine l hst D cy g x1 x2 x3 x4 ax (xa 0) aj (.ref (xa 13)) (.ref (xa 18)) (.ref (xa 34)) (.ref (xa 45)) (.ref (xa 49)) (.ref (xa 50)) (.ref (xa 1)) (.ref (xa 2)) (.ref (xa 3)) (.ref (xa 5)) (.ref (xa 7)) (.ref (xa 9)) (.ref (xa 11)) H.size c0) rfl rfl ax_96 rfl rfl ax_97 ⟨Nat.le_of_ble_eq_true rfl, Nat.le_of_ble_eq_true rfl⟩ rfl rfl (Nat.le_of_ble_eq_true rfl) dL_law_550 ⟨(Nat.le_of_ble_eq_true rfl), (Nat.le_of_ble_eq_true rfl)⟩) hP hD hS hA rfl rfl rfl (by decide) (fun ad550 H locs hP hD hS => ?_)
    have hP : va_P D vwCl [(am, .inr (15, [.int 0, .ref (ma 0), .int 0, .int 0, .int 0, .int 0, .ref (ma 1), .ref (ma 2), .null, .int 1, .int 10, .int 900, .ref (ma 3), .ref (ma 4), .int 0, .int 0, .int 0, .ref (ma 5), .int 1000, .int 50, .int 50, .int 1000, .int 10, .int 0, .int 3000, .int 0, .int 0, .int 0])), ((ma 0), .inr (4, [.int 0, .ref (g 0), .int 0]))] H := hP
    have hD : va_D (AL s) [(am, .inr (15, [.int 0, .ref (ma 0), .int 0, .int 0, .int 0, .int 0, .ref (ma 1), .ref (ma 2), .null, .int 1, .int 10, .int 900, .ref (ma 3), .ref (ma 4), .int 0, .int 0, .int 0, .ref (ma 5), .int 1000, .int 50, .int 50, .int 1000, .int 10, .int 0, .int 3000, .int 0, .int 0, .int 0])), ((ma 0), .inr (4, [.int 0, .ref (g 0), .int 0]))] := hD
    refine lv_istore (lv' := [(6, .int 1), (5, .int 0), (4, .ref ao), (3, .ref aj), (2, .ref am), (1, .ref ax), (0, .ref b)]) hx hb dL_law_553 hl (Nat.le_of_ble_eq_true rfl) rfl (fun ls hl => ?_)
    refine lv_aload_n hx hb dL_law_555 rfl (lv_at hl 4 rfl) ?_
    refine lv_aload_n hx hb dL_law_556 rfl (lv_at hl 6 rfl) ?_
    refine lv_iload hx hb dL_law_557 (lv_at hl 1 rfl) ?_
    refine lv_iconst (v := 1) hx hb dL_law_559 (by decide) ?_
    refine lv_iadd hx hb dL_law_560 ?_
    refine tp_i 1 (by decide) ?_
    refine va_sld hx hb hX hbl hbA hS (by unfold vp_in; decide) dL_law_561 ?_
    refine tp_i x1 e1 ?_
    refine lv_aload_n hx hb dL_law_562 rfl (lv_at hl 6 rfl) ?_
    refine lv_iload hx hb dL_law_563 (lv_at hl 1 rfl) ?_
    refine lv_iconst (v := 2) hx hb dL_law_565 (by decide) ?_
    refine lv_iadd hx hb dL_law_566 ?_
    refine tp_i 2 (by decide) ?_
    refine va_sld hx hb hX hbl hbA hS (by unfold vp_in; decide) dL_law_567 ?_
    refine tp_i x2 e2 ?_
    refine lv_aload_n hx hb dL_law_568 rfl (lv_at hl 6 rfl) ?_
    refine lv_iload hx hb dL_law_569 (lv_at hl 1 rfl) ?_
    refine lv_iconst (v := 3) hx hb dL_law_571 (by decide) ?_
    refine lv_iadd hx hb dL_law_572 ?_
    refine tp_i 3 (by decide) ?_
    refine va_sld hx hb hX hbl hbA hS (by unfold vp_in; decide) dL_law_573 ?_
    refine tp_i x3 e3 ?_
    refine lv_aload_n hx hb dL_law_574 rfl (lv_at hl 6 rfl) ?_
    refine lv_iload hx hb dL_law_575 (lv_at hl 1 rfl) ?_
    refine lv_iconst (v := 4) hx hb dL_law_577 (by decide) ?_
    refine lv_iadd hx hb dL_law_578 ?_
    refine tp_i 4 (by decide) ?_
    refine va_sld hx hb hX hbl hbA hS (by unfold vp_in; decide) dL_law_579 ?_
    refine tp_i x4 e4 ?_
    refine ca_i (isC := [0, 1]) (isR := []) (wr := []) (rn_V (ci := 15) (q0 := 0) (isC := [0, 1]) (wc := [(am, .inr (15, [.int 0, .ref (ma 0), .int 0, .int 0, .int 0, .int 0, .ref (ma 1), .ref (ma 2), .null, .int 1, .int 10, .int 900, .ref (ma 3), .ref (ma 4), .int 0, .int 0, .int 0, .ref (ma 5), .int 1000, .int 50, .int 50, .int 1000, .int 10, .int 0, .int 3000, .int 0, .int 0, .int 0])), ((ma 0), .inr (4, [.int 0, .ref (g 0), .int 0]))]) (As := [.int x1, .int x2, .int x3, .int x4]) (rest := []) (n := 4) hx hb hml hown hts hE hS hP hD hA hl.1 (k99_X10_runEngine l D cy g x1 x2 x3 x4 am (ma 0) (.int 0) (.int 0) (.int 0) (.int 0) (.int 0) (.ref (ma 1)) (.ref (ma 2)) (.null) (.int 1) (.int 10) (.int 900) (.ref (ma 3)) (.ref (ma 4)) (.int 0) (.int 0) (.int 0) (.ref (ma 5)) (.int 1000) (.int 50) (.int 50) (.int 1000) (.int 10) (.int 0) (.int 3000) (.int 0) (.int 0) (.int 0) (.int 0) (.ref (g 0)) H.size c0 d0) rfl rfl rfl rfl rfl ax_98 rfl rfl ax_99 ⟨Nat.le_of_ble_eq_true rfl, Nat.le_of_ble_eq_true rfl⟩ rfl rfl (Nat.le_of_ble_eq_true rfl) dL_law_580 ⟨(Nat.le_of_ble_eq_true rfl), (Nat.le_of_ble_eq_true rfl)⟩) hP hD hS hA rfl rfl rfl (by decide) (fun ad580 H locs hP hD hS => ?_)
    have hP : va_P D vwCl [(am, .inr (15, [.int 1, .ref (ma 0), .int 0, .int 0, .int 0, .int 0, .ref (ma 1), .ref (ma 2), .null, .int 1, .int 10, .int 900, .ref (ma 3), .ref (ma 4), .int 0, .int 0, .int 0, .ref (ma 5), .int 1000, .int 50, .int 50, .int 1000, .int 10, .int 0, .int 3000, .int 0, .int 0, .int 0]))] H := hP
    have hD : va_D (AL s) [(am, .inr (15, [.int 1, .ref (ma 0), .int 0, .int 0, .int 0, .int 0, .ref (ma 1), .ref (ma 2), .null, .int 1, .int 10, .int 900, .ref (ma 3), .ref (ma 4), .int 0, .int 0, .int 0, .ref (ma 5), .int 1000, .int 50, .int 50, .int 1000, .int 10, .int 0, .int 3000, .int 0, .int 0, .int 0]))] := hD
    refine lv_istore (lv' := [(7, .int (-1)), (6, .int 1), (5, .int 0), (4, .ref ao), (3, .ref aj), (2, .ref am), (1, .ref ax), (0, .ref b)]) hx hb dL_law_583 hl (Nat.le_of_ble_eq_true rfl) rfl (fun ls hl => ?_)
    refine lv_aload_n hx hb dL_law_585 rfl (lv_at hl 5 rfl) ?_
    refine ca_i (isC := [0]) (isR := []) (wr := []) (rn_V (ci := 15) (q0 := 0) (isC := [0]) (wc := [(am, .inr (15, [.int 1, .ref (ma 0), .int 0, .int 0, .int 0, .int 0, .ref (ma 1), .ref (ma 2), .null, .int 1, .int 10, .int 900, .ref (ma 3), .ref (ma 4), .int 0, .int 0, .int 0, .ref (ma 5), .int 1000, .int 50, .int 50, .int 1000, .int 10, .int 0, .int 3000, .int 0, .int 0, .int 0]))]) (As := []) (rest := []) (n := 0) hx hb hml hown hts hE hS hP hD hA hl.1 (k24_X10_thrown l D cy g am (.ref (ma 0)) (.int 0) (.int 0) (.int 0) (.int 0) (.ref (ma 1)) (.ref (ma 2)) (.null) (.int 1) (.int 10) (.int 900) (.ref (ma 3)) (.ref (ma 4)) (.int 0) (.int 0) (.int 0) (.ref (ma 5)) (.int 1000) (.int 50) (.int 50) (.int 1000) (.int 10) (.int 0) (.int 3000) (.int 0) (.int 0) (.int 0) H.size ) rfl rfl rfl rfl rfl ax_45 rfl rfl ax_46 ⟨Nat.le_of_ble_eq_true rfl, Nat.le_of_ble_eq_true rfl⟩ rfl rfl (Nat.le_of_ble_eq_true rfl) dL_law_586 ⟨(Nat.le_of_ble_eq_true rfl), (Nat.le_of_ble_eq_true rfl)⟩) hP hD hS hA rfl rfl rfl (by decide) (fun ad586 H locs hP hD hS => ?_)
    have hP : va_P D vwCl [(am, .inr (15, [.int 1, .ref (ma 0), .int 0, .int 0, .int 0, .int 0, .ref (ma 1), .ref (ma 2), .null, .int 1, .int 10, .int 900, .ref (ma 3), .ref (ma 4), .int 0, .int 0, .int 0, .ref (ma 5), .int 1000, .int 50, .int 50, .int 1000, .int 10, .int 0, .int 3000, .int 0, .int 0, .int 0]))] H := hP
    have hD : va_D (AL s) [(am, .inr (15, [.int 1, .ref (ma 0), .int 0, .int 0, .int 0, .int 0, .ref (ma 1), .ref (ma 2), .null, .int 1, .int 10, .int 900, .ref (ma 3), .ref (ma 4), .int 0, .int 0, .int 0, .ref (ma 5), .int 1000, .int 50, .int 50, .int 1000, .int 10, .int 0, .int 3000, .int 0, .int 0, .int 0]))] := hD
    refine lv_iload hx hb dL_law_589 (lv_at hl 1 rfl) ?_
    refine lv_icmp_eq (tgt := 596) hx hb dL_law_591 (by decide) (fun _ => ?_) (fun z => absurd (by decide) z)
    refine lv_iload hx hb dL_law_596 (lv_at hl 1 rfl) ?_
    refine lv_if_ne (tgt := 613) hx hb dL_law_598 (by decide) (fun _ => ?_) (fun z => absurd z (by decide))
    refine lv_goto (tgt := 2947) hx hb dL_law_613 (by decide) ?_
    exact law_tail LC hS (Nat.le_of_ble_eq_true rfl) (Nat.le_of_ble_eq_true rfl) (lv_sub hl [2, 7] rfl)
set_option maxHeartbeats 4000000 in
set_option maxRecDepth 100000 in
theorem lc_5 {p : Program} {e : Env} {s : State} {m : MethodId} {below : List Frame} {meth : Method} {c : Code} {l : Launch} {b : Nat} {xs : Nat → Int32} {D : va_G} {cy : Nat → ClassId} {g : Nat → Nat} (hst : l.stackTraces = false) (LC : LCtx p s m meth c b xs D cy g) (ax am aj ao : Nat) (xa ma : Nat → Nat) (x1 x2 x3 x4 : Int32) (e1 : xs (1 : Int32).toNatClampNeg = x1) (e2 : xs (2 : Int32).toNatClampNeg = x2) (e3 : xs (3 : Int32).toNatClampNeg = x3) (e4 : xs (4 : Int32).toNatClampNeg = x4) {H : Heap} {locs : List Loc} (hP : va_P D vwCl [(ax, .inr (14, [.ref (xa 0), .ref (xa 13), .ref (xa 18), .ref (xa 34), .ref (xa 45), .ref (xa 49), .ref (xa 50)])), ((xa 0), .inr (5, [.ref (xa 1), .ref (xa 2), .int 0, .ref (xa 3), .ref (xa 5), .ref (xa 7), .ref (xa 9), .ref (xa 11)])), (am, .inr (15, [.int 0, .ref (ma 0), .int 0, .int 0, .int 0, .int 0, .ref (ma 1), .ref (ma 2), .null, .int 1, .int 10, .int 900, .ref (ma 3), .ref (ma 4), .int 0, .int 0, .int 0, .ref (ma 5), .int 1000, .int 50, .int 50, .int 1000, .int 10, .int 0, .int 3000, .int 0, .int 0, .int 0])), ((ma 0), .inr (4, [.int 0, .ref (g 0), .int 0]))] H) (hD : va_D (AL s) [(ax, .inr (14, [.ref (xa 0), .ref (xa 13), .ref (xa 18), .ref (xa 34), .ref (xa 45), .ref (xa 49), .ref (xa 50)])), ((xa 0), .inr (5, [.ref (xa 1), .ref (xa 2), .int 0, .ref (xa 3), .ref (xa 5), .ref (xa 7), .ref (xa 9), .ref (xa 11)])), (am, .inr (15, [.int 0, .ref (ma 0), .int 0, .int 0, .int 0, .int 0, .ref (ma 1), .ref (ma 2), .null, .int 1, .int 10, .int 900, .ref (ma 3), .ref (ma 4), .int 0, .int 0, .int 0, .ref (ma 5), .int 1000, .int 50, .int 50, .int 1000, .int 10, .int 0, .int 3000, .int 0, .int 0, .int 0])), ((ma 0), .inr (4, [.int 0, .ref (g 0), .int 0]))]) (hS : va_S (AL s) s.heap H locs) (ls : Array Slot) (hl : lv_has ls 9 [(5, .int 0), (4, .ref ao), (3, .ref aj), (2, .ref am), (1, .ref ax), (0, .ref b)]) : W p l e room_1 s m #[Value.ref b] below meth c H locs 100 1000 (lw_Z below #[Value.ref b] s) (F0 m 616 ls []) := by
  obtain ⟨hx, hb, hr, hml, hown, hlk, hts, hE, hX, hbl⟩ := id LC
  have hA : ∀ q, s.heap.size ≤ q → (AL s) q := fun _ h => h
  have hbA : ¬ (AL s) b := Nat.not_le.mpr hbl
  by_cases c0 : x1 < 0
  · refine lv_aload_n hx hb dL_law_616 rfl (lv_at hl 4 rfl) ?_
    refine lv_aload_n hx hb dL_law_617 rfl (lv_at hl 5 rfl) ?_
    refine lv_iload hx hb dL_law_618 (lv_at hl 0 rfl) ?_
    refine lv_iconst (v := 1) hx hb dL_law_620 (by decide) ?_
    refine lv_iadd hx hb dL_law_621 ?_
    refine tp_i 1 (by decide) ?_
    refine va_sld hx hb hX hbl hbA hS (by unfold vp_in; decide) dL_law_622 ?_
    refine tp_i x1 e1 ?_
    refine lv_aload_n hx hb dL_law_623 rfl (lv_at hl 5 rfl) ?_
    refine lv_iload hx hb dL_law_624 (lv_at hl 0 rfl) ?_
    refine lv_iconst (v := 2) hx hb dL_law_626 (by decide) ?_
    refine lv_iadd hx hb dL_law_627 ?_
    refine tp_i 2 (by decide) ?_
    refine va_sld hx hb hX hbl hbA hS (by unfold vp_in; decide) dL_law_628 ?_
    refine tp_i x2 e2 ?_
    refine lv_aload_n hx hb dL_law_629 rfl (lv_at hl 5 rfl) ?_
    refine lv_iload hx hb dL_law_630 (lv_at hl 0 rfl) ?_
    refine lv_iconst (v := 3) hx hb dL_law_632 (by decide) ?_
    refine lv_iadd hx hb dL_law_633 ?_
    refine tp_i 3 (by decide) ?_
    refine va_sld hx hb hX hbl hbA hS (by unfold vp_in; decide) dL_law_634 ?_
    refine tp_i x3 e3 ?_
    refine lv_aload_n hx hb dL_law_635 rfl (lv_at hl 5 rfl) ?_
    refine lv_iload hx hb dL_law_636 (lv_at hl 0 rfl) ?_
    refine lv_iconst (v := 4) hx hb dL_law_638 (by decide) ?_
    refine lv_iadd hx hb dL_law_639 ?_
    refine tp_i 4 (by decide) ?_
    refine va_sld hx hb hX hbl hbA hS (by unfold vp_in; decide) dL_law_640 ?_
    refine tp_i x4 e4 ?_
    refine lv_aload_n hx hb dL_law_641 rfl (lv_at hl 2 rfl) ?_
    refine ca_i (isC := [0, 1]) (isR := [2, 3]) (wr := [(am, .inr (15, [.int 0, .ref (ma 0), .int 0, .int 0, .int 0, .int 0, .ref (ma 1), .ref (ma 2), .null, .int 1, .int 10, .int 900, .ref (ma 3), .ref (ma 4), .int 0, .int 0, .int 0, .ref (ma 5), .int 1000, .int 50, .int 50, .int 1000, .int 10, .int 0, .int 3000, .int 0, .int 0, .int 0])), ((ma 0), .inr (4, [.int 0, .ref (g 0), .int 0]))]) (rn_SW (isC := [0, 1]) (wc := [(ax, .inr (14, [.ref (xa 0), .ref (xa 13), .ref (xa 18), .ref (xa 34), .ref (xa 45), .ref (xa 49), .ref (xa 50)])), ((xa 0), .inr (5, [.ref (xa 1), .ref (xa 2), .int 0, .ref (xa 3), .ref (xa 5), .ref (xa 7), .ref (xa 9), .ref (xa 11)]))]) (As := [.ref ax, .int x1, .int x2, .int x3, .int x4, .ref aj]) (rest := []) (n := 6) hx hb hml hown hts hE hS hP hD hA hl.1 (k101_L_runPump l hst D cy g x1 x2 x3 x4 ax (xa 0) aj (.ref (xa 13)) (.ref (xa 18)) (.ref (xa 34)) (.ref (xa 45)) (.ref (xa 49)) (.ref (xa 50)) (.ref (xa 1)) (.ref (xa 2)) (.int 0) (.ref (xa 3)) (.ref (xa 5)) (.ref (xa 7)) (.ref (xa 9)) (.ref (xa 11)) H.size c0) rfl rfl ax_102 rfl rfl ax_103 ⟨Nat.le_of_ble_eq_true rfl, Nat.le_of_ble_eq_true rfl⟩ rfl rfl (Nat.le_of_ble_eq_true rfl) dL_law_642 ⟨(Nat.le_of_ble_eq_true rfl), (Nat.le_of_ble_eq_true rfl)⟩) hP hD hS hA rfl rfl rfl (by decide) (fun ad642 H locs hP hD hS => ?_)
    have hP : va_P D vwCl [(am, .inr (15, [.int 0, .ref (ma 0), .int 0, .int 0, .int 0, .int 0, .ref (ma 1), .ref (ma 2), .null, .int 1, .int 10, .int 900, .ref (ma 3), .ref (ma 4), .int 0, .int 0, .int 0, .ref (ma 5), .int 1000, .int 50, .int 50, .int 1000, .int 10, .int 0, .int 3000, .int 0, .int 0, .int 0])), ((ma 0), .inr (4, [.int 0, .ref (g 0), .int 0]))] H := hP
    have hD : va_D (AL s) [(am, .inr (15, [.int 0, .ref (ma 0), .int 0, .int 0, .int 0, .int 0, .ref (ma 1), .ref (ma 2), .null, .int 1, .int 10, .int 900, .ref (ma 3), .ref (ma 4), .int 0, .int 0, .int 0, .ref (ma 5), .int 1000, .int 50, .int 50, .int 1000, .int 10, .int 0, .int 3000, .int 0, .int 0, .int 0])), ((ma 0), .inr (4, [.int 0, .ref (g 0), .int 0]))] := hD
    refine lv_istore (lv' := [(6, .int 1), (5, .int 0), (4, .ref ao), (3, .ref aj), (2, .ref am), (1, .ref ax), (0, .ref b)]) hx hb dL_law_645 hl (Nat.le_of_ble_eq_true rfl) rfl (fun ls hl => ?_)
    refine lv_aload_n hx hb dL_law_647 rfl (lv_at hl 4 rfl) ?_
    refine lv_aload_n hx hb dL_law_648 rfl (lv_at hl 6 rfl) ?_
    refine lv_iload hx hb dL_law_649 (lv_at hl 1 rfl) ?_
    refine lv_iconst (v := 1) hx hb dL_law_651 (by decide) ?_
    refine lv_iadd hx hb dL_law_652 ?_
    refine tp_i 1 (by decide) ?_
    refine va_sld hx hb hX hbl hbA hS (by unfold vp_in; decide) dL_law_653 ?_
    refine tp_i x1 e1 ?_
    refine lv_aload_n hx hb dL_law_654 rfl (lv_at hl 6 rfl) ?_
    refine lv_iload hx hb dL_law_655 (lv_at hl 1 rfl) ?_
    refine lv_iconst (v := 2) hx hb dL_law_657 (by decide) ?_
    refine lv_iadd hx hb dL_law_658 ?_
    refine tp_i 2 (by decide) ?_
    refine va_sld hx hb hX hbl hbA hS (by unfold vp_in; decide) dL_law_659 ?_
    refine tp_i x2 e2 ?_
    refine lv_aload_n hx hb dL_law_660 rfl (lv_at hl 6 rfl) ?_
    refine lv_iload hx hb dL_law_661 (lv_at hl 1 rfl) ?_
    refine lv_iconst (v := 3) hx hb dL_law_663 (by decide) ?_
    refine lv_iadd hx hb dL_law_664 ?_
    refine tp_i 3 (by decide) ?_
    refine va_sld hx hb hX hbl hbA hS (by unfold vp_in; decide) dL_law_665 ?_
    refine tp_i x3 e3 ?_
    refine lv_aload_n hx hb dL_law_666 rfl (lv_at hl 6 rfl) ?_
    refine lv_iload hx hb dL_law_667 (lv_at hl 1 rfl) ?_
    refine lv_iconst (v := 4) hx hb dL_law_669 (by decide) ?_
    refine lv_iadd hx hb dL_law_670 ?_
    refine tp_i 4 (by decide) ?_
    refine va_sld hx hb hX hbl hbA hS (by unfold vp_in; decide) dL_law_671 ?_
    refine tp_i x4 e4 ?_
    refine ca_i (isC := [0, 1]) (isR := []) (wr := []) (rn_V (ci := 15) (q0 := 0) (isC := [0, 1]) (wc := [(am, .inr (15, [.int 0, .ref (ma 0), .int 0, .int 0, .int 0, .int 0, .ref (ma 1), .ref (ma 2), .null, .int 1, .int 10, .int 900, .ref (ma 3), .ref (ma 4), .int 0, .int 0, .int 0, .ref (ma 5), .int 1000, .int 50, .int 50, .int 1000, .int 10, .int 0, .int 3000, .int 0, .int 0, .int 0])), ((ma 0), .inr (4, [.int 0, .ref (g 0), .int 0]))]) (As := [.int x1, .int x2, .int x3, .int x4]) (rest := []) (n := 4) hx hb hml hown hts hE hS hP hD hA hl.1 (k102_X10_runPump l D cy g x1 x2 x3 x4 am (ma 0) (.int 0) (.int 0) (.int 0) (.int 0) (.int 0) (.ref (ma 1)) (.ref (ma 2)) (.null) (.int 1) (.int 10) (.int 900) (.ref (ma 3)) (.ref (ma 4)) (.int 0) (.int 0) (.int 0) (.ref (ma 5)) (.int 1000) (.int 50) (.int 50) (.int 1000) (.int 10) (.int 0) (.int 3000) (.int 0) (.int 0) (.int 0) (.int 0) (.ref (g 0)) H.size c0) rfl rfl rfl rfl rfl ax_104 rfl rfl ax_105 ⟨Nat.le_of_ble_eq_true rfl, Nat.le_of_ble_eq_true rfl⟩ rfl rfl (Nat.le_of_ble_eq_true rfl) dL_law_672 ⟨(Nat.le_of_ble_eq_true rfl), (Nat.le_of_ble_eq_true rfl)⟩) hP hD hS hA rfl rfl rfl (by decide) (fun ad672 H locs hP hD hS => ?_)
    have hP : va_P D vwCl [(am, .inr (15, [.int 1, .ref (ma 0), .int 0, .int 0, .int 0, .int 0, .ref (ma 1), .ref (ma 2), .null, .int 1, .int 10, .int 900, .ref (ma 3), .ref (ma 4), .int 0, .int 0, .int 0, .ref (ma 5), .int 1000, .int 50, .int 50, .int 1000, .int 10, .int 0, .int 3000, .int 0, .int 0, .int 0]))] H := hP
    have hD : va_D (AL s) [(am, .inr (15, [.int 1, .ref (ma 0), .int 0, .int 0, .int 0, .int 0, .ref (ma 1), .ref (ma 2), .null, .int 1, .int 10, .int 900, .ref (ma 3), .ref (ma 4), .int 0, .int 0, .int 0, .ref (ma 5), .int 1000, .int 50, .int 50, .int 1000, .int 10, .int 0, .int 3000, .int 0, .int 0, .int 0]))] := hD
    refine lv_istore (lv' := [(7, .int (-1)), (6, .int 1), (5, .int 0), (4, .ref ao), (3, .ref aj), (2, .ref am), (1, .ref ax), (0, .ref b)]) hx hb dL_law_675 hl (Nat.le_of_ble_eq_true rfl) rfl (fun ls hl => ?_)
    refine lv_aload_n hx hb dL_law_677 rfl (lv_at hl 5 rfl) ?_
    refine ca_i (isC := [0]) (isR := []) (wr := []) (rn_V (ci := 15) (q0 := 0) (isC := [0]) (wc := [(am, .inr (15, [.int 1, .ref (ma 0), .int 0, .int 0, .int 0, .int 0, .ref (ma 1), .ref (ma 2), .null, .int 1, .int 10, .int 900, .ref (ma 3), .ref (ma 4), .int 0, .int 0, .int 0, .ref (ma 5), .int 1000, .int 50, .int 50, .int 1000, .int 10, .int 0, .int 3000, .int 0, .int 0, .int 0]))]) (As := []) (rest := []) (n := 0) hx hb hml hown hts hE hS hP hD hA hl.1 (k24_X10_thrown l D cy g am (.ref (ma 0)) (.int 0) (.int 0) (.int 0) (.int 0) (.ref (ma 1)) (.ref (ma 2)) (.null) (.int 1) (.int 10) (.int 900) (.ref (ma 3)) (.ref (ma 4)) (.int 0) (.int 0) (.int 0) (.ref (ma 5)) (.int 1000) (.int 50) (.int 50) (.int 1000) (.int 10) (.int 0) (.int 3000) (.int 0) (.int 0) (.int 0) H.size ) rfl rfl rfl rfl rfl ax_45 rfl rfl ax_46 ⟨Nat.le_of_ble_eq_true rfl, Nat.le_of_ble_eq_true rfl⟩ rfl rfl (Nat.le_of_ble_eq_true rfl) dL_law_678 ⟨(Nat.le_of_ble_eq_true rfl), (Nat.le_of_ble_eq_true rfl)⟩) hP hD hS hA rfl rfl rfl (by decide) (fun ad678 H locs hP hD hS => ?_)
    have hP : va_P D vwCl [(am, .inr (15, [.int 1, .ref (ma 0), .int 0, .int 0, .int 0, .int 0, .ref (ma 1), .ref (ma 2), .null, .int 1, .int 10, .int 900, .ref (ma 3), .ref (ma 4), .int 0, .int 0, .int 0, .ref (ma 5), .int 1000, .int 50, .int 50, .int 1000, .int 10, .int 0, .int 3000, .int 0, .int 0, .int 0]))] H := hP
    have hD : va_D (AL s) [(am, .inr (15, [.int 1, .ref (ma 0), .int 0, .int 0, .int 0, .int 0, .ref (ma 1), .ref (ma 2), .null, .int 1, .int 10, .int 900, .ref (ma 3), .ref (ma 4), .int 0, .int 0, .int 0, .ref (ma 5), .int 1000, .int 50, .int 50, .int 1000, .int 10, .int 0, .int 3000, .int 0, .int 0, .int 0]))] := hD
    refine lv_iload hx hb dL_law_681 (lv_at hl 1 rfl) ?_
    refine lv_icmp_eq (tgt := 688) hx hb dL_law_683 (by decide) (fun _ => ?_) (fun z => absurd (by decide) z)
    refine lv_iload hx hb dL_law_688 (lv_at hl 1 rfl) ?_
    refine lv_if_ne (tgt := 705) hx hb dL_law_690 (by decide) (fun _ => ?_) (fun z => absurd z (by decide))
    refine lv_goto (tgt := 2947) hx hb dL_law_705 (by decide) ?_
    exact law_tail LC hS (Nat.le_of_ble_eq_true rfl) (Nat.le_of_ble_eq_true rfl) (lv_sub hl [2, 7] rfl)
  · have d0 : (-1 : Int32) < x1 := by
        have w0 : (-1 : Int32).toInt = -1 := by decide
        have w1 : (0 : Int32).toInt = 0 := by decide
        have z0 := c0
        rw [fa_lt] at z0
        rw [fa_lt]
        omega
    refine lv_aload_n hx hb dL_law_616 rfl (lv_at hl 4 rfl) ?_
    refine lv_aload_n hx hb dL_law_617 rfl (lv_at hl 5 rfl) ?_
    refine lv_iload hx hb dL_law_618 (lv_at hl 0 rfl) ?_
    refine lv_iconst (v := 1) hx hb dL_law_620 (by decide) ?_
    refine lv_iadd hx hb dL_law_621 ?_
    refine tp_i 1 (by decide) ?_
    refine va_sld hx hb hX hbl hbA hS (by unfold vp_in; decide) dL_law_622 ?_
    refine tp_i x1 e1 ?_
    refine lv_aload_n hx hb dL_law_623 rfl (lv_at hl 5 rfl) ?_
    refine lv_iload hx hb dL_law_624 (lv_at hl 0 rfl) ?_
    refine lv_iconst (v := 2) hx hb dL_law_626 (by decide) ?_
    refine lv_iadd hx hb dL_law_627 ?_
    refine tp_i 2 (by decide) ?_
    refine va_sld hx hb hX hbl hbA hS (by unfold vp_in; decide) dL_law_628 ?_
    refine tp_i x2 e2 ?_
    refine lv_aload_n hx hb dL_law_629 rfl (lv_at hl 5 rfl) ?_
    refine lv_iload hx hb dL_law_630 (lv_at hl 0 rfl) ?_
    refine lv_iconst (v := 3) hx hb dL_law_632 (by decide) ?_
    refine lv_iadd hx hb dL_law_633 ?_
    refine tp_i 3 (by decide) ?_
    refine va_sld hx hb hX hbl hbA hS (by unfold vp_in; decide) dL_law_634 ?_
    refine tp_i x3 e3 ?_
    refine lv_aload_n hx hb dL_law_635 rfl (lv_at hl 5 rfl) ?_
    refine lv_iload hx hb dL_law_636 (lv_at hl 0 rfl) ?_
    refine lv_iconst (v := 4) hx hb dL_law_638 (by decide) ?_
    refine lv_iadd hx hb dL_law_639 ?_
    refine tp_i 4 (by decide) ?_
    refine va_sld hx hb hX hbl hbA hS (by unfold vp_in; decide) dL_law_640 ?_
    refine tp_i x4 e4 ?_
    refine lv_aload_n hx hb dL_law_641 rfl (lv_at hl 2 rfl) ?_
    refine ca_i (isC := [0, 1]) (isR := [2, 3]) (wr := [(am, .inr (15, [.int 0, .ref (ma 0), .int 0, .int 0, .int 0, .int 0, .ref (ma 1), .ref (ma 2), .null, .int 1, .int 10, .int 900, .ref (ma 3), .ref (ma 4), .int 0, .int 0, .int 0, .ref (ma 5), .int 1000, .int 50, .int 50, .int 1000, .int 10, .int 0, .int 3000, .int 0, .int 0, .int 0])), ((ma 0), .inr (4, [.int 0, .ref (g 0), .int 0]))]) (rn_SW (isC := [0, 1]) (wc := [(ax, .inr (14, [.ref (xa 0), .ref (xa 13), .ref (xa 18), .ref (xa 34), .ref (xa 45), .ref (xa 49), .ref (xa 50)])), ((xa 0), .inr (5, [.ref (xa 1), .ref (xa 2), .int 0, .ref (xa 3), .ref (xa 5), .ref (xa 7), .ref (xa 9), .ref (xa 11)]))]) (As := [.ref ax, .int x1, .int x2, .int x3, .int x4, .ref aj]) (rest := []) (n := 6) hx hb hml hown hts hE hS hP hD hA hl.1 (k104_L_runPump l hst D cy g x1 x2 x3 x4 ax (xa 0) aj (.ref (xa 13)) (.ref (xa 18)) (.ref (xa 34)) (.ref (xa 45)) (.ref (xa 49)) (.ref (xa 50)) (.ref (xa 1)) (.ref (xa 2)) (.ref (xa 3)) (.ref (xa 5)) (.ref (xa 7)) (.ref (xa 9)) (.ref (xa 11)) H.size c0) rfl rfl ax_102 rfl rfl ax_103 ⟨Nat.le_of_ble_eq_true rfl, Nat.le_of_ble_eq_true rfl⟩ rfl rfl (Nat.le_of_ble_eq_true rfl) dL_law_642 ⟨(Nat.le_of_ble_eq_true rfl), (Nat.le_of_ble_eq_true rfl)⟩) hP hD hS hA rfl rfl rfl (by decide) (fun ad642 H locs hP hD hS => ?_)
    have hP : va_P D vwCl [(am, .inr (15, [.int 0, .ref (ma 0), .int 0, .int 0, .int 0, .int 0, .ref (ma 1), .ref (ma 2), .null, .int 1, .int 10, .int 900, .ref (ma 3), .ref (ma 4), .int 0, .int 0, .int 0, .ref (ma 5), .int 1000, .int 50, .int 50, .int 1000, .int 10, .int 0, .int 3000, .int 0, .int 0, .int 0])), ((ma 0), .inr (4, [.int 0, .ref (g 0), .int 0]))] H := hP
    have hD : va_D (AL s) [(am, .inr (15, [.int 0, .ref (ma 0), .int 0, .int 0, .int 0, .int 0, .ref (ma 1), .ref (ma 2), .null, .int 1, .int 10, .int 900, .ref (ma 3), .ref (ma 4), .int 0, .int 0, .int 0, .ref (ma 5), .int 1000, .int 50, .int 50, .int 1000, .int 10, .int 0, .int 3000, .int 0, .int 0, .int 0])), ((ma 0), .inr (4, [.int 0, .ref (g 0), .int 0]))] := hD
    refine lv_istore (lv' := [(6, .int 1), (5, .int 0), (4, .ref ao), (3, .ref aj), (2, .ref am), (1, .ref ax), (0, .ref b)]) hx hb dL_law_645 hl (Nat.le_of_ble_eq_true rfl) rfl (fun ls hl => ?_)
    refine lv_aload_n hx hb dL_law_647 rfl (lv_at hl 4 rfl) ?_
    refine lv_aload_n hx hb dL_law_648 rfl (lv_at hl 6 rfl) ?_
    refine lv_iload hx hb dL_law_649 (lv_at hl 1 rfl) ?_
    refine lv_iconst (v := 1) hx hb dL_law_651 (by decide) ?_
    refine lv_iadd hx hb dL_law_652 ?_
    refine tp_i 1 (by decide) ?_
    refine va_sld hx hb hX hbl hbA hS (by unfold vp_in; decide) dL_law_653 ?_
    refine tp_i x1 e1 ?_
    refine lv_aload_n hx hb dL_law_654 rfl (lv_at hl 6 rfl) ?_
    refine lv_iload hx hb dL_law_655 (lv_at hl 1 rfl) ?_
    refine lv_iconst (v := 2) hx hb dL_law_657 (by decide) ?_
    refine lv_iadd hx hb dL_law_658 ?_
    refine tp_i 2 (by decide) ?_
    refine va_sld hx hb hX hbl hbA hS (by unfold vp_in; decide) dL_law_659 ?_
    refine tp_i x2 e2 ?_
    refine lv_aload_n hx hb dL_law_660 rfl (lv_at hl 6 rfl) ?_
    refine lv_iload hx hb dL_law_661 (lv_at hl 1 rfl) ?_
    refine lv_iconst (v := 3) hx hb dL_law_663 (by decide) ?_
    refine lv_iadd hx hb dL_law_664 ?_
    refine tp_i 3 (by decide) ?_
    refine va_sld hx hb hX hbl hbA hS (by unfold vp_in; decide) dL_law_665 ?_
    refine tp_i x3 e3 ?_
    refine lv_aload_n hx hb dL_law_666 rfl (lv_at hl 6 rfl) ?_
    refine lv_iload hx hb dL_law_667 (lv_at hl 1 rfl) ?_
    refine lv_iconst (v := 4) hx hb dL_law_669 (by decide) ?_
    refine lv_iadd hx hb dL_law_670 ?_
    refine tp_i 4 (by decide) ?_
    refine va_sld hx hb hX hbl hbA hS (by unfold vp_in; decide) dL_law_671 ?_
    refine tp_i x4 e4 ?_
    refine ca_i (isC := [0, 1]) (isR := []) (wr := []) (rn_V (ci := 15) (q0 := 0) (isC := [0, 1]) (wc := [(am, .inr (15, [.int 0, .ref (ma 0), .int 0, .int 0, .int 0, .int 0, .ref (ma 1), .ref (ma 2), .null, .int 1, .int 10, .int 900, .ref (ma 3), .ref (ma 4), .int 0, .int 0, .int 0, .ref (ma 5), .int 1000, .int 50, .int 50, .int 1000, .int 10, .int 0, .int 3000, .int 0, .int 0, .int 0])), ((ma 0), .inr (4, [.int 0, .ref (g 0), .int 0]))]) (As := [.int x1, .int x2, .int x3, .int x4]) (rest := []) (n := 4) hx hb hml hown hts hE hS hP hD hA hl.1 (k105_X10_runPump l D cy g x1 x2 x3 x4 am (ma 0) (.int 0) (.int 0) (.int 0) (.int 0) (.int 0) (.ref (ma 1)) (.ref (ma 2)) (.null) (.int 1) (.int 10) (.int 900) (.ref (ma 3)) (.ref (ma 4)) (.int 0) (.int 0) (.int 0) (.ref (ma 5)) (.int 1000) (.int 50) (.int 50) (.int 1000) (.int 10) (.int 0) (.int 3000) (.int 0) (.int 0) (.int 0) (.int 0) (.ref (g 0)) H.size c0 d0) rfl rfl rfl rfl rfl ax_104 rfl rfl ax_105 ⟨Nat.le_of_ble_eq_true rfl, Nat.le_of_ble_eq_true rfl⟩ rfl rfl (Nat.le_of_ble_eq_true rfl) dL_law_672 ⟨(Nat.le_of_ble_eq_true rfl), (Nat.le_of_ble_eq_true rfl)⟩) hP hD hS hA rfl rfl rfl (by decide) (fun ad672 H locs hP hD hS => ?_)
    have hP : va_P D vwCl [(am, .inr (15, [.int 1, .ref (ma 0), .int 0, .int 0, .int 0, .int 0, .ref (ma 1), .ref (ma 2), .null, .int 1, .int 10, .int 900, .ref (ma 3), .ref (ma 4), .int 0, .int 0, .int 0, .ref (ma 5), .int 1000, .int 50, .int 50, .int 1000, .int 10, .int 0, .int 3000, .int 0, .int 0, .int 0]))] H := hP
    have hD : va_D (AL s) [(am, .inr (15, [.int 1, .ref (ma 0), .int 0, .int 0, .int 0, .int 0, .ref (ma 1), .ref (ma 2), .null, .int 1, .int 10, .int 900, .ref (ma 3), .ref (ma 4), .int 0, .int 0, .int 0, .ref (ma 5), .int 1000, .int 50, .int 50, .int 1000, .int 10, .int 0, .int 3000, .int 0, .int 0, .int 0]))] := hD
    refine lv_istore (lv' := [(7, .int (-1)), (6, .int 1), (5, .int 0), (4, .ref ao), (3, .ref aj), (2, .ref am), (1, .ref ax), (0, .ref b)]) hx hb dL_law_675 hl (Nat.le_of_ble_eq_true rfl) rfl (fun ls hl => ?_)
    refine lv_aload_n hx hb dL_law_677 rfl (lv_at hl 5 rfl) ?_
    refine ca_i (isC := [0]) (isR := []) (wr := []) (rn_V (ci := 15) (q0 := 0) (isC := [0]) (wc := [(am, .inr (15, [.int 1, .ref (ma 0), .int 0, .int 0, .int 0, .int 0, .ref (ma 1), .ref (ma 2), .null, .int 1, .int 10, .int 900, .ref (ma 3), .ref (ma 4), .int 0, .int 0, .int 0, .ref (ma 5), .int 1000, .int 50, .int 50, .int 1000, .int 10, .int 0, .int 3000, .int 0, .int 0, .int 0]))]) (As := []) (rest := []) (n := 0) hx hb hml hown hts hE hS hP hD hA hl.1 (k24_X10_thrown l D cy g am (.ref (ma 0)) (.int 0) (.int 0) (.int 0) (.int 0) (.ref (ma 1)) (.ref (ma 2)) (.null) (.int 1) (.int 10) (.int 900) (.ref (ma 3)) (.ref (ma 4)) (.int 0) (.int 0) (.int 0) (.ref (ma 5)) (.int 1000) (.int 50) (.int 50) (.int 1000) (.int 10) (.int 0) (.int 3000) (.int 0) (.int 0) (.int 0) H.size ) rfl rfl rfl rfl rfl ax_45 rfl rfl ax_46 ⟨Nat.le_of_ble_eq_true rfl, Nat.le_of_ble_eq_true rfl⟩ rfl rfl (Nat.le_of_ble_eq_true rfl) dL_law_678 ⟨(Nat.le_of_ble_eq_true rfl), (Nat.le_of_ble_eq_true rfl)⟩) hP hD hS hA rfl rfl rfl (by decide) (fun ad678 H locs hP hD hS => ?_)
    have hP : va_P D vwCl [(am, .inr (15, [.int 1, .ref (ma 0), .int 0, .int 0, .int 0, .int 0, .ref (ma 1), .ref (ma 2), .null, .int 1, .int 10, .int 900, .ref (ma 3), .ref (ma 4), .int 0, .int 0, .int 0, .ref (ma 5), .int 1000, .int 50, .int 50, .int 1000, .int 10, .int 0, .int 3000, .int 0, .int 0, .int 0]))] H := hP
    have hD : va_D (AL s) [(am, .inr (15, [.int 1, .ref (ma 0), .int 0, .int 0, .int 0, .int 0, .ref (ma 1), .ref (ma 2), .null, .int 1, .int 10, .int 900, .ref (ma 3), .ref (ma 4), .int 0, .int 0, .int 0, .ref (ma 5), .int 1000, .int 50, .int 50, .int 1000, .int 10, .int 0, .int 3000, .int 0, .int 0, .int 0]))] := hD
    refine lv_iload hx hb dL_law_681 (lv_at hl 1 rfl) ?_
    refine lv_icmp_eq (tgt := 688) hx hb dL_law_683 (by decide) (fun _ => ?_) (fun z => absurd (by decide) z)
    refine lv_iload hx hb dL_law_688 (lv_at hl 1 rfl) ?_
    refine lv_if_ne (tgt := 705) hx hb dL_law_690 (by decide) (fun _ => ?_) (fun z => absurd z (by decide))
    refine lv_goto (tgt := 2947) hx hb dL_law_705 (by decide) ?_
    exact law_tail LC hS (Nat.le_of_ble_eq_true rfl) (Nat.le_of_ble_eq_true rfl) (lv_sub hl [2, 7] rfl)
set_option maxHeartbeats 4000000 in
set_option maxRecDepth 100000 in
theorem lc_6 {p : Program} {e : Env} {s : State} {m : MethodId} {below : List Frame} {meth : Method} {c : Code} {l : Launch} {b : Nat} {xs : Nat → Int32} {D : va_G} {cy : Nat → ClassId} {g : Nat → Nat} (hst : l.stackTraces = false) (LC : LCtx p s m meth c b xs D cy g) (ax am aj ao : Nat) (xa ma : Nat → Nat) (x1 x2 x3 x4 : Int32) (e1 : xs (1 : Int32).toNatClampNeg = x1) (e2 : xs (2 : Int32).toNatClampNeg = x2) (e3 : xs (3 : Int32).toNatClampNeg = x3) (e4 : xs (4 : Int32).toNatClampNeg = x4) {H : Heap} {locs : List Loc} (hP : va_P D vwCl [(ax, .inr (14, [.ref (xa 0), .ref (xa 13), .ref (xa 18), .ref (xa 34), .ref (xa 45), .ref (xa 49), .ref (xa 50)])), ((xa 50), .inr (11, [.long 0, .int 0, .int 0, .int 0, .long 900])), (am, .inr (15, [.int 0, .ref (ma 0), .int 0, .int 0, .int 0, .int 0, .ref (ma 1), .ref (ma 2), .null, .int 1, .int 10, .int 900, .ref (ma 3), .ref (ma 4), .int 0, .int 0, .int 0, .ref (ma 5), .int 1000, .int 50, .int 50, .int 1000, .int 10, .int 0, .int 3000, .int 0, .int 0, .int 0]))] H) (hD : va_D (AL s) [(ax, .inr (14, [.ref (xa 0), .ref (xa 13), .ref (xa 18), .ref (xa 34), .ref (xa 45), .ref (xa 49), .ref (xa 50)])), ((xa 50), .inr (11, [.long 0, .int 0, .int 0, .int 0, .long 900])), (am, .inr (15, [.int 0, .ref (ma 0), .int 0, .int 0, .int 0, .int 0, .ref (ma 1), .ref (ma 2), .null, .int 1, .int 10, .int 900, .ref (ma 3), .ref (ma 4), .int 0, .int 0, .int 0, .ref (ma 5), .int 1000, .int 50, .int 50, .int 1000, .int 10, .int 0, .int 3000, .int 0, .int 0, .int 0]))]) (hS : va_S (AL s) s.heap H locs) (ls : Array Slot) (hl : lv_has ls 9 [(5, .int 0), (4, .ref ao), (3, .ref aj), (2, .ref am), (1, .ref ax), (0, .ref b)]) : W p l e room_1 s m #[Value.ref b] below meth c H locs 100 1000 (lw_Z below #[Value.ref b] s) (F0 m 708 ls []) := by
  obtain ⟨hx, hb, hr, hml, hown, hlk, hts, hE, hX, hbl⟩ := id LC
  have hA : ∀ q, s.heap.size ≤ q → (AL s) q := fun _ h => h
  have hbA : ¬ (AL s) b := Nat.not_le.mpr hbl
  refine lv_aload_n hx hb dL_law_708 rfl (lv_at hl 4 rfl) ?_
  refine ca_i (isC := [0, 1]) (isR := [2]) (wr := [(am, .inr (15, [.int 0, .ref (ma 0), .int 0, .int 0, .int 0, .int 0, .ref (ma 1), .ref (ma 2), .null, .int 1, .int 10, .int 900, .ref (ma 3), .ref (ma 4), .int 0, .int 0, .int 0, .ref (ma 5), .int 1000, .int 50, .int 50, .int 1000, .int 10, .int 0, .int 3000, .int 0, .int 0, .int 0]))]) (rn_V (ci := 14) (q0 := 0) (isC := [0, 1]) (wc := [(ax, .inr (14, [.ref (xa 0), .ref (xa 13), .ref (xa 18), .ref (xa 34), .ref (xa 45), .ref (xa 49), .ref (xa 50)])), ((xa 50), .inr (11, [.long 0, .int 0, .int 0, .int 0, .long 900]))]) (As := []) (rest := []) (n := 0) hx hb hml hown hts hE hS hP hD hA hl.1 (k106_X9_getWork l D cy g ax (xa 50) (.ref (xa 0)) (.ref (xa 13)) (.ref (xa 18)) (.ref (xa 34)) (.ref (xa 45)) (.ref (xa 49)) (.int 0) (.int 0) (.int 0) (.long 900) H.size ) rfl rfl rfl rfl rfl ax_106 rfl rfl ax_107 ⟨Nat.le_of_ble_eq_true rfl, Nat.le_of_ble_eq_true rfl⟩ rfl rfl (Nat.le_of_ble_eq_true rfl) dL_law_709 ⟨(Nat.le_of_ble_eq_true rfl), (Nat.le_of_ble_eq_true rfl)⟩) hP hD hS hA rfl rfl rfl (by decide) (fun ad709 H locs hP hD hS => ?_)
  have hP : va_P D vwCl [(am, .inr (15, [.int 0, .ref (ma 0), .int 0, .int 0, .int 0, .int 0, .ref (ma 1), .ref (ma 2), .null, .int 1, .int 10, .int 900, .ref (ma 3), .ref (ma 4), .int 0, .int 0, .int 0, .ref (ma 5), .int 1000, .int 50, .int 50, .int 1000, .int 10, .int 0, .int 3000, .int 0, .int 0, .int 0]))] H := hP
  have hD : va_D (AL s) [(am, .inr (15, [.int 0, .ref (ma 0), .int 0, .int 0, .int 0, .int 0, .ref (ma 1), .ref (ma 2), .null, .int 1, .int 10, .int 900, .ref (ma 3), .ref (ma 4), .int 0, .int 0, .int 0, .ref (ma 5), .int 1000, .int 50, .int 50, .int 1000, .int 10, .int 0, .int 3000, .int 0, .int 0, .int 0]))] := hD
  refine lv_aload_n hx hb dL_law_712 rfl (lv_at hl 3 rfl) ?_
  refine ca_i (isC := [0]) (isR := []) (wr := []) (rn_V (ci := 15) (q0 := 0) (isC := [0]) (wc := [(am, .inr (15, [.int 0, .ref (ma 0), .int 0, .int 0, .int 0, .int 0, .ref (ma 1), .ref (ma 2), .null, .int 1, .int 10, .int 900, .ref (ma 3), .ref (ma 4), .int 0, .int 0, .int 0, .ref (ma 5), .int 1000, .int 50, .int 50, .int 1000, .int 10, .int 0, .int 3000, .int 0, .int 0, .int 0]))]) (As := []) (rest := [.int 0]) (n := 0) hx hb hml hown hts hE hS hP hD hA hl.1 (k107_X10_getWork l D cy g am (.int 0) (.ref (ma 0)) (.int 0) (.int 0) (.int 0) (.ref (ma 1)) (.ref (ma 2)) (.null) (.int 1) (.int 10) (.int 900) (.ref (ma 3)) (.ref (ma 4)) (.int 0) (.int 0) (.int 0) (.ref (ma 5)) (.int 1000) (.int 50) (.int 50) (.int 1000) (.int 10) (.int 0) (.int 3000) (.int 0) (.int 0) (.int 0) H.size ) rfl rfl rfl rfl rfl ax_108 rfl rfl ax_109 ⟨Nat.le_of_ble_eq_true rfl, Nat.le_of_ble_eq_true rfl⟩ rfl rfl (Nat.le_of_ble_eq_true rfl) dL_law_713 ⟨(Nat.le_of_ble_eq_true rfl), (Nat.le_of_ble_eq_true rfl)⟩) hP hD hS hA rfl rfl rfl (by decide) (fun ad713 H locs hP hD hS => ?_)
  have hP : va_P D vwCl [(am, .inr (15, [.int 0, .ref (ma 0), .int 0, .int 0, .int 0, .int 0, .ref (ma 1), .ref (ma 2), .null, .int 1, .int 10, .int 900, .ref (ma 3), .ref (ma 4), .int 0, .int 0, .int 0, .ref (ma 5), .int 1000, .int 50, .int 50, .int 1000, .int 10, .int 0, .int 3000, .int 0, .int 0, .int 0]))] H := hP
  have hD : va_D (AL s) [(am, .inr (15, [.int 0, .ref (ma 0), .int 0, .int 0, .int 0, .int 0, .ref (ma 1), .ref (ma 2), .null, .int 1, .int 10, .int 900, .ref (ma 3), .ref (ma 4), .int 0, .int 0, .int 0, .ref (ma 5), .int 1000, .int 50, .int 50, .int 1000, .int 10, .int 0, .int 3000, .int 0, .int 0, .int 0]))] := hD
  refine lv_icmp_eq (tgt := 2947) hx hb dL_law_716 (by decide) (fun _ => ?_) (fun z => absurd (by decide) z)
  exact law_tail LC hS (Nat.le_of_ble_eq_true rfl) (Nat.le_of_ble_eq_true rfl) (lv_sub hl [0, 5] rfl)
set_option maxHeartbeats 4000000 in
set_option maxRecDepth 100000 in
theorem lc_7 {p : Program} {e : Env} {s : State} {m : MethodId} {below : List Frame} {meth : Method} {c : Code} {l : Launch} {b : Nat} {xs : Nat → Int32} {D : va_G} {cy : Nat → ClassId} {g : Nat → Nat} (hst : l.stackTraces = false) (LC : LCtx p s m meth c b xs D cy g) (ax am aj ao : Nat) (xa ma : Nat → Nat) (x1 x2 x3 x4 : Int32) (e1 : xs (1 : Int32).toNatClampNeg = x1) (e2 : xs (2 : Int32).toNatClampNeg = x2) (e3 : xs (3 : Int32).toNatClampNeg = x3) (e4 : xs (4 : Int32).toNatClampNeg = x4) {H : Heap} {locs : List Loc} (hP : va_P D vwCl [(ax, .inr (14, [.ref (xa 0), .ref (xa 13), .ref (xa 18), .ref (xa 34), .ref (xa 45), .ref (xa 49), .ref (xa 50)])), ((xa 50), .inr (11, [.long 0, .int 0, .int 0, .int 0, .long 900])), (am, .inr (15, [.int 0, .ref (ma 0), .int 0, .int 0, .int 0, .int 0, .ref (ma 1), .ref (ma 2), .null, .int 1, .int 10, .int 900, .ref (ma 3), .ref (ma 4), .int 0, .int 0, .int 0, .ref (ma 5), .int 1000, .int 50, .int 50, .int 1000, .int 10, .int 0, .int 3000, .int 0, .int 0, .int 0]))] H) (hD : va_D (AL s) [(ax, .inr (14, [.ref (xa 0), .ref (xa 13), .ref (xa 18), .ref (xa 34), .ref (xa 45), .ref (xa 49), .ref (xa 50)])), ((xa 50), .inr (11, [.long 0, .int 0, .int 0, .int 0, .long 900])), (am, .inr (15, [.int 0, .ref (ma 0), .int 0, .int 0, .int 0, .int 0, .ref (ma 1), .ref (ma 2), .null, .int 1, .int 10, .int 900, .ref (ma 3), .ref (ma 4), .int 0, .int 0, .int 0, .ref (ma 5), .int 1000, .int 50, .int 50, .int 1000, .int 10, .int 0, .int 3000, .int 0, .int 0, .int 0]))]) (hS : va_S (AL s) s.heap H locs) (ls : Array Slot) (hl : lv_has ls 9 [(5, .int 0), (4, .ref ao), (3, .ref aj), (2, .ref am), (1, .ref ax), (0, .ref b)]) : W p l e room_1 s m #[Value.ref b] below meth c H locs 100 1000 (lw_Z below #[Value.ref b] s) (F0 m 721 ls []) := by
  obtain ⟨hx, hb, hr, hml, hown, hlk, hts, hE, hX, hbl⟩ := id LC
  have hA : ∀ q, s.heap.size ≤ q → (AL s) q := fun _ h => h
  have hbA : ¬ (AL s) b := Nat.not_le.mpr hbl
  refine lv_aload_n hx hb dL_law_721 rfl (lv_at hl 4 rfl) ?_
  refine ca_i (isC := [0, 1]) (isR := [2]) (wr := [(am, .inr (15, [.int 0, .ref (ma 0), .int 0, .int 0, .int 0, .int 0, .ref (ma 1), .ref (ma 2), .null, .int 1, .int 10, .int 900, .ref (ma 3), .ref (ma 4), .int 0, .int 0, .int 0, .ref (ma 5), .int 1000, .int 50, .int 50, .int 1000, .int 10, .int 0, .int 3000, .int 0, .int 0, .int 0]))]) (rn_V (ci := 14) (q0 := 0) (isC := [0, 1]) (wc := [(ax, .inr (14, [.ref (xa 0), .ref (xa 13), .ref (xa 18), .ref (xa 34), .ref (xa 45), .ref (xa 49), .ref (xa 50)])), ((xa 50), .inr (11, [.long 0, .int 0, .int 0, .int 0, .long 900]))]) (As := []) (rest := []) (n := 0) hx hb hml hown hts hE hS hP hD hA hl.1 (k108_X9_getMade l D cy g ax (xa 50) (.ref (xa 0)) (.ref (xa 13)) (.ref (xa 18)) (.ref (xa 34)) (.ref (xa 45)) (.ref (xa 49)) (.long 0) (.int 0) (.int 0) (.long 900) H.size ) rfl rfl rfl rfl rfl ax_110 rfl rfl ax_111 ⟨Nat.le_of_ble_eq_true rfl, Nat.le_of_ble_eq_true rfl⟩ rfl rfl (Nat.le_of_ble_eq_true rfl) dL_law_722 ⟨(Nat.le_of_ble_eq_true rfl), (Nat.le_of_ble_eq_true rfl)⟩) hP hD hS hA rfl rfl rfl (by decide) (fun ad722 H locs hP hD hS => ?_)
  have hP : va_P D vwCl [(am, .inr (15, [.int 0, .ref (ma 0), .int 0, .int 0, .int 0, .int 0, .ref (ma 1), .ref (ma 2), .null, .int 1, .int 10, .int 900, .ref (ma 3), .ref (ma 4), .int 0, .int 0, .int 0, .ref (ma 5), .int 1000, .int 50, .int 50, .int 1000, .int 10, .int 0, .int 3000, .int 0, .int 0, .int 0]))] H := hP
  have hD : va_D (AL s) [(am, .inr (15, [.int 0, .ref (ma 0), .int 0, .int 0, .int 0, .int 0, .ref (ma 1), .ref (ma 2), .null, .int 1, .int 10, .int 900, .ref (ma 3), .ref (ma 4), .int 0, .int 0, .int 0, .ref (ma 5), .int 1000, .int 50, .int 50, .int 1000, .int 10, .int 0, .int 3000, .int 0, .int 0, .int 0]))] := hD
  refine lv_aload_n hx hb dL_law_725 rfl (lv_at hl 3 rfl) ?_
  refine ca_i (isC := [0]) (isR := []) (wr := []) (rn_V (ci := 15) (q0 := 0) (isC := [0]) (wc := [(am, .inr (15, [.int 0, .ref (ma 0), .int 0, .int 0, .int 0, .int 0, .ref (ma 1), .ref (ma 2), .null, .int 1, .int 10, .int 900, .ref (ma 3), .ref (ma 4), .int 0, .int 0, .int 0, .ref (ma 5), .int 1000, .int 50, .int 50, .int 1000, .int 10, .int 0, .int 3000, .int 0, .int 0, .int 0]))]) (As := []) (rest := [.int 0]) (n := 0) hx hb hml hown hts hE hS hP hD hA hl.1 (k109_X10_getMade l D cy g am (.int 0) (.ref (ma 0)) (.int 0) (.int 0) (.int 0) (.ref (ma 1)) (.ref (ma 2)) (.null) (.int 1) (.int 10) (.int 900) (.ref (ma 3)) (.ref (ma 4)) (.int 0) (.int 0) (.int 0) (.ref (ma 5)) (.int 1000) (.int 50) (.int 50) (.int 1000) (.int 10) (.int 0) (.int 3000) (.int 0) (.int 0) (.int 0) H.size ) rfl rfl rfl rfl rfl ax_112 rfl rfl ax_113 ⟨Nat.le_of_ble_eq_true rfl, Nat.le_of_ble_eq_true rfl⟩ rfl rfl (Nat.le_of_ble_eq_true rfl) dL_law_726 ⟨(Nat.le_of_ble_eq_true rfl), (Nat.le_of_ble_eq_true rfl)⟩) hP hD hS hA rfl rfl rfl (by decide) (fun ad726 H locs hP hD hS => ?_)
  have hP : va_P D vwCl [(am, .inr (15, [.int 0, .ref (ma 0), .int 0, .int 0, .int 0, .int 0, .ref (ma 1), .ref (ma 2), .null, .int 1, .int 10, .int 900, .ref (ma 3), .ref (ma 4), .int 0, .int 0, .int 0, .ref (ma 5), .int 1000, .int 50, .int 50, .int 1000, .int 10, .int 0, .int 3000, .int 0, .int 0, .int 0]))] H := hP
  have hD : va_D (AL s) [(am, .inr (15, [.int 0, .ref (ma 0), .int 0, .int 0, .int 0, .int 0, .ref (ma 1), .ref (ma 2), .null, .int 1, .int 10, .int 900, .ref (ma 3), .ref (ma 4), .int 0, .int 0, .int 0, .ref (ma 5), .int 1000, .int 50, .int 50, .int 1000, .int 10, .int 0, .int 3000, .int 0, .int 0, .int 0]))] := hD
  refine lv_icmp_eq (tgt := 2947) hx hb dL_law_729 (by decide) (fun _ => ?_) (fun z => absurd (by decide) z)
  exact law_tail LC hS (Nat.le_of_ble_eq_true rfl) (Nat.le_of_ble_eq_true rfl) (lv_sub hl [0, 5] rfl)
set_option maxHeartbeats 4000000 in
set_option maxRecDepth 100000 in
theorem lc_8 {p : Program} {e : Env} {s : State} {m : MethodId} {below : List Frame} {meth : Method} {c : Code} {l : Launch} {b : Nat} {xs : Nat → Int32} {D : va_G} {cy : Nat → ClassId} {g : Nat → Nat} (hst : l.stackTraces = false) (LC : LCtx p s m meth c b xs D cy g) (ax am aj ao : Nat) (xa ma : Nat → Nat) (x1 x2 x3 x4 : Int32) (e1 : xs (1 : Int32).toNatClampNeg = x1) (e2 : xs (2 : Int32).toNatClampNeg = x2) (e3 : xs (3 : Int32).toNatClampNeg = x3) (e4 : xs (4 : Int32).toNatClampNeg = x4) {H : Heap} {locs : List Loc} (hP : va_P D vwCl [(ax, .inr (14, [.ref (xa 0), .ref (xa 13), .ref (xa 18), .ref (xa 34), .ref (xa 45), .ref (xa 49), .ref (xa 50)])), ((xa 13), .inr (12, [.ref (xa 14), .ref (xa 15), .ref (xa 16), .ref (xa 17), .int 0])), ((xa 14), .inl (cy 1, 8, .inl (fun _ => 0))), ((xa 15), .inl (cy 1, 8, .inl (fun _ => 0))), ((xa 16), .inl (cy 1, 8, .inl (fun _ => 0))), ((xa 17), .inl (cy 1, 8, .inl (fun _ => 0))), (am, .inr (15, [.int 0, .ref (ma 0), .int 0, .int 0, .int 0, .int 0, .ref (ma 1), .ref (ma 2), .null, .int 1, .int 10, .int 900, .ref (ma 3), .ref (ma 4), .int 0, .int 0, .int 0, .ref (ma 5), .int 1000, .int 50, .int 50, .int 1000, .int 10, .int 0, .int 3000, .int 0, .int 0, .int 0])), ((ma 1), .inr (4, [.int 0, .ref (g 0), .int 0])), (aj, .inl (cy 2, 1, .inr (.inl (fun _ => 0))))] H) (hD : va_D (AL s) [(ax, .inr (14, [.ref (xa 0), .ref (xa 13), .ref (xa 18), .ref (xa 34), .ref (xa 45), .ref (xa 49), .ref (xa 50)])), ((xa 13), .inr (12, [.ref (xa 14), .ref (xa 15), .ref (xa 16), .ref (xa 17), .int 0])), ((xa 14), .inl (cy 1, 8, .inl (fun _ => 0))), ((xa 15), .inl (cy 1, 8, .inl (fun _ => 0))), ((xa 16), .inl (cy 1, 8, .inl (fun _ => 0))), ((xa 17), .inl (cy 1, 8, .inl (fun _ => 0))), (am, .inr (15, [.int 0, .ref (ma 0), .int 0, .int 0, .int 0, .int 0, .ref (ma 1), .ref (ma 2), .null, .int 1, .int 10, .int 900, .ref (ma 3), .ref (ma 4), .int 0, .int 0, .int 0, .ref (ma 5), .int 1000, .int 50, .int 50, .int 1000, .int 10, .int 0, .int 3000, .int 0, .int 0, .int 0])), ((ma 1), .inr (4, [.int 0, .ref (g 0), .int 0])), (aj, .inl (cy 2, 1, .inr (.inl (fun _ => 0))))]) (hS : va_S (AL s) s.heap H locs) (ls : Array Slot) (hl : lv_has ls 9 [(5, .int 0), (4, .ref ao), (3, .ref aj), (2, .ref am), (1, .ref ax), (0, .ref b)]) : W p l e room_1 s m #[Value.ref b] below meth c H locs 100 1000 (lw_Z below #[Value.ref b] s) (F0 m 734 ls []) := by
  obtain ⟨hx, hb, hr, hml, hown, hlk, hts, hE, hX, hbl⟩ := id LC
  have hA : ∀ q, s.heap.size ≤ q → (AL s) q := fun _ h => h
  have hbA : ¬ (AL s) b := Nat.not_le.mpr hbl
  by_cases c0 : x1 < 1
  · refine lv_aload_n hx hb dL_law_734 rfl (lv_at hl 4 rfl) ?_
    refine lv_aload_n hx hb dL_law_735 rfl (lv_at hl 5 rfl) ?_
    refine lv_iload hx hb dL_law_736 (lv_at hl 0 rfl) ?_
    refine lv_iconst (v := 1) hx hb dL_law_738 (by decide) ?_
    refine lv_iadd hx hb dL_law_739 ?_
    refine tp_i 1 (by decide) ?_
    refine va_sld hx hb hX hbl hbA hS (by unfold vp_in; decide) dL_law_740 ?_
    refine tp_i x1 e1 ?_
    refine lv_aload_n hx hb dL_law_741 rfl (lv_at hl 5 rfl) ?_
    refine lv_iload hx hb dL_law_742 (lv_at hl 0 rfl) ?_
    refine lv_iconst (v := 2) hx hb dL_law_744 (by decide) ?_
    refine lv_iadd hx hb dL_law_745 ?_
    refine tp_i 2 (by decide) ?_
    refine va_sld hx hb hX hbl hbA hS (by unfold vp_in; decide) dL_law_746 ?_
    refine tp_i x2 e2 ?_
    refine lv_aload_n hx hb dL_law_747 rfl (lv_at hl 5 rfl) ?_
    refine lv_iload hx hb dL_law_748 (lv_at hl 0 rfl) ?_
    refine lv_iconst (v := 3) hx hb dL_law_750 (by decide) ?_
    refine lv_iadd hx hb dL_law_751 ?_
    refine tp_i 3 (by decide) ?_
    refine va_sld hx hb hX hbl hbA hS (by unfold vp_in; decide) dL_law_752 ?_
    refine tp_i x3 e3 ?_
    refine lv_aload_n hx hb dL_law_753 rfl (lv_at hl 5 rfl) ?_
    refine lv_iload hx hb dL_law_754 (lv_at hl 0 rfl) ?_
    refine lv_iconst (v := 4) hx hb dL_law_756 (by decide) ?_
    refine lv_iadd hx hb dL_law_757 ?_
    refine tp_i 4 (by decide) ?_
    refine va_sld hx hb hX hbl hbA hS (by unfold vp_in; decide) dL_law_758 ?_
    refine tp_i x4 e4 ?_
    refine lv_aload_n hx hb dL_law_759 rfl (lv_at hl 2 rfl) ?_
    refine ca_i (isC := [0]) (isR := [1, 2, 3, 4, 5, 6, 7, 8]) (wr := [((xa 13), .inr (12, [.ref (xa 14), .ref (xa 15), .ref (xa 16), .ref (xa 17), .int 0])), ((xa 14), .inl (cy 1, 8, .inl (fun _ => 0))), ((xa 15), .inl (cy 1, 8, .inl (fun _ => 0))), ((xa 16), .inl (cy 1, 8, .inl (fun _ => 0))), ((xa 17), .inl (cy 1, 8, .inl (fun _ => 0))), (am, .inr (15, [.int 0, .ref (ma 0), .int 0, .int 0, .int 0, .int 0, .ref (ma 1), .ref (ma 2), .null, .int 1, .int 10, .int 900, .ref (ma 3), .ref (ma 4), .int 0, .int 0, .int 0, .ref (ma 5), .int 1000, .int 50, .int 50, .int 1000, .int 10, .int 0, .int 3000, .int 0, .int 0, .int 0])), ((ma 1), .inr (4, [.int 0, .ref (g 0), .int 0])), (aj, .inl (cy 2, 1, .inr (.inl (fun _ => 0))))]) (rn_SW (isC := [0]) (wc := [(ax, .inr (14, [.ref (xa 0), .ref (xa 13), .ref (xa 18), .ref (xa 34), .ref (xa 45), .ref (xa 49), .ref (xa 50)]))]) (As := [.ref ax, .int x1, .int x2, .int x3, .int x4, .ref aj]) (rest := []) (n := 6) hx hb hml hown hts hE hS hP hD hA hl.1 (k111_L_addRow l hst D cy g x1 x2 x3 x4 ax aj (.ref (xa 0)) (.ref (xa 13)) (.ref (xa 18)) (.ref (xa 34)) (.ref (xa 45)) (.ref (xa 49)) (.ref (xa 50)) H.size c0) rfl rfl ax_116 rfl rfl ax_117 ⟨Nat.le_of_ble_eq_true rfl, Nat.le_of_ble_eq_true rfl⟩ rfl rfl (Nat.le_of_ble_eq_true rfl) dL_law_760 ⟨(Nat.le_of_ble_eq_true rfl), (Nat.le_of_ble_eq_true rfl)⟩) hP hD hS hA rfl rfl rfl (by decide) (fun ad760 H locs hP hD hS => ?_)
    have hP : va_P D vwCl [((xa 13), .inr (12, [.ref (xa 14), .ref (xa 15), .ref (xa 16), .ref (xa 17), .int 0])), ((xa 14), .inl (cy 1, 8, .inl (fun _ => 0))), ((xa 15), .inl (cy 1, 8, .inl (fun _ => 0))), ((xa 16), .inl (cy 1, 8, .inl (fun _ => 0))), ((xa 17), .inl (cy 1, 8, .inl (fun _ => 0))), (am, .inr (15, [.int 0, .ref (ma 0), .int 0, .int 0, .int 0, .int 0, .ref (ma 1), .ref (ma 2), .null, .int 1, .int 10, .int 900, .ref (ma 3), .ref (ma 4), .int 0, .int 0, .int 0, .ref (ma 5), .int 1000, .int 50, .int 50, .int 1000, .int 10, .int 0, .int 3000, .int 0, .int 0, .int 0])), ((ma 1), .inr (4, [.int 0, .ref (g 0), .int 0])), (aj, .inl (cy 2, 1, .inr (.inl (fun _ => 0))))] H := hP
    have hD : va_D (AL s) [((xa 13), .inr (12, [.ref (xa 14), .ref (xa 15), .ref (xa 16), .ref (xa 17), .int 0])), ((xa 14), .inl (cy 1, 8, .inl (fun _ => 0))), ((xa 15), .inl (cy 1, 8, .inl (fun _ => 0))), ((xa 16), .inl (cy 1, 8, .inl (fun _ => 0))), ((xa 17), .inl (cy 1, 8, .inl (fun _ => 0))), (am, .inr (15, [.int 0, .ref (ma 0), .int 0, .int 0, .int 0, .int 0, .ref (ma 1), .ref (ma 2), .null, .int 1, .int 10, .int 900, .ref (ma 3), .ref (ma 4), .int 0, .int 0, .int 0, .ref (ma 5), .int 1000, .int 50, .int 50, .int 1000, .int 10, .int 0, .int 3000, .int 0, .int 0, .int 0])), ((ma 1), .inr (4, [.int 0, .ref (g 0), .int 0])), (aj, .inl (cy 2, 1, .inr (.inl (fun _ => 0))))] := hD
    refine lv_istore (lv' := [(6, .int 1), (5, .int 0), (4, .ref ao), (3, .ref aj), (2, .ref am), (1, .ref ax), (0, .ref b)]) hx hb dL_law_763 hl (Nat.le_of_ble_eq_true rfl) rfl (fun ls hl => ?_)
    refine lv_aload_n hx hb dL_law_765 rfl (lv_at hl 4 rfl) ?_
    refine lv_aload_n hx hb dL_law_766 rfl (lv_at hl 6 rfl) ?_
    refine lv_iload hx hb dL_law_767 (lv_at hl 1 rfl) ?_
    refine lv_iconst (v := 1) hx hb dL_law_769 (by decide) ?_
    refine lv_iadd hx hb dL_law_770 ?_
    refine tp_i 1 (by decide) ?_
    refine va_sld hx hb hX hbl hbA hS (by unfold vp_in; decide) dL_law_771 ?_
    refine tp_i x1 e1 ?_
    refine lv_aload_n hx hb dL_law_772 rfl (lv_at hl 6 rfl) ?_
    refine lv_iload hx hb dL_law_773 (lv_at hl 1 rfl) ?_
    refine lv_iconst (v := 2) hx hb dL_law_775 (by decide) ?_
    refine lv_iadd hx hb dL_law_776 ?_
    refine tp_i 2 (by decide) ?_
    refine va_sld hx hb hX hbl hbA hS (by unfold vp_in; decide) dL_law_777 ?_
    refine tp_i x2 e2 ?_
    refine lv_aload_n hx hb dL_law_778 rfl (lv_at hl 6 rfl) ?_
    refine lv_iload hx hb dL_law_779 (lv_at hl 1 rfl) ?_
    refine lv_iconst (v := 3) hx hb dL_law_781 (by decide) ?_
    refine lv_iadd hx hb dL_law_782 ?_
    refine tp_i 3 (by decide) ?_
    refine va_sld hx hb hX hbl hbA hS (by unfold vp_in; decide) dL_law_783 ?_
    refine tp_i x3 e3 ?_
    refine lv_aload_n hx hb dL_law_784 rfl (lv_at hl 6 rfl) ?_
    refine lv_iload hx hb dL_law_785 (lv_at hl 1 rfl) ?_
    refine lv_iconst (v := 4) hx hb dL_law_787 (by decide) ?_
    refine lv_iadd hx hb dL_law_788 ?_
    refine tp_i 4 (by decide) ?_
    refine va_sld hx hb hX hbl hbA hS (by unfold vp_in; decide) dL_law_789 ?_
    refine tp_i x4 e4 ?_
    refine ca_i (isC := [5]) (isR := [0, 1, 2, 3, 4, 6, 7]) (wr := [((xa 13), .inr (12, [.ref (xa 14), .ref (xa 15), .ref (xa 16), .ref (xa 17), .int 0])), ((xa 14), .inl (cy 1, 8, .inl (fun _ => 0))), ((xa 15), .inl (cy 1, 8, .inl (fun _ => 0))), ((xa 16), .inl (cy 1, 8, .inl (fun _ => 0))), ((xa 17), .inl (cy 1, 8, .inl (fun _ => 0))), ((ma 1), .inr (4, [.int 0, .ref (g 0), .int 0])), (aj, .inl (cy 2, 1, .inr (.inl (fun _ => 0))))]) (rn_V (ci := 15) (q0 := 5) (isC := [5]) (wc := [(am, .inr (15, [.int 0, .ref (ma 0), .int 0, .int 0, .int 0, .int 0, .ref (ma 1), .ref (ma 2), .null, .int 1, .int 10, .int 900, .ref (ma 3), .ref (ma 4), .int 0, .int 0, .int 0, .ref (ma 5), .int 1000, .int 50, .int 50, .int 1000, .int 10, .int 0, .int 3000, .int 0, .int 0, .int 0]))]) (As := [.int x1, .int x2, .int x3, .int x4]) (rest := []) (n := 4) hx hb hml hown hts hE hS hP hD hA hl.1 (k112_X10_addRow l D cy g x1 x2 x3 x4 am (.int 0) (.ref (ma 0)) (.int 0) (.int 0) (.int 0) (.int 0) (.ref (ma 1)) (.ref (ma 2)) (.null) (.int 1) (.int 10) (.int 900) (.ref (ma 3)) (.ref (ma 4)) (.int 0) (.int 0) (.int 0) (.ref (ma 5)) (.int 1000) (.int 50) (.int 50) (.int 1000) (.int 10) (.int 0) (.int 3000) (.int 0) (.int 0) (.int 0) H.size c0) rfl rfl rfl rfl rfl ax_118 rfl rfl ax_119 ⟨Nat.le_of_ble_eq_true rfl, Nat.le_of_ble_eq_true rfl⟩ rfl rfl (Nat.le_of_ble_eq_true rfl) dL_law_790 ⟨(Nat.le_of_ble_eq_true rfl), (Nat.le_of_ble_eq_true rfl)⟩) hP hD hS hA rfl rfl rfl (by decide) (fun ad790 H locs hP hD hS => ?_)
    have hP : va_P D vwCl [((xa 13), .inr (12, [.ref (xa 14), .ref (xa 15), .ref (xa 16), .ref (xa 17), .int 0])), ((xa 14), .inl (cy 1, 8, .inl (fun _ => 0))), ((xa 15), .inl (cy 1, 8, .inl (fun _ => 0))), ((xa 16), .inl (cy 1, 8, .inl (fun _ => 0))), ((xa 17), .inl (cy 1, 8, .inl (fun _ => 0))), ((ma 1), .inr (4, [.int 0, .ref (g 0), .int 0])), (aj, .inl (cy 2, 1, .inr (.inl (fun _ => 0)))), (am, .inr (15, [.int 1, .ref (ma 0), .int 0, .int 0, .int 0, .int 0, .ref (ma 1), .ref (ma 2), .null, .int 1, .int 10, .int 900, .ref (ma 3), .ref (ma 4), .int 0, .int 0, .int 0, .ref (ma 5), .int 1000, .int 50, .int 50, .int 1000, .int 10, .int 0, .int 3000, .int 0, .int 0, .int 0]))] H := hP
    have hD : va_D (AL s) [((xa 13), .inr (12, [.ref (xa 14), .ref (xa 15), .ref (xa 16), .ref (xa 17), .int 0])), ((xa 14), .inl (cy 1, 8, .inl (fun _ => 0))), ((xa 15), .inl (cy 1, 8, .inl (fun _ => 0))), ((xa 16), .inl (cy 1, 8, .inl (fun _ => 0))), ((xa 17), .inl (cy 1, 8, .inl (fun _ => 0))), ((ma 1), .inr (4, [.int 0, .ref (g 0), .int 0])), (aj, .inl (cy 2, 1, .inr (.inl (fun _ => 0)))), (am, .inr (15, [.int 1, .ref (ma 0), .int 0, .int 0, .int 0, .int 0, .ref (ma 1), .ref (ma 2), .null, .int 1, .int 10, .int 900, .ref (ma 3), .ref (ma 4), .int 0, .int 0, .int 0, .ref (ma 5), .int 1000, .int 50, .int 50, .int 1000, .int 10, .int 0, .int 3000, .int 0, .int 0, .int 0]))] := hD
    refine lv_istore (lv' := [(7, .int (-1)), (6, .int 1), (5, .int 0), (4, .ref ao), (3, .ref aj), (2, .ref am), (1, .ref ax), (0, .ref b)]) hx hb dL_law_793 hl (Nat.le_of_ble_eq_true rfl) rfl (fun ls hl => ?_)
    refine lv_aload_n hx hb dL_law_795 rfl (lv_at hl 5 rfl) ?_
    refine ca_i (isC := [7]) (isR := [0, 1, 2, 3, 4, 5, 6]) (wr := [((xa 13), .inr (12, [.ref (xa 14), .ref (xa 15), .ref (xa 16), .ref (xa 17), .int 0])), ((xa 14), .inl (cy 1, 8, .inl (fun _ => 0))), ((xa 15), .inl (cy 1, 8, .inl (fun _ => 0))), ((xa 16), .inl (cy 1, 8, .inl (fun _ => 0))), ((xa 17), .inl (cy 1, 8, .inl (fun _ => 0))), ((ma 1), .inr (4, [.int 0, .ref (g 0), .int 0])), (aj, .inl (cy 2, 1, .inr (.inl (fun _ => 0))))]) (rn_V (ci := 15) (q0 := 7) (isC := [7]) (wc := [(am, .inr (15, [.int 1, .ref (ma 0), .int 0, .int 0, .int 0, .int 0, .ref (ma 1), .ref (ma 2), .null, .int 1, .int 10, .int 900, .ref (ma 3), .ref (ma 4), .int 0, .int 0, .int 0, .ref (ma 5), .int 1000, .int 50, .int 50, .int 1000, .int 10, .int 0, .int 3000, .int 0, .int 0, .int 0]))]) (As := []) (rest := []) (n := 0) hx hb hml hown hts hE hS hP hD hA hl.1 (k24_X10_thrown l D cy g am (.ref (ma 0)) (.int 0) (.int 0) (.int 0) (.int 0) (.ref (ma 1)) (.ref (ma 2)) (.null) (.int 1) (.int 10) (.int 900) (.ref (ma 3)) (.ref (ma 4)) (.int 0) (.int 0) (.int 0) (.ref (ma 5)) (.int 1000) (.int 50) (.int 50) (.int 1000) (.int 10) (.int 0) (.int 3000) (.int 0) (.int 0) (.int 0) H.size ) rfl rfl rfl rfl rfl ax_45 rfl rfl ax_46 ⟨Nat.le_of_ble_eq_true rfl, Nat.le_of_ble_eq_true rfl⟩ rfl rfl (Nat.le_of_ble_eq_true rfl) dL_law_796 ⟨(Nat.le_of_ble_eq_true rfl), (Nat.le_of_ble_eq_true rfl)⟩) hP hD hS hA rfl rfl rfl (by decide) (fun ad796 H locs hP hD hS => ?_)
    have hP : va_P D vwCl [((xa 13), .inr (12, [.ref (xa 14), .ref (xa 15), .ref (xa 16), .ref (xa 17), .int 0])), ((xa 14), .inl (cy 1, 8, .inl (fun _ => 0))), ((xa 15), .inl (cy 1, 8, .inl (fun _ => 0))), ((xa 16), .inl (cy 1, 8, .inl (fun _ => 0))), ((xa 17), .inl (cy 1, 8, .inl (fun _ => 0))), ((ma 1), .inr (4, [.int 0, .ref (g 0), .int 0])), (aj, .inl (cy 2, 1, .inr (.inl (fun _ => 0)))), (am, .inr (15, [.int 1, .ref (ma 0), .int 0, .int 0, .int 0, .int 0, .ref (ma 1), .ref (ma 2), .null, .int 1, .int 10, .int 900, .ref (ma 3), .ref (ma 4), .int 0, .int 0, .int 0, .ref (ma 5), .int 1000, .int 50, .int 50, .int 1000, .int 10, .int 0, .int 3000, .int 0, .int 0, .int 0]))] H := hP
    have hD : va_D (AL s) [((xa 13), .inr (12, [.ref (xa 14), .ref (xa 15), .ref (xa 16), .ref (xa 17), .int 0])), ((xa 14), .inl (cy 1, 8, .inl (fun _ => 0))), ((xa 15), .inl (cy 1, 8, .inl (fun _ => 0))), ((xa 16), .inl (cy 1, 8, .inl (fun _ => 0))), ((xa 17), .inl (cy 1, 8, .inl (fun _ => 0))), ((ma 1), .inr (4, [.int 0, .ref (g 0), .int 0])), (aj, .inl (cy 2, 1, .inr (.inl (fun _ => 0)))), (am, .inr (15, [.int 1, .ref (ma 0), .int 0, .int 0, .int 0, .int 0, .ref (ma 1), .ref (ma 2), .null, .int 1, .int 10, .int 900, .ref (ma 3), .ref (ma 4), .int 0, .int 0, .int 0, .ref (ma 5), .int 1000, .int 50, .int 50, .int 1000, .int 10, .int 0, .int 3000, .int 0, .int 0, .int 0]))] := hD
    refine lv_iload hx hb dL_law_799 (lv_at hl 1 rfl) ?_
    refine lv_icmp_eq (tgt := 806) hx hb dL_law_801 (by decide) (fun _ => ?_) (fun z => absurd (by decide) z)
    refine lv_iload hx hb dL_law_806 (lv_at hl 1 rfl) ?_
    refine lv_if_ne (tgt := 823) hx hb dL_law_808 (by decide) (fun _ => ?_) (fun z => absurd z (by decide))
    refine lv_goto (tgt := 2947) hx hb dL_law_823 (by decide) ?_
    exact law_tail LC hS (Nat.le_of_ble_eq_true rfl) (Nat.le_of_ble_eq_true rfl) (lv_sub hl [2, 7] rfl)
  · by_cases c1 : (1000 : Int32) < x1
    · refine lv_aload_n hx hb dL_law_734 rfl (lv_at hl 4 rfl) ?_
      refine lv_aload_n hx hb dL_law_735 rfl (lv_at hl 5 rfl) ?_
      refine lv_iload hx hb dL_law_736 (lv_at hl 0 rfl) ?_
      refine lv_iconst (v := 1) hx hb dL_law_738 (by decide) ?_
      refine lv_iadd hx hb dL_law_739 ?_
      refine tp_i 1 (by decide) ?_
      refine va_sld hx hb hX hbl hbA hS (by unfold vp_in; decide) dL_law_740 ?_
      refine tp_i x1 e1 ?_
      refine lv_aload_n hx hb dL_law_741 rfl (lv_at hl 5 rfl) ?_
      refine lv_iload hx hb dL_law_742 (lv_at hl 0 rfl) ?_
      refine lv_iconst (v := 2) hx hb dL_law_744 (by decide) ?_
      refine lv_iadd hx hb dL_law_745 ?_
      refine tp_i 2 (by decide) ?_
      refine va_sld hx hb hX hbl hbA hS (by unfold vp_in; decide) dL_law_746 ?_
      refine tp_i x2 e2 ?_
      refine lv_aload_n hx hb dL_law_747 rfl (lv_at hl 5 rfl) ?_
      refine lv_iload hx hb dL_law_748 (lv_at hl 0 rfl) ?_
      refine lv_iconst (v := 3) hx hb dL_law_750 (by decide) ?_
      refine lv_iadd hx hb dL_law_751 ?_
      refine tp_i 3 (by decide) ?_
      refine va_sld hx hb hX hbl hbA hS (by unfold vp_in; decide) dL_law_752 ?_
      refine tp_i x3 e3 ?_
      refine lv_aload_n hx hb dL_law_753 rfl (lv_at hl 5 rfl) ?_
      refine lv_iload hx hb dL_law_754 (lv_at hl 0 rfl) ?_
      refine lv_iconst (v := 4) hx hb dL_law_756 (by decide) ?_
      refine lv_iadd hx hb dL_law_757 ?_
      refine tp_i 4 (by decide) ?_
      refine va_sld hx hb hX hbl hbA hS (by unfold vp_in; decide) dL_law_758 ?_
      refine tp_i x4 e4 ?_
      refine lv_aload_n hx hb dL_law_759 rfl (lv_at hl 2 rfl) ?_
      refine ca_i (isC := [0]) (isR := [1, 2, 3, 4, 5, 6, 7, 8]) (wr := [((xa 13), .inr (12, [.ref (xa 14), .ref (xa 15), .ref (xa 16), .ref (xa 17), .int 0])), ((xa 14), .inl (cy 1, 8, .inl (fun _ => 0))), ((xa 15), .inl (cy 1, 8, .inl (fun _ => 0))), ((xa 16), .inl (cy 1, 8, .inl (fun _ => 0))), ((xa 17), .inl (cy 1, 8, .inl (fun _ => 0))), (am, .inr (15, [.int 0, .ref (ma 0), .int 0, .int 0, .int 0, .int 0, .ref (ma 1), .ref (ma 2), .null, .int 1, .int 10, .int 900, .ref (ma 3), .ref (ma 4), .int 0, .int 0, .int 0, .ref (ma 5), .int 1000, .int 50, .int 50, .int 1000, .int 10, .int 0, .int 3000, .int 0, .int 0, .int 0])), ((ma 1), .inr (4, [.int 0, .ref (g 0), .int 0])), (aj, .inl (cy 2, 1, .inr (.inl (fun _ => 0))))]) (rn_SW (isC := [0]) (wc := [(ax, .inr (14, [.ref (xa 0), .ref (xa 13), .ref (xa 18), .ref (xa 34), .ref (xa 45), .ref (xa 49), .ref (xa 50)]))]) (As := [.ref ax, .int x1, .int x2, .int x3, .int x4, .ref aj]) (rest := []) (n := 6) hx hb hml hown hts hE hS hP hD hA hl.1 (k114_L_addRow l hst D cy g x1 x2 x3 x4 ax aj (.ref (xa 0)) (.ref (xa 13)) (.ref (xa 18)) (.ref (xa 34)) (.ref (xa 45)) (.ref (xa 49)) (.ref (xa 50)) H.size c0 c1) rfl rfl ax_116 rfl rfl ax_117 ⟨Nat.le_of_ble_eq_true rfl, Nat.le_of_ble_eq_true rfl⟩ rfl rfl (Nat.le_of_ble_eq_true rfl) dL_law_760 ⟨(Nat.le_of_ble_eq_true rfl), (Nat.le_of_ble_eq_true rfl)⟩) hP hD hS hA rfl rfl rfl (by decide) (fun ad760 H locs hP hD hS => ?_)
      have hP : va_P D vwCl [((xa 13), .inr (12, [.ref (xa 14), .ref (xa 15), .ref (xa 16), .ref (xa 17), .int 0])), ((xa 14), .inl (cy 1, 8, .inl (fun _ => 0))), ((xa 15), .inl (cy 1, 8, .inl (fun _ => 0))), ((xa 16), .inl (cy 1, 8, .inl (fun _ => 0))), ((xa 17), .inl (cy 1, 8, .inl (fun _ => 0))), (am, .inr (15, [.int 0, .ref (ma 0), .int 0, .int 0, .int 0, .int 0, .ref (ma 1), .ref (ma 2), .null, .int 1, .int 10, .int 900, .ref (ma 3), .ref (ma 4), .int 0, .int 0, .int 0, .ref (ma 5), .int 1000, .int 50, .int 50, .int 1000, .int 10, .int 0, .int 3000, .int 0, .int 0, .int 0])), ((ma 1), .inr (4, [.int 0, .ref (g 0), .int 0])), (aj, .inl (cy 2, 1, .inr (.inl (fun _ => 0))))] H := hP
      have hD : va_D (AL s) [((xa 13), .inr (12, [.ref (xa 14), .ref (xa 15), .ref (xa 16), .ref (xa 17), .int 0])), ((xa 14), .inl (cy 1, 8, .inl (fun _ => 0))), ((xa 15), .inl (cy 1, 8, .inl (fun _ => 0))), ((xa 16), .inl (cy 1, 8, .inl (fun _ => 0))), ((xa 17), .inl (cy 1, 8, .inl (fun _ => 0))), (am, .inr (15, [.int 0, .ref (ma 0), .int 0, .int 0, .int 0, .int 0, .ref (ma 1), .ref (ma 2), .null, .int 1, .int 10, .int 900, .ref (ma 3), .ref (ma 4), .int 0, .int 0, .int 0, .ref (ma 5), .int 1000, .int 50, .int 50, .int 1000, .int 10, .int 0, .int 3000, .int 0, .int 0, .int 0])), ((ma 1), .inr (4, [.int 0, .ref (g 0), .int 0])), (aj, .inl (cy 2, 1, .inr (.inl (fun _ => 0))))] := hD
      refine lv_istore (lv' := [(6, .int 1), (5, .int 0), (4, .ref ao), (3, .ref aj), (2, .ref am), (1, .ref ax), (0, .ref b)]) hx hb dL_law_763 hl (Nat.le_of_ble_eq_true rfl) rfl (fun ls hl => ?_)
      refine lv_aload_n hx hb dL_law_765 rfl (lv_at hl 4 rfl) ?_
      refine lv_aload_n hx hb dL_law_766 rfl (lv_at hl 6 rfl) ?_
      refine lv_iload hx hb dL_law_767 (lv_at hl 1 rfl) ?_
      refine lv_iconst (v := 1) hx hb dL_law_769 (by decide) ?_
      refine lv_iadd hx hb dL_law_770 ?_
      refine tp_i 1 (by decide) ?_
      refine va_sld hx hb hX hbl hbA hS (by unfold vp_in; decide) dL_law_771 ?_
      refine tp_i x1 e1 ?_
      refine lv_aload_n hx hb dL_law_772 rfl (lv_at hl 6 rfl) ?_
      refine lv_iload hx hb dL_law_773 (lv_at hl 1 rfl) ?_
      refine lv_iconst (v := 2) hx hb dL_law_775 (by decide) ?_
      refine lv_iadd hx hb dL_law_776 ?_
      refine tp_i 2 (by decide) ?_
      refine va_sld hx hb hX hbl hbA hS (by unfold vp_in; decide) dL_law_777 ?_
      refine tp_i x2 e2 ?_
      refine lv_aload_n hx hb dL_law_778 rfl (lv_at hl 6 rfl) ?_
      refine lv_iload hx hb dL_law_779 (lv_at hl 1 rfl) ?_
      refine lv_iconst (v := 3) hx hb dL_law_781 (by decide) ?_
      refine lv_iadd hx hb dL_law_782 ?_
      refine tp_i 3 (by decide) ?_
      refine va_sld hx hb hX hbl hbA hS (by unfold vp_in; decide) dL_law_783 ?_
      refine tp_i x3 e3 ?_
      refine lv_aload_n hx hb dL_law_784 rfl (lv_at hl 6 rfl) ?_
      refine lv_iload hx hb dL_law_785 (lv_at hl 1 rfl) ?_
      refine lv_iconst (v := 4) hx hb dL_law_787 (by decide) ?_
      refine lv_iadd hx hb dL_law_788 ?_
      refine tp_i 4 (by decide) ?_
      refine va_sld hx hb hX hbl hbA hS (by unfold vp_in; decide) dL_law_789 ?_
      refine tp_i x4 e4 ?_
      refine ca_i (isC := [5]) (isR := [0, 1, 2, 3, 4, 6, 7]) (wr := [((xa 13), .inr (12, [.ref (xa 14), .ref (xa 15), .ref (xa 16), .ref (xa 17), .int 0])), ((xa 14), .inl (cy 1, 8, .inl (fun _ => 0))), ((xa 15), .inl (cy 1, 8, .inl (fun _ => 0))), ((xa 16), .inl (cy 1, 8, .inl (fun _ => 0))), ((xa 17), .inl (cy 1, 8, .inl (fun _ => 0))), ((ma 1), .inr (4, [.int 0, .ref (g 0), .int 0])), (aj, .inl (cy 2, 1, .inr (.inl (fun _ => 0))))]) (rn_V (ci := 15) (q0 := 5) (isC := [5]) (wc := [(am, .inr (15, [.int 0, .ref (ma 0), .int 0, .int 0, .int 0, .int 0, .ref (ma 1), .ref (ma 2), .null, .int 1, .int 10, .int 900, .ref (ma 3), .ref (ma 4), .int 0, .int 0, .int 0, .ref (ma 5), .int 1000, .int 50, .int 50, .int 1000, .int 10, .int 0, .int 3000, .int 0, .int 0, .int 0]))]) (As := [.int x1, .int x2, .int x3, .int x4]) (rest := []) (n := 4) hx hb hml hown hts hE hS hP hD hA hl.1 (k115_X10_addRow l D cy g x1 x2 x3 x4 am (.int 0) (.ref (ma 0)) (.int 0) (.int 0) (.int 0) (.int 0) (.ref (ma 1)) (.ref (ma 2)) (.null) (.int 1) (.int 10) (.int 900) (.ref (ma 3)) (.ref (ma 4)) (.int 0) (.int 0) (.int 0) (.ref (ma 5)) (.int 1000) (.int 50) (.int 50) (.int 1000) (.int 10) (.int 0) (.int 3000) (.int 0) (.int 0) (.int 0) H.size c0 c1) rfl rfl rfl rfl rfl ax_118 rfl rfl ax_119 ⟨Nat.le_of_ble_eq_true rfl, Nat.le_of_ble_eq_true rfl⟩ rfl rfl (Nat.le_of_ble_eq_true rfl) dL_law_790 ⟨(Nat.le_of_ble_eq_true rfl), (Nat.le_of_ble_eq_true rfl)⟩) hP hD hS hA rfl rfl rfl (by decide) (fun ad790 H locs hP hD hS => ?_)
      have hP : va_P D vwCl [((xa 13), .inr (12, [.ref (xa 14), .ref (xa 15), .ref (xa 16), .ref (xa 17), .int 0])), ((xa 14), .inl (cy 1, 8, .inl (fun _ => 0))), ((xa 15), .inl (cy 1, 8, .inl (fun _ => 0))), ((xa 16), .inl (cy 1, 8, .inl (fun _ => 0))), ((xa 17), .inl (cy 1, 8, .inl (fun _ => 0))), ((ma 1), .inr (4, [.int 0, .ref (g 0), .int 0])), (aj, .inl (cy 2, 1, .inr (.inl (fun _ => 0)))), (am, .inr (15, [.int 1, .ref (ma 0), .int 0, .int 0, .int 0, .int 0, .ref (ma 1), .ref (ma 2), .null, .int 1, .int 10, .int 900, .ref (ma 3), .ref (ma 4), .int 0, .int 0, .int 0, .ref (ma 5), .int 1000, .int 50, .int 50, .int 1000, .int 10, .int 0, .int 3000, .int 0, .int 0, .int 0]))] H := hP
      have hD : va_D (AL s) [((xa 13), .inr (12, [.ref (xa 14), .ref (xa 15), .ref (xa 16), .ref (xa 17), .int 0])), ((xa 14), .inl (cy 1, 8, .inl (fun _ => 0))), ((xa 15), .inl (cy 1, 8, .inl (fun _ => 0))), ((xa 16), .inl (cy 1, 8, .inl (fun _ => 0))), ((xa 17), .inl (cy 1, 8, .inl (fun _ => 0))), ((ma 1), .inr (4, [.int 0, .ref (g 0), .int 0])), (aj, .inl (cy 2, 1, .inr (.inl (fun _ => 0)))), (am, .inr (15, [.int 1, .ref (ma 0), .int 0, .int 0, .int 0, .int 0, .ref (ma 1), .ref (ma 2), .null, .int 1, .int 10, .int 900, .ref (ma 3), .ref (ma 4), .int 0, .int 0, .int 0, .ref (ma 5), .int 1000, .int 50, .int 50, .int 1000, .int 10, .int 0, .int 3000, .int 0, .int 0, .int 0]))] := hD
      refine lv_istore (lv' := [(7, .int (-1)), (6, .int 1), (5, .int 0), (4, .ref ao), (3, .ref aj), (2, .ref am), (1, .ref ax), (0, .ref b)]) hx hb dL_law_793 hl (Nat.le_of_ble_eq_true rfl) rfl (fun ls hl => ?_)
      refine lv_aload_n hx hb dL_law_795 rfl (lv_at hl 5 rfl) ?_
      refine ca_i (isC := [7]) (isR := [0, 1, 2, 3, 4, 5, 6]) (wr := [((xa 13), .inr (12, [.ref (xa 14), .ref (xa 15), .ref (xa 16), .ref (xa 17), .int 0])), ((xa 14), .inl (cy 1, 8, .inl (fun _ => 0))), ((xa 15), .inl (cy 1, 8, .inl (fun _ => 0))), ((xa 16), .inl (cy 1, 8, .inl (fun _ => 0))), ((xa 17), .inl (cy 1, 8, .inl (fun _ => 0))), ((ma 1), .inr (4, [.int 0, .ref (g 0), .int 0])), (aj, .inl (cy 2, 1, .inr (.inl (fun _ => 0))))]) (rn_V (ci := 15) (q0 := 7) (isC := [7]) (wc := [(am, .inr (15, [.int 1, .ref (ma 0), .int 0, .int 0, .int 0, .int 0, .ref (ma 1), .ref (ma 2), .null, .int 1, .int 10, .int 900, .ref (ma 3), .ref (ma 4), .int 0, .int 0, .int 0, .ref (ma 5), .int 1000, .int 50, .int 50, .int 1000, .int 10, .int 0, .int 3000, .int 0, .int 0, .int 0]))]) (As := []) (rest := []) (n := 0) hx hb hml hown hts hE hS hP hD hA hl.1 (k24_X10_thrown l D cy g am (.ref (ma 0)) (.int 0) (.int 0) (.int 0) (.int 0) (.ref (ma 1)) (.ref (ma 2)) (.null) (.int 1) (.int 10) (.int 900) (.ref (ma 3)) (.ref (ma 4)) (.int 0) (.int 0) (.int 0) (.ref (ma 5)) (.int 1000) (.int 50) (.int 50) (.int 1000) (.int 10) (.int 0) (.int 3000) (.int 0) (.int 0) (.int 0) H.size ) rfl rfl rfl rfl rfl ax_45 rfl rfl ax_46 ⟨Nat.le_of_ble_eq_true rfl, Nat.le_of_ble_eq_true rfl⟩ rfl rfl (Nat.le_of_ble_eq_true rfl) dL_law_796 ⟨(Nat.le_of_ble_eq_true rfl), (Nat.le_of_ble_eq_true rfl)⟩) hP hD hS hA rfl rfl rfl (by decide) (fun ad796 H locs hP hD hS => ?_)
      have hP : va_P D vwCl [((xa 13), .inr (12, [.ref (xa 14), .ref (xa 15), .ref (xa 16), .ref (xa 17), .int 0])), ((xa 14), .inl (cy 1, 8, .inl (fun _ => 0))), ((xa 15), .inl (cy 1, 8, .inl (fun _ => 0))), ((xa 16), .inl (cy 1, 8, .inl (fun _ => 0))), ((xa 17), .inl (cy 1, 8, .inl (fun _ => 0))), ((ma 1), .inr (4, [.int 0, .ref (g 0), .int 0])), (aj, .inl (cy 2, 1, .inr (.inl (fun _ => 0)))), (am, .inr (15, [.int 1, .ref (ma 0), .int 0, .int 0, .int 0, .int 0, .ref (ma 1), .ref (ma 2), .null, .int 1, .int 10, .int 900, .ref (ma 3), .ref (ma 4), .int 0, .int 0, .int 0, .ref (ma 5), .int 1000, .int 50, .int 50, .int 1000, .int 10, .int 0, .int 3000, .int 0, .int 0, .int 0]))] H := hP
      have hD : va_D (AL s) [((xa 13), .inr (12, [.ref (xa 14), .ref (xa 15), .ref (xa 16), .ref (xa 17), .int 0])), ((xa 14), .inl (cy 1, 8, .inl (fun _ => 0))), ((xa 15), .inl (cy 1, 8, .inl (fun _ => 0))), ((xa 16), .inl (cy 1, 8, .inl (fun _ => 0))), ((xa 17), .inl (cy 1, 8, .inl (fun _ => 0))), ((ma 1), .inr (4, [.int 0, .ref (g 0), .int 0])), (aj, .inl (cy 2, 1, .inr (.inl (fun _ => 0)))), (am, .inr (15, [.int 1, .ref (ma 0), .int 0, .int 0, .int 0, .int 0, .ref (ma 1), .ref (ma 2), .null, .int 1, .int 10, .int 900, .ref (ma 3), .ref (ma 4), .int 0, .int 0, .int 0, .ref (ma 5), .int 1000, .int 50, .int 50, .int 1000, .int 10, .int 0, .int 3000, .int 0, .int 0, .int 0]))] := hD
      refine lv_iload hx hb dL_law_799 (lv_at hl 1 rfl) ?_
      refine lv_icmp_eq (tgt := 806) hx hb dL_law_801 (by decide) (fun _ => ?_) (fun z => absurd (by decide) z)
      refine lv_iload hx hb dL_law_806 (lv_at hl 1 rfl) ?_
      refine lv_if_ne (tgt := 823) hx hb dL_law_808 (by decide) (fun _ => ?_) (fun z => absurd z (by decide))
      refine lv_goto (tgt := 2947) hx hb dL_law_823 (by decide) ?_
      exact law_tail LC hS (Nat.le_of_ble_eq_true rfl) (Nat.le_of_ble_eq_true rfl) (lv_sub hl [2, 7] rfl)
    · by_cases c2 : x2 < 50
      · refine lv_aload_n hx hb dL_law_734 rfl (lv_at hl 4 rfl) ?_
        refine lv_aload_n hx hb dL_law_735 rfl (lv_at hl 5 rfl) ?_
        refine lv_iload hx hb dL_law_736 (lv_at hl 0 rfl) ?_
        refine lv_iconst (v := 1) hx hb dL_law_738 (by decide) ?_
        refine lv_iadd hx hb dL_law_739 ?_
        refine tp_i 1 (by decide) ?_
        refine va_sld hx hb hX hbl hbA hS (by unfold vp_in; decide) dL_law_740 ?_
        refine tp_i x1 e1 ?_
        refine lv_aload_n hx hb dL_law_741 rfl (lv_at hl 5 rfl) ?_
        refine lv_iload hx hb dL_law_742 (lv_at hl 0 rfl) ?_
        refine lv_iconst (v := 2) hx hb dL_law_744 (by decide) ?_
        refine lv_iadd hx hb dL_law_745 ?_
        refine tp_i 2 (by decide) ?_
        refine va_sld hx hb hX hbl hbA hS (by unfold vp_in; decide) dL_law_746 ?_
        refine tp_i x2 e2 ?_
        refine lv_aload_n hx hb dL_law_747 rfl (lv_at hl 5 rfl) ?_
        refine lv_iload hx hb dL_law_748 (lv_at hl 0 rfl) ?_
        refine lv_iconst (v := 3) hx hb dL_law_750 (by decide) ?_
        refine lv_iadd hx hb dL_law_751 ?_
        refine tp_i 3 (by decide) ?_
        refine va_sld hx hb hX hbl hbA hS (by unfold vp_in; decide) dL_law_752 ?_
        refine tp_i x3 e3 ?_
        refine lv_aload_n hx hb dL_law_753 rfl (lv_at hl 5 rfl) ?_
        refine lv_iload hx hb dL_law_754 (lv_at hl 0 rfl) ?_
        refine lv_iconst (v := 4) hx hb dL_law_756 (by decide) ?_
        refine lv_iadd hx hb dL_law_757 ?_
        refine tp_i 4 (by decide) ?_
        refine va_sld hx hb hX hbl hbA hS (by unfold vp_in; decide) dL_law_758 ?_
        refine tp_i x4 e4 ?_
        refine lv_aload_n hx hb dL_law_759 rfl (lv_at hl 2 rfl) ?_
        refine ca_i (isC := [0]) (isR := [1, 2, 3, 4, 5, 6, 7, 8]) (wr := [((xa 13), .inr (12, [.ref (xa 14), .ref (xa 15), .ref (xa 16), .ref (xa 17), .int 0])), ((xa 14), .inl (cy 1, 8, .inl (fun _ => 0))), ((xa 15), .inl (cy 1, 8, .inl (fun _ => 0))), ((xa 16), .inl (cy 1, 8, .inl (fun _ => 0))), ((xa 17), .inl (cy 1, 8, .inl (fun _ => 0))), (am, .inr (15, [.int 0, .ref (ma 0), .int 0, .int 0, .int 0, .int 0, .ref (ma 1), .ref (ma 2), .null, .int 1, .int 10, .int 900, .ref (ma 3), .ref (ma 4), .int 0, .int 0, .int 0, .ref (ma 5), .int 1000, .int 50, .int 50, .int 1000, .int 10, .int 0, .int 3000, .int 0, .int 0, .int 0])), ((ma 1), .inr (4, [.int 0, .ref (g 0), .int 0])), (aj, .inl (cy 2, 1, .inr (.inl (fun _ => 0))))]) (rn_SW (isC := [0]) (wc := [(ax, .inr (14, [.ref (xa 0), .ref (xa 13), .ref (xa 18), .ref (xa 34), .ref (xa 45), .ref (xa 49), .ref (xa 50)]))]) (As := [.ref ax, .int x1, .int x2, .int x3, .int x4, .ref aj]) (rest := []) (n := 6) hx hb hml hown hts hE hS hP hD hA hl.1 (k117_L_addRow l hst D cy g x1 x2 x3 x4 ax aj (.ref (xa 0)) (.ref (xa 13)) (.ref (xa 18)) (.ref (xa 34)) (.ref (xa 45)) (.ref (xa 49)) (.ref (xa 50)) H.size c0 c1 c2) rfl rfl ax_116 rfl rfl ax_117 ⟨Nat.le_of_ble_eq_true rfl, Nat.le_of_ble_eq_true rfl⟩ rfl rfl (Nat.le_of_ble_eq_true rfl) dL_law_760 ⟨(Nat.le_of_ble_eq_true rfl), (Nat.le_of_ble_eq_true rfl)⟩) hP hD hS hA rfl rfl rfl (by decide) (fun ad760 H locs hP hD hS => ?_)
        have hP : va_P D vwCl [((xa 13), .inr (12, [.ref (xa 14), .ref (xa 15), .ref (xa 16), .ref (xa 17), .int 0])), ((xa 14), .inl (cy 1, 8, .inl (fun _ => 0))), ((xa 15), .inl (cy 1, 8, .inl (fun _ => 0))), ((xa 16), .inl (cy 1, 8, .inl (fun _ => 0))), ((xa 17), .inl (cy 1, 8, .inl (fun _ => 0))), (am, .inr (15, [.int 0, .ref (ma 0), .int 0, .int 0, .int 0, .int 0, .ref (ma 1), .ref (ma 2), .null, .int 1, .int 10, .int 900, .ref (ma 3), .ref (ma 4), .int 0, .int 0, .int 0, .ref (ma 5), .int 1000, .int 50, .int 50, .int 1000, .int 10, .int 0, .int 3000, .int 0, .int 0, .int 0])), ((ma 1), .inr (4, [.int 0, .ref (g 0), .int 0])), (aj, .inl (cy 2, 1, .inr (.inl (fun _ => 0))))] H := hP
        have hD : va_D (AL s) [((xa 13), .inr (12, [.ref (xa 14), .ref (xa 15), .ref (xa 16), .ref (xa 17), .int 0])), ((xa 14), .inl (cy 1, 8, .inl (fun _ => 0))), ((xa 15), .inl (cy 1, 8, .inl (fun _ => 0))), ((xa 16), .inl (cy 1, 8, .inl (fun _ => 0))), ((xa 17), .inl (cy 1, 8, .inl (fun _ => 0))), (am, .inr (15, [.int 0, .ref (ma 0), .int 0, .int 0, .int 0, .int 0, .ref (ma 1), .ref (ma 2), .null, .int 1, .int 10, .int 900, .ref (ma 3), .ref (ma 4), .int 0, .int 0, .int 0, .ref (ma 5), .int 1000, .int 50, .int 50, .int 1000, .int 10, .int 0, .int 3000, .int 0, .int 0, .int 0])), ((ma 1), .inr (4, [.int 0, .ref (g 0), .int 0])), (aj, .inl (cy 2, 1, .inr (.inl (fun _ => 0))))] := hD
        refine lv_istore (lv' := [(6, .int 1), (5, .int 0), (4, .ref ao), (3, .ref aj), (2, .ref am), (1, .ref ax), (0, .ref b)]) hx hb dL_law_763 hl (Nat.le_of_ble_eq_true rfl) rfl (fun ls hl => ?_)
        refine lv_aload_n hx hb dL_law_765 rfl (lv_at hl 4 rfl) ?_
        refine lv_aload_n hx hb dL_law_766 rfl (lv_at hl 6 rfl) ?_
        refine lv_iload hx hb dL_law_767 (lv_at hl 1 rfl) ?_
        refine lv_iconst (v := 1) hx hb dL_law_769 (by decide) ?_
        refine lv_iadd hx hb dL_law_770 ?_
        refine tp_i 1 (by decide) ?_
        refine va_sld hx hb hX hbl hbA hS (by unfold vp_in; decide) dL_law_771 ?_
        refine tp_i x1 e1 ?_
        refine lv_aload_n hx hb dL_law_772 rfl (lv_at hl 6 rfl) ?_
        refine lv_iload hx hb dL_law_773 (lv_at hl 1 rfl) ?_
        refine lv_iconst (v := 2) hx hb dL_law_775 (by decide) ?_
        refine lv_iadd hx hb dL_law_776 ?_
        refine tp_i 2 (by decide) ?_
        refine va_sld hx hb hX hbl hbA hS (by unfold vp_in; decide) dL_law_777 ?_
        refine tp_i x2 e2 ?_
        refine lv_aload_n hx hb dL_law_778 rfl (lv_at hl 6 rfl) ?_
        refine lv_iload hx hb dL_law_779 (lv_at hl 1 rfl) ?_
        refine lv_iconst (v := 3) hx hb dL_law_781 (by decide) ?_
        refine lv_iadd hx hb dL_law_782 ?_
        refine tp_i 3 (by decide) ?_
        refine va_sld hx hb hX hbl hbA hS (by unfold vp_in; decide) dL_law_783 ?_
        refine tp_i x3 e3 ?_
        refine lv_aload_n hx hb dL_law_784 rfl (lv_at hl 6 rfl) ?_
        refine lv_iload hx hb dL_law_785 (lv_at hl 1 rfl) ?_
        refine lv_iconst (v := 4) hx hb dL_law_787 (by decide) ?_
        refine lv_iadd hx hb dL_law_788 ?_
        refine tp_i 4 (by decide) ?_
        refine va_sld hx hb hX hbl hbA hS (by unfold vp_in; decide) dL_law_789 ?_
        refine tp_i x4 e4 ?_
        refine ca_i (isC := [5]) (isR := [0, 1, 2, 3, 4, 6, 7]) (wr := [((xa 13), .inr (12, [.ref (xa 14), .ref (xa 15), .ref (xa 16), .ref (xa 17), .int 0])), ((xa 14), .inl (cy 1, 8, .inl (fun _ => 0))), ((xa 15), .inl (cy 1, 8, .inl (fun _ => 0))), ((xa 16), .inl (cy 1, 8, .inl (fun _ => 0))), ((xa 17), .inl (cy 1, 8, .inl (fun _ => 0))), ((ma 1), .inr (4, [.int 0, .ref (g 0), .int 0])), (aj, .inl (cy 2, 1, .inr (.inl (fun _ => 0))))]) (rn_V (ci := 15) (q0 := 5) (isC := [5]) (wc := [(am, .inr (15, [.int 0, .ref (ma 0), .int 0, .int 0, .int 0, .int 0, .ref (ma 1), .ref (ma 2), .null, .int 1, .int 10, .int 900, .ref (ma 3), .ref (ma 4), .int 0, .int 0, .int 0, .ref (ma 5), .int 1000, .int 50, .int 50, .int 1000, .int 10, .int 0, .int 3000, .int 0, .int 0, .int 0]))]) (As := [.int x1, .int x2, .int x3, .int x4]) (rest := []) (n := 4) hx hb hml hown hts hE hS hP hD hA hl.1 (k118_X10_addRow l D cy g x1 x2 x3 x4 am (.int 0) (.ref (ma 0)) (.int 0) (.int 0) (.int 0) (.int 0) (.ref (ma 1)) (.ref (ma 2)) (.null) (.int 1) (.int 10) (.int 900) (.ref (ma 3)) (.ref (ma 4)) (.int 0) (.int 0) (.int 0) (.ref (ma 5)) (.int 1000) (.int 50) (.int 50) (.int 1000) (.int 10) (.int 0) (.int 3000) (.int 0) (.int 0) (.int 0) H.size c0 c1 c2) rfl rfl rfl rfl rfl ax_118 rfl rfl ax_119 ⟨Nat.le_of_ble_eq_true rfl, Nat.le_of_ble_eq_true rfl⟩ rfl rfl (Nat.le_of_ble_eq_true rfl) dL_law_790 ⟨(Nat.le_of_ble_eq_true rfl), (Nat.le_of_ble_eq_true rfl)⟩) hP hD hS hA rfl rfl rfl (by decide) (fun ad790 H locs hP hD hS => ?_)
        have hP : va_P D vwCl [((xa 13), .inr (12, [.ref (xa 14), .ref (xa 15), .ref (xa 16), .ref (xa 17), .int 0])), ((xa 14), .inl (cy 1, 8, .inl (fun _ => 0))), ((xa 15), .inl (cy 1, 8, .inl (fun _ => 0))), ((xa 16), .inl (cy 1, 8, .inl (fun _ => 0))), ((xa 17), .inl (cy 1, 8, .inl (fun _ => 0))), ((ma 1), .inr (4, [.int 0, .ref (g 0), .int 0])), (aj, .inl (cy 2, 1, .inr (.inl (fun _ => 0)))), (am, .inr (15, [.int 1, .ref (ma 0), .int 0, .int 0, .int 0, .int 0, .ref (ma 1), .ref (ma 2), .null, .int 1, .int 10, .int 900, .ref (ma 3), .ref (ma 4), .int 0, .int 0, .int 0, .ref (ma 5), .int 1000, .int 50, .int 50, .int 1000, .int 10, .int 0, .int 3000, .int 0, .int 0, .int 0]))] H := hP
        have hD : va_D (AL s) [((xa 13), .inr (12, [.ref (xa 14), .ref (xa 15), .ref (xa 16), .ref (xa 17), .int 0])), ((xa 14), .inl (cy 1, 8, .inl (fun _ => 0))), ((xa 15), .inl (cy 1, 8, .inl (fun _ => 0))), ((xa 16), .inl (cy 1, 8, .inl (fun _ => 0))), ((xa 17), .inl (cy 1, 8, .inl (fun _ => 0))), ((ma 1), .inr (4, [.int 0, .ref (g 0), .int 0])), (aj, .inl (cy 2, 1, .inr (.inl (fun _ => 0)))), (am, .inr (15, [.int 1, .ref (ma 0), .int 0, .int 0, .int 0, .int 0, .ref (ma 1), .ref (ma 2), .null, .int 1, .int 10, .int 900, .ref (ma 3), .ref (ma 4), .int 0, .int 0, .int 0, .ref (ma 5), .int 1000, .int 50, .int 50, .int 1000, .int 10, .int 0, .int 3000, .int 0, .int 0, .int 0]))] := hD
        refine lv_istore (lv' := [(7, .int (-1)), (6, .int 1), (5, .int 0), (4, .ref ao), (3, .ref aj), (2, .ref am), (1, .ref ax), (0, .ref b)]) hx hb dL_law_793 hl (Nat.le_of_ble_eq_true rfl) rfl (fun ls hl => ?_)
        refine lv_aload_n hx hb dL_law_795 rfl (lv_at hl 5 rfl) ?_
        refine ca_i (isC := [7]) (isR := [0, 1, 2, 3, 4, 5, 6]) (wr := [((xa 13), .inr (12, [.ref (xa 14), .ref (xa 15), .ref (xa 16), .ref (xa 17), .int 0])), ((xa 14), .inl (cy 1, 8, .inl (fun _ => 0))), ((xa 15), .inl (cy 1, 8, .inl (fun _ => 0))), ((xa 16), .inl (cy 1, 8, .inl (fun _ => 0))), ((xa 17), .inl (cy 1, 8, .inl (fun _ => 0))), ((ma 1), .inr (4, [.int 0, .ref (g 0), .int 0])), (aj, .inl (cy 2, 1, .inr (.inl (fun _ => 0))))]) (rn_V (ci := 15) (q0 := 7) (isC := [7]) (wc := [(am, .inr (15, [.int 1, .ref (ma 0), .int 0, .int 0, .int 0, .int 0, .ref (ma 1), .ref (ma 2), .null, .int 1, .int 10, .int 900, .ref (ma 3), .ref (ma 4), .int 0, .int 0, .int 0, .ref (ma 5), .int 1000, .int 50, .int 50, .int 1000, .int 10, .int 0, .int 3000, .int 0, .int 0, .int 0]))]) (As := []) (rest := []) (n := 0) hx hb hml hown hts hE hS hP hD hA hl.1 (k24_X10_thrown l D cy g am (.ref (ma 0)) (.int 0) (.int 0) (.int 0) (.int 0) (.ref (ma 1)) (.ref (ma 2)) (.null) (.int 1) (.int 10) (.int 900) (.ref (ma 3)) (.ref (ma 4)) (.int 0) (.int 0) (.int 0) (.ref (ma 5)) (.int 1000) (.int 50) (.int 50) (.int 1000) (.int 10) (.int 0) (.int 3000) (.int 0) (.int 0) (.int 0) H.size ) rfl rfl rfl rfl rfl ax_45 rfl rfl ax_46 ⟨Nat.le_of_ble_eq_true rfl, Nat.le_of_ble_eq_true rfl⟩ rfl rfl (Nat.le_of_ble_eq_true rfl) dL_law_796 ⟨(Nat.le_of_ble_eq_true rfl), (Nat.le_of_ble_eq_true rfl)⟩) hP hD hS hA rfl rfl rfl (by decide) (fun ad796 H locs hP hD hS => ?_)
        have hP : va_P D vwCl [((xa 13), .inr (12, [.ref (xa 14), .ref (xa 15), .ref (xa 16), .ref (xa 17), .int 0])), ((xa 14), .inl (cy 1, 8, .inl (fun _ => 0))), ((xa 15), .inl (cy 1, 8, .inl (fun _ => 0))), ((xa 16), .inl (cy 1, 8, .inl (fun _ => 0))), ((xa 17), .inl (cy 1, 8, .inl (fun _ => 0))), ((ma 1), .inr (4, [.int 0, .ref (g 0), .int 0])), (aj, .inl (cy 2, 1, .inr (.inl (fun _ => 0)))), (am, .inr (15, [.int 1, .ref (ma 0), .int 0, .int 0, .int 0, .int 0, .ref (ma 1), .ref (ma 2), .null, .int 1, .int 10, .int 900, .ref (ma 3), .ref (ma 4), .int 0, .int 0, .int 0, .ref (ma 5), .int 1000, .int 50, .int 50, .int 1000, .int 10, .int 0, .int 3000, .int 0, .int 0, .int 0]))] H := hP
        have hD : va_D (AL s) [((xa 13), .inr (12, [.ref (xa 14), .ref (xa 15), .ref (xa 16), .ref (xa 17), .int 0])), ((xa 14), .inl (cy 1, 8, .inl (fun _ => 0))), ((xa 15), .inl (cy 1, 8, .inl (fun _ => 0))), ((xa 16), .inl (cy 1, 8, .inl (fun _ => 0))), ((xa 17), .inl (cy 1, 8, .inl (fun _ => 0))), ((ma 1), .inr (4, [.int 0, .ref (g 0), .int 0])), (aj, .inl (cy 2, 1, .inr (.inl (fun _ => 0)))), (am, .inr (15, [.int 1, .ref (ma 0), .int 0, .int 0, .int 0, .int 0, .ref (ma 1), .ref (ma 2), .null, .int 1, .int 10, .int 900, .ref (ma 3), .ref (ma 4), .int 0, .int 0, .int 0, .ref (ma 5), .int 1000, .int 50, .int 50, .int 1000, .int 10, .int 0, .int 3000, .int 0, .int 0, .int 0]))] := hD
        refine lv_iload hx hb dL_law_799 (lv_at hl 1 rfl) ?_
        refine lv_icmp_eq (tgt := 806) hx hb dL_law_801 (by decide) (fun _ => ?_) (fun z => absurd (by decide) z)
        refine lv_iload hx hb dL_law_806 (lv_at hl 1 rfl) ?_
        refine lv_if_ne (tgt := 823) hx hb dL_law_808 (by decide) (fun _ => ?_) (fun z => absurd z (by decide))
        refine lv_goto (tgt := 2947) hx hb dL_law_823 (by decide) ?_
        exact law_tail LC hS (Nat.le_of_ble_eq_true rfl) (Nat.le_of_ble_eq_true rfl) (lv_sub hl [2, 7] rfl)
      · by_cases c3 : (999 : Int32) < x2
        · refine lv_aload_n hx hb dL_law_734 rfl (lv_at hl 4 rfl) ?_
          refine lv_aload_n hx hb dL_law_735 rfl (lv_at hl 5 rfl) ?_
          refine lv_iload hx hb dL_law_736 (lv_at hl 0 rfl) ?_
          refine lv_iconst (v := 1) hx hb dL_law_738 (by decide) ?_
          refine lv_iadd hx hb dL_law_739 ?_
          refine tp_i 1 (by decide) ?_
          refine va_sld hx hb hX hbl hbA hS (by unfold vp_in; decide) dL_law_740 ?_
          refine tp_i x1 e1 ?_
          refine lv_aload_n hx hb dL_law_741 rfl (lv_at hl 5 rfl) ?_
          refine lv_iload hx hb dL_law_742 (lv_at hl 0 rfl) ?_
          refine lv_iconst (v := 2) hx hb dL_law_744 (by decide) ?_
          refine lv_iadd hx hb dL_law_745 ?_
          refine tp_i 2 (by decide) ?_
          refine va_sld hx hb hX hbl hbA hS (by unfold vp_in; decide) dL_law_746 ?_
          refine tp_i x2 e2 ?_
          refine lv_aload_n hx hb dL_law_747 rfl (lv_at hl 5 rfl) ?_
          refine lv_iload hx hb dL_law_748 (lv_at hl 0 rfl) ?_
          refine lv_iconst (v := 3) hx hb dL_law_750 (by decide) ?_
          refine lv_iadd hx hb dL_law_751 ?_
          refine tp_i 3 (by decide) ?_
          refine va_sld hx hb hX hbl hbA hS (by unfold vp_in; decide) dL_law_752 ?_
          refine tp_i x3 e3 ?_
          refine lv_aload_n hx hb dL_law_753 rfl (lv_at hl 5 rfl) ?_
          refine lv_iload hx hb dL_law_754 (lv_at hl 0 rfl) ?_
          refine lv_iconst (v := 4) hx hb dL_law_756 (by decide) ?_
          refine lv_iadd hx hb dL_law_757 ?_
          refine tp_i 4 (by decide) ?_
          refine va_sld hx hb hX hbl hbA hS (by unfold vp_in; decide) dL_law_758 ?_
          refine tp_i x4 e4 ?_
          refine lv_aload_n hx hb dL_law_759 rfl (lv_at hl 2 rfl) ?_
          refine ca_i (isC := [0]) (isR := [1, 2, 3, 4, 5, 6, 7, 8]) (wr := [((xa 13), .inr (12, [.ref (xa 14), .ref (xa 15), .ref (xa 16), .ref (xa 17), .int 0])), ((xa 14), .inl (cy 1, 8, .inl (fun _ => 0))), ((xa 15), .inl (cy 1, 8, .inl (fun _ => 0))), ((xa 16), .inl (cy 1, 8, .inl (fun _ => 0))), ((xa 17), .inl (cy 1, 8, .inl (fun _ => 0))), (am, .inr (15, [.int 0, .ref (ma 0), .int 0, .int 0, .int 0, .int 0, .ref (ma 1), .ref (ma 2), .null, .int 1, .int 10, .int 900, .ref (ma 3), .ref (ma 4), .int 0, .int 0, .int 0, .ref (ma 5), .int 1000, .int 50, .int 50, .int 1000, .int 10, .int 0, .int 3000, .int 0, .int 0, .int 0])), ((ma 1), .inr (4, [.int 0, .ref (g 0), .int 0])), (aj, .inl (cy 2, 1, .inr (.inl (fun _ => 0))))]) (rn_SW (isC := [0]) (wc := [(ax, .inr (14, [.ref (xa 0), .ref (xa 13), .ref (xa 18), .ref (xa 34), .ref (xa 45), .ref (xa 49), .ref (xa 50)]))]) (As := [.ref ax, .int x1, .int x2, .int x3, .int x4, .ref aj]) (rest := []) (n := 6) hx hb hml hown hts hE hS hP hD hA hl.1 (k120_L_addRow l hst D cy g x1 x2 x3 x4 ax aj (.ref (xa 0)) (.ref (xa 13)) (.ref (xa 18)) (.ref (xa 34)) (.ref (xa 45)) (.ref (xa 49)) (.ref (xa 50)) H.size c0 c1 c2 c3) rfl rfl ax_116 rfl rfl ax_117 ⟨Nat.le_of_ble_eq_true rfl, Nat.le_of_ble_eq_true rfl⟩ rfl rfl (Nat.le_of_ble_eq_true rfl) dL_law_760 ⟨(Nat.le_of_ble_eq_true rfl), (Nat.le_of_ble_eq_true rfl)⟩) hP hD hS hA rfl rfl rfl (by decide) (fun ad760 H locs hP hD hS => ?_)
          have hP : va_P D vwCl [((xa 13), .inr (12, [.ref (xa 14), .ref (xa 15), .ref (xa 16), .ref (xa 17), .int 0])), ((xa 14), .inl (cy 1, 8, .inl (fun _ => 0))), ((xa 15), .inl (cy 1, 8, .inl (fun _ => 0))), ((xa 16), .inl (cy 1, 8, .inl (fun _ => 0))), ((xa 17), .inl (cy 1, 8, .inl (fun _ => 0))), (am, .inr (15, [.int 0, .ref (ma 0), .int 0, .int 0, .int 0, .int 0, .ref (ma 1), .ref (ma 2), .null, .int 1, .int 10, .int 900, .ref (ma 3), .ref (ma 4), .int 0, .int 0, .int 0, .ref (ma 5), .int 1000, .int 50, .int 50, .int 1000, .int 10, .int 0, .int 3000, .int 0, .int 0, .int 0])), ((ma 1), .inr (4, [.int 0, .ref (g 0), .int 0])), (aj, .inl (cy 2, 1, .inr (.inl (fun _ => 0))))] H := hP
          have hD : va_D (AL s) [((xa 13), .inr (12, [.ref (xa 14), .ref (xa 15), .ref (xa 16), .ref (xa 17), .int 0])), ((xa 14), .inl (cy 1, 8, .inl (fun _ => 0))), ((xa 15), .inl (cy 1, 8, .inl (fun _ => 0))), ((xa 16), .inl (cy 1, 8, .inl (fun _ => 0))), ((xa 17), .inl (cy 1, 8, .inl (fun _ => 0))), (am, .inr (15, [.int 0, .ref (ma 0), .int 0, .int 0, .int 0, .int 0, .ref (ma 1), .ref (ma 2), .null, .int 1, .int 10, .int 900, .ref (ma 3), .ref (ma 4), .int 0, .int 0, .int 0, .ref (ma 5), .int 1000, .int 50, .int 50, .int 1000, .int 10, .int 0, .int 3000, .int 0, .int 0, .int 0])), ((ma 1), .inr (4, [.int 0, .ref (g 0), .int 0])), (aj, .inl (cy 2, 1, .inr (.inl (fun _ => 0))))] := hD
          refine lv_istore (lv' := [(6, .int 1), (5, .int 0), (4, .ref ao), (3, .ref aj), (2, .ref am), (1, .ref ax), (0, .ref b)]) hx hb dL_law_763 hl (Nat.le_of_ble_eq_true rfl) rfl (fun ls hl => ?_)
          refine lv_aload_n hx hb dL_law_765 rfl (lv_at hl 4 rfl) ?_
          refine lv_aload_n hx hb dL_law_766 rfl (lv_at hl 6 rfl) ?_
          refine lv_iload hx hb dL_law_767 (lv_at hl 1 rfl) ?_
          refine lv_iconst (v := 1) hx hb dL_law_769 (by decide) ?_
          refine lv_iadd hx hb dL_law_770 ?_
          refine tp_i 1 (by decide) ?_
          refine va_sld hx hb hX hbl hbA hS (by unfold vp_in; decide) dL_law_771 ?_
          refine tp_i x1 e1 ?_
          refine lv_aload_n hx hb dL_law_772 rfl (lv_at hl 6 rfl) ?_
          refine lv_iload hx hb dL_law_773 (lv_at hl 1 rfl) ?_
          refine lv_iconst (v := 2) hx hb dL_law_775 (by decide) ?_
          refine lv_iadd hx hb dL_law_776 ?_
          refine tp_i 2 (by decide) ?_
          refine va_sld hx hb hX hbl hbA hS (by unfold vp_in; decide) dL_law_777 ?_
          refine tp_i x2 e2 ?_
          refine lv_aload_n hx hb dL_law_778 rfl (lv_at hl 6 rfl) ?_
          refine lv_iload hx hb dL_law_779 (lv_at hl 1 rfl) ?_
          refine lv_iconst (v := 3) hx hb dL_law_781 (by decide) ?_
          refine lv_iadd hx hb dL_law_782 ?_
          refine tp_i 3 (by decide) ?_
          refine va_sld hx hb hX hbl hbA hS (by unfold vp_in; decide) dL_law_783 ?_
          refine tp_i x3 e3 ?_
          refine lv_aload_n hx hb dL_law_784 rfl (lv_at hl 6 rfl) ?_
          refine lv_iload hx hb dL_law_785 (lv_at hl 1 rfl) ?_
          refine lv_iconst (v := 4) hx hb dL_law_787 (by decide) ?_
          refine lv_iadd hx hb dL_law_788 ?_
          refine tp_i 4 (by decide) ?_
          refine va_sld hx hb hX hbl hbA hS (by unfold vp_in; decide) dL_law_789 ?_
          refine tp_i x4 e4 ?_
          refine ca_i (isC := [5]) (isR := [0, 1, 2, 3, 4, 6, 7]) (wr := [((xa 13), .inr (12, [.ref (xa 14), .ref (xa 15), .ref (xa 16), .ref (xa 17), .int 0])), ((xa 14), .inl (cy 1, 8, .inl (fun _ => 0))), ((xa 15), .inl (cy 1, 8, .inl (fun _ => 0))), ((xa 16), .inl (cy 1, 8, .inl (fun _ => 0))), ((xa 17), .inl (cy 1, 8, .inl (fun _ => 0))), ((ma 1), .inr (4, [.int 0, .ref (g 0), .int 0])), (aj, .inl (cy 2, 1, .inr (.inl (fun _ => 0))))]) (rn_V (ci := 15) (q0 := 5) (isC := [5]) (wc := [(am, .inr (15, [.int 0, .ref (ma 0), .int 0, .int 0, .int 0, .int 0, .ref (ma 1), .ref (ma 2), .null, .int 1, .int 10, .int 900, .ref (ma 3), .ref (ma 4), .int 0, .int 0, .int 0, .ref (ma 5), .int 1000, .int 50, .int 50, .int 1000, .int 10, .int 0, .int 3000, .int 0, .int 0, .int 0]))]) (As := [.int x1, .int x2, .int x3, .int x4]) (rest := []) (n := 4) hx hb hml hown hts hE hS hP hD hA hl.1 (k121_X10_addRow l D cy g x1 x2 x3 x4 am (.int 0) (.ref (ma 0)) (.int 0) (.int 0) (.int 0) (.int 0) (.ref (ma 1)) (.ref (ma 2)) (.null) (.int 1) (.int 10) (.int 900) (.ref (ma 3)) (.ref (ma 4)) (.int 0) (.int 0) (.int 0) (.ref (ma 5)) (.int 1000) (.int 50) (.int 50) (.int 1000) (.int 10) (.int 0) (.int 3000) (.int 0) (.int 0) (.int 0) H.size c0 c1 c2 c3) rfl rfl rfl rfl rfl ax_118 rfl rfl ax_119 ⟨Nat.le_of_ble_eq_true rfl, Nat.le_of_ble_eq_true rfl⟩ rfl rfl (Nat.le_of_ble_eq_true rfl) dL_law_790 ⟨(Nat.le_of_ble_eq_true rfl), (Nat.le_of_ble_eq_true rfl)⟩) hP hD hS hA rfl rfl rfl (by decide) (fun ad790 H locs hP hD hS => ?_)
          have hP : va_P D vwCl [((xa 13), .inr (12, [.ref (xa 14), .ref (xa 15), .ref (xa 16), .ref (xa 17), .int 0])), ((xa 14), .inl (cy 1, 8, .inl (fun _ => 0))), ((xa 15), .inl (cy 1, 8, .inl (fun _ => 0))), ((xa 16), .inl (cy 1, 8, .inl (fun _ => 0))), ((xa 17), .inl (cy 1, 8, .inl (fun _ => 0))), ((ma 1), .inr (4, [.int 0, .ref (g 0), .int 0])), (aj, .inl (cy 2, 1, .inr (.inl (fun _ => 0)))), (am, .inr (15, [.int 1, .ref (ma 0), .int 0, .int 0, .int 0, .int 0, .ref (ma 1), .ref (ma 2), .null, .int 1, .int 10, .int 900, .ref (ma 3), .ref (ma 4), .int 0, .int 0, .int 0, .ref (ma 5), .int 1000, .int 50, .int 50, .int 1000, .int 10, .int 0, .int 3000, .int 0, .int 0, .int 0]))] H := hP
          have hD : va_D (AL s) [((xa 13), .inr (12, [.ref (xa 14), .ref (xa 15), .ref (xa 16), .ref (xa 17), .int 0])), ((xa 14), .inl (cy 1, 8, .inl (fun _ => 0))), ((xa 15), .inl (cy 1, 8, .inl (fun _ => 0))), ((xa 16), .inl (cy 1, 8, .inl (fun _ => 0))), ((xa 17), .inl (cy 1, 8, .inl (fun _ => 0))), ((ma 1), .inr (4, [.int 0, .ref (g 0), .int 0])), (aj, .inl (cy 2, 1, .inr (.inl (fun _ => 0)))), (am, .inr (15, [.int 1, .ref (ma 0), .int 0, .int 0, .int 0, .int 0, .ref (ma 1), .ref (ma 2), .null, .int 1, .int 10, .int 900, .ref (ma 3), .ref (ma 4), .int 0, .int 0, .int 0, .ref (ma 5), .int 1000, .int 50, .int 50, .int 1000, .int 10, .int 0, .int 3000, .int 0, .int 0, .int 0]))] := hD
          refine lv_istore (lv' := [(7, .int (-1)), (6, .int 1), (5, .int 0), (4, .ref ao), (3, .ref aj), (2, .ref am), (1, .ref ax), (0, .ref b)]) hx hb dL_law_793 hl (Nat.le_of_ble_eq_true rfl) rfl (fun ls hl => ?_)
          refine lv_aload_n hx hb dL_law_795 rfl (lv_at hl 5 rfl) ?_
          refine ca_i (isC := [7]) (isR := [0, 1, 2, 3, 4, 5, 6]) (wr := [((xa 13), .inr (12, [.ref (xa 14), .ref (xa 15), .ref (xa 16), .ref (xa 17), .int 0])), ((xa 14), .inl (cy 1, 8, .inl (fun _ => 0))), ((xa 15), .inl (cy 1, 8, .inl (fun _ => 0))), ((xa 16), .inl (cy 1, 8, .inl (fun _ => 0))), ((xa 17), .inl (cy 1, 8, .inl (fun _ => 0))), ((ma 1), .inr (4, [.int 0, .ref (g 0), .int 0])), (aj, .inl (cy 2, 1, .inr (.inl (fun _ => 0))))]) (rn_V (ci := 15) (q0 := 7) (isC := [7]) (wc := [(am, .inr (15, [.int 1, .ref (ma 0), .int 0, .int 0, .int 0, .int 0, .ref (ma 1), .ref (ma 2), .null, .int 1, .int 10, .int 900, .ref (ma 3), .ref (ma 4), .int 0, .int 0, .int 0, .ref (ma 5), .int 1000, .int 50, .int 50, .int 1000, .int 10, .int 0, .int 3000, .int 0, .int 0, .int 0]))]) (As := []) (rest := []) (n := 0) hx hb hml hown hts hE hS hP hD hA hl.1 (k24_X10_thrown l D cy g am (.ref (ma 0)) (.int 0) (.int 0) (.int 0) (.int 0) (.ref (ma 1)) (.ref (ma 2)) (.null) (.int 1) (.int 10) (.int 900) (.ref (ma 3)) (.ref (ma 4)) (.int 0) (.int 0) (.int 0) (.ref (ma 5)) (.int 1000) (.int 50) (.int 50) (.int 1000) (.int 10) (.int 0) (.int 3000) (.int 0) (.int 0) (.int 0) H.size ) rfl rfl rfl rfl rfl ax_45 rfl rfl ax_46 ⟨Nat.le_of_ble_eq_true rfl, Nat.le_of_ble_eq_true rfl⟩ rfl rfl (Nat.le_of_ble_eq_true rfl) dL_law_796 ⟨(Nat.le_of_ble_eq_true rfl), (Nat.le_of_ble_eq_true rfl)⟩) hP hD hS hA rfl rfl rfl (by decide) (fun ad796 H locs hP hD hS => ?_)
          have hP : va_P D vwCl [((xa 13), .inr (12, [.ref (xa 14), .ref (xa 15), .ref (xa 16), .ref (xa 17), .int 0])), ((xa 14), .inl (cy 1, 8, .inl (fun _ => 0))), ((xa 15), .inl (cy 1, 8, .inl (fun _ => 0))), ((xa 16), .inl (cy 1, 8, .inl (fun _ => 0))), ((xa 17), .inl (cy 1, 8, .inl (fun _ => 0))), ((ma 1), .inr (4, [.int 0, .ref (g 0), .int 0])), (aj, .inl (cy 2, 1, .inr (.inl (fun _ => 0)))), (am, .inr (15, [.int 1, .ref (ma 0), .int 0, .int 0, .int 0, .int 0, .ref (ma 1), .ref (ma 2), .null, .int 1, .int 10, .int 900, .ref (ma 3), .ref (ma 4), .int 0, .int 0, .int 0, .ref (ma 5), .int 1000, .int 50, .int 50, .int 1000, .int 10, .int 0, .int 3000, .int 0, .int 0, .int 0]))] H := hP
          have hD : va_D (AL s) [((xa 13), .inr (12, [.ref (xa 14), .ref (xa 15), .ref (xa 16), .ref (xa 17), .int 0])), ((xa 14), .inl (cy 1, 8, .inl (fun _ => 0))), ((xa 15), .inl (cy 1, 8, .inl (fun _ => 0))), ((xa 16), .inl (cy 1, 8, .inl (fun _ => 0))), ((xa 17), .inl (cy 1, 8, .inl (fun _ => 0))), ((ma 1), .inr (4, [.int 0, .ref (g 0), .int 0])), (aj, .inl (cy 2, 1, .inr (.inl (fun _ => 0)))), (am, .inr (15, [.int 1, .ref (ma 0), .int 0, .int 0, .int 0, .int 0, .ref (ma 1), .ref (ma 2), .null, .int 1, .int 10, .int 900, .ref (ma 3), .ref (ma 4), .int 0, .int 0, .int 0, .ref (ma 5), .int 1000, .int 50, .int 50, .int 1000, .int 10, .int 0, .int 3000, .int 0, .int 0, .int 0]))] := hD
          refine lv_iload hx hb dL_law_799 (lv_at hl 1 rfl) ?_
          refine lv_icmp_eq (tgt := 806) hx hb dL_law_801 (by decide) (fun _ => ?_) (fun z => absurd (by decide) z)
          refine lv_iload hx hb dL_law_806 (lv_at hl 1 rfl) ?_
          refine lv_if_ne (tgt := 823) hx hb dL_law_808 (by decide) (fun _ => ?_) (fun z => absurd z (by decide))
          refine lv_goto (tgt := 2947) hx hb dL_law_823 (by decide) ?_
          exact law_tail LC hS (Nat.le_of_ble_eq_true rfl) (Nat.le_of_ble_eq_true rfl) (lv_sub hl [2, 7] rfl)
        · by_cases c4 : x3 < 0
          · refine lv_aload_n hx hb dL_law_734 rfl (lv_at hl 4 rfl) ?_
            refine lv_aload_n hx hb dL_law_735 rfl (lv_at hl 5 rfl) ?_
            refine lv_iload hx hb dL_law_736 (lv_at hl 0 rfl) ?_
            refine lv_iconst (v := 1) hx hb dL_law_738 (by decide) ?_
            refine lv_iadd hx hb dL_law_739 ?_
            refine tp_i 1 (by decide) ?_
            refine va_sld hx hb hX hbl hbA hS (by unfold vp_in; decide) dL_law_740 ?_
            refine tp_i x1 e1 ?_
            refine lv_aload_n hx hb dL_law_741 rfl (lv_at hl 5 rfl) ?_
            refine lv_iload hx hb dL_law_742 (lv_at hl 0 rfl) ?_
            refine lv_iconst (v := 2) hx hb dL_law_744 (by decide) ?_
            refine lv_iadd hx hb dL_law_745 ?_
            refine tp_i 2 (by decide) ?_
            refine va_sld hx hb hX hbl hbA hS (by unfold vp_in; decide) dL_law_746 ?_
            refine tp_i x2 e2 ?_
            refine lv_aload_n hx hb dL_law_747 rfl (lv_at hl 5 rfl) ?_
            refine lv_iload hx hb dL_law_748 (lv_at hl 0 rfl) ?_
            refine lv_iconst (v := 3) hx hb dL_law_750 (by decide) ?_
            refine lv_iadd hx hb dL_law_751 ?_
            refine tp_i 3 (by decide) ?_
            refine va_sld hx hb hX hbl hbA hS (by unfold vp_in; decide) dL_law_752 ?_
            refine tp_i x3 e3 ?_
            refine lv_aload_n hx hb dL_law_753 rfl (lv_at hl 5 rfl) ?_
            refine lv_iload hx hb dL_law_754 (lv_at hl 0 rfl) ?_
            refine lv_iconst (v := 4) hx hb dL_law_756 (by decide) ?_
            refine lv_iadd hx hb dL_law_757 ?_
            refine tp_i 4 (by decide) ?_
            refine va_sld hx hb hX hbl hbA hS (by unfold vp_in; decide) dL_law_758 ?_
            refine tp_i x4 e4 ?_
            refine lv_aload_n hx hb dL_law_759 rfl (lv_at hl 2 rfl) ?_
            refine ca_i (isC := [0]) (isR := [1, 2, 3, 4, 5, 6, 7, 8]) (wr := [((xa 13), .inr (12, [.ref (xa 14), .ref (xa 15), .ref (xa 16), .ref (xa 17), .int 0])), ((xa 14), .inl (cy 1, 8, .inl (fun _ => 0))), ((xa 15), .inl (cy 1, 8, .inl (fun _ => 0))), ((xa 16), .inl (cy 1, 8, .inl (fun _ => 0))), ((xa 17), .inl (cy 1, 8, .inl (fun _ => 0))), (am, .inr (15, [.int 0, .ref (ma 0), .int 0, .int 0, .int 0, .int 0, .ref (ma 1), .ref (ma 2), .null, .int 1, .int 10, .int 900, .ref (ma 3), .ref (ma 4), .int 0, .int 0, .int 0, .ref (ma 5), .int 1000, .int 50, .int 50, .int 1000, .int 10, .int 0, .int 3000, .int 0, .int 0, .int 0])), ((ma 1), .inr (4, [.int 0, .ref (g 0), .int 0])), (aj, .inl (cy 2, 1, .inr (.inl (fun _ => 0))))]) (rn_SW (isC := [0]) (wc := [(ax, .inr (14, [.ref (xa 0), .ref (xa 13), .ref (xa 18), .ref (xa 34), .ref (xa 45), .ref (xa 49), .ref (xa 50)]))]) (As := [.ref ax, .int x1, .int x2, .int x3, .int x4, .ref aj]) (rest := []) (n := 6) hx hb hml hown hts hE hS hP hD hA hl.1 (k123_L_addRow l hst D cy g x1 x2 x3 x4 ax aj (.ref (xa 0)) (.ref (xa 13)) (.ref (xa 18)) (.ref (xa 34)) (.ref (xa 45)) (.ref (xa 49)) (.ref (xa 50)) H.size c0 c1 c2 c3 c4) rfl rfl ax_116 rfl rfl ax_117 ⟨Nat.le_of_ble_eq_true rfl, Nat.le_of_ble_eq_true rfl⟩ rfl rfl (Nat.le_of_ble_eq_true rfl) dL_law_760 ⟨(Nat.le_of_ble_eq_true rfl), (Nat.le_of_ble_eq_true rfl)⟩) hP hD hS hA rfl rfl rfl (by decide) (fun ad760 H locs hP hD hS => ?_)
            have hP : va_P D vwCl [((xa 13), .inr (12, [.ref (xa 14), .ref (xa 15), .ref (xa 16), .ref (xa 17), .int 0])), ((xa 14), .inl (cy 1, 8, .inl (fun _ => 0))), ((xa 15), .inl (cy 1, 8, .inl (fun _ => 0))), ((xa 16), .inl (cy 1, 8, .inl (fun _ => 0))), ((xa 17), .inl (cy 1, 8, .inl (fun _ => 0))), (am, .inr (15, [.int 0, .ref (ma 0), .int 0, .int 0, .int 0, .int 0, .ref (ma 1), .ref (ma 2), .null, .int 1, .int 10, .int 900, .ref (ma 3), .ref (ma 4), .int 0, .int 0, .int 0, .ref (ma 5), .int 1000, .int 50, .int 50, .int 1000, .int 10, .int 0, .int 3000, .int 0, .int 0, .int 0])), ((ma 1), .inr (4, [.int 0, .ref (g 0), .int 0])), (aj, .inl (cy 2, 1, .inr (.inl (fun _ => 0))))] H := hP
            have hD : va_D (AL s) [((xa 13), .inr (12, [.ref (xa 14), .ref (xa 15), .ref (xa 16), .ref (xa 17), .int 0])), ((xa 14), .inl (cy 1, 8, .inl (fun _ => 0))), ((xa 15), .inl (cy 1, 8, .inl (fun _ => 0))), ((xa 16), .inl (cy 1, 8, .inl (fun _ => 0))), ((xa 17), .inl (cy 1, 8, .inl (fun _ => 0))), (am, .inr (15, [.int 0, .ref (ma 0), .int 0, .int 0, .int 0, .int 0, .ref (ma 1), .ref (ma 2), .null, .int 1, .int 10, .int 900, .ref (ma 3), .ref (ma 4), .int 0, .int 0, .int 0, .ref (ma 5), .int 1000, .int 50, .int 50, .int 1000, .int 10, .int 0, .int 3000, .int 0, .int 0, .int 0])), ((ma 1), .inr (4, [.int 0, .ref (g 0), .int 0])), (aj, .inl (cy 2, 1, .inr (.inl (fun _ => 0))))] := hD
            refine lv_istore (lv' := [(6, .int 1), (5, .int 0), (4, .ref ao), (3, .ref aj), (2, .ref am), (1, .ref ax), (0, .ref b)]) hx hb dL_law_763 hl (Nat.le_of_ble_eq_true rfl) rfl (fun ls hl => ?_)
            refine lv_aload_n hx hb dL_law_765 rfl (lv_at hl 4 rfl) ?_
            refine lv_aload_n hx hb dL_law_766 rfl (lv_at hl 6 rfl) ?_
            refine lv_iload hx hb dL_law_767 (lv_at hl 1 rfl) ?_
            refine lv_iconst (v := 1) hx hb dL_law_769 (by decide) ?_
            refine lv_iadd hx hb dL_law_770 ?_
            refine tp_i 1 (by decide) ?_
            refine va_sld hx hb hX hbl hbA hS (by unfold vp_in; decide) dL_law_771 ?_
            refine tp_i x1 e1 ?_
            refine lv_aload_n hx hb dL_law_772 rfl (lv_at hl 6 rfl) ?_
            refine lv_iload hx hb dL_law_773 (lv_at hl 1 rfl) ?_
            refine lv_iconst (v := 2) hx hb dL_law_775 (by decide) ?_
            refine lv_iadd hx hb dL_law_776 ?_
            refine tp_i 2 (by decide) ?_
            refine va_sld hx hb hX hbl hbA hS (by unfold vp_in; decide) dL_law_777 ?_
            refine tp_i x2 e2 ?_
            refine lv_aload_n hx hb dL_law_778 rfl (lv_at hl 6 rfl) ?_
            refine lv_iload hx hb dL_law_779 (lv_at hl 1 rfl) ?_
            refine lv_iconst (v := 3) hx hb dL_law_781 (by decide) ?_
            refine lv_iadd hx hb dL_law_782 ?_
            refine tp_i 3 (by decide) ?_
            refine va_sld hx hb hX hbl hbA hS (by unfold vp_in; decide) dL_law_783 ?_
            refine tp_i x3 e3 ?_
            refine lv_aload_n hx hb dL_law_784 rfl (lv_at hl 6 rfl) ?_
            refine lv_iload hx hb dL_law_785 (lv_at hl 1 rfl) ?_
            refine lv_iconst (v := 4) hx hb dL_law_787 (by decide) ?_
            refine lv_iadd hx hb dL_law_788 ?_
            refine tp_i 4 (by decide) ?_
            refine va_sld hx hb hX hbl hbA hS (by unfold vp_in; decide) dL_law_789 ?_
            refine tp_i x4 e4 ?_
            refine ca_i (isC := [5]) (isR := [0, 1, 2, 3, 4, 6, 7]) (wr := [((xa 13), .inr (12, [.ref (xa 14), .ref (xa 15), .ref (xa 16), .ref (xa 17), .int 0])), ((xa 14), .inl (cy 1, 8, .inl (fun _ => 0))), ((xa 15), .inl (cy 1, 8, .inl (fun _ => 0))), ((xa 16), .inl (cy 1, 8, .inl (fun _ => 0))), ((xa 17), .inl (cy 1, 8, .inl (fun _ => 0))), ((ma 1), .inr (4, [.int 0, .ref (g 0), .int 0])), (aj, .inl (cy 2, 1, .inr (.inl (fun _ => 0))))]) (rn_V (ci := 15) (q0 := 5) (isC := [5]) (wc := [(am, .inr (15, [.int 0, .ref (ma 0), .int 0, .int 0, .int 0, .int 0, .ref (ma 1), .ref (ma 2), .null, .int 1, .int 10, .int 900, .ref (ma 3), .ref (ma 4), .int 0, .int 0, .int 0, .ref (ma 5), .int 1000, .int 50, .int 50, .int 1000, .int 10, .int 0, .int 3000, .int 0, .int 0, .int 0]))]) (As := [.int x1, .int x2, .int x3, .int x4]) (rest := []) (n := 4) hx hb hml hown hts hE hS hP hD hA hl.1 (k124_X10_addRow l D cy g x1 x2 x3 x4 am (.int 0) (.ref (ma 0)) (.int 0) (.int 0) (.int 0) (.int 0) (.ref (ma 1)) (.ref (ma 2)) (.null) (.int 1) (.int 10) (.int 900) (.ref (ma 3)) (.ref (ma 4)) (.int 0) (.int 0) (.int 0) (.ref (ma 5)) (.int 1000) (.int 50) (.int 50) (.int 1000) (.int 10) (.int 0) (.int 3000) (.int 0) (.int 0) (.int 0) H.size c0 c1 c2 c3 c4) rfl rfl rfl rfl rfl ax_118 rfl rfl ax_119 ⟨Nat.le_of_ble_eq_true rfl, Nat.le_of_ble_eq_true rfl⟩ rfl rfl (Nat.le_of_ble_eq_true rfl) dL_law_790 ⟨(Nat.le_of_ble_eq_true rfl), (Nat.le_of_ble_eq_true rfl)⟩) hP hD hS hA rfl rfl rfl (by decide) (fun ad790 H locs hP hD hS => ?_)
            have hP : va_P D vwCl [((xa 13), .inr (12, [.ref (xa 14), .ref (xa 15), .ref (xa 16), .ref (xa 17), .int 0])), ((xa 14), .inl (cy 1, 8, .inl (fun _ => 0))), ((xa 15), .inl (cy 1, 8, .inl (fun _ => 0))), ((xa 16), .inl (cy 1, 8, .inl (fun _ => 0))), ((xa 17), .inl (cy 1, 8, .inl (fun _ => 0))), ((ma 1), .inr (4, [.int 0, .ref (g 0), .int 0])), (aj, .inl (cy 2, 1, .inr (.inl (fun _ => 0)))), (am, .inr (15, [.int 1, .ref (ma 0), .int 0, .int 0, .int 0, .int 0, .ref (ma 1), .ref (ma 2), .null, .int 1, .int 10, .int 900, .ref (ma 3), .ref (ma 4), .int 0, .int 0, .int 0, .ref (ma 5), .int 1000, .int 50, .int 50, .int 1000, .int 10, .int 0, .int 3000, .int 0, .int 0, .int 0]))] H := hP
            have hD : va_D (AL s) [((xa 13), .inr (12, [.ref (xa 14), .ref (xa 15), .ref (xa 16), .ref (xa 17), .int 0])), ((xa 14), .inl (cy 1, 8, .inl (fun _ => 0))), ((xa 15), .inl (cy 1, 8, .inl (fun _ => 0))), ((xa 16), .inl (cy 1, 8, .inl (fun _ => 0))), ((xa 17), .inl (cy 1, 8, .inl (fun _ => 0))), ((ma 1), .inr (4, [.int 0, .ref (g 0), .int 0])), (aj, .inl (cy 2, 1, .inr (.inl (fun _ => 0)))), (am, .inr (15, [.int 1, .ref (ma 0), .int 0, .int 0, .int 0, .int 0, .ref (ma 1), .ref (ma 2), .null, .int 1, .int 10, .int 900, .ref (ma 3), .ref (ma 4), .int 0, .int 0, .int 0, .ref (ma 5), .int 1000, .int 50, .int 50, .int 1000, .int 10, .int 0, .int 3000, .int 0, .int 0, .int 0]))] := hD
            refine lv_istore (lv' := [(7, .int (-1)), (6, .int 1), (5, .int 0), (4, .ref ao), (3, .ref aj), (2, .ref am), (1, .ref ax), (0, .ref b)]) hx hb dL_law_793 hl (Nat.le_of_ble_eq_true rfl) rfl (fun ls hl => ?_)
            refine lv_aload_n hx hb dL_law_795 rfl (lv_at hl 5 rfl) ?_
            refine ca_i (isC := [7]) (isR := [0, 1, 2, 3, 4, 5, 6]) (wr := [((xa 13), .inr (12, [.ref (xa 14), .ref (xa 15), .ref (xa 16), .ref (xa 17), .int 0])), ((xa 14), .inl (cy 1, 8, .inl (fun _ => 0))), ((xa 15), .inl (cy 1, 8, .inl (fun _ => 0))), ((xa 16), .inl (cy 1, 8, .inl (fun _ => 0))), ((xa 17), .inl (cy 1, 8, .inl (fun _ => 0))), ((ma 1), .inr (4, [.int 0, .ref (g 0), .int 0])), (aj, .inl (cy 2, 1, .inr (.inl (fun _ => 0))))]) (rn_V (ci := 15) (q0 := 7) (isC := [7]) (wc := [(am, .inr (15, [.int 1, .ref (ma 0), .int 0, .int 0, .int 0, .int 0, .ref (ma 1), .ref (ma 2), .null, .int 1, .int 10, .int 900, .ref (ma 3), .ref (ma 4), .int 0, .int 0, .int 0, .ref (ma 5), .int 1000, .int 50, .int 50, .int 1000, .int 10, .int 0, .int 3000, .int 0, .int 0, .int 0]))]) (As := []) (rest := []) (n := 0) hx hb hml hown hts hE hS hP hD hA hl.1 (k24_X10_thrown l D cy g am (.ref (ma 0)) (.int 0) (.int 0) (.int 0) (.int 0) (.ref (ma 1)) (.ref (ma 2)) (.null) (.int 1) (.int 10) (.int 900) (.ref (ma 3)) (.ref (ma 4)) (.int 0) (.int 0) (.int 0) (.ref (ma 5)) (.int 1000) (.int 50) (.int 50) (.int 1000) (.int 10) (.int 0) (.int 3000) (.int 0) (.int 0) (.int 0) H.size ) rfl rfl rfl rfl rfl ax_45 rfl rfl ax_46 ⟨Nat.le_of_ble_eq_true rfl, Nat.le_of_ble_eq_true rfl⟩ rfl rfl (Nat.le_of_ble_eq_true rfl) dL_law_796 ⟨(Nat.le_of_ble_eq_true rfl), (Nat.le_of_ble_eq_true rfl)⟩) hP hD hS hA rfl rfl rfl (by decide) (fun ad796 H locs hP hD hS => ?_)
            have hP : va_P D vwCl [((xa 13), .inr (12, [.ref (xa 14), .ref (xa 15), .ref (xa 16), .ref (xa 17), .int 0])), ((xa 14), .inl (cy 1, 8, .inl (fun _ => 0))), ((xa 15), .inl (cy 1, 8, .inl (fun _ => 0))), ((xa 16), .inl (cy 1, 8, .inl (fun _ => 0))), ((xa 17), .inl (cy 1, 8, .inl (fun _ => 0))), ((ma 1), .inr (4, [.int 0, .ref (g 0), .int 0])), (aj, .inl (cy 2, 1, .inr (.inl (fun _ => 0)))), (am, .inr (15, [.int 1, .ref (ma 0), .int 0, .int 0, .int 0, .int 0, .ref (ma 1), .ref (ma 2), .null, .int 1, .int 10, .int 900, .ref (ma 3), .ref (ma 4), .int 0, .int 0, .int 0, .ref (ma 5), .int 1000, .int 50, .int 50, .int 1000, .int 10, .int 0, .int 3000, .int 0, .int 0, .int 0]))] H := hP
            have hD : va_D (AL s) [((xa 13), .inr (12, [.ref (xa 14), .ref (xa 15), .ref (xa 16), .ref (xa 17), .int 0])), ((xa 14), .inl (cy 1, 8, .inl (fun _ => 0))), ((xa 15), .inl (cy 1, 8, .inl (fun _ => 0))), ((xa 16), .inl (cy 1, 8, .inl (fun _ => 0))), ((xa 17), .inl (cy 1, 8, .inl (fun _ => 0))), ((ma 1), .inr (4, [.int 0, .ref (g 0), .int 0])), (aj, .inl (cy 2, 1, .inr (.inl (fun _ => 0)))), (am, .inr (15, [.int 1, .ref (ma 0), .int 0, .int 0, .int 0, .int 0, .ref (ma 1), .ref (ma 2), .null, .int 1, .int 10, .int 900, .ref (ma 3), .ref (ma 4), .int 0, .int 0, .int 0, .ref (ma 5), .int 1000, .int 50, .int 50, .int 1000, .int 10, .int 0, .int 3000, .int 0, .int 0, .int 0]))] := hD
            refine lv_iload hx hb dL_law_799 (lv_at hl 1 rfl) ?_
            refine lv_icmp_eq (tgt := 806) hx hb dL_law_801 (by decide) (fun _ => ?_) (fun z => absurd (by decide) z)
            refine lv_iload hx hb dL_law_806 (lv_at hl 1 rfl) ?_
            refine lv_if_ne (tgt := 823) hx hb dL_law_808 (by decide) (fun _ => ?_) (fun z => absurd z (by decide))
            refine lv_goto (tgt := 2947) hx hb dL_law_823 (by decide) ?_
            exact law_tail LC hS (Nat.le_of_ble_eq_true rfl) (Nat.le_of_ble_eq_true rfl) (lv_sub hl [2, 7] rfl)
          · by_cases c5 : (9999 : Int32) < x3
            · refine lv_aload_n hx hb dL_law_734 rfl (lv_at hl 4 rfl) ?_
              refine lv_aload_n hx hb dL_law_735 rfl (lv_at hl 5 rfl) ?_
              refine lv_iload hx hb dL_law_736 (lv_at hl 0 rfl) ?_
              refine lv_iconst (v := 1) hx hb dL_law_738 (by decide) ?_
              refine lv_iadd hx hb dL_law_739 ?_
              refine tp_i 1 (by decide) ?_
              refine va_sld hx hb hX hbl hbA hS (by unfold vp_in; decide) dL_law_740 ?_
              refine tp_i x1 e1 ?_
              refine lv_aload_n hx hb dL_law_741 rfl (lv_at hl 5 rfl) ?_
              refine lv_iload hx hb dL_law_742 (lv_at hl 0 rfl) ?_
              refine lv_iconst (v := 2) hx hb dL_law_744 (by decide) ?_
              refine lv_iadd hx hb dL_law_745 ?_
              refine tp_i 2 (by decide) ?_
              refine va_sld hx hb hX hbl hbA hS (by unfold vp_in; decide) dL_law_746 ?_
              refine tp_i x2 e2 ?_
              refine lv_aload_n hx hb dL_law_747 rfl (lv_at hl 5 rfl) ?_
              refine lv_iload hx hb dL_law_748 (lv_at hl 0 rfl) ?_
              refine lv_iconst (v := 3) hx hb dL_law_750 (by decide) ?_
              refine lv_iadd hx hb dL_law_751 ?_
              refine tp_i 3 (by decide) ?_
              refine va_sld hx hb hX hbl hbA hS (by unfold vp_in; decide) dL_law_752 ?_
              refine tp_i x3 e3 ?_
              refine lv_aload_n hx hb dL_law_753 rfl (lv_at hl 5 rfl) ?_
              refine lv_iload hx hb dL_law_754 (lv_at hl 0 rfl) ?_
              refine lv_iconst (v := 4) hx hb dL_law_756 (by decide) ?_
              refine lv_iadd hx hb dL_law_757 ?_
              refine tp_i 4 (by decide) ?_
              refine va_sld hx hb hX hbl hbA hS (by unfold vp_in; decide) dL_law_758 ?_
              refine tp_i x4 e4 ?_
              refine lv_aload_n hx hb dL_law_759 rfl (lv_at hl 2 rfl) ?_
              refine ca_i (isC := [0]) (isR := [1, 2, 3, 4, 5, 6, 7, 8]) (wr := [((xa 13), .inr (12, [.ref (xa 14), .ref (xa 15), .ref (xa 16), .ref (xa 17), .int 0])), ((xa 14), .inl (cy 1, 8, .inl (fun _ => 0))), ((xa 15), .inl (cy 1, 8, .inl (fun _ => 0))), ((xa 16), .inl (cy 1, 8, .inl (fun _ => 0))), ((xa 17), .inl (cy 1, 8, .inl (fun _ => 0))), (am, .inr (15, [.int 0, .ref (ma 0), .int 0, .int 0, .int 0, .int 0, .ref (ma 1), .ref (ma 2), .null, .int 1, .int 10, .int 900, .ref (ma 3), .ref (ma 4), .int 0, .int 0, .int 0, .ref (ma 5), .int 1000, .int 50, .int 50, .int 1000, .int 10, .int 0, .int 3000, .int 0, .int 0, .int 0])), ((ma 1), .inr (4, [.int 0, .ref (g 0), .int 0])), (aj, .inl (cy 2, 1, .inr (.inl (fun _ => 0))))]) (rn_SW (isC := [0]) (wc := [(ax, .inr (14, [.ref (xa 0), .ref (xa 13), .ref (xa 18), .ref (xa 34), .ref (xa 45), .ref (xa 49), .ref (xa 50)]))]) (As := [.ref ax, .int x1, .int x2, .int x3, .int x4, .ref aj]) (rest := []) (n := 6) hx hb hml hown hts hE hS hP hD hA hl.1 (k126_L_addRow l hst D cy g x1 x2 x3 x4 ax aj (.ref (xa 0)) (.ref (xa 13)) (.ref (xa 18)) (.ref (xa 34)) (.ref (xa 45)) (.ref (xa 49)) (.ref (xa 50)) H.size c0 c1 c2 c3 c4 c5) rfl rfl ax_116 rfl rfl ax_117 ⟨Nat.le_of_ble_eq_true rfl, Nat.le_of_ble_eq_true rfl⟩ rfl rfl (Nat.le_of_ble_eq_true rfl) dL_law_760 ⟨(Nat.le_of_ble_eq_true rfl), (Nat.le_of_ble_eq_true rfl)⟩) hP hD hS hA rfl rfl rfl (by decide) (fun ad760 H locs hP hD hS => ?_)
              have hP : va_P D vwCl [((xa 13), .inr (12, [.ref (xa 14), .ref (xa 15), .ref (xa 16), .ref (xa 17), .int 0])), ((xa 14), .inl (cy 1, 8, .inl (fun _ => 0))), ((xa 15), .inl (cy 1, 8, .inl (fun _ => 0))), ((xa 16), .inl (cy 1, 8, .inl (fun _ => 0))), ((xa 17), .inl (cy 1, 8, .inl (fun _ => 0))), (am, .inr (15, [.int 0, .ref (ma 0), .int 0, .int 0, .int 0, .int 0, .ref (ma 1), .ref (ma 2), .null, .int 1, .int 10, .int 900, .ref (ma 3), .ref (ma 4), .int 0, .int 0, .int 0, .ref (ma 5), .int 1000, .int 50, .int 50, .int 1000, .int 10, .int 0, .int 3000, .int 0, .int 0, .int 0])), ((ma 1), .inr (4, [.int 0, .ref (g 0), .int 0])), (aj, .inl (cy 2, 1, .inr (.inl (fun _ => 0))))] H := hP
              have hD : va_D (AL s) [((xa 13), .inr (12, [.ref (xa 14), .ref (xa 15), .ref (xa 16), .ref (xa 17), .int 0])), ((xa 14), .inl (cy 1, 8, .inl (fun _ => 0))), ((xa 15), .inl (cy 1, 8, .inl (fun _ => 0))), ((xa 16), .inl (cy 1, 8, .inl (fun _ => 0))), ((xa 17), .inl (cy 1, 8, .inl (fun _ => 0))), (am, .inr (15, [.int 0, .ref (ma 0), .int 0, .int 0, .int 0, .int 0, .ref (ma 1), .ref (ma 2), .null, .int 1, .int 10, .int 900, .ref (ma 3), .ref (ma 4), .int 0, .int 0, .int 0, .ref (ma 5), .int 1000, .int 50, .int 50, .int 1000, .int 10, .int 0, .int 3000, .int 0, .int 0, .int 0])), ((ma 1), .inr (4, [.int 0, .ref (g 0), .int 0])), (aj, .inl (cy 2, 1, .inr (.inl (fun _ => 0))))] := hD
              refine lv_istore (lv' := [(6, .int 1), (5, .int 0), (4, .ref ao), (3, .ref aj), (2, .ref am), (1, .ref ax), (0, .ref b)]) hx hb dL_law_763 hl (Nat.le_of_ble_eq_true rfl) rfl (fun ls hl => ?_)
              refine lv_aload_n hx hb dL_law_765 rfl (lv_at hl 4 rfl) ?_
              refine lv_aload_n hx hb dL_law_766 rfl (lv_at hl 6 rfl) ?_
              refine lv_iload hx hb dL_law_767 (lv_at hl 1 rfl) ?_
              refine lv_iconst (v := 1) hx hb dL_law_769 (by decide) ?_
              refine lv_iadd hx hb dL_law_770 ?_
              refine tp_i 1 (by decide) ?_
              refine va_sld hx hb hX hbl hbA hS (by unfold vp_in; decide) dL_law_771 ?_
              refine tp_i x1 e1 ?_
              refine lv_aload_n hx hb dL_law_772 rfl (lv_at hl 6 rfl) ?_
              refine lv_iload hx hb dL_law_773 (lv_at hl 1 rfl) ?_
              refine lv_iconst (v := 2) hx hb dL_law_775 (by decide) ?_
              refine lv_iadd hx hb dL_law_776 ?_
              refine tp_i 2 (by decide) ?_
              refine va_sld hx hb hX hbl hbA hS (by unfold vp_in; decide) dL_law_777 ?_
              refine tp_i x2 e2 ?_
              refine lv_aload_n hx hb dL_law_778 rfl (lv_at hl 6 rfl) ?_
              refine lv_iload hx hb dL_law_779 (lv_at hl 1 rfl) ?_
              refine lv_iconst (v := 3) hx hb dL_law_781 (by decide) ?_
              refine lv_iadd hx hb dL_law_782 ?_
              refine tp_i 3 (by decide) ?_
              refine va_sld hx hb hX hbl hbA hS (by unfold vp_in; decide) dL_law_783 ?_
              refine tp_i x3 e3 ?_
              refine lv_aload_n hx hb dL_law_784 rfl (lv_at hl 6 rfl) ?_
              refine lv_iload hx hb dL_law_785 (lv_at hl 1 rfl) ?_
              refine lv_iconst (v := 4) hx hb dL_law_787 (by decide) ?_
              refine lv_iadd hx hb dL_law_788 ?_
              refine tp_i 4 (by decide) ?_
              refine va_sld hx hb hX hbl hbA hS (by unfold vp_in; decide) dL_law_789 ?_
              refine tp_i x4 e4 ?_
              refine ca_i (isC := [5]) (isR := [0, 1, 2, 3, 4, 6, 7]) (wr := [((xa 13), .inr (12, [.ref (xa 14), .ref (xa 15), .ref (xa 16), .ref (xa 17), .int 0])), ((xa 14), .inl (cy 1, 8, .inl (fun _ => 0))), ((xa 15), .inl (cy 1, 8, .inl (fun _ => 0))), ((xa 16), .inl (cy 1, 8, .inl (fun _ => 0))), ((xa 17), .inl (cy 1, 8, .inl (fun _ => 0))), ((ma 1), .inr (4, [.int 0, .ref (g 0), .int 0])), (aj, .inl (cy 2, 1, .inr (.inl (fun _ => 0))))]) (rn_V (ci := 15) (q0 := 5) (isC := [5]) (wc := [(am, .inr (15, [.int 0, .ref (ma 0), .int 0, .int 0, .int 0, .int 0, .ref (ma 1), .ref (ma 2), .null, .int 1, .int 10, .int 900, .ref (ma 3), .ref (ma 4), .int 0, .int 0, .int 0, .ref (ma 5), .int 1000, .int 50, .int 50, .int 1000, .int 10, .int 0, .int 3000, .int 0, .int 0, .int 0]))]) (As := [.int x1, .int x2, .int x3, .int x4]) (rest := []) (n := 4) hx hb hml hown hts hE hS hP hD hA hl.1 (k127_X10_addRow l D cy g x1 x2 x3 x4 am (.int 0) (.ref (ma 0)) (.int 0) (.int 0) (.int 0) (.int 0) (.ref (ma 1)) (.ref (ma 2)) (.null) (.int 1) (.int 10) (.int 900) (.ref (ma 3)) (.ref (ma 4)) (.int 0) (.int 0) (.int 0) (.ref (ma 5)) (.int 1000) (.int 50) (.int 50) (.int 1000) (.int 10) (.int 0) (.int 3000) (.int 0) (.int 0) (.int 0) H.size c0 c1 c2 c3 c4 c5) rfl rfl rfl rfl rfl ax_118 rfl rfl ax_119 ⟨Nat.le_of_ble_eq_true rfl, Nat.le_of_ble_eq_true rfl⟩ rfl rfl (Nat.le_of_ble_eq_true rfl) dL_law_790 ⟨(Nat.le_of_ble_eq_true rfl), (Nat.le_of_ble_eq_true rfl)⟩) hP hD hS hA rfl rfl rfl (by decide) (fun ad790 H locs hP hD hS => ?_)
              have hP : va_P D vwCl [((xa 13), .inr (12, [.ref (xa 14), .ref (xa 15), .ref (xa 16), .ref (xa 17), .int 0])), ((xa 14), .inl (cy 1, 8, .inl (fun _ => 0))), ((xa 15), .inl (cy 1, 8, .inl (fun _ => 0))), ((xa 16), .inl (cy 1, 8, .inl (fun _ => 0))), ((xa 17), .inl (cy 1, 8, .inl (fun _ => 0))), ((ma 1), .inr (4, [.int 0, .ref (g 0), .int 0])), (aj, .inl (cy 2, 1, .inr (.inl (fun _ => 0)))), (am, .inr (15, [.int 1, .ref (ma 0), .int 0, .int 0, .int 0, .int 0, .ref (ma 1), .ref (ma 2), .null, .int 1, .int 10, .int 900, .ref (ma 3), .ref (ma 4), .int 0, .int 0, .int 0, .ref (ma 5), .int 1000, .int 50, .int 50, .int 1000, .int 10, .int 0, .int 3000, .int 0, .int 0, .int 0]))] H := hP
              have hD : va_D (AL s) [((xa 13), .inr (12, [.ref (xa 14), .ref (xa 15), .ref (xa 16), .ref (xa 17), .int 0])), ((xa 14), .inl (cy 1, 8, .inl (fun _ => 0))), ((xa 15), .inl (cy 1, 8, .inl (fun _ => 0))), ((xa 16), .inl (cy 1, 8, .inl (fun _ => 0))), ((xa 17), .inl (cy 1, 8, .inl (fun _ => 0))), ((ma 1), .inr (4, [.int 0, .ref (g 0), .int 0])), (aj, .inl (cy 2, 1, .inr (.inl (fun _ => 0)))), (am, .inr (15, [.int 1, .ref (ma 0), .int 0, .int 0, .int 0, .int 0, .ref (ma 1), .ref (ma 2), .null, .int 1, .int 10, .int 900, .ref (ma 3), .ref (ma 4), .int 0, .int 0, .int 0, .ref (ma 5), .int 1000, .int 50, .int 50, .int 1000, .int 10, .int 0, .int 3000, .int 0, .int 0, .int 0]))] := hD
              refine lv_istore (lv' := [(7, .int (-1)), (6, .int 1), (5, .int 0), (4, .ref ao), (3, .ref aj), (2, .ref am), (1, .ref ax), (0, .ref b)]) hx hb dL_law_793 hl (Nat.le_of_ble_eq_true rfl) rfl (fun ls hl => ?_)
              refine lv_aload_n hx hb dL_law_795 rfl (lv_at hl 5 rfl) ?_
              refine ca_i (isC := [7]) (isR := [0, 1, 2, 3, 4, 5, 6]) (wr := [((xa 13), .inr (12, [.ref (xa 14), .ref (xa 15), .ref (xa 16), .ref (xa 17), .int 0])), ((xa 14), .inl (cy 1, 8, .inl (fun _ => 0))), ((xa 15), .inl (cy 1, 8, .inl (fun _ => 0))), ((xa 16), .inl (cy 1, 8, .inl (fun _ => 0))), ((xa 17), .inl (cy 1, 8, .inl (fun _ => 0))), ((ma 1), .inr (4, [.int 0, .ref (g 0), .int 0])), (aj, .inl (cy 2, 1, .inr (.inl (fun _ => 0))))]) (rn_V (ci := 15) (q0 := 7) (isC := [7]) (wc := [(am, .inr (15, [.int 1, .ref (ma 0), .int 0, .int 0, .int 0, .int 0, .ref (ma 1), .ref (ma 2), .null, .int 1, .int 10, .int 900, .ref (ma 3), .ref (ma 4), .int 0, .int 0, .int 0, .ref (ma 5), .int 1000, .int 50, .int 50, .int 1000, .int 10, .int 0, .int 3000, .int 0, .int 0, .int 0]))]) (As := []) (rest := []) (n := 0) hx hb hml hown hts hE hS hP hD hA hl.1 (k24_X10_thrown l D cy g am (.ref (ma 0)) (.int 0) (.int 0) (.int 0) (.int 0) (.ref (ma 1)) (.ref (ma 2)) (.null) (.int 1) (.int 10) (.int 900) (.ref (ma 3)) (.ref (ma 4)) (.int 0) (.int 0) (.int 0) (.ref (ma 5)) (.int 1000) (.int 50) (.int 50) (.int 1000) (.int 10) (.int 0) (.int 3000) (.int 0) (.int 0) (.int 0) H.size ) rfl rfl rfl rfl rfl ax_45 rfl rfl ax_46 ⟨Nat.le_of_ble_eq_true rfl, Nat.le_of_ble_eq_true rfl⟩ rfl rfl (Nat.le_of_ble_eq_true rfl) dL_law_796 ⟨(Nat.le_of_ble_eq_true rfl), (Nat.le_of_ble_eq_true rfl)⟩) hP hD hS hA rfl rfl rfl (by decide) (fun ad796 H locs hP hD hS => ?_)
              have hP : va_P D vwCl [((xa 13), .inr (12, [.ref (xa 14), .ref (xa 15), .ref (xa 16), .ref (xa 17), .int 0])), ((xa 14), .inl (cy 1, 8, .inl (fun _ => 0))), ((xa 15), .inl (cy 1, 8, .inl (fun _ => 0))), ((xa 16), .inl (cy 1, 8, .inl (fun _ => 0))), ((xa 17), .inl (cy 1, 8, .inl (fun _ => 0))), ((ma 1), .inr (4, [.int 0, .ref (g 0), .int 0])), (aj, .inl (cy 2, 1, .inr (.inl (fun _ => 0)))), (am, .inr (15, [.int 1, .ref (ma 0), .int 0, .int 0, .int 0, .int 0, .ref (ma 1), .ref (ma 2), .null, .int 1, .int 10, .int 900, .ref (ma 3), .ref (ma 4), .int 0, .int 0, .int 0, .ref (ma 5), .int 1000, .int 50, .int 50, .int 1000, .int 10, .int 0, .int 3000, .int 0, .int 0, .int 0]))] H := hP
              have hD : va_D (AL s) [((xa 13), .inr (12, [.ref (xa 14), .ref (xa 15), .ref (xa 16), .ref (xa 17), .int 0])), ((xa 14), .inl (cy 1, 8, .inl (fun _ => 0))), ((xa 15), .inl (cy 1, 8, .inl (fun _ => 0))), ((xa 16), .inl (cy 1, 8, .inl (fun _ => 0))), ((xa 17), .inl (cy 1, 8, .inl (fun _ => 0))), ((ma 1), .inr (4, [.int 0, .ref (g 0), .int 0])), (aj, .inl (cy 2, 1, .inr (.inl (fun _ => 0)))), (am, .inr (15, [.int 1, .ref (ma 0), .int 0, .int 0, .int 0, .int 0, .ref (ma 1), .ref (ma 2), .null, .int 1, .int 10, .int 900, .ref (ma 3), .ref (ma 4), .int 0, .int 0, .int 0, .ref (ma 5), .int 1000, .int 50, .int 50, .int 1000, .int 10, .int 0, .int 3000, .int 0, .int 0, .int 0]))] := hD
              refine lv_iload hx hb dL_law_799 (lv_at hl 1 rfl) ?_
              refine lv_icmp_eq (tgt := 806) hx hb dL_law_801 (by decide) (fun _ => ?_) (fun z => absurd (by decide) z)
              refine lv_iload hx hb dL_law_806 (lv_at hl 1 rfl) ?_
              refine lv_if_ne (tgt := 823) hx hb dL_law_808 (by decide) (fun _ => ?_) (fun z => absurd z (by decide))
              refine lv_goto (tgt := 2947) hx hb dL_law_823 (by decide) ?_
              exact law_tail LC hS (Nat.le_of_ble_eq_true rfl) (Nat.le_of_ble_eq_true rfl) (lv_sub hl [2, 7] rfl)
            · by_cases c6 : x4 < 0
              · refine lv_aload_n hx hb dL_law_734 rfl (lv_at hl 4 rfl) ?_
                refine lv_aload_n hx hb dL_law_735 rfl (lv_at hl 5 rfl) ?_
                refine lv_iload hx hb dL_law_736 (lv_at hl 0 rfl) ?_
                refine lv_iconst (v := 1) hx hb dL_law_738 (by decide) ?_
                refine lv_iadd hx hb dL_law_739 ?_
                refine tp_i 1 (by decide) ?_
                refine va_sld hx hb hX hbl hbA hS (by unfold vp_in; decide) dL_law_740 ?_
                refine tp_i x1 e1 ?_
                refine lv_aload_n hx hb dL_law_741 rfl (lv_at hl 5 rfl) ?_
                refine lv_iload hx hb dL_law_742 (lv_at hl 0 rfl) ?_
                refine lv_iconst (v := 2) hx hb dL_law_744 (by decide) ?_
                refine lv_iadd hx hb dL_law_745 ?_
                refine tp_i 2 (by decide) ?_
                refine va_sld hx hb hX hbl hbA hS (by unfold vp_in; decide) dL_law_746 ?_
                refine tp_i x2 e2 ?_
                refine lv_aload_n hx hb dL_law_747 rfl (lv_at hl 5 rfl) ?_
                refine lv_iload hx hb dL_law_748 (lv_at hl 0 rfl) ?_
                refine lv_iconst (v := 3) hx hb dL_law_750 (by decide) ?_
                refine lv_iadd hx hb dL_law_751 ?_
                refine tp_i 3 (by decide) ?_
                refine va_sld hx hb hX hbl hbA hS (by unfold vp_in; decide) dL_law_752 ?_
                refine tp_i x3 e3 ?_
                refine lv_aload_n hx hb dL_law_753 rfl (lv_at hl 5 rfl) ?_
                refine lv_iload hx hb dL_law_754 (lv_at hl 0 rfl) ?_
                refine lv_iconst (v := 4) hx hb dL_law_756 (by decide) ?_
                refine lv_iadd hx hb dL_law_757 ?_
                refine tp_i 4 (by decide) ?_
                refine va_sld hx hb hX hbl hbA hS (by unfold vp_in; decide) dL_law_758 ?_
                refine tp_i x4 e4 ?_
                refine lv_aload_n hx hb dL_law_759 rfl (lv_at hl 2 rfl) ?_
                refine ca_i (isC := [0]) (isR := [1, 2, 3, 4, 5, 6, 7, 8]) (wr := [((xa 13), .inr (12, [.ref (xa 14), .ref (xa 15), .ref (xa 16), .ref (xa 17), .int 0])), ((xa 14), .inl (cy 1, 8, .inl (fun _ => 0))), ((xa 15), .inl (cy 1, 8, .inl (fun _ => 0))), ((xa 16), .inl (cy 1, 8, .inl (fun _ => 0))), ((xa 17), .inl (cy 1, 8, .inl (fun _ => 0))), (am, .inr (15, [.int 0, .ref (ma 0), .int 0, .int 0, .int 0, .int 0, .ref (ma 1), .ref (ma 2), .null, .int 1, .int 10, .int 900, .ref (ma 3), .ref (ma 4), .int 0, .int 0, .int 0, .ref (ma 5), .int 1000, .int 50, .int 50, .int 1000, .int 10, .int 0, .int 3000, .int 0, .int 0, .int 0])), ((ma 1), .inr (4, [.int 0, .ref (g 0), .int 0])), (aj, .inl (cy 2, 1, .inr (.inl (fun _ => 0))))]) (rn_SW (isC := [0]) (wc := [(ax, .inr (14, [.ref (xa 0), .ref (xa 13), .ref (xa 18), .ref (xa 34), .ref (xa 45), .ref (xa 49), .ref (xa 50)]))]) (As := [.ref ax, .int x1, .int x2, .int x3, .int x4, .ref aj]) (rest := []) (n := 6) hx hb hml hown hts hE hS hP hD hA hl.1 (k129_L_addRow l hst D cy g x1 x2 x3 x4 ax aj (.ref (xa 0)) (.ref (xa 13)) (.ref (xa 18)) (.ref (xa 34)) (.ref (xa 45)) (.ref (xa 49)) (.ref (xa 50)) H.size c0 c1 c2 c3 c4 c5 c6) rfl rfl ax_116 rfl rfl ax_117 ⟨Nat.le_of_ble_eq_true rfl, Nat.le_of_ble_eq_true rfl⟩ rfl rfl (Nat.le_of_ble_eq_true rfl) dL_law_760 ⟨(Nat.le_of_ble_eq_true rfl), (Nat.le_of_ble_eq_true rfl)⟩) hP hD hS hA rfl rfl rfl (by decide) (fun ad760 H locs hP hD hS => ?_)
                have hP : va_P D vwCl [((xa 13), .inr (12, [.ref (xa 14), .ref (xa 15), .ref (xa 16), .ref (xa 17), .int 0])), ((xa 14), .inl (cy 1, 8, .inl (fun _ => 0))), ((xa 15), .inl (cy 1, 8, .inl (fun _ => 0))), ((xa 16), .inl (cy 1, 8, .inl (fun _ => 0))), ((xa 17), .inl (cy 1, 8, .inl (fun _ => 0))), (am, .inr (15, [.int 0, .ref (ma 0), .int 0, .int 0, .int 0, .int 0, .ref (ma 1), .ref (ma 2), .null, .int 1, .int 10, .int 900, .ref (ma 3), .ref (ma 4), .int 0, .int 0, .int 0, .ref (ma 5), .int 1000, .int 50, .int 50, .int 1000, .int 10, .int 0, .int 3000, .int 0, .int 0, .int 0])), ((ma 1), .inr (4, [.int 0, .ref (g 0), .int 0])), (aj, .inl (cy 2, 1, .inr (.inl (fun _ => 0))))] H := hP
                have hD : va_D (AL s) [((xa 13), .inr (12, [.ref (xa 14), .ref (xa 15), .ref (xa 16), .ref (xa 17), .int 0])), ((xa 14), .inl (cy 1, 8, .inl (fun _ => 0))), ((xa 15), .inl (cy 1, 8, .inl (fun _ => 0))), ((xa 16), .inl (cy 1, 8, .inl (fun _ => 0))), ((xa 17), .inl (cy 1, 8, .inl (fun _ => 0))), (am, .inr (15, [.int 0, .ref (ma 0), .int 0, .int 0, .int 0, .int 0, .ref (ma 1), .ref (ma 2), .null, .int 1, .int 10, .int 900, .ref (ma 3), .ref (ma 4), .int 0, .int 0, .int 0, .ref (ma 5), .int 1000, .int 50, .int 50, .int 1000, .int 10, .int 0, .int 3000, .int 0, .int 0, .int 0])), ((ma 1), .inr (4, [.int 0, .ref (g 0), .int 0])), (aj, .inl (cy 2, 1, .inr (.inl (fun _ => 0))))] := hD
                refine lv_istore (lv' := [(6, .int 1), (5, .int 0), (4, .ref ao), (3, .ref aj), (2, .ref am), (1, .ref ax), (0, .ref b)]) hx hb dL_law_763 hl (Nat.le_of_ble_eq_true rfl) rfl (fun ls hl => ?_)
                refine lv_aload_n hx hb dL_law_765 rfl (lv_at hl 4 rfl) ?_
                refine lv_aload_n hx hb dL_law_766 rfl (lv_at hl 6 rfl) ?_
                refine lv_iload hx hb dL_law_767 (lv_at hl 1 rfl) ?_
                refine lv_iconst (v := 1) hx hb dL_law_769 (by decide) ?_
                refine lv_iadd hx hb dL_law_770 ?_
                refine tp_i 1 (by decide) ?_
                refine va_sld hx hb hX hbl hbA hS (by unfold vp_in; decide) dL_law_771 ?_
                refine tp_i x1 e1 ?_
                refine lv_aload_n hx hb dL_law_772 rfl (lv_at hl 6 rfl) ?_
                refine lv_iload hx hb dL_law_773 (lv_at hl 1 rfl) ?_
                refine lv_iconst (v := 2) hx hb dL_law_775 (by decide) ?_
                refine lv_iadd hx hb dL_law_776 ?_
                refine tp_i 2 (by decide) ?_
                refine va_sld hx hb hX hbl hbA hS (by unfold vp_in; decide) dL_law_777 ?_
                refine tp_i x2 e2 ?_
                refine lv_aload_n hx hb dL_law_778 rfl (lv_at hl 6 rfl) ?_
                refine lv_iload hx hb dL_law_779 (lv_at hl 1 rfl) ?_
                refine lv_iconst (v := 3) hx hb dL_law_781 (by decide) ?_
                refine lv_iadd hx hb dL_law_782 ?_
                refine tp_i 3 (by decide) ?_
                refine va_sld hx hb hX hbl hbA hS (by unfold vp_in; decide) dL_law_783 ?_
                refine tp_i x3 e3 ?_
                refine lv_aload_n hx hb dL_law_784 rfl (lv_at hl 6 rfl) ?_
                refine lv_iload hx hb dL_law_785 (lv_at hl 1 rfl) ?_
                refine lv_iconst (v := 4) hx hb dL_law_787 (by decide) ?_
                refine lv_iadd hx hb dL_law_788 ?_
                refine tp_i 4 (by decide) ?_
                refine va_sld hx hb hX hbl hbA hS (by unfold vp_in; decide) dL_law_789 ?_
                refine tp_i x4 e4 ?_
                refine ca_i (isC := [5]) (isR := [0, 1, 2, 3, 4, 6, 7]) (wr := [((xa 13), .inr (12, [.ref (xa 14), .ref (xa 15), .ref (xa 16), .ref (xa 17), .int 0])), ((xa 14), .inl (cy 1, 8, .inl (fun _ => 0))), ((xa 15), .inl (cy 1, 8, .inl (fun _ => 0))), ((xa 16), .inl (cy 1, 8, .inl (fun _ => 0))), ((xa 17), .inl (cy 1, 8, .inl (fun _ => 0))), ((ma 1), .inr (4, [.int 0, .ref (g 0), .int 0])), (aj, .inl (cy 2, 1, .inr (.inl (fun _ => 0))))]) (rn_V (ci := 15) (q0 := 5) (isC := [5]) (wc := [(am, .inr (15, [.int 0, .ref (ma 0), .int 0, .int 0, .int 0, .int 0, .ref (ma 1), .ref (ma 2), .null, .int 1, .int 10, .int 900, .ref (ma 3), .ref (ma 4), .int 0, .int 0, .int 0, .ref (ma 5), .int 1000, .int 50, .int 50, .int 1000, .int 10, .int 0, .int 3000, .int 0, .int 0, .int 0]))]) (As := [.int x1, .int x2, .int x3, .int x4]) (rest := []) (n := 4) hx hb hml hown hts hE hS hP hD hA hl.1 (k130_X10_addRow l D cy g x1 x2 x3 x4 am (.int 0) (.ref (ma 0)) (.int 0) (.int 0) (.int 0) (.int 0) (.ref (ma 1)) (.ref (ma 2)) (.null) (.int 1) (.int 10) (.int 900) (.ref (ma 3)) (.ref (ma 4)) (.int 0) (.int 0) (.int 0) (.ref (ma 5)) (.int 1000) (.int 50) (.int 50) (.int 1000) (.int 10) (.int 0) (.int 3000) (.int 0) (.int 0) (.int 0) H.size c0 c1 c2 c3 c4 c5 c6) rfl rfl rfl rfl rfl ax_118 rfl rfl ax_119 ⟨Nat.le_of_ble_eq_true rfl, Nat.le_of_ble_eq_true rfl⟩ rfl rfl (Nat.le_of_ble_eq_true rfl) dL_law_790 ⟨(Nat.le_of_ble_eq_true rfl), (Nat.le_of_ble_eq_true rfl)⟩) hP hD hS hA rfl rfl rfl (by decide) (fun ad790 H locs hP hD hS => ?_)
                have hP : va_P D vwCl [((xa 13), .inr (12, [.ref (xa 14), .ref (xa 15), .ref (xa 16), .ref (xa 17), .int 0])), ((xa 14), .inl (cy 1, 8, .inl (fun _ => 0))), ((xa 15), .inl (cy 1, 8, .inl (fun _ => 0))), ((xa 16), .inl (cy 1, 8, .inl (fun _ => 0))), ((xa 17), .inl (cy 1, 8, .inl (fun _ => 0))), ((ma 1), .inr (4, [.int 0, .ref (g 0), .int 0])), (aj, .inl (cy 2, 1, .inr (.inl (fun _ => 0)))), (am, .inr (15, [.int 1, .ref (ma 0), .int 0, .int 0, .int 0, .int 0, .ref (ma 1), .ref (ma 2), .null, .int 1, .int 10, .int 900, .ref (ma 3), .ref (ma 4), .int 0, .int 0, .int 0, .ref (ma 5), .int 1000, .int 50, .int 50, .int 1000, .int 10, .int 0, .int 3000, .int 0, .int 0, .int 0]))] H := hP
                have hD : va_D (AL s) [((xa 13), .inr (12, [.ref (xa 14), .ref (xa 15), .ref (xa 16), .ref (xa 17), .int 0])), ((xa 14), .inl (cy 1, 8, .inl (fun _ => 0))), ((xa 15), .inl (cy 1, 8, .inl (fun _ => 0))), ((xa 16), .inl (cy 1, 8, .inl (fun _ => 0))), ((xa 17), .inl (cy 1, 8, .inl (fun _ => 0))), ((ma 1), .inr (4, [.int 0, .ref (g 0), .int 0])), (aj, .inl (cy 2, 1, .inr (.inl (fun _ => 0)))), (am, .inr (15, [.int 1, .ref (ma 0), .int 0, .int 0, .int 0, .int 0, .ref (ma 1), .ref (ma 2), .null, .int 1, .int 10, .int 900, .ref (ma 3), .ref (ma 4), .int 0, .int 0, .int 0, .ref (ma 5), .int 1000, .int 50, .int 50, .int 1000, .int 10, .int 0, .int 3000, .int 0, .int 0, .int 0]))] := hD
                refine lv_istore (lv' := [(7, .int (-1)), (6, .int 1), (5, .int 0), (4, .ref ao), (3, .ref aj), (2, .ref am), (1, .ref ax), (0, .ref b)]) hx hb dL_law_793 hl (Nat.le_of_ble_eq_true rfl) rfl (fun ls hl => ?_)
                refine lv_aload_n hx hb dL_law_795 rfl (lv_at hl 5 rfl) ?_
                refine ca_i (isC := [7]) (isR := [0, 1, 2, 3, 4, 5, 6]) (wr := [((xa 13), .inr (12, [.ref (xa 14), .ref (xa 15), .ref (xa 16), .ref (xa 17), .int 0])), ((xa 14), .inl (cy 1, 8, .inl (fun _ => 0))), ((xa 15), .inl (cy 1, 8, .inl (fun _ => 0))), ((xa 16), .inl (cy 1, 8, .inl (fun _ => 0))), ((xa 17), .inl (cy 1, 8, .inl (fun _ => 0))), ((ma 1), .inr (4, [.int 0, .ref (g 0), .int 0])), (aj, .inl (cy 2, 1, .inr (.inl (fun _ => 0))))]) (rn_V (ci := 15) (q0 := 7) (isC := [7]) (wc := [(am, .inr (15, [.int 1, .ref (ma 0), .int 0, .int 0, .int 0, .int 0, .ref (ma 1), .ref (ma 2), .null, .int 1, .int 10, .int 900, .ref (ma 3), .ref (ma 4), .int 0, .int 0, .int 0, .ref (ma 5), .int 1000, .int 50, .int 50, .int 1000, .int 10, .int 0, .int 3000, .int 0, .int 0, .int 0]))]) (As := []) (rest := []) (n := 0) hx hb hml hown hts hE hS hP hD hA hl.1 (k24_X10_thrown l D cy g am (.ref (ma 0)) (.int 0) (.int 0) (.int 0) (.int 0) (.ref (ma 1)) (.ref (ma 2)) (.null) (.int 1) (.int 10) (.int 900) (.ref (ma 3)) (.ref (ma 4)) (.int 0) (.int 0) (.int 0) (.ref (ma 5)) (.int 1000) (.int 50) (.int 50) (.int 1000) (.int 10) (.int 0) (.int 3000) (.int 0) (.int 0) (.int 0) H.size ) rfl rfl rfl rfl rfl ax_45 rfl rfl ax_46 ⟨Nat.le_of_ble_eq_true rfl, Nat.le_of_ble_eq_true rfl⟩ rfl rfl (Nat.le_of_ble_eq_true rfl) dL_law_796 ⟨(Nat.le_of_ble_eq_true rfl), (Nat.le_of_ble_eq_true rfl)⟩) hP hD hS hA rfl rfl rfl (by decide) (fun ad796 H locs hP hD hS => ?_)
                have hP : va_P D vwCl [((xa 13), .inr (12, [.ref (xa 14), .ref (xa 15), .ref (xa 16), .ref (xa 17), .int 0])), ((xa 14), .inl (cy 1, 8, .inl (fun _ => 0))), ((xa 15), .inl (cy 1, 8, .inl (fun _ => 0))), ((xa 16), .inl (cy 1, 8, .inl (fun _ => 0))), ((xa 17), .inl (cy 1, 8, .inl (fun _ => 0))), ((ma 1), .inr (4, [.int 0, .ref (g 0), .int 0])), (aj, .inl (cy 2, 1, .inr (.inl (fun _ => 0)))), (am, .inr (15, [.int 1, .ref (ma 0), .int 0, .int 0, .int 0, .int 0, .ref (ma 1), .ref (ma 2), .null, .int 1, .int 10, .int 900, .ref (ma 3), .ref (ma 4), .int 0, .int 0, .int 0, .ref (ma 5), .int 1000, .int 50, .int 50, .int 1000, .int 10, .int 0, .int 3000, .int 0, .int 0, .int 0]))] H := hP
                have hD : va_D (AL s) [((xa 13), .inr (12, [.ref (xa 14), .ref (xa 15), .ref (xa 16), .ref (xa 17), .int 0])), ((xa 14), .inl (cy 1, 8, .inl (fun _ => 0))), ((xa 15), .inl (cy 1, 8, .inl (fun _ => 0))), ((xa 16), .inl (cy 1, 8, .inl (fun _ => 0))), ((xa 17), .inl (cy 1, 8, .inl (fun _ => 0))), ((ma 1), .inr (4, [.int 0, .ref (g 0), .int 0])), (aj, .inl (cy 2, 1, .inr (.inl (fun _ => 0)))), (am, .inr (15, [.int 1, .ref (ma 0), .int 0, .int 0, .int 0, .int 0, .ref (ma 1), .ref (ma 2), .null, .int 1, .int 10, .int 900, .ref (ma 3), .ref (ma 4), .int 0, .int 0, .int 0, .ref (ma 5), .int 1000, .int 50, .int 50, .int 1000, .int 10, .int 0, .int 3000, .int 0, .int 0, .int 0]))] := hD
                refine lv_iload hx hb dL_law_799 (lv_at hl 1 rfl) ?_
                refine lv_icmp_eq (tgt := 806) hx hb dL_law_801 (by decide) (fun _ => ?_) (fun z => absurd (by decide) z)
                refine lv_iload hx hb dL_law_806 (lv_at hl 1 rfl) ?_
                refine lv_if_ne (tgt := 823) hx hb dL_law_808 (by decide) (fun _ => ?_) (fun z => absurd z (by decide))
                refine lv_goto (tgt := 2947) hx hb dL_law_823 (by decide) ?_
                exact law_tail LC hS (Nat.le_of_ble_eq_true rfl) (Nat.le_of_ble_eq_true rfl) (lv_sub hl [2, 7] rfl)
              · by_cases c7 : (9999 : Int32) < x4
                · refine lv_aload_n hx hb dL_law_734 rfl (lv_at hl 4 rfl) ?_
                  refine lv_aload_n hx hb dL_law_735 rfl (lv_at hl 5 rfl) ?_
                  refine lv_iload hx hb dL_law_736 (lv_at hl 0 rfl) ?_
                  refine lv_iconst (v := 1) hx hb dL_law_738 (by decide) ?_
                  refine lv_iadd hx hb dL_law_739 ?_
                  refine tp_i 1 (by decide) ?_
                  refine va_sld hx hb hX hbl hbA hS (by unfold vp_in; decide) dL_law_740 ?_
                  refine tp_i x1 e1 ?_
                  refine lv_aload_n hx hb dL_law_741 rfl (lv_at hl 5 rfl) ?_
                  refine lv_iload hx hb dL_law_742 (lv_at hl 0 rfl) ?_
                  refine lv_iconst (v := 2) hx hb dL_law_744 (by decide) ?_
                  refine lv_iadd hx hb dL_law_745 ?_
                  refine tp_i 2 (by decide) ?_
                  refine va_sld hx hb hX hbl hbA hS (by unfold vp_in; decide) dL_law_746 ?_
                  refine tp_i x2 e2 ?_
                  refine lv_aload_n hx hb dL_law_747 rfl (lv_at hl 5 rfl) ?_
                  refine lv_iload hx hb dL_law_748 (lv_at hl 0 rfl) ?_
                  refine lv_iconst (v := 3) hx hb dL_law_750 (by decide) ?_
                  refine lv_iadd hx hb dL_law_751 ?_
                  refine tp_i 3 (by decide) ?_
                  refine va_sld hx hb hX hbl hbA hS (by unfold vp_in; decide) dL_law_752 ?_
                  refine tp_i x3 e3 ?_
                  refine lv_aload_n hx hb dL_law_753 rfl (lv_at hl 5 rfl) ?_
                  refine lv_iload hx hb dL_law_754 (lv_at hl 0 rfl) ?_
                  refine lv_iconst (v := 4) hx hb dL_law_756 (by decide) ?_
                  refine lv_iadd hx hb dL_law_757 ?_
                  refine tp_i 4 (by decide) ?_
                  refine va_sld hx hb hX hbl hbA hS (by unfold vp_in; decide) dL_law_758 ?_
                  refine tp_i x4 e4 ?_
                  refine lv_aload_n hx hb dL_law_759 rfl (lv_at hl 2 rfl) ?_
                  refine ca_i (isC := [0]) (isR := [1, 2, 3, 4, 5, 6, 7, 8]) (wr := [((xa 13), .inr (12, [.ref (xa 14), .ref (xa 15), .ref (xa 16), .ref (xa 17), .int 0])), ((xa 14), .inl (cy 1, 8, .inl (fun _ => 0))), ((xa 15), .inl (cy 1, 8, .inl (fun _ => 0))), ((xa 16), .inl (cy 1, 8, .inl (fun _ => 0))), ((xa 17), .inl (cy 1, 8, .inl (fun _ => 0))), (am, .inr (15, [.int 0, .ref (ma 0), .int 0, .int 0, .int 0, .int 0, .ref (ma 1), .ref (ma 2), .null, .int 1, .int 10, .int 900, .ref (ma 3), .ref (ma 4), .int 0, .int 0, .int 0, .ref (ma 5), .int 1000, .int 50, .int 50, .int 1000, .int 10, .int 0, .int 3000, .int 0, .int 0, .int 0])), ((ma 1), .inr (4, [.int 0, .ref (g 0), .int 0])), (aj, .inl (cy 2, 1, .inr (.inl (fun _ => 0))))]) (rn_SW (isC := [0]) (wc := [(ax, .inr (14, [.ref (xa 0), .ref (xa 13), .ref (xa 18), .ref (xa 34), .ref (xa 45), .ref (xa 49), .ref (xa 50)]))]) (As := [.ref ax, .int x1, .int x2, .int x3, .int x4, .ref aj]) (rest := []) (n := 6) hx hb hml hown hts hE hS hP hD hA hl.1 (k132_L_addRow l hst D cy g x1 x2 x3 x4 ax aj (.ref (xa 0)) (.ref (xa 13)) (.ref (xa 18)) (.ref (xa 34)) (.ref (xa 45)) (.ref (xa 49)) (.ref (xa 50)) H.size c0 c1 c2 c3 c4 c5 c6 c7) rfl rfl ax_116 rfl rfl ax_117 ⟨Nat.le_of_ble_eq_true rfl, Nat.le_of_ble_eq_true rfl⟩ rfl rfl (Nat.le_of_ble_eq_true rfl) dL_law_760 ⟨(Nat.le_of_ble_eq_true rfl), (Nat.le_of_ble_eq_true rfl)⟩) hP hD hS hA rfl rfl rfl (by decide) (fun ad760 H locs hP hD hS => ?_)
                  have hP : va_P D vwCl [((xa 13), .inr (12, [.ref (xa 14), .ref (xa 15), .ref (xa 16), .ref (xa 17), .int 0])), ((xa 14), .inl (cy 1, 8, .inl (fun _ => 0))), ((xa 15), .inl (cy 1, 8, .inl (fun _ => 0))), ((xa 16), .inl (cy 1, 8, .inl (fun _ => 0))), ((xa 17), .inl (cy 1, 8, .inl (fun _ => 0))), (am, .inr (15, [.int 0, .ref (ma 0), .int 0, .int 0, .int 0, .int 0, .ref (ma 1), .ref (ma 2), .null, .int 1, .int 10, .int 900, .ref (ma 3), .ref (ma 4), .int 0, .int 0, .int 0, .ref (ma 5), .int 1000, .int 50, .int 50, .int 1000, .int 10, .int 0, .int 3000, .int 0, .int 0, .int 0])), ((ma 1), .inr (4, [.int 0, .ref (g 0), .int 0])), (aj, .inl (cy 2, 1, .inr (.inl (fun _ => 0))))] H := hP
                  have hD : va_D (AL s) [((xa 13), .inr (12, [.ref (xa 14), .ref (xa 15), .ref (xa 16), .ref (xa 17), .int 0])), ((xa 14), .inl (cy 1, 8, .inl (fun _ => 0))), ((xa 15), .inl (cy 1, 8, .inl (fun _ => 0))), ((xa 16), .inl (cy 1, 8, .inl (fun _ => 0))), ((xa 17), .inl (cy 1, 8, .inl (fun _ => 0))), (am, .inr (15, [.int 0, .ref (ma 0), .int 0, .int 0, .int 0, .int 0, .ref (ma 1), .ref (ma 2), .null, .int 1, .int 10, .int 900, .ref (ma 3), .ref (ma 4), .int 0, .int 0, .int 0, .ref (ma 5), .int 1000, .int 50, .int 50, .int 1000, .int 10, .int 0, .int 3000, .int 0, .int 0, .int 0])), ((ma 1), .inr (4, [.int 0, .ref (g 0), .int 0])), (aj, .inl (cy 2, 1, .inr (.inl (fun _ => 0))))] := hD
                  refine lv_istore (lv' := [(6, .int 1), (5, .int 0), (4, .ref ao), (3, .ref aj), (2, .ref am), (1, .ref ax), (0, .ref b)]) hx hb dL_law_763 hl (Nat.le_of_ble_eq_true rfl) rfl (fun ls hl => ?_)
                  refine lv_aload_n hx hb dL_law_765 rfl (lv_at hl 4 rfl) ?_
                  refine lv_aload_n hx hb dL_law_766 rfl (lv_at hl 6 rfl) ?_
                  refine lv_iload hx hb dL_law_767 (lv_at hl 1 rfl) ?_
                  refine lv_iconst (v := 1) hx hb dL_law_769 (by decide) ?_
                  refine lv_iadd hx hb dL_law_770 ?_
                  refine tp_i 1 (by decide) ?_
                  refine va_sld hx hb hX hbl hbA hS (by unfold vp_in; decide) dL_law_771 ?_
                  refine tp_i x1 e1 ?_
                  refine lv_aload_n hx hb dL_law_772 rfl (lv_at hl 6 rfl) ?_
                  refine lv_iload hx hb dL_law_773 (lv_at hl 1 rfl) ?_
                  refine lv_iconst (v := 2) hx hb dL_law_775 (by decide) ?_
                  refine lv_iadd hx hb dL_law_776 ?_
                  refine tp_i 2 (by decide) ?_
                  refine va_sld hx hb hX hbl hbA hS (by unfold vp_in; decide) dL_law_777 ?_
                  refine tp_i x2 e2 ?_
                  refine lv_aload_n hx hb dL_law_778 rfl (lv_at hl 6 rfl) ?_
                  refine lv_iload hx hb dL_law_779 (lv_at hl 1 rfl) ?_
                  refine lv_iconst (v := 3) hx hb dL_law_781 (by decide) ?_
                  refine lv_iadd hx hb dL_law_782 ?_
                  refine tp_i 3 (by decide) ?_
                  refine va_sld hx hb hX hbl hbA hS (by unfold vp_in; decide) dL_law_783 ?_
                  refine tp_i x3 e3 ?_
                  refine lv_aload_n hx hb dL_law_784 rfl (lv_at hl 6 rfl) ?_
                  refine lv_iload hx hb dL_law_785 (lv_at hl 1 rfl) ?_
                  refine lv_iconst (v := 4) hx hb dL_law_787 (by decide) ?_
                  refine lv_iadd hx hb dL_law_788 ?_
                  refine tp_i 4 (by decide) ?_
                  refine va_sld hx hb hX hbl hbA hS (by unfold vp_in; decide) dL_law_789 ?_
                  refine tp_i x4 e4 ?_
                  refine ca_i (isC := [5]) (isR := [0, 1, 2, 3, 4, 6, 7]) (wr := [((xa 13), .inr (12, [.ref (xa 14), .ref (xa 15), .ref (xa 16), .ref (xa 17), .int 0])), ((xa 14), .inl (cy 1, 8, .inl (fun _ => 0))), ((xa 15), .inl (cy 1, 8, .inl (fun _ => 0))), ((xa 16), .inl (cy 1, 8, .inl (fun _ => 0))), ((xa 17), .inl (cy 1, 8, .inl (fun _ => 0))), ((ma 1), .inr (4, [.int 0, .ref (g 0), .int 0])), (aj, .inl (cy 2, 1, .inr (.inl (fun _ => 0))))]) (rn_V (ci := 15) (q0 := 5) (isC := [5]) (wc := [(am, .inr (15, [.int 0, .ref (ma 0), .int 0, .int 0, .int 0, .int 0, .ref (ma 1), .ref (ma 2), .null, .int 1, .int 10, .int 900, .ref (ma 3), .ref (ma 4), .int 0, .int 0, .int 0, .ref (ma 5), .int 1000, .int 50, .int 50, .int 1000, .int 10, .int 0, .int 3000, .int 0, .int 0, .int 0]))]) (As := [.int x1, .int x2, .int x3, .int x4]) (rest := []) (n := 4) hx hb hml hown hts hE hS hP hD hA hl.1 (k133_X10_addRow l D cy g x1 x2 x3 x4 am (.int 0) (.ref (ma 0)) (.int 0) (.int 0) (.int 0) (.int 0) (.ref (ma 1)) (.ref (ma 2)) (.null) (.int 1) (.int 10) (.int 900) (.ref (ma 3)) (.ref (ma 4)) (.int 0) (.int 0) (.int 0) (.ref (ma 5)) (.int 1000) (.int 50) (.int 50) (.int 1000) (.int 10) (.int 0) (.int 3000) (.int 0) (.int 0) (.int 0) H.size c0 c1 c2 c3 c4 c5 c6 c7) rfl rfl rfl rfl rfl ax_118 rfl rfl ax_119 ⟨Nat.le_of_ble_eq_true rfl, Nat.le_of_ble_eq_true rfl⟩ rfl rfl (Nat.le_of_ble_eq_true rfl) dL_law_790 ⟨(Nat.le_of_ble_eq_true rfl), (Nat.le_of_ble_eq_true rfl)⟩) hP hD hS hA rfl rfl rfl (by decide) (fun ad790 H locs hP hD hS => ?_)
                  have hP : va_P D vwCl [((xa 13), .inr (12, [.ref (xa 14), .ref (xa 15), .ref (xa 16), .ref (xa 17), .int 0])), ((xa 14), .inl (cy 1, 8, .inl (fun _ => 0))), ((xa 15), .inl (cy 1, 8, .inl (fun _ => 0))), ((xa 16), .inl (cy 1, 8, .inl (fun _ => 0))), ((xa 17), .inl (cy 1, 8, .inl (fun _ => 0))), ((ma 1), .inr (4, [.int 0, .ref (g 0), .int 0])), (aj, .inl (cy 2, 1, .inr (.inl (fun _ => 0)))), (am, .inr (15, [.int 1, .ref (ma 0), .int 0, .int 0, .int 0, .int 0, .ref (ma 1), .ref (ma 2), .null, .int 1, .int 10, .int 900, .ref (ma 3), .ref (ma 4), .int 0, .int 0, .int 0, .ref (ma 5), .int 1000, .int 50, .int 50, .int 1000, .int 10, .int 0, .int 3000, .int 0, .int 0, .int 0]))] H := hP
                  have hD : va_D (AL s) [((xa 13), .inr (12, [.ref (xa 14), .ref (xa 15), .ref (xa 16), .ref (xa 17), .int 0])), ((xa 14), .inl (cy 1, 8, .inl (fun _ => 0))), ((xa 15), .inl (cy 1, 8, .inl (fun _ => 0))), ((xa 16), .inl (cy 1, 8, .inl (fun _ => 0))), ((xa 17), .inl (cy 1, 8, .inl (fun _ => 0))), ((ma 1), .inr (4, [.int 0, .ref (g 0), .int 0])), (aj, .inl (cy 2, 1, .inr (.inl (fun _ => 0)))), (am, .inr (15, [.int 1, .ref (ma 0), .int 0, .int 0, .int 0, .int 0, .ref (ma 1), .ref (ma 2), .null, .int 1, .int 10, .int 900, .ref (ma 3), .ref (ma 4), .int 0, .int 0, .int 0, .ref (ma 5), .int 1000, .int 50, .int 50, .int 1000, .int 10, .int 0, .int 3000, .int 0, .int 0, .int 0]))] := hD
                  refine lv_istore (lv' := [(7, .int (-1)), (6, .int 1), (5, .int 0), (4, .ref ao), (3, .ref aj), (2, .ref am), (1, .ref ax), (0, .ref b)]) hx hb dL_law_793 hl (Nat.le_of_ble_eq_true rfl) rfl (fun ls hl => ?_)
                  refine lv_aload_n hx hb dL_law_795 rfl (lv_at hl 5 rfl) ?_
                  refine ca_i (isC := [7]) (isR := [0, 1, 2, 3, 4, 5, 6]) (wr := [((xa 13), .inr (12, [.ref (xa 14), .ref (xa 15), .ref (xa 16), .ref (xa 17), .int 0])), ((xa 14), .inl (cy 1, 8, .inl (fun _ => 0))), ((xa 15), .inl (cy 1, 8, .inl (fun _ => 0))), ((xa 16), .inl (cy 1, 8, .inl (fun _ => 0))), ((xa 17), .inl (cy 1, 8, .inl (fun _ => 0))), ((ma 1), .inr (4, [.int 0, .ref (g 0), .int 0])), (aj, .inl (cy 2, 1, .inr (.inl (fun _ => 0))))]) (rn_V (ci := 15) (q0 := 7) (isC := [7]) (wc := [(am, .inr (15, [.int 1, .ref (ma 0), .int 0, .int 0, .int 0, .int 0, .ref (ma 1), .ref (ma 2), .null, .int 1, .int 10, .int 900, .ref (ma 3), .ref (ma 4), .int 0, .int 0, .int 0, .ref (ma 5), .int 1000, .int 50, .int 50, .int 1000, .int 10, .int 0, .int 3000, .int 0, .int 0, .int 0]))]) (As := []) (rest := []) (n := 0) hx hb hml hown hts hE hS hP hD hA hl.1 (k24_X10_thrown l D cy g am (.ref (ma 0)) (.int 0) (.int 0) (.int 0) (.int 0) (.ref (ma 1)) (.ref (ma 2)) (.null) (.int 1) (.int 10) (.int 900) (.ref (ma 3)) (.ref (ma 4)) (.int 0) (.int 0) (.int 0) (.ref (ma 5)) (.int 1000) (.int 50) (.int 50) (.int 1000) (.int 10) (.int 0) (.int 3000) (.int 0) (.int 0) (.int 0) H.size ) rfl rfl rfl rfl rfl ax_45 rfl rfl ax_46 ⟨Nat.le_of_ble_eq_true rfl, Nat.le_of_ble_eq_true rfl⟩ rfl rfl (Nat.le_of_ble_eq_true rfl) dL_law_796 ⟨(Nat.le_of_ble_eq_true rfl), (Nat.le_of_ble_eq_true rfl)⟩) hP hD hS hA rfl rfl rfl (by decide) (fun ad796 H locs hP hD hS => ?_)
                  have hP : va_P D vwCl [((xa 13), .inr (12, [.ref (xa 14), .ref (xa 15), .ref (xa 16), .ref (xa 17), .int 0])), ((xa 14), .inl (cy 1, 8, .inl (fun _ => 0))), ((xa 15), .inl (cy 1, 8, .inl (fun _ => 0))), ((xa 16), .inl (cy 1, 8, .inl (fun _ => 0))), ((xa 17), .inl (cy 1, 8, .inl (fun _ => 0))), ((ma 1), .inr (4, [.int 0, .ref (g 0), .int 0])), (aj, .inl (cy 2, 1, .inr (.inl (fun _ => 0)))), (am, .inr (15, [.int 1, .ref (ma 0), .int 0, .int 0, .int 0, .int 0, .ref (ma 1), .ref (ma 2), .null, .int 1, .int 10, .int 900, .ref (ma 3), .ref (ma 4), .int 0, .int 0, .int 0, .ref (ma 5), .int 1000, .int 50, .int 50, .int 1000, .int 10, .int 0, .int 3000, .int 0, .int 0, .int 0]))] H := hP
                  have hD : va_D (AL s) [((xa 13), .inr (12, [.ref (xa 14), .ref (xa 15), .ref (xa 16), .ref (xa 17), .int 0])), ((xa 14), .inl (cy 1, 8, .inl (fun _ => 0))), ((xa 15), .inl (cy 1, 8, .inl (fun _ => 0))), ((xa 16), .inl (cy 1, 8, .inl (fun _ => 0))), ((xa 17), .inl (cy 1, 8, .inl (fun _ => 0))), ((ma 1), .inr (4, [.int 0, .ref (g 0), .int 0])), (aj, .inl (cy 2, 1, .inr (.inl (fun _ => 0)))), (am, .inr (15, [.int 1, .ref (ma 0), .int 0, .int 0, .int 0, .int 0, .ref (ma 1), .ref (ma 2), .null, .int 1, .int 10, .int 900, .ref (ma 3), .ref (ma 4), .int 0, .int 0, .int 0, .ref (ma 5), .int 1000, .int 50, .int 50, .int 1000, .int 10, .int 0, .int 3000, .int 0, .int 0, .int 0]))] := hD
                  refine lv_iload hx hb dL_law_799 (lv_at hl 1 rfl) ?_
                  refine lv_icmp_eq (tgt := 806) hx hb dL_law_801 (by decide) (fun _ => ?_) (fun z => absurd (by decide) z)
                  refine lv_iload hx hb dL_law_806 (lv_at hl 1 rfl) ?_
                  refine lv_if_ne (tgt := 823) hx hb dL_law_808 (by decide) (fun _ => ?_) (fun z => absurd z (by decide))
                  refine lv_goto (tgt := 2947) hx hb dL_law_823 (by decide) ?_
                  exact law_tail LC hS (Nat.le_of_ble_eq_true rfl) (Nat.le_of_ble_eq_true rfl) (lv_sub hl [2, 7] rfl)
                · by_cases c8 : x3 < x4
                  · refine lv_aload_n hx hb dL_law_734 rfl (lv_at hl 4 rfl) ?_
                    refine lv_aload_n hx hb dL_law_735 rfl (lv_at hl 5 rfl) ?_
                    refine lv_iload hx hb dL_law_736 (lv_at hl 0 rfl) ?_
                    refine lv_iconst (v := 1) hx hb dL_law_738 (by decide) ?_
                    refine lv_iadd hx hb dL_law_739 ?_
                    refine tp_i 1 (by decide) ?_
                    refine va_sld hx hb hX hbl hbA hS (by unfold vp_in; decide) dL_law_740 ?_
                    refine tp_i x1 e1 ?_
                    refine lv_aload_n hx hb dL_law_741 rfl (lv_at hl 5 rfl) ?_
                    refine lv_iload hx hb dL_law_742 (lv_at hl 0 rfl) ?_
                    refine lv_iconst (v := 2) hx hb dL_law_744 (by decide) ?_
                    refine lv_iadd hx hb dL_law_745 ?_
                    refine tp_i 2 (by decide) ?_
                    refine va_sld hx hb hX hbl hbA hS (by unfold vp_in; decide) dL_law_746 ?_
                    refine tp_i x2 e2 ?_
                    refine lv_aload_n hx hb dL_law_747 rfl (lv_at hl 5 rfl) ?_
                    refine lv_iload hx hb dL_law_748 (lv_at hl 0 rfl) ?_
                    refine lv_iconst (v := 3) hx hb dL_law_750 (by decide) ?_
                    refine lv_iadd hx hb dL_law_751 ?_
                    refine tp_i 3 (by decide) ?_
                    refine va_sld hx hb hX hbl hbA hS (by unfold vp_in; decide) dL_law_752 ?_
                    refine tp_i x3 e3 ?_
                    refine lv_aload_n hx hb dL_law_753 rfl (lv_at hl 5 rfl) ?_
                    refine lv_iload hx hb dL_law_754 (lv_at hl 0 rfl) ?_
                    refine lv_iconst (v := 4) hx hb dL_law_756 (by decide) ?_
                    refine lv_iadd hx hb dL_law_757 ?_
                    refine tp_i 4 (by decide) ?_
                    refine va_sld hx hb hX hbl hbA hS (by unfold vp_in; decide) dL_law_758 ?_
                    refine tp_i x4 e4 ?_
                    refine lv_aload_n hx hb dL_law_759 rfl (lv_at hl 2 rfl) ?_
                    refine ca_i (isC := [0, 1, 2, 3, 4, 5, 8]) (isR := [6, 7]) (wr := [(am, .inr (15, [.int 0, .ref (ma 0), .int 0, .int 0, .int 0, .int 0, .ref (ma 1), .ref (ma 2), .null, .int 1, .int 10, .int 900, .ref (ma 3), .ref (ma 4), .int 0, .int 0, .int 0, .ref (ma 5), .int 1000, .int 50, .int 50, .int 1000, .int 10, .int 0, .int 3000, .int 0, .int 0, .int 0])), ((ma 1), .inr (4, [.int 0, .ref (g 0), .int 0]))]) (rn_SW (isC := [0, 1, 2, 3, 4, 5, 8]) (wc := [(ax, .inr (14, [.ref (xa 0), .ref (xa 13), .ref (xa 18), .ref (xa 34), .ref (xa 45), .ref (xa 49), .ref (xa 50)])), ((xa 13), .inr (12, [.ref (xa 14), .ref (xa 15), .ref (xa 16), .ref (xa 17), .int 0])), ((xa 14), .inl (cy 1, 8, .inl (fun _ => 0))), ((xa 15), .inl (cy 1, 8, .inl (fun _ => 0))), ((xa 16), .inl (cy 1, 8, .inl (fun _ => 0))), ((xa 17), .inl (cy 1, 8, .inl (fun _ => 0))), (aj, .inl (cy 2, 1, .inr (.inl (fun _ => 0))))]) (As := [.ref ax, .int x1, .int x2, .int x3, .int x4, .ref aj]) (rest := []) (n := 6) hx hb hml hown hts hE hS hP hD hA hl.1 (k138_L_addRow l D cy g x1 x2 x3 x4 ax (xa 13) (xa 14) (xa 15) (xa 16) (xa 17) aj (.ref (xa 0)) (.ref (xa 18)) (.ref (xa 34)) (.ref (xa 45)) (.ref (xa 49)) (.ref (xa 50)) (fun _ => 0) (fun _ => 0) (fun _ => 0) (fun _ => 0) (fun _ => 0) H.size c0 c1 c2 c3 c4 c5 c6 c7 c8) rfl rfl ax_116 rfl rfl ax_117 ⟨Nat.le_of_ble_eq_true rfl, Nat.le_of_ble_eq_true rfl⟩ rfl rfl (Nat.le_of_ble_eq_true rfl) dL_law_760 ⟨(Nat.le_of_ble_eq_true rfl), (Nat.le_of_ble_eq_true rfl)⟩) hP hD hS hA rfl rfl rfl (by decide) (fun ad760 H locs hP hD hS => ?_)
                    have hP : va_P D vwCl [(am, .inr (15, [.int 0, .ref (ma 0), .int 0, .int 0, .int 0, .int 0, .ref (ma 1), .ref (ma 2), .null, .int 1, .int 10, .int 900, .ref (ma 3), .ref (ma 4), .int 0, .int 0, .int 0, .ref (ma 5), .int 1000, .int 50, .int 50, .int 1000, .int 10, .int 0, .int 3000, .int 0, .int 0, .int 0])), ((ma 1), .inr (4, [.int 0, .ref (g 0), .int 0])), (aj, .inl (cy 2, 1, .inr (.inl (vp_updL (fun _ => 0) (0 : Int32).toNatClampNeg 1))))] H := hP
                    have hD : va_D (AL s) [(am, .inr (15, [.int 0, .ref (ma 0), .int 0, .int 0, .int 0, .int 0, .ref (ma 1), .ref (ma 2), .null, .int 1, .int 10, .int 900, .ref (ma 3), .ref (ma 4), .int 0, .int 0, .int 0, .ref (ma 5), .int 1000, .int 50, .int 50, .int 1000, .int 10, .int 0, .int 3000, .int 0, .int 0, .int 0])), ((ma 1), .inr (4, [.int 0, .ref (g 0), .int 0])), (aj, .inl (cy 2, 1, .inr (.inl (vp_updL (fun _ => 0) (0 : Int32).toNatClampNeg 1))))] := hD
                    refine lv_istore (lv' := [(6, .int 0), (5, .int 0), (4, .ref ao), (3, .ref aj), (2, .ref am), (1, .ref ax), (0, .ref b)]) hx hb dL_law_763 hl (Nat.le_of_ble_eq_true rfl) rfl (fun ls hl => ?_)
                    refine lv_aload_n hx hb dL_law_765 rfl (lv_at hl 4 rfl) ?_
                    refine lv_aload_n hx hb dL_law_766 rfl (lv_at hl 6 rfl) ?_
                    refine lv_iload hx hb dL_law_767 (lv_at hl 1 rfl) ?_
                    refine lv_iconst (v := 1) hx hb dL_law_769 (by decide) ?_
                    refine lv_iadd hx hb dL_law_770 ?_
                    refine tp_i 1 (by decide) ?_
                    refine va_sld hx hb hX hbl hbA hS (by unfold vp_in; decide) dL_law_771 ?_
                    refine tp_i x1 e1 ?_
                    refine lv_aload_n hx hb dL_law_772 rfl (lv_at hl 6 rfl) ?_
                    refine lv_iload hx hb dL_law_773 (lv_at hl 1 rfl) ?_
                    refine lv_iconst (v := 2) hx hb dL_law_775 (by decide) ?_
                    refine lv_iadd hx hb dL_law_776 ?_
                    refine tp_i 2 (by decide) ?_
                    refine va_sld hx hb hX hbl hbA hS (by unfold vp_in; decide) dL_law_777 ?_
                    refine tp_i x2 e2 ?_
                    refine lv_aload_n hx hb dL_law_778 rfl (lv_at hl 6 rfl) ?_
                    refine lv_iload hx hb dL_law_779 (lv_at hl 1 rfl) ?_
                    refine lv_iconst (v := 3) hx hb dL_law_781 (by decide) ?_
                    refine lv_iadd hx hb dL_law_782 ?_
                    refine tp_i 3 (by decide) ?_
                    refine va_sld hx hb hX hbl hbA hS (by unfold vp_in; decide) dL_law_783 ?_
                    refine tp_i x3 e3 ?_
                    refine lv_aload_n hx hb dL_law_784 rfl (lv_at hl 6 rfl) ?_
                    refine lv_iload hx hb dL_law_785 (lv_at hl 1 rfl) ?_
                    refine lv_iconst (v := 4) hx hb dL_law_787 (by decide) ?_
                    refine lv_iadd hx hb dL_law_788 ?_
                    refine tp_i 4 (by decide) ?_
                    refine va_sld hx hb hX hbl hbA hS (by unfold vp_in; decide) dL_law_789 ?_
                    refine tp_i x4 e4 ?_
                    refine ca_i (isC := [0, 1]) (isR := [2]) (wr := [(aj, .inl (cy 2, 1, .inr (.inl (vp_updL (fun _ => 0) (0 : Int32).toNatClampNeg 1))))]) (rn_V (ci := 15) (q0 := 0) (isC := [0, 1]) (wc := [(am, .inr (15, [.int 0, .ref (ma 0), .int 0, .int 0, .int 0, .int 0, .ref (ma 1), .ref (ma 2), .null, .int 1, .int 10, .int 900, .ref (ma 3), .ref (ma 4), .int 0, .int 0, .int 0, .ref (ma 5), .int 1000, .int 50, .int 50, .int 1000, .int 10, .int 0, .int 3000, .int 0, .int 0, .int 0])), ((ma 1), .inr (4, [.int 0, .ref (g 0), .int 0]))]) (As := [.int x1, .int x2, .int x3, .int x4]) (rest := []) (n := 4) hx hb hml hown hts hE hS hP hD hA hl.1 (k143_X10_addRow l D cy g x1 x2 x3 x4 am (ma 1) (.int 0) (.ref (ma 0)) (.int 0) (.int 0) (.int 0) (.int 0) (.ref (ma 2)) (.null) (.int 1) (.int 10) (.int 900) (.ref (ma 3)) (.ref (ma 4)) (.int 0) (.int 0) (.int 0) (.ref (ma 5)) (.int 1000) (.int 50) (.int 50) (.int 1000) (.int 10) (.int 0) (.int 3000) (.int 0) (.int 0) (.int 0) H.size c0 c1 c2 c3 c4 c5 c6 c7 c8) rfl rfl rfl rfl rfl ax_118 rfl rfl ax_119 ⟨Nat.le_of_ble_eq_true rfl, Nat.le_of_ble_eq_true rfl⟩ rfl rfl (Nat.le_of_ble_eq_true rfl) dL_law_790 ⟨(Nat.le_of_ble_eq_true rfl), (Nat.le_of_ble_eq_true rfl)⟩) hP hD hS hA rfl rfl rfl (by decide) (fun ad790 H locs hP hD hS => ?_)
                    have hP : va_P D vwCl [(aj, .inl (cy 2, 1, .inr (.inl (vp_updL (fun _ => 0) (0 : Int32).toNatClampNeg 1)))), (am, .inr (15, [.int 0, .ref (ma 0), .int 0, .int 0, .int 0, .int 0, .ref (ma 1), .ref (ma 2), .null, .int 1, .int 10, .int 900, .ref (ma 3), .ref (ma 4), .int 0, .int 0, .int 0, .ref (ma 5), .int 1000, .int 50, .int 50, .int 1000, .int 10, .int 0, .int 3000, .int 0, .int 0, .int 0]))] H := hP
                    have hD : va_D (AL s) [(aj, .inl (cy 2, 1, .inr (.inl (vp_updL (fun _ => 0) (0 : Int32).toNatClampNeg 1)))), (am, .inr (15, [.int 0, .ref (ma 0), .int 0, .int 0, .int 0, .int 0, .ref (ma 1), .ref (ma 2), .null, .int 1, .int 10, .int 900, .ref (ma 3), .ref (ma 4), .int 0, .int 0, .int 0, .ref (ma 5), .int 1000, .int 50, .int 50, .int 1000, .int 10, .int 0, .int 3000, .int 0, .int 0, .int 0]))] := hD
                    refine lv_istore (lv' := [(7, .int 1), (6, .int 0), (5, .int 0), (4, .ref ao), (3, .ref aj), (2, .ref am), (1, .ref ax), (0, .ref b)]) hx hb dL_law_793 hl (Nat.le_of_ble_eq_true rfl) rfl (fun ls hl => ?_)
                    refine lv_aload_n hx hb dL_law_795 rfl (lv_at hl 5 rfl) ?_
                    refine ca_i (isC := [1]) (isR := [0]) (wr := [(aj, .inl (cy 2, 1, .inr (.inl (vp_updL (fun _ => 0) (0 : Int32).toNatClampNeg 1))))]) (rn_V (ci := 15) (q0 := 1) (isC := [1]) (wc := [(am, .inr (15, [.int 0, .ref (ma 0), .int 0, .int 0, .int 0, .int 0, .ref (ma 1), .ref (ma 2), .null, .int 1, .int 10, .int 900, .ref (ma 3), .ref (ma 4), .int 0, .int 0, .int 0, .ref (ma 5), .int 1000, .int 50, .int 50, .int 1000, .int 10, .int 0, .int 3000, .int 0, .int 0, .int 0]))]) (As := []) (rest := []) (n := 0) hx hb hml hown hts hE hS hP hD hA hl.1 (k52_X10_thrown l D cy g am (.ref (ma 0)) (.int 0) (.int 0) (.int 0) (.int 0) (.ref (ma 1)) (.ref (ma 2)) (.null) (.int 1) (.int 10) (.int 900) (.ref (ma 3)) (.ref (ma 4)) (.int 0) (.int 0) (.int 0) (.ref (ma 5)) (.int 1000) (.int 50) (.int 50) (.int 1000) (.int 10) (.int 0) (.int 3000) (.int 0) (.int 0) (.int 0) H.size ) rfl rfl rfl rfl rfl ax_45 rfl rfl ax_46 ⟨Nat.le_of_ble_eq_true rfl, Nat.le_of_ble_eq_true rfl⟩ rfl rfl (Nat.le_of_ble_eq_true rfl) dL_law_796 ⟨(Nat.le_of_ble_eq_true rfl), (Nat.le_of_ble_eq_true rfl)⟩) hP hD hS hA rfl rfl rfl (by decide) (fun ad796 H locs hP hD hS => ?_)
                    have hP : va_P D vwCl [(aj, .inl (cy 2, 1, .inr (.inl (vp_updL (fun _ => 0) (0 : Int32).toNatClampNeg 1)))), (am, .inr (15, [.int 0, .ref (ma 0), .int 0, .int 0, .int 0, .int 0, .ref (ma 1), .ref (ma 2), .null, .int 1, .int 10, .int 900, .ref (ma 3), .ref (ma 4), .int 0, .int 0, .int 0, .ref (ma 5), .int 1000, .int 50, .int 50, .int 1000, .int 10, .int 0, .int 3000, .int 0, .int 0, .int 0]))] H := hP
                    have hD : va_D (AL s) [(aj, .inl (cy 2, 1, .inr (.inl (vp_updL (fun _ => 0) (0 : Int32).toNatClampNeg 1)))), (am, .inr (15, [.int 0, .ref (ma 0), .int 0, .int 0, .int 0, .int 0, .ref (ma 1), .ref (ma 2), .null, .int 1, .int 10, .int 900, .ref (ma 3), .ref (ma 4), .int 0, .int 0, .int 0, .ref (ma 5), .int 1000, .int 50, .int 50, .int 1000, .int 10, .int 0, .int 3000, .int 0, .int 0, .int 0]))] := hD
                    refine lv_iload hx hb dL_law_799 (lv_at hl 1 rfl) ?_
                    refine lv_icmp_eq (tgt := 806) hx hb dL_law_801 (by decide) (fun _ => ?_) (fun z => absurd (by decide) z)
                    refine lv_iload hx hb dL_law_806 (lv_at hl 1 rfl) ?_
                    refine lv_if_ne (tgt := 823) hx hb dL_law_808 (by decide) (fun z => absurd (by decide) z) (fun _ => ?_)
                    refine lv_aload_n hx hb dL_law_811 rfl (lv_at hl 4 rfl) ?_
                    refine lv_iconst (v := 0) hx hb dL_law_812 (by decide) ?_
                    refine va_lald hx hb hE.1 hP 0 2 rfl rfl (by unfold vp_in; decide) dL_law_813 ?_
                    refine tp_l 1 rfl ?_
                    refine lv_iload hx hb dL_law_814 (lv_at hl 0 rfl) ?_
                    refine lv_i2l (v := 1) hx hb dL_law_816 (by decide) ?_
                    refine W.lcmp hx hb dL_law_817 ?_
                    refine tp_i 0 (by decide) ?_
                    refine lv_if_eq (tgt := 823) hx hb dL_law_818 (by decide) (fun _ => ?_) (fun z => absurd (by decide) z)
                    refine lv_goto (tgt := 2947) hx hb dL_law_823 (by decide) ?_
                    exact law_tail LC hS (Nat.le_of_ble_eq_true rfl) (Nat.le_of_ble_eq_true rfl) (lv_sub hl [2, 7] rfl)
                  · refine lv_aload_n hx hb dL_law_734 rfl (lv_at hl 4 rfl) ?_
                    refine lv_aload_n hx hb dL_law_735 rfl (lv_at hl 5 rfl) ?_
                    refine lv_iload hx hb dL_law_736 (lv_at hl 0 rfl) ?_
                    refine lv_iconst (v := 1) hx hb dL_law_738 (by decide) ?_
                    refine lv_iadd hx hb dL_law_739 ?_
                    refine tp_i 1 (by decide) ?_
                    refine va_sld hx hb hX hbl hbA hS (by unfold vp_in; decide) dL_law_740 ?_
                    refine tp_i x1 e1 ?_
                    refine lv_aload_n hx hb dL_law_741 rfl (lv_at hl 5 rfl) ?_
                    refine lv_iload hx hb dL_law_742 (lv_at hl 0 rfl) ?_
                    refine lv_iconst (v := 2) hx hb dL_law_744 (by decide) ?_
                    refine lv_iadd hx hb dL_law_745 ?_
                    refine tp_i 2 (by decide) ?_
                    refine va_sld hx hb hX hbl hbA hS (by unfold vp_in; decide) dL_law_746 ?_
                    refine tp_i x2 e2 ?_
                    refine lv_aload_n hx hb dL_law_747 rfl (lv_at hl 5 rfl) ?_
                    refine lv_iload hx hb dL_law_748 (lv_at hl 0 rfl) ?_
                    refine lv_iconst (v := 3) hx hb dL_law_750 (by decide) ?_
                    refine lv_iadd hx hb dL_law_751 ?_
                    refine tp_i 3 (by decide) ?_
                    refine va_sld hx hb hX hbl hbA hS (by unfold vp_in; decide) dL_law_752 ?_
                    refine tp_i x3 e3 ?_
                    refine lv_aload_n hx hb dL_law_753 rfl (lv_at hl 5 rfl) ?_
                    refine lv_iload hx hb dL_law_754 (lv_at hl 0 rfl) ?_
                    refine lv_iconst (v := 4) hx hb dL_law_756 (by decide) ?_
                    refine lv_iadd hx hb dL_law_757 ?_
                    refine tp_i 4 (by decide) ?_
                    refine va_sld hx hb hX hbl hbA hS (by unfold vp_in; decide) dL_law_758 ?_
                    refine tp_i x4 e4 ?_
                    refine lv_aload_n hx hb dL_law_759 rfl (lv_at hl 2 rfl) ?_
                    refine ca_i (isC := [0]) (isR := [1, 2, 3, 4, 5, 6, 7, 8]) (wr := [((xa 13), .inr (12, [.ref (xa 14), .ref (xa 15), .ref (xa 16), .ref (xa 17), .int 0])), ((xa 14), .inl (cy 1, 8, .inl (fun _ => 0))), ((xa 15), .inl (cy 1, 8, .inl (fun _ => 0))), ((xa 16), .inl (cy 1, 8, .inl (fun _ => 0))), ((xa 17), .inl (cy 1, 8, .inl (fun _ => 0))), (am, .inr (15, [.int 0, .ref (ma 0), .int 0, .int 0, .int 0, .int 0, .ref (ma 1), .ref (ma 2), .null, .int 1, .int 10, .int 900, .ref (ma 3), .ref (ma 4), .int 0, .int 0, .int 0, .ref (ma 5), .int 1000, .int 50, .int 50, .int 1000, .int 10, .int 0, .int 3000, .int 0, .int 0, .int 0])), ((ma 1), .inr (4, [.int 0, .ref (g 0), .int 0])), (aj, .inl (cy 2, 1, .inr (.inl (fun _ => 0))))]) (rn_SW (isC := [0]) (wc := [(ax, .inr (14, [.ref (xa 0), .ref (xa 13), .ref (xa 18), .ref (xa 34), .ref (xa 45), .ref (xa 49), .ref (xa 50)]))]) (As := [.ref ax, .int x1, .int x2, .int x3, .int x4, .ref aj]) (rest := []) (n := 6) hx hb hml hown hts hE hS hP hD hA hl.1 (k145_L_addRow l hst D cy g x1 x2 x3 x4 ax aj (.ref (xa 0)) (.ref (xa 13)) (.ref (xa 18)) (.ref (xa 34)) (.ref (xa 45)) (.ref (xa 49)) (.ref (xa 50)) H.size c0 c1 c2 c3 c4 c5 c6 c7 c8) rfl rfl ax_116 rfl rfl ax_117 ⟨Nat.le_of_ble_eq_true rfl, Nat.le_of_ble_eq_true rfl⟩ rfl rfl (Nat.le_of_ble_eq_true rfl) dL_law_760 ⟨(Nat.le_of_ble_eq_true rfl), (Nat.le_of_ble_eq_true rfl)⟩) hP hD hS hA rfl rfl rfl (by decide) (fun ad760 H locs hP hD hS => ?_)
                    have hP : va_P D vwCl [((xa 13), .inr (12, [.ref (xa 14), .ref (xa 15), .ref (xa 16), .ref (xa 17), .int 0])), ((xa 14), .inl (cy 1, 8, .inl (fun _ => 0))), ((xa 15), .inl (cy 1, 8, .inl (fun _ => 0))), ((xa 16), .inl (cy 1, 8, .inl (fun _ => 0))), ((xa 17), .inl (cy 1, 8, .inl (fun _ => 0))), (am, .inr (15, [.int 0, .ref (ma 0), .int 0, .int 0, .int 0, .int 0, .ref (ma 1), .ref (ma 2), .null, .int 1, .int 10, .int 900, .ref (ma 3), .ref (ma 4), .int 0, .int 0, .int 0, .ref (ma 5), .int 1000, .int 50, .int 50, .int 1000, .int 10, .int 0, .int 3000, .int 0, .int 0, .int 0])), ((ma 1), .inr (4, [.int 0, .ref (g 0), .int 0])), (aj, .inl (cy 2, 1, .inr (.inl (fun _ => 0))))] H := hP
                    have hD : va_D (AL s) [((xa 13), .inr (12, [.ref (xa 14), .ref (xa 15), .ref (xa 16), .ref (xa 17), .int 0])), ((xa 14), .inl (cy 1, 8, .inl (fun _ => 0))), ((xa 15), .inl (cy 1, 8, .inl (fun _ => 0))), ((xa 16), .inl (cy 1, 8, .inl (fun _ => 0))), ((xa 17), .inl (cy 1, 8, .inl (fun _ => 0))), (am, .inr (15, [.int 0, .ref (ma 0), .int 0, .int 0, .int 0, .int 0, .ref (ma 1), .ref (ma 2), .null, .int 1, .int 10, .int 900, .ref (ma 3), .ref (ma 4), .int 0, .int 0, .int 0, .ref (ma 5), .int 1000, .int 50, .int 50, .int 1000, .int 10, .int 0, .int 3000, .int 0, .int 0, .int 0])), ((ma 1), .inr (4, [.int 0, .ref (g 0), .int 0])), (aj, .inl (cy 2, 1, .inr (.inl (fun _ => 0))))] := hD
                    refine lv_istore (lv' := [(6, .int 2), (5, .int 0), (4, .ref ao), (3, .ref aj), (2, .ref am), (1, .ref ax), (0, .ref b)]) hx hb dL_law_763 hl (Nat.le_of_ble_eq_true rfl) rfl (fun ls hl => ?_)
                    refine lv_aload_n hx hb dL_law_765 rfl (lv_at hl 4 rfl) ?_
                    refine lv_aload_n hx hb dL_law_766 rfl (lv_at hl 6 rfl) ?_
                    refine lv_iload hx hb dL_law_767 (lv_at hl 1 rfl) ?_
                    refine lv_iconst (v := 1) hx hb dL_law_769 (by decide) ?_
                    refine lv_iadd hx hb dL_law_770 ?_
                    refine tp_i 1 (by decide) ?_
                    refine va_sld hx hb hX hbl hbA hS (by unfold vp_in; decide) dL_law_771 ?_
                    refine tp_i x1 e1 ?_
                    refine lv_aload_n hx hb dL_law_772 rfl (lv_at hl 6 rfl) ?_
                    refine lv_iload hx hb dL_law_773 (lv_at hl 1 rfl) ?_
                    refine lv_iconst (v := 2) hx hb dL_law_775 (by decide) ?_
                    refine lv_iadd hx hb dL_law_776 ?_
                    refine tp_i 2 (by decide) ?_
                    refine va_sld hx hb hX hbl hbA hS (by unfold vp_in; decide) dL_law_777 ?_
                    refine tp_i x2 e2 ?_
                    refine lv_aload_n hx hb dL_law_778 rfl (lv_at hl 6 rfl) ?_
                    refine lv_iload hx hb dL_law_779 (lv_at hl 1 rfl) ?_
                    refine lv_iconst (v := 3) hx hb dL_law_781 (by decide) ?_
                    refine lv_iadd hx hb dL_law_782 ?_
                    refine tp_i 3 (by decide) ?_
                    refine va_sld hx hb hX hbl hbA hS (by unfold vp_in; decide) dL_law_783 ?_
                    refine tp_i x3 e3 ?_
                    refine lv_aload_n hx hb dL_law_784 rfl (lv_at hl 6 rfl) ?_
                    refine lv_iload hx hb dL_law_785 (lv_at hl 1 rfl) ?_
                    refine lv_iconst (v := 4) hx hb dL_law_787 (by decide) ?_
                    refine lv_iadd hx hb dL_law_788 ?_
                    refine tp_i 4 (by decide) ?_
                    refine va_sld hx hb hX hbl hbA hS (by unfold vp_in; decide) dL_law_789 ?_
                    refine tp_i x4 e4 ?_
                    refine ca_i (isC := [5, 6]) (isR := [0, 1, 2, 3, 4, 7]) (wr := [((xa 13), .inr (12, [.ref (xa 14), .ref (xa 15), .ref (xa 16), .ref (xa 17), .int 0])), ((xa 14), .inl (cy 1, 8, .inl (fun _ => 0))), ((xa 15), .inl (cy 1, 8, .inl (fun _ => 0))), ((xa 16), .inl (cy 1, 8, .inl (fun _ => 0))), ((xa 17), .inl (cy 1, 8, .inl (fun _ => 0))), (aj, .inl (cy 2, 1, .inr (.inl (fun _ => 0))))]) (rn_V (ci := 15) (q0 := 5) (isC := [5, 6]) (wc := [(am, .inr (15, [.int 0, .ref (ma 0), .int 0, .int 0, .int 0, .int 0, .ref (ma 1), .ref (ma 2), .null, .int 1, .int 10, .int 900, .ref (ma 3), .ref (ma 4), .int 0, .int 0, .int 0, .ref (ma 5), .int 1000, .int 50, .int 50, .int 1000, .int 10, .int 0, .int 3000, .int 0, .int 0, .int 0])), ((ma 1), .inr (4, [.int 0, .ref (g 0), .int 0]))]) (As := [.int x1, .int x2, .int x3, .int x4]) (rest := []) (n := 4) hx hb hml hown hts hE hS hP hD hA hl.1 (k147_X10_addRow l D cy g x1 x2 x3 x4 am (ma 1) (.int 0) (.ref (ma 0)) (.int 0) (.int 0) (.int 0) (.int 0) (.ref (ma 2)) (.null) (.int 1) (.int 10) (.int 900) (.ref (ma 3)) (.ref (ma 4)) (.int 0) (.int 0) (.int 0) (.ref (ma 5)) (.int 1000) (.int 50) (.int 50) (.int 1000) (.int 10) (.int 0) (.int 3000) (.int 0) (.int 0) (.int 0) (.int 0) (.ref (g 0)) H.size c0 c1 c2 c3 c4 c5 c6 c7 c8) rfl rfl rfl rfl rfl ax_118 rfl rfl ax_119 ⟨Nat.le_of_ble_eq_true rfl, Nat.le_of_ble_eq_true rfl⟩ rfl rfl (Nat.le_of_ble_eq_true rfl) dL_law_790 ⟨(Nat.le_of_ble_eq_true rfl), (Nat.le_of_ble_eq_true rfl)⟩) hP hD hS hA rfl rfl rfl (by decide) (fun ad790 H locs hP hD hS => ?_)
                    have hP : va_P D vwCl [((xa 13), .inr (12, [.ref (xa 14), .ref (xa 15), .ref (xa 16), .ref (xa 17), .int 0])), ((xa 14), .inl (cy 1, 8, .inl (fun _ => 0))), ((xa 15), .inl (cy 1, 8, .inl (fun _ => 0))), ((xa 16), .inl (cy 1, 8, .inl (fun _ => 0))), ((xa 17), .inl (cy 1, 8, .inl (fun _ => 0))), (aj, .inl (cy 2, 1, .inr (.inl (fun _ => 0)))), (am, .inr (15, [.int 2, .ref (ma 0), .int 0, .int 0, .int 0, .int 0, .ref (ma 1), .ref (ma 2), .null, .int 1, .int 10, .int 900, .ref (ma 3), .ref (ma 4), .int 0, .int 0, .int 0, .ref (ma 5), .int 1000, .int 50, .int 50, .int 1000, .int 10, .int 0, .int 3000, .int 0, .int 0, .int 0]))] H := hP
                    have hD : va_D (AL s) [((xa 13), .inr (12, [.ref (xa 14), .ref (xa 15), .ref (xa 16), .ref (xa 17), .int 0])), ((xa 14), .inl (cy 1, 8, .inl (fun _ => 0))), ((xa 15), .inl (cy 1, 8, .inl (fun _ => 0))), ((xa 16), .inl (cy 1, 8, .inl (fun _ => 0))), ((xa 17), .inl (cy 1, 8, .inl (fun _ => 0))), (aj, .inl (cy 2, 1, .inr (.inl (fun _ => 0)))), (am, .inr (15, [.int 2, .ref (ma 0), .int 0, .int 0, .int 0, .int 0, .ref (ma 1), .ref (ma 2), .null, .int 1, .int 10, .int 900, .ref (ma 3), .ref (ma 4), .int 0, .int 0, .int 0, .ref (ma 5), .int 1000, .int 50, .int 50, .int 1000, .int 10, .int 0, .int 3000, .int 0, .int 0, .int 0]))] := hD
                    refine lv_istore (lv' := [(7, .int (-1)), (6, .int 2), (5, .int 0), (4, .ref ao), (3, .ref aj), (2, .ref am), (1, .ref ax), (0, .ref b)]) hx hb dL_law_793 hl (Nat.le_of_ble_eq_true rfl) rfl (fun ls hl => ?_)
                    refine lv_aload_n hx hb dL_law_795 rfl (lv_at hl 5 rfl) ?_
                    refine ca_i (isC := [6]) (isR := [0, 1, 2, 3, 4, 5]) (wr := [((xa 13), .inr (12, [.ref (xa 14), .ref (xa 15), .ref (xa 16), .ref (xa 17), .int 0])), ((xa 14), .inl (cy 1, 8, .inl (fun _ => 0))), ((xa 15), .inl (cy 1, 8, .inl (fun _ => 0))), ((xa 16), .inl (cy 1, 8, .inl (fun _ => 0))), ((xa 17), .inl (cy 1, 8, .inl (fun _ => 0))), (aj, .inl (cy 2, 1, .inr (.inl (fun _ => 0))))]) (rn_V (ci := 15) (q0 := 6) (isC := [6]) (wc := [(am, .inr (15, [.int 2, .ref (ma 0), .int 0, .int 0, .int 0, .int 0, .ref (ma 1), .ref (ma 2), .null, .int 1, .int 10, .int 900, .ref (ma 3), .ref (ma 4), .int 0, .int 0, .int 0, .ref (ma 5), .int 1000, .int 50, .int 50, .int 1000, .int 10, .int 0, .int 3000, .int 0, .int 0, .int 0]))]) (As := []) (rest := []) (n := 0) hx hb hml hown hts hE hS hP hD hA hl.1 (k148_X10_thrown l D cy g am (.ref (ma 0)) (.int 0) (.int 0) (.int 0) (.int 0) (.ref (ma 1)) (.ref (ma 2)) (.null) (.int 1) (.int 10) (.int 900) (.ref (ma 3)) (.ref (ma 4)) (.int 0) (.int 0) (.int 0) (.ref (ma 5)) (.int 1000) (.int 50) (.int 50) (.int 1000) (.int 10) (.int 0) (.int 3000) (.int 0) (.int 0) (.int 0) H.size ) rfl rfl rfl rfl rfl ax_45 rfl rfl ax_46 ⟨Nat.le_of_ble_eq_true rfl, Nat.le_of_ble_eq_true rfl⟩ rfl rfl (Nat.le_of_ble_eq_true rfl) dL_law_796 ⟨(Nat.le_of_ble_eq_true rfl), (Nat.le_of_ble_eq_true rfl)⟩) hP hD hS hA rfl rfl rfl (by decide) (fun ad796 H locs hP hD hS => ?_)
                    have hP : va_P D vwCl [((xa 13), .inr (12, [.ref (xa 14), .ref (xa 15), .ref (xa 16), .ref (xa 17), .int 0])), ((xa 14), .inl (cy 1, 8, .inl (fun _ => 0))), ((xa 15), .inl (cy 1, 8, .inl (fun _ => 0))), ((xa 16), .inl (cy 1, 8, .inl (fun _ => 0))), ((xa 17), .inl (cy 1, 8, .inl (fun _ => 0))), (aj, .inl (cy 2, 1, .inr (.inl (fun _ => 0)))), (am, .inr (15, [.int 2, .ref (ma 0), .int 0, .int 0, .int 0, .int 0, .ref (ma 1), .ref (ma 2), .null, .int 1, .int 10, .int 900, .ref (ma 3), .ref (ma 4), .int 0, .int 0, .int 0, .ref (ma 5), .int 1000, .int 50, .int 50, .int 1000, .int 10, .int 0, .int 3000, .int 0, .int 0, .int 0]))] H := hP
                    have hD : va_D (AL s) [((xa 13), .inr (12, [.ref (xa 14), .ref (xa 15), .ref (xa 16), .ref (xa 17), .int 0])), ((xa 14), .inl (cy 1, 8, .inl (fun _ => 0))), ((xa 15), .inl (cy 1, 8, .inl (fun _ => 0))), ((xa 16), .inl (cy 1, 8, .inl (fun _ => 0))), ((xa 17), .inl (cy 1, 8, .inl (fun _ => 0))), (aj, .inl (cy 2, 1, .inr (.inl (fun _ => 0)))), (am, .inr (15, [.int 2, .ref (ma 0), .int 0, .int 0, .int 0, .int 0, .ref (ma 1), .ref (ma 2), .null, .int 1, .int 10, .int 900, .ref (ma 3), .ref (ma 4), .int 0, .int 0, .int 0, .ref (ma 5), .int 1000, .int 50, .int 50, .int 1000, .int 10, .int 0, .int 3000, .int 0, .int 0, .int 0]))] := hD
                    refine lv_iload hx hb dL_law_799 (lv_at hl 1 rfl) ?_
                    refine lv_icmp_eq (tgt := 806) hx hb dL_law_801 (by decide) (fun _ => ?_) (fun z => absurd (by decide) z)
                    refine lv_iload hx hb dL_law_806 (lv_at hl 1 rfl) ?_
                    refine lv_if_ne (tgt := 823) hx hb dL_law_808 (by decide) (fun _ => ?_) (fun z => absurd z (by decide))
                    refine lv_goto (tgt := 2947) hx hb dL_law_823 (by decide) ?_
                    exact law_tail LC hS (Nat.le_of_ble_eq_true rfl) (Nat.le_of_ble_eq_true rfl) (lv_sub hl [2, 7] rfl)

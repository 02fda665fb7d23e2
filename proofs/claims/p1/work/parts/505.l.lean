set_option maxHeartbeats 4000000 in
set_option maxRecDepth 100000 in
theorem lc_46 {p : Program} {e : Env} {s : State} {m : MethodId} {below : List Frame} {meth : Method} {c : Code} {l : Launch} {b : Nat} {xs : Nat → Int32} {D : va_G} {cy : Nat → ClassId} {g : Nat → Nat} (hst : l.stackTraces = false) (LC : LCtx p s m meth c b xs D cy g) (ax am aj ao : Nat) (xa ma : Nat → Nat) (x1 x2 x3 x4 : Int32) (e1 : xs (1 : Int32).toNatClampNeg = x1) (e2 : xs (2 : Int32).toNatClampNeg = x2) (e3 : xs (3 : Int32).toNatClampNeg = x3) (e4 : xs (4 : Int32).toNatClampNeg = x4) {H : Heap} {locs : List Loc} (hP : va_P D vwCl [(ax, .inr (14, [.ref (xa 0), .ref (xa 13), .ref (xa 18), .ref (xa 34), .ref (xa 45), .ref (xa 49), .ref (xa 50)])), (am, .inr (15, [.int 0, .ref (ma 0), .int 0, .int 0, .int 0, .int 0, .ref (ma 1), .ref (ma 2), .null, .int 1, .int 10, .int 900, .ref (ma 3), .ref (ma 4), .int 0, .int 0, .int 0, .ref (ma 5), .int 1000, .int 50, .int 50, .int 1000, .int 10, .int 0, .int 3000, .int 0, .int 0, .int 0])), (aj, .inl (cy 2, 1, .inr (.inl (fun _ => 0))))] H) (hD : va_D (AL s) [(ax, .inr (14, [.ref (xa 0), .ref (xa 13), .ref (xa 18), .ref (xa 34), .ref (xa 45), .ref (xa 49), .ref (xa 50)])), (am, .inr (15, [.int 0, .ref (ma 0), .int 0, .int 0, .int 0, .int 0, .ref (ma 1), .ref (ma 2), .null, .int 1, .int 10, .int 900, .ref (ma 3), .ref (ma 4), .int 0, .int 0, .int 0, .ref (ma 5), .int 1000, .int 50, .int 50, .int 1000, .int 10, .int 0, .int 3000, .int 0, .int 0, .int 0])), (aj, .inl (cy 2, 1, .inr (.inl (fun _ => 0))))]) (hS : va_S (AL s) s.heap H locs) (ls : Array Slot) (hl : lv_has ls 9 [(5, .int 0), (4, .ref ao), (3, .ref aj), (2, .ref am), (1, .ref ax), (0, .ref b)]) : W p l e room_1 s m #[Value.ref b] below meth c H locs 100 1000 (lw_Z below #[Value.ref b] s) (F0 m 2709 ls []) := by
  obtain ⟨hx, hb, hr, hml, hown, hlk, hts, hE, hX, hbl⟩ := id LC
  have hA : ∀ q, s.heap.size ≤ q → (AL s) q := fun _ h => h
  have hbA : ¬ (AL s) b := Nat.not_le.mpr hbl
  by_cases c0 : x1 < 1
  · refine lv_aload_n hx hb dL_law_2709 rfl (lv_at hl 4 rfl) ?_
    refine lv_aload_n hx hb dL_law_2710 rfl (lv_at hl 5 rfl) ?_
    refine lv_iload hx hb dL_law_2711 (lv_at hl 0 rfl) ?_
    refine lv_iconst (v := 1) hx hb dL_law_2713 (by decide) ?_
    refine lv_iadd hx hb dL_law_2714 ?_
    refine tp_i 1 (by decide) ?_
    refine va_sld hx hb hX hbl hbA hS (by unfold vp_in; decide) dL_law_2715 ?_
    refine tp_i x1 e1 ?_
    refine lv_aload_n hx hb dL_law_2716 rfl (lv_at hl 5 rfl) ?_
    refine lv_iload hx hb dL_law_2717 (lv_at hl 0 rfl) ?_
    refine lv_iconst (v := 2) hx hb dL_law_2719 (by decide) ?_
    refine lv_iadd hx hb dL_law_2720 ?_
    refine tp_i 2 (by decide) ?_
    refine va_sld hx hb hX hbl hbA hS (by unfold vp_in; decide) dL_law_2721 ?_
    refine tp_i x2 e2 ?_
    refine lv_aload_n hx hb dL_law_2722 rfl (lv_at hl 5 rfl) ?_
    refine lv_iload hx hb dL_law_2723 (lv_at hl 0 rfl) ?_
    refine lv_iconst (v := 3) hx hb dL_law_2725 (by decide) ?_
    refine lv_iadd hx hb dL_law_2726 ?_
    refine tp_i 3 (by decide) ?_
    refine va_sld hx hb hX hbl hbA hS (by unfold vp_in; decide) dL_law_2727 ?_
    refine tp_i x3 e3 ?_
    refine lv_aload_n hx hb dL_law_2728 rfl (lv_at hl 2 rfl) ?_
    refine ca_i (isC := [0]) (isR := [1, 2]) (wr := [(am, .inr (15, [.int 0, .ref (ma 0), .int 0, .int 0, .int 0, .int 0, .ref (ma 1), .ref (ma 2), .null, .int 1, .int 10, .int 900, .ref (ma 3), .ref (ma 4), .int 0, .int 0, .int 0, .ref (ma 5), .int 1000, .int 50, .int 50, .int 1000, .int 10, .int 0, .int 3000, .int 0, .int 0, .int 0])), (aj, .inl (cy 2, 1, .inr (.inl (fun _ => 0))))]) (rn_SW (isC := [0]) (wc := [(ax, .inr (14, [.ref (xa 0), .ref (xa 13), .ref (xa 18), .ref (xa 34), .ref (xa 45), .ref (xa 49), .ref (xa 50)]))]) (As := [.ref ax, .int x1, .int x2, .int x3, .ref aj]) (rest := []) (n := 5) hx hb hml hown hts hE hS hP hD hA hl.1 (k686_L_bestWork l hst D cy g x1 x2 x3 ax aj (.ref (xa 0)) (.ref (xa 13)) (.ref (xa 18)) (.ref (xa 34)) (.ref (xa 45)) (.ref (xa 49)) (.ref (xa 50)) H.size c0) rfl rfl ax_464 rfl rfl ax_465 ⟨Nat.le_of_ble_eq_true rfl, Nat.le_of_ble_eq_true rfl⟩ rfl rfl (Nat.le_of_ble_eq_true rfl) dL_law_2729 ⟨(Nat.le_of_ble_eq_true rfl), (Nat.le_of_ble_eq_true rfl)⟩) hP hD hS hA rfl rfl rfl (by decide) (fun ad2729 H locs hP hD hS => ?_)
    have hP : va_P D vwCl [(am, .inr (15, [.int 0, .ref (ma 0), .int 0, .int 0, .int 0, .int 0, .ref (ma 1), .ref (ma 2), .null, .int 1, .int 10, .int 900, .ref (ma 3), .ref (ma 4), .int 0, .int 0, .int 0, .ref (ma 5), .int 1000, .int 50, .int 50, .int 1000, .int 10, .int 0, .int 3000, .int 0, .int 0, .int 0])), (aj, .inl (cy 2, 1, .inr (.inl (fun _ => 0))))] H := hP
    have hD : va_D (AL s) [(am, .inr (15, [.int 0, .ref (ma 0), .int 0, .int 0, .int 0, .int 0, .ref (ma 1), .ref (ma 2), .null, .int 1, .int 10, .int 900, .ref (ma 3), .ref (ma 4), .int 0, .int 0, .int 0, .ref (ma 5), .int 1000, .int 50, .int 50, .int 1000, .int 10, .int 0, .int 3000, .int 0, .int 0, .int 0])), (aj, .inl (cy 2, 1, .inr (.inl (fun _ => 0))))] := hD
    refine lv_istore (lv' := [(6, .int 1), (5, .int 0), (4, .ref ao), (3, .ref aj), (2, .ref am), (1, .ref ax), (0, .ref b)]) hx hb dL_law_2732 hl (Nat.le_of_ble_eq_true rfl) rfl (fun ls hl => ?_)
    refine lv_aload_n hx hb dL_law_2734 rfl (lv_at hl 4 rfl) ?_
    refine lv_aload_n hx hb dL_law_2735 rfl (lv_at hl 6 rfl) ?_
    refine lv_iload hx hb dL_law_2736 (lv_at hl 1 rfl) ?_
    refine lv_iconst (v := 1) hx hb dL_law_2738 (by decide) ?_
    refine lv_iadd hx hb dL_law_2739 ?_
    refine tp_i 1 (by decide) ?_
    refine va_sld hx hb hX hbl hbA hS (by unfold vp_in; decide) dL_law_2740 ?_
    refine tp_i x1 e1 ?_
    refine lv_aload_n hx hb dL_law_2741 rfl (lv_at hl 6 rfl) ?_
    refine lv_iload hx hb dL_law_2742 (lv_at hl 1 rfl) ?_
    refine lv_iconst (v := 2) hx hb dL_law_2744 (by decide) ?_
    refine lv_iadd hx hb dL_law_2745 ?_
    refine tp_i 2 (by decide) ?_
    refine va_sld hx hb hX hbl hbA hS (by unfold vp_in; decide) dL_law_2746 ?_
    refine tp_i x2 e2 ?_
    refine lv_aload_n hx hb dL_law_2747 rfl (lv_at hl 6 rfl) ?_
    refine lv_iload hx hb dL_law_2748 (lv_at hl 1 rfl) ?_
    refine lv_iconst (v := 3) hx hb dL_law_2750 (by decide) ?_
    refine lv_iadd hx hb dL_law_2751 ?_
    refine tp_i 3 (by decide) ?_
    refine va_sld hx hb hX hbl hbA hS (by unfold vp_in; decide) dL_law_2752 ?_
    refine tp_i x3 e3 ?_
    refine ca_i (isC := [0]) (isR := [1]) (wr := [(aj, .inl (cy 2, 1, .inr (.inl (fun _ => 0))))]) (rn_V (ci := 15) (q0 := 0) (isC := [0]) (wc := [(am, .inr (15, [.int 0, .ref (ma 0), .int 0, .int 0, .int 0, .int 0, .ref (ma 1), .ref (ma 2), .null, .int 1, .int 10, .int 900, .ref (ma 3), .ref (ma 4), .int 0, .int 0, .int 0, .ref (ma 5), .int 1000, .int 50, .int 50, .int 1000, .int 10, .int 0, .int 3000, .int 0, .int 0, .int 0]))]) (As := [.int x1, .int x2, .int x3]) (rest := []) (n := 3) hx hb hml hown hts hE hS hP hD hA hl.1 (k687_X10_bestWork l D cy g x1 x2 x3 am (.int 0) (.ref (ma 0)) (.int 0) (.int 0) (.int 0) (.int 0) (.ref (ma 1)) (.ref (ma 2)) (.null) (.int 1) (.int 10) (.int 900) (.ref (ma 3)) (.ref (ma 4)) (.int 0) (.int 0) (.int 0) (.ref (ma 5)) (.int 1000) (.int 50) (.int 50) (.int 1000) (.int 10) (.int 0) (.int 3000) (.int 0) (.int 0) (.int 0) H.size c0) rfl rfl rfl rfl rfl ax_466 rfl rfl ax_467 ⟨Nat.le_of_ble_eq_true rfl, Nat.le_of_ble_eq_true rfl⟩ rfl rfl (Nat.le_of_ble_eq_true rfl) dL_law_2753 ⟨(Nat.le_of_ble_eq_true rfl), (Nat.le_of_ble_eq_true rfl)⟩) hP hD hS hA rfl rfl rfl (by decide) (fun ad2753 H locs hP hD hS => ?_)
    have hP : va_P D vwCl [(aj, .inl (cy 2, 1, .inr (.inl (fun _ => 0)))), (am, .inr (15, [.int 1, .ref (ma 0), .int 0, .int 0, .int 0, .int 0, .ref (ma 1), .ref (ma 2), .null, .int 1, .int 10, .int 900, .ref (ma 3), .ref (ma 4), .int 0, .int 0, .int 0, .ref (ma 5), .int 1000, .int 50, .int 50, .int 1000, .int 10, .int 0, .int 3000, .int 0, .int 0, .int 0]))] H := hP
    have hD : va_D (AL s) [(aj, .inl (cy 2, 1, .inr (.inl (fun _ => 0)))), (am, .inr (15, [.int 1, .ref (ma 0), .int 0, .int 0, .int 0, .int 0, .ref (ma 1), .ref (ma 2), .null, .int 1, .int 10, .int 900, .ref (ma 3), .ref (ma 4), .int 0, .int 0, .int 0, .ref (ma 5), .int 1000, .int 50, .int 50, .int 1000, .int 10, .int 0, .int 3000, .int 0, .int 0, .int 0]))] := hD
    refine lv_istore (lv' := [(7, .int (-1)), (6, .int 1), (5, .int 0), (4, .ref ao), (3, .ref aj), (2, .ref am), (1, .ref ax), (0, .ref b)]) hx hb dL_law_2756 hl (Nat.le_of_ble_eq_true rfl) rfl (fun ls hl => ?_)
    refine lv_aload_n hx hb dL_law_2758 rfl (lv_at hl 5 rfl) ?_
    refine ca_i (isC := [1]) (isR := [0]) (wr := [(aj, .inl (cy 2, 1, .inr (.inl (fun _ => 0))))]) (rn_V (ci := 15) (q0 := 1) (isC := [1]) (wc := [(am, .inr (15, [.int 1, .ref (ma 0), .int 0, .int 0, .int 0, .int 0, .ref (ma 1), .ref (ma 2), .null, .int 1, .int 10, .int 900, .ref (ma 3), .ref (ma 4), .int 0, .int 0, .int 0, .ref (ma 5), .int 1000, .int 50, .int 50, .int 1000, .int 10, .int 0, .int 3000, .int 0, .int 0, .int 0]))]) (As := []) (rest := []) (n := 0) hx hb hml hown hts hE hS hP hD hA hl.1 (k24_X10_thrown l D cy g am (.ref (ma 0)) (.int 0) (.int 0) (.int 0) (.int 0) (.ref (ma 1)) (.ref (ma 2)) (.null) (.int 1) (.int 10) (.int 900) (.ref (ma 3)) (.ref (ma 4)) (.int 0) (.int 0) (.int 0) (.ref (ma 5)) (.int 1000) (.int 50) (.int 50) (.int 1000) (.int 10) (.int 0) (.int 3000) (.int 0) (.int 0) (.int 0) H.size ) rfl rfl rfl rfl rfl ax_45 rfl rfl ax_46 ⟨Nat.le_of_ble_eq_true rfl, Nat.le_of_ble_eq_true rfl⟩ rfl rfl (Nat.le_of_ble_eq_true rfl) dL_law_2759 ⟨(Nat.le_of_ble_eq_true rfl), (Nat.le_of_ble_eq_true rfl)⟩) hP hD hS hA rfl rfl rfl (by decide) (fun ad2759 H locs hP hD hS => ?_)
    have hP : va_P D vwCl [(aj, .inl (cy 2, 1, .inr (.inl (fun _ => 0)))), (am, .inr (15, [.int 1, .ref (ma 0), .int 0, .int 0, .int 0, .int 0, .ref (ma 1), .ref (ma 2), .null, .int 1, .int 10, .int 900, .ref (ma 3), .ref (ma 4), .int 0, .int 0, .int 0, .ref (ma 5), .int 1000, .int 50, .int 50, .int 1000, .int 10, .int 0, .int 3000, .int 0, .int 0, .int 0]))] H := hP
    have hD : va_D (AL s) [(aj, .inl (cy 2, 1, .inr (.inl (fun _ => 0)))), (am, .inr (15, [.int 1, .ref (ma 0), .int 0, .int 0, .int 0, .int 0, .ref (ma 1), .ref (ma 2), .null, .int 1, .int 10, .int 900, .ref (ma 3), .ref (ma 4), .int 0, .int 0, .int 0, .ref (ma 5), .int 1000, .int 50, .int 50, .int 1000, .int 10, .int 0, .int 3000, .int 0, .int 0, .int 0]))] := hD
    refine lv_iload hx hb dL_law_2762 (lv_at hl 1 rfl) ?_
    refine lv_icmp_eq (tgt := 2769) hx hb dL_law_2764 (by decide) (fun _ => ?_) (fun z => absurd (by decide) z)
    refine lv_iload hx hb dL_law_2769 (lv_at hl 1 rfl) ?_
    refine lv_if_ne (tgt := 2786) hx hb dL_law_2771 (by decide) (fun _ => ?_) (fun z => absurd z (by decide))
    refine lv_goto (tgt := 2947) hx hb dL_law_2786 (by decide) ?_
    exact law_tail LC hS (Nat.le_of_ble_eq_true rfl) (Nat.le_of_ble_eq_true rfl) (lv_sub hl [2, 7] rfl)
  · by_cases c1 : (100000 : Int32) < x1
    · refine lv_aload_n hx hb dL_law_2709 rfl (lv_at hl 4 rfl) ?_
      refine lv_aload_n hx hb dL_law_2710 rfl (lv_at hl 5 rfl) ?_
      refine lv_iload hx hb dL_law_2711 (lv_at hl 0 rfl) ?_
      refine lv_iconst (v := 1) hx hb dL_law_2713 (by decide) ?_
      refine lv_iadd hx hb dL_law_2714 ?_
      refine tp_i 1 (by decide) ?_
      refine va_sld hx hb hX hbl hbA hS (by unfold vp_in; decide) dL_law_2715 ?_
      refine tp_i x1 e1 ?_
      refine lv_aload_n hx hb dL_law_2716 rfl (lv_at hl 5 rfl) ?_
      refine lv_iload hx hb dL_law_2717 (lv_at hl 0 rfl) ?_
      refine lv_iconst (v := 2) hx hb dL_law_2719 (by decide) ?_
      refine lv_iadd hx hb dL_law_2720 ?_
      refine tp_i 2 (by decide) ?_
      refine va_sld hx hb hX hbl hbA hS (by unfold vp_in; decide) dL_law_2721 ?_
      refine tp_i x2 e2 ?_
      refine lv_aload_n hx hb dL_law_2722 rfl (lv_at hl 5 rfl) ?_
      refine lv_iload hx hb dL_law_2723 (lv_at hl 0 rfl) ?_
      refine lv_iconst (v := 3) hx hb dL_law_2725 (by decide) ?_
      refine lv_iadd hx hb dL_law_2726 ?_
      refine tp_i 3 (by decide) ?_
      refine va_sld hx hb hX hbl hbA hS (by unfold vp_in; decide) dL_law_2727 ?_
      refine tp_i x3 e3 ?_
      refine lv_aload_n hx hb dL_law_2728 rfl (lv_at hl 2 rfl) ?_
      refine ca_i (isC := [0]) (isR := [1, 2]) (wr := [(am, .inr (15, [.int 0, .ref (ma 0), .int 0, .int 0, .int 0, .int 0, .ref (ma 1), .ref (ma 2), .null, .int 1, .int 10, .int 900, .ref (ma 3), .ref (ma 4), .int 0, .int 0, .int 0, .ref (ma 5), .int 1000, .int 50, .int 50, .int 1000, .int 10, .int 0, .int 3000, .int 0, .int 0, .int 0])), (aj, .inl (cy 2, 1, .inr (.inl (fun _ => 0))))]) (rn_SW (isC := [0]) (wc := [(ax, .inr (14, [.ref (xa 0), .ref (xa 13), .ref (xa 18), .ref (xa 34), .ref (xa 45), .ref (xa 49), .ref (xa 50)]))]) (As := [.ref ax, .int x1, .int x2, .int x3, .ref aj]) (rest := []) (n := 5) hx hb hml hown hts hE hS hP hD hA hl.1 (k689_L_bestWork l hst D cy g x1 x2 x3 ax aj (.ref (xa 0)) (.ref (xa 13)) (.ref (xa 18)) (.ref (xa 34)) (.ref (xa 45)) (.ref (xa 49)) (.ref (xa 50)) H.size c0 c1) rfl rfl ax_464 rfl rfl ax_465 ⟨Nat.le_of_ble_eq_true rfl, Nat.le_of_ble_eq_true rfl⟩ rfl rfl (Nat.le_of_ble_eq_true rfl) dL_law_2729 ⟨(Nat.le_of_ble_eq_true rfl), (Nat.le_of_ble_eq_true rfl)⟩) hP hD hS hA rfl rfl rfl (by decide) (fun ad2729 H locs hP hD hS => ?_)
      have hP : va_P D vwCl [(am, .inr (15, [.int 0, .ref (ma 0), .int 0, .int 0, .int 0, .int 0, .ref (ma 1), .ref (ma 2), .null, .int 1, .int 10, .int 900, .ref (ma 3), .ref (ma 4), .int 0, .int 0, .int 0, .ref (ma 5), .int 1000, .int 50, .int 50, .int 1000, .int 10, .int 0, .int 3000, .int 0, .int 0, .int 0])), (aj, .inl (cy 2, 1, .inr (.inl (fun _ => 0))))] H := hP
      have hD : va_D (AL s) [(am, .inr (15, [.int 0, .ref (ma 0), .int 0, .int 0, .int 0, .int 0, .ref (ma 1), .ref (ma 2), .null, .int 1, .int 10, .int 900, .ref (ma 3), .ref (ma 4), .int 0, .int 0, .int 0, .ref (ma 5), .int 1000, .int 50, .int 50, .int 1000, .int 10, .int 0, .int 3000, .int 0, .int 0, .int 0])), (aj, .inl (cy 2, 1, .inr (.inl (fun _ => 0))))] := hD
      refine lv_istore (lv' := [(6, .int 1), (5, .int 0), (4, .ref ao), (3, .ref aj), (2, .ref am), (1, .ref ax), (0, .ref b)]) hx hb dL_law_2732 hl (Nat.le_of_ble_eq_true rfl) rfl (fun ls hl => ?_)
      refine lv_aload_n hx hb dL_law_2734 rfl (lv_at hl 4 rfl) ?_
      refine lv_aload_n hx hb dL_law_2735 rfl (lv_at hl 6 rfl) ?_
      refine lv_iload hx hb dL_law_2736 (lv_at hl 1 rfl) ?_
      refine lv_iconst (v := 1) hx hb dL_law_2738 (by decide) ?_
      refine lv_iadd hx hb dL_law_2739 ?_
      refine tp_i 1 (by decide) ?_
      refine va_sld hx hb hX hbl hbA hS (by unfold vp_in; decide) dL_law_2740 ?_
      refine tp_i x1 e1 ?_
      refine lv_aload_n hx hb dL_law_2741 rfl (lv_at hl 6 rfl) ?_
      refine lv_iload hx hb dL_law_2742 (lv_at hl 1 rfl) ?_
      refine lv_iconst (v := 2) hx hb dL_law_2744 (by decide) ?_
      refine lv_iadd hx hb dL_law_2745 ?_
      refine tp_i 2 (by decide) ?_
      refine va_sld hx hb hX hbl hbA hS (by unfold vp_in; decide) dL_law_2746 ?_
      refine tp_i x2 e2 ?_
      refine lv_aload_n hx hb dL_law_2747 rfl (lv_at hl 6 rfl) ?_
      refine lv_iload hx hb dL_law_2748 (lv_at hl 1 rfl) ?_
      refine lv_iconst (v := 3) hx hb dL_law_2750 (by decide) ?_
      refine lv_iadd hx hb dL_law_2751 ?_
      refine tp_i 3 (by decide) ?_
      refine va_sld hx hb hX hbl hbA hS (by unfold vp_in; decide) dL_law_2752 ?_
      refine tp_i x3 e3 ?_
      refine ca_i (isC := [0]) (isR := [1]) (wr := [(aj, .inl (cy 2, 1, .inr (.inl (fun _ => 0))))]) (rn_V (ci := 15) (q0 := 0) (isC := [0]) (wc := [(am, .inr (15, [.int 0, .ref (ma 0), .int 0, .int 0, .int 0, .int 0, .ref (ma 1), .ref (ma 2), .null, .int 1, .int 10, .int 900, .ref (ma 3), .ref (ma 4), .int 0, .int 0, .int 0, .ref (ma 5), .int 1000, .int 50, .int 50, .int 1000, .int 10, .int 0, .int 3000, .int 0, .int 0, .int 0]))]) (As := [.int x1, .int x2, .int x3]) (rest := []) (n := 3) hx hb hml hown hts hE hS hP hD hA hl.1 (k690_X10_bestWork l D cy g x1 x2 x3 am (.int 0) (.ref (ma 0)) (.int 0) (.int 0) (.int 0) (.int 0) (.ref (ma 1)) (.ref (ma 2)) (.null) (.int 1) (.int 10) (.int 900) (.ref (ma 3)) (.ref (ma 4)) (.int 0) (.int 0) (.int 0) (.ref (ma 5)) (.int 1000) (.int 50) (.int 50) (.int 1000) (.int 10) (.int 0) (.int 3000) (.int 0) (.int 0) (.int 0) H.size c0 c1) rfl rfl rfl rfl rfl ax_466 rfl rfl ax_467 ⟨Nat.le_of_ble_eq_true rfl, Nat.le_of_ble_eq_true rfl⟩ rfl rfl (Nat.le_of_ble_eq_true rfl) dL_law_2753 ⟨(Nat.le_of_ble_eq_true rfl), (Nat.le_of_ble_eq_true rfl)⟩) hP hD hS hA rfl rfl rfl (by decide) (fun ad2753 H locs hP hD hS => ?_)
      have hP : va_P D vwCl [(aj, .inl (cy 2, 1, .inr (.inl (fun _ => 0)))), (am, .inr (15, [.int 1, .ref (ma 0), .int 0, .int 0, .int 0, .int 0, .ref (ma 1), .ref (ma 2), .null, .int 1, .int 10, .int 900, .ref (ma 3), .ref (ma 4), .int 0, .int 0, .int 0, .ref (ma 5), .int 1000, .int 50, .int 50, .int 1000, .int 10, .int 0, .int 3000, .int 0, .int 0, .int 0]))] H := hP
      have hD : va_D (AL s) [(aj, .inl (cy 2, 1, .inr (.inl (fun _ => 0)))), (am, .inr (15, [.int 1, .ref (ma 0), .int 0, .int 0, .int 0, .int 0, .ref (ma 1), .ref (ma 2), .null, .int 1, .int 10, .int 900, .ref (ma 3), .ref (ma 4), .int 0, .int 0, .int 0, .ref (ma 5), .int 1000, .int 50, .int 50, .int 1000, .int 10, .int 0, .int 3000, .int 0, .int 0, .int 0]))] := hD
      refine lv_istore (lv' := [(7, .int (-1)), (6, .int 1), (5, .int 0), (4, .ref ao), (3, .ref aj), (2, .ref am), (1, .ref ax), (0, .ref b)]) hx hb dL_law_2756 hl (Nat.le_of_ble_eq_true rfl) rfl (fun ls hl => ?_)
      refine lv_aload_n hx hb dL_law_2758 rfl (lv_at hl 5 rfl) ?_
      refine ca_i (isC := [1]) (isR := [0]) (wr := [(aj, .inl (cy 2, 1, .inr (.inl (fun _ => 0))))]) (rn_V (ci := 15) (q0 := 1) (isC := [1]) (wc := [(am, .inr (15, [.int 1, .ref (ma 0), .int 0, .int 0, .int 0, .int 0, .ref (ma 1), .ref (ma 2), .null, .int 1, .int 10, .int 900, .ref (ma 3), .ref (ma 4), .int 0, .int 0, .int 0, .ref (ma 5), .int 1000, .int 50, .int 50, .int 1000, .int 10, .int 0, .int 3000, .int 0, .int 0, .int 0]))]) (As := []) (rest := []) (n := 0) hx hb hml hown hts hE hS hP hD hA hl.1 (k24_X10_thrown l D cy g am (.ref (ma 0)) (.int 0) (.int 0) (.int 0) (.int 0) (.ref (ma 1)) (.ref (ma 2)) (.null) (.int 1) (.int 10) (.int 900) (.ref (ma 3)) (.ref (ma 4)) (.int 0) (.int 0) (.int 0) (.ref (ma 5)) (.int 1000) (.int 50) (.int 50) (.int 1000) (.int 10) (.int 0) (.int 3000) (.int 0) (.int 0) (.int 0) H.size ) rfl rfl rfl rfl rfl ax_45 rfl rfl ax_46 ⟨Nat.le_of_ble_eq_true rfl, Nat.le_of_ble_eq_true rfl⟩ rfl rfl (Nat.le_of_ble_eq_true rfl) dL_law_2759 ⟨(Nat.le_of_ble_eq_true rfl), (Nat.le_of_ble_eq_true rfl)⟩) hP hD hS hA rfl rfl rfl (by decide) (fun ad2759 H locs hP hD hS => ?_)
      have hP : va_P D vwCl [(aj, .inl (cy 2, 1, .inr (.inl (fun _ => 0)))), (am, .inr (15, [.int 1, .ref (ma 0), .int 0, .int 0, .int 0, .int 0, .ref (ma 1), .ref (ma 2), .null, .int 1, .int 10, .int 900, .ref (ma 3), .ref (ma 4), .int 0, .int 0, .int 0, .ref (ma 5), .int 1000, .int 50, .int 50, .int 1000, .int 10, .int 0, .int 3000, .int 0, .int 0, .int 0]))] H := hP
      have hD : va_D (AL s) [(aj, .inl (cy 2, 1, .inr (.inl (fun _ => 0)))), (am, .inr (15, [.int 1, .ref (ma 0), .int 0, .int 0, .int 0, .int 0, .ref (ma 1), .ref (ma 2), .null, .int 1, .int 10, .int 900, .ref (ma 3), .ref (ma 4), .int 0, .int 0, .int 0, .ref (ma 5), .int 1000, .int 50, .int 50, .int 1000, .int 10, .int 0, .int 3000, .int 0, .int 0, .int 0]))] := hD
      refine lv_iload hx hb dL_law_2762 (lv_at hl 1 rfl) ?_
      refine lv_icmp_eq (tgt := 2769) hx hb dL_law_2764 (by decide) (fun _ => ?_) (fun z => absurd (by decide) z)
      refine lv_iload hx hb dL_law_2769 (lv_at hl 1 rfl) ?_
      refine lv_if_ne (tgt := 2786) hx hb dL_law_2771 (by decide) (fun _ => ?_) (fun z => absurd z (by decide))
      refine lv_goto (tgt := 2947) hx hb dL_law_2786 (by decide) ?_
      exact law_tail LC hS (Nat.le_of_ble_eq_true rfl) (Nat.le_of_ble_eq_true rfl) (lv_sub hl [2, 7] rfl)
    · by_cases c2 : x2 < 50
      · refine lv_aload_n hx hb dL_law_2709 rfl (lv_at hl 4 rfl) ?_
        refine lv_aload_n hx hb dL_law_2710 rfl (lv_at hl 5 rfl) ?_
        refine lv_iload hx hb dL_law_2711 (lv_at hl 0 rfl) ?_
        refine lv_iconst (v := 1) hx hb dL_law_2713 (by decide) ?_
        refine lv_iadd hx hb dL_law_2714 ?_
        refine tp_i 1 (by decide) ?_
        refine va_sld hx hb hX hbl hbA hS (by unfold vp_in; decide) dL_law_2715 ?_
        refine tp_i x1 e1 ?_
        refine lv_aload_n hx hb dL_law_2716 rfl (lv_at hl 5 rfl) ?_
        refine lv_iload hx hb dL_law_2717 (lv_at hl 0 rfl) ?_
        refine lv_iconst (v := 2) hx hb dL_law_2719 (by decide) ?_
        refine lv_iadd hx hb dL_law_2720 ?_
        refine tp_i 2 (by decide) ?_
        refine va_sld hx hb hX hbl hbA hS (by unfold vp_in; decide) dL_law_2721 ?_
        refine tp_i x2 e2 ?_
        refine lv_aload_n hx hb dL_law_2722 rfl (lv_at hl 5 rfl) ?_
        refine lv_iload hx hb dL_law_2723 (lv_at hl 0 rfl) ?_
        refine lv_iconst (v := 3) hx hb dL_law_2725 (by decide) ?_
        refine lv_iadd hx hb dL_law_2726 ?_
        refine tp_i 3 (by decide) ?_
        refine va_sld hx hb hX hbl hbA hS (by unfold vp_in; decide) dL_law_2727 ?_
        refine tp_i x3 e3 ?_
        refine lv_aload_n hx hb dL_law_2728 rfl (lv_at hl 2 rfl) ?_
        refine ca_i (isC := [0]) (isR := [1, 2]) (wr := [(am, .inr (15, [.int 0, .ref (ma 0), .int 0, .int 0, .int 0, .int 0, .ref (ma 1), .ref (ma 2), .null, .int 1, .int 10, .int 900, .ref (ma 3), .ref (ma 4), .int 0, .int 0, .int 0, .ref (ma 5), .int 1000, .int 50, .int 50, .int 1000, .int 10, .int 0, .int 3000, .int 0, .int 0, .int 0])), (aj, .inl (cy 2, 1, .inr (.inl (fun _ => 0))))]) (rn_SW (isC := [0]) (wc := [(ax, .inr (14, [.ref (xa 0), .ref (xa 13), .ref (xa 18), .ref (xa 34), .ref (xa 45), .ref (xa 49), .ref (xa 50)]))]) (As := [.ref ax, .int x1, .int x2, .int x3, .ref aj]) (rest := []) (n := 5) hx hb hml hown hts hE hS hP hD hA hl.1 (k692_L_bestWork l hst D cy g x1 x2 x3 ax aj (.ref (xa 0)) (.ref (xa 13)) (.ref (xa 18)) (.ref (xa 34)) (.ref (xa 45)) (.ref (xa 49)) (.ref (xa 50)) H.size c0 c1 c2) rfl rfl ax_464 rfl rfl ax_465 ⟨Nat.le_of_ble_eq_true rfl, Nat.le_of_ble_eq_true rfl⟩ rfl rfl (Nat.le_of_ble_eq_true rfl) dL_law_2729 ⟨(Nat.le_of_ble_eq_true rfl), (Nat.le_of_ble_eq_true rfl)⟩) hP hD hS hA rfl rfl rfl (by decide) (fun ad2729 H locs hP hD hS => ?_)
        have hP : va_P D vwCl [(am, .inr (15, [.int 0, .ref (ma 0), .int 0, .int 0, .int 0, .int 0, .ref (ma 1), .ref (ma 2), .null, .int 1, .int 10, .int 900, .ref (ma 3), .ref (ma 4), .int 0, .int 0, .int 0, .ref (ma 5), .int 1000, .int 50, .int 50, .int 1000, .int 10, .int 0, .int 3000, .int 0, .int 0, .int 0])), (aj, .inl (cy 2, 1, .inr (.inl (fun _ => 0))))] H := hP
        have hD : va_D (AL s) [(am, .inr (15, [.int 0, .ref (ma 0), .int 0, .int 0, .int 0, .int 0, .ref (ma 1), .ref (ma 2), .null, .int 1, .int 10, .int 900, .ref (ma 3), .ref (ma 4), .int 0, .int 0, .int 0, .ref (ma 5), .int 1000, .int 50, .int 50, .int 1000, .int 10, .int 0, .int 3000, .int 0, .int 0, .int 0])), (aj, .inl (cy 2, 1, .inr (.inl (fun _ => 0))))] := hD
        refine lv_istore (lv' := [(6, .int 1), (5, .int 0), (4, .ref ao), (3, .ref aj), (2, .ref am), (1, .ref ax), (0, .ref b)]) hx hb dL_law_2732 hl (Nat.le_of_ble_eq_true rfl) rfl (fun ls hl => ?_)
        refine lv_aload_n hx hb dL_law_2734 rfl (lv_at hl 4 rfl) ?_
        refine lv_aload_n hx hb dL_law_2735 rfl (lv_at hl 6 rfl) ?_
        refine lv_iload hx hb dL_law_2736 (lv_at hl 1 rfl) ?_
        refine lv_iconst (v := 1) hx hb dL_law_2738 (by decide) ?_
        refine lv_iadd hx hb dL_law_2739 ?_
        refine tp_i 1 (by decide) ?_
        refine va_sld hx hb hX hbl hbA hS (by unfold vp_in; decide) dL_law_2740 ?_
        refine tp_i x1 e1 ?_
        refine lv_aload_n hx hb dL_law_2741 rfl (lv_at hl 6 rfl) ?_
        refine lv_iload hx hb dL_law_2742 (lv_at hl 1 rfl) ?_
        refine lv_iconst (v := 2) hx hb dL_law_2744 (by decide) ?_
        refine lv_iadd hx hb dL_law_2745 ?_
        refine tp_i 2 (by decide) ?_
        refine va_sld hx hb hX hbl hbA hS (by unfold vp_in; decide) dL_law_2746 ?_
        refine tp_i x2 e2 ?_
        refine lv_aload_n hx hb dL_law_2747 rfl (lv_at hl 6 rfl) ?_
        refine lv_iload hx hb dL_law_2748 (lv_at hl 1 rfl) ?_
        refine lv_iconst (v := 3) hx hb dL_law_2750 (by decide) ?_
        refine lv_iadd hx hb dL_law_2751 ?_
        refine tp_i 3 (by decide) ?_
        refine va_sld hx hb hX hbl hbA hS (by unfold vp_in; decide) dL_law_2752 ?_
        refine tp_i x3 e3 ?_
        refine ca_i (isC := [0]) (isR := [1]) (wr := [(aj, .inl (cy 2, 1, .inr (.inl (fun _ => 0))))]) (rn_V (ci := 15) (q0 := 0) (isC := [0]) (wc := [(am, .inr (15, [.int 0, .ref (ma 0), .int 0, .int 0, .int 0, .int 0, .ref (ma 1), .ref (ma 2), .null, .int 1, .int 10, .int 900, .ref (ma 3), .ref (ma 4), .int 0, .int 0, .int 0, .ref (ma 5), .int 1000, .int 50, .int 50, .int 1000, .int 10, .int 0, .int 3000, .int 0, .int 0, .int 0]))]) (As := [.int x1, .int x2, .int x3]) (rest := []) (n := 3) hx hb hml hown hts hE hS hP hD hA hl.1 (k693_X10_bestWork l D cy g x1 x2 x3 am (.int 0) (.ref (ma 0)) (.int 0) (.int 0) (.int 0) (.int 0) (.ref (ma 1)) (.ref (ma 2)) (.null) (.int 1) (.int 10) (.int 900) (.ref (ma 3)) (.ref (ma 4)) (.int 0) (.int 0) (.int 0) (.ref (ma 5)) (.int 1000) (.int 50) (.int 50) (.int 1000) (.int 10) (.int 0) (.int 3000) (.int 0) (.int 0) (.int 0) H.size c0 c1 c2) rfl rfl rfl rfl rfl ax_466 rfl rfl ax_467 ⟨Nat.le_of_ble_eq_true rfl, Nat.le_of_ble_eq_true rfl⟩ rfl rfl (Nat.le_of_ble_eq_true rfl) dL_law_2753 ⟨(Nat.le_of_ble_eq_true rfl), (Nat.le_of_ble_eq_true rfl)⟩) hP hD hS hA rfl rfl rfl (by decide) (fun ad2753 H locs hP hD hS => ?_)
        have hP : va_P D vwCl [(aj, .inl (cy 2, 1, .inr (.inl (fun _ => 0)))), (am, .inr (15, [.int 1, .ref (ma 0), .int 0, .int 0, .int 0, .int 0, .ref (ma 1), .ref (ma 2), .null, .int 1, .int 10, .int 900, .ref (ma 3), .ref (ma 4), .int 0, .int 0, .int 0, .ref (ma 5), .int 1000, .int 50, .int 50, .int 1000, .int 10, .int 0, .int 3000, .int 0, .int 0, .int 0]))] H := hP
        have hD : va_D (AL s) [(aj, .inl (cy 2, 1, .inr (.inl (fun _ => 0)))), (am, .inr (15, [.int 1, .ref (ma 0), .int 0, .int 0, .int 0, .int 0, .ref (ma 1), .ref (ma 2), .null, .int 1, .int 10, .int 900, .ref (ma 3), .ref (ma 4), .int 0, .int 0, .int 0, .ref (ma 5), .int 1000, .int 50, .int 50, .int 1000, .int 10, .int 0, .int 3000, .int 0, .int 0, .int 0]))] := hD
        refine lv_istore (lv' := [(7, .int (-1)), (6, .int 1), (5, .int 0), (4, .ref ao), (3, .ref aj), (2, .ref am), (1, .ref ax), (0, .ref b)]) hx hb dL_law_2756 hl (Nat.le_of_ble_eq_true rfl) rfl (fun ls hl => ?_)
        refine lv_aload_n hx hb dL_law_2758 rfl (lv_at hl 5 rfl) ?_
        refine ca_i (isC := [1]) (isR := [0]) (wr := [(aj, .inl (cy 2, 1, .inr (.inl (fun _ => 0))))]) (rn_V (ci := 15) (q0 := 1) (isC := [1]) (wc := [(am, .inr (15, [.int 1, .ref (ma 0), .int 0, .int 0, .int 0, .int 0, .ref (ma 1), .ref (ma 2), .null, .int 1, .int 10, .int 900, .ref (ma 3), .ref (ma 4), .int 0, .int 0, .int 0, .ref (ma 5), .int 1000, .int 50, .int 50, .int 1000, .int 10, .int 0, .int 3000, .int 0, .int 0, .int 0]))]) (As := []) (rest := []) (n := 0) hx hb hml hown hts hE hS hP hD hA hl.1 (k24_X10_thrown l D cy g am (.ref (ma 0)) (.int 0) (.int 0) (.int 0) (.int 0) (.ref (ma 1)) (.ref (ma 2)) (.null) (.int 1) (.int 10) (.int 900) (.ref (ma 3)) (.ref (ma 4)) (.int 0) (.int 0) (.int 0) (.ref (ma 5)) (.int 1000) (.int 50) (.int 50) (.int 1000) (.int 10) (.int 0) (.int 3000) (.int 0) (.int 0) (.int 0) H.size ) rfl rfl rfl rfl rfl ax_45 rfl rfl ax_46 ⟨Nat.le_of_ble_eq_true rfl, Nat.le_of_ble_eq_true rfl⟩ rfl rfl (Nat.le_of_ble_eq_true rfl) dL_law_2759 ⟨(Nat.le_of_ble_eq_true rfl), (Nat.le_of_ble_eq_true rfl)⟩) hP hD hS hA rfl rfl rfl (by decide) (fun ad2759 H locs hP hD hS => ?_)
        have hP : va_P D vwCl [(aj, .inl (cy 2, 1, .inr (.inl (fun _ => 0)))), (am, .inr (15, [.int 1, .ref (ma 0), .int 0, .int 0, .int 0, .int 0, .ref (ma 1), .ref (ma 2), .null, .int 1, .int 10, .int 900, .ref (ma 3), .ref (ma 4), .int 0, .int 0, .int 0, .ref (ma 5), .int 1000, .int 50, .int 50, .int 1000, .int 10, .int 0, .int 3000, .int 0, .int 0, .int 0]))] H := hP
        have hD : va_D (AL s) [(aj, .inl (cy 2, 1, .inr (.inl (fun _ => 0)))), (am, .inr (15, [.int 1, .ref (ma 0), .int 0, .int 0, .int 0, .int 0, .ref (ma 1), .ref (ma 2), .null, .int 1, .int 10, .int 900, .ref (ma 3), .ref (ma 4), .int 0, .int 0, .int 0, .ref (ma 5), .int 1000, .int 50, .int 50, .int 1000, .int 10, .int 0, .int 3000, .int 0, .int 0, .int 0]))] := hD
        refine lv_iload hx hb dL_law_2762 (lv_at hl 1 rfl) ?_
        refine lv_icmp_eq (tgt := 2769) hx hb dL_law_2764 (by decide) (fun _ => ?_) (fun z => absurd (by decide) z)
        refine lv_iload hx hb dL_law_2769 (lv_at hl 1 rfl) ?_
        refine lv_if_ne (tgt := 2786) hx hb dL_law_2771 (by decide) (fun _ => ?_) (fun z => absurd z (by decide))
        refine lv_goto (tgt := 2947) hx hb dL_law_2786 (by decide) ?_
        exact law_tail LC hS (Nat.le_of_ble_eq_true rfl) (Nat.le_of_ble_eq_true rfl) (lv_sub hl [2, 7] rfl)
      · by_cases c3 : (2000 : Int32) < x2
        · refine lv_aload_n hx hb dL_law_2709 rfl (lv_at hl 4 rfl) ?_
          refine lv_aload_n hx hb dL_law_2710 rfl (lv_at hl 5 rfl) ?_
          refine lv_iload hx hb dL_law_2711 (lv_at hl 0 rfl) ?_
          refine lv_iconst (v := 1) hx hb dL_law_2713 (by decide) ?_
          refine lv_iadd hx hb dL_law_2714 ?_
          refine tp_i 1 (by decide) ?_
          refine va_sld hx hb hX hbl hbA hS (by unfold vp_in; decide) dL_law_2715 ?_
          refine tp_i x1 e1 ?_
          refine lv_aload_n hx hb dL_law_2716 rfl (lv_at hl 5 rfl) ?_
          refine lv_iload hx hb dL_law_2717 (lv_at hl 0 rfl) ?_
          refine lv_iconst (v := 2) hx hb dL_law_2719 (by decide) ?_
          refine lv_iadd hx hb dL_law_2720 ?_
          refine tp_i 2 (by decide) ?_
          refine va_sld hx hb hX hbl hbA hS (by unfold vp_in; decide) dL_law_2721 ?_
          refine tp_i x2 e2 ?_
          refine lv_aload_n hx hb dL_law_2722 rfl (lv_at hl 5 rfl) ?_
          refine lv_iload hx hb dL_law_2723 (lv_at hl 0 rfl) ?_
          refine lv_iconst (v := 3) hx hb dL_law_2725 (by decide) ?_
          refine lv_iadd hx hb dL_law_2726 ?_
          refine tp_i 3 (by decide) ?_
          refine va_sld hx hb hX hbl hbA hS (by unfold vp_in; decide) dL_law_2727 ?_
          refine tp_i x3 e3 ?_
          refine lv_aload_n hx hb dL_law_2728 rfl (lv_at hl 2 rfl) ?_
          refine ca_i (isC := [0]) (isR := [1, 2]) (wr := [(am, .inr (15, [.int 0, .ref (ma 0), .int 0, .int 0, .int 0, .int 0, .ref (ma 1), .ref (ma 2), .null, .int 1, .int 10, .int 900, .ref (ma 3), .ref (ma 4), .int 0, .int 0, .int 0, .ref (ma 5), .int 1000, .int 50, .int 50, .int 1000, .int 10, .int 0, .int 3000, .int 0, .int 0, .int 0])), (aj, .inl (cy 2, 1, .inr (.inl (fun _ => 0))))]) (rn_SW (isC := [0]) (wc := [(ax, .inr (14, [.ref (xa 0), .ref (xa 13), .ref (xa 18), .ref (xa 34), .ref (xa 45), .ref (xa 49), .ref (xa 50)]))]) (As := [.ref ax, .int x1, .int x2, .int x3, .ref aj]) (rest := []) (n := 5) hx hb hml hown hts hE hS hP hD hA hl.1 (k695_L_bestWork l hst D cy g x1 x2 x3 ax aj (.ref (xa 0)) (.ref (xa 13)) (.ref (xa 18)) (.ref (xa 34)) (.ref (xa 45)) (.ref (xa 49)) (.ref (xa 50)) H.size c0 c1 c2 c3) rfl rfl ax_464 rfl rfl ax_465 ⟨Nat.le_of_ble_eq_true rfl, Nat.le_of_ble_eq_true rfl⟩ rfl rfl (Nat.le_of_ble_eq_true rfl) dL_law_2729 ⟨(Nat.le_of_ble_eq_true rfl), (Nat.le_of_ble_eq_true rfl)⟩) hP hD hS hA rfl rfl rfl (by decide) (fun ad2729 H locs hP hD hS => ?_)
          have hP : va_P D vwCl [(am, .inr (15, [.int 0, .ref (ma 0), .int 0, .int 0, .int 0, .int 0, .ref (ma 1), .ref (ma 2), .null, .int 1, .int 10, .int 900, .ref (ma 3), .ref (ma 4), .int 0, .int 0, .int 0, .ref (ma 5), .int 1000, .int 50, .int 50, .int 1000, .int 10, .int 0, .int 3000, .int 0, .int 0, .int 0])), (aj, .inl (cy 2, 1, .inr (.inl (fun _ => 0))))] H := hP
          have hD : va_D (AL s) [(am, .inr (15, [.int 0, .ref (ma 0), .int 0, .int 0, .int 0, .int 0, .ref (ma 1), .ref (ma 2), .null, .int 1, .int 10, .int 900, .ref (ma 3), .ref (ma 4), .int 0, .int 0, .int 0, .ref (ma 5), .int 1000, .int 50, .int 50, .int 1000, .int 10, .int 0, .int 3000, .int 0, .int 0, .int 0])), (aj, .inl (cy 2, 1, .inr (.inl (fun _ => 0))))] := hD
          refine lv_istore (lv' := [(6, .int 1), (5, .int 0), (4, .ref ao), (3, .ref aj), (2, .ref am), (1, .ref ax), (0, .ref b)]) hx hb dL_law_2732 hl (Nat.le_of_ble_eq_true rfl) rfl (fun ls hl => ?_)
          refine lv_aload_n hx hb dL_law_2734 rfl (lv_at hl 4 rfl) ?_
          refine lv_aload_n hx hb dL_law_2735 rfl (lv_at hl 6 rfl) ?_
          refine lv_iload hx hb dL_law_2736 (lv_at hl 1 rfl) ?_
          refine lv_iconst (v := 1) hx hb dL_law_2738 (by decide) ?_
          refine lv_iadd hx hb dL_law_2739 ?_
          refine tp_i 1 (by decide) ?_
          refine va_sld hx hb hX hbl hbA hS (by unfold vp_in; decide) dL_law_2740 ?_
          refine tp_i x1 e1 ?_
          refine lv_aload_n hx hb dL_law_2741 rfl (lv_at hl 6 rfl) ?_
          refine lv_iload hx hb dL_law_2742 (lv_at hl 1 rfl) ?_
          refine lv_iconst (v := 2) hx hb dL_law_2744 (by decide) ?_
          refine lv_iadd hx hb dL_law_2745 ?_
          refine tp_i 2 (by decide) ?_
          refine va_sld hx hb hX hbl hbA hS (by unfold vp_in; decide) dL_law_2746 ?_
          refine tp_i x2 e2 ?_
          refine lv_aload_n hx hb dL_law_2747 rfl (lv_at hl 6 rfl) ?_
          refine lv_iload hx hb dL_law_2748 (lv_at hl 1 rfl) ?_
          refine lv_iconst (v := 3) hx hb dL_law_2750 (by decide) ?_
          refine lv_iadd hx hb dL_law_2751 ?_
          refine tp_i 3 (by decide) ?_
          refine va_sld hx hb hX hbl hbA hS (by unfold vp_in; decide) dL_law_2752 ?_
          refine tp_i x3 e3 ?_
          refine ca_i (isC := [0]) (isR := [1]) (wr := [(aj, .inl (cy 2, 1, .inr (.inl (fun _ => 0))))]) (rn_V (ci := 15) (q0 := 0) (isC := [0]) (wc := [(am, .inr (15, [.int 0, .ref (ma 0), .int 0, .int 0, .int 0, .int 0, .ref (ma 1), .ref (ma 2), .null, .int 1, .int 10, .int 900, .ref (ma 3), .ref (ma 4), .int 0, .int 0, .int 0, .ref (ma 5), .int 1000, .int 50, .int 50, .int 1000, .int 10, .int 0, .int 3000, .int 0, .int 0, .int 0]))]) (As := [.int x1, .int x2, .int x3]) (rest := []) (n := 3) hx hb hml hown hts hE hS hP hD hA hl.1 (k696_X10_bestWork l D cy g x1 x2 x3 am (.int 0) (.ref (ma 0)) (.int 0) (.int 0) (.int 0) (.int 0) (.ref (ma 1)) (.ref (ma 2)) (.null) (.int 1) (.int 10) (.int 900) (.ref (ma 3)) (.ref (ma 4)) (.int 0) (.int 0) (.int 0) (.ref (ma 5)) (.int 1000) (.int 50) (.int 50) (.int 1000) (.int 10) (.int 0) (.int 3000) (.int 0) (.int 0) (.int 0) H.size c0 c1 c2 c3) rfl rfl rfl rfl rfl ax_466 rfl rfl ax_467 ⟨Nat.le_of_ble_eq_true rfl, Nat.le_of_ble_eq_true rfl⟩ rfl rfl (Nat.le_of_ble_eq_true rfl) dL_law_2753 ⟨(Nat.le_of_ble_eq_true rfl), (Nat.le_of_ble_eq_true rfl)⟩) hP hD hS hA rfl rfl rfl (by decide) (fun ad2753 H locs hP hD hS => ?_)
          have hP : va_P D vwCl [(aj, .inl (cy 2, 1, .inr (.inl (fun _ => 0)))), (am, .inr (15, [.int 1, .ref (ma 0), .int 0, .int 0, .int 0, .int 0, .ref (ma 1), .ref (ma 2), .null, .int 1, .int 10, .int 900, .ref (ma 3), .ref (ma 4), .int 0, .int 0, .int 0, .ref (ma 5), .int 1000, .int 50, .int 50, .int 1000, .int 10, .int 0, .int 3000, .int 0, .int 0, .int 0]))] H := hP
          have hD : va_D (AL s) [(aj, .inl (cy 2, 1, .inr (.inl (fun _ => 0)))), (am, .inr (15, [.int 1, .ref (ma 0), .int 0, .int 0, .int 0, .int 0, .ref (ma 1), .ref (ma 2), .null, .int 1, .int 10, .int 900, .ref (ma 3), .ref (ma 4), .int 0, .int 0, .int 0, .ref (ma 5), .int 1000, .int 50, .int 50, .int 1000, .int 10, .int 0, .int 3000, .int 0, .int 0, .int 0]))] := hD
          refine lv_istore (lv' := [(7, .int (-1)), (6, .int 1), (5, .int 0), (4, .ref ao), (3, .ref aj), (2, .ref am), (1, .ref ax), (0, .ref b)]) hx hb dL_law_2756 hl (Nat.le_of_ble_eq_true rfl) rfl (fun ls hl => ?_)
          refine lv_aload_n hx hb dL_law_2758 rfl (lv_at hl 5 rfl) ?_
          refine ca_i (isC := [1]) (isR := [0]) (wr := [(aj, .inl (cy 2, 1, .inr (.inl (fun _ => 0))))]) (rn_V (ci := 15) (q0 := 1) (isC := [1]) (wc := [(am, .inr (15, [.int 1, .ref (ma 0), .int 0, .int 0, .int 0, .int 0, .ref (ma 1), .ref (ma 2), .null, .int 1, .int 10, .int 900, .ref (ma 3), .ref (ma 4), .int 0, .int 0, .int 0, .ref (ma 5), .int 1000, .int 50, .int 50, .int 1000, .int 10, .int 0, .int 3000, .int 0, .int 0, .int 0]))]) (As := []) (rest := []) (n := 0) hx hb hml hown hts hE hS hP hD hA hl.1 (k24_X10_thrown l D cy g am (.ref (ma 0)) (.int 0) (.int 0) (.int 0) (.int 0) (.ref (ma 1)) (.ref (ma 2)) (.null) (.int 1) (.int 10) (.int 900) (.ref (ma 3)) (.ref (ma 4)) (.int 0) (.int 0) (.int 0) (.ref (ma 5)) (.int 1000) (.int 50) (.int 50) (.int 1000) (.int 10) (.int 0) (.int 3000) (.int 0) (.int 0) (.int 0) H.size ) rfl rfl rfl rfl rfl ax_45 rfl rfl ax_46 ⟨Nat.le_of_ble_eq_true rfl, Nat.le_of_ble_eq_true rfl⟩ rfl rfl (Nat.le_of_ble_eq_true rfl) dL_law_2759 ⟨(Nat.le_of_ble_eq_true rfl), (Nat.le_of_ble_eq_true rfl)⟩) hP hD hS hA rfl rfl rfl (by decide) (fun ad2759 H locs hP hD hS => ?_)
          have hP : va_P D vwCl [(aj, .inl (cy 2, 1, .inr (.inl (fun _ => 0)))), (am, .inr (15, [.int 1, .ref (ma 0), .int 0, .int 0, .int 0, .int 0, .ref (ma 1), .ref (ma 2), .null, .int 1, .int 10, .int 900, .ref (ma 3), .ref (ma 4), .int 0, .int 0, .int 0, .ref (ma 5), .int 1000, .int 50, .int 50, .int 1000, .int 10, .int 0, .int 3000, .int 0, .int 0, .int 0]))] H := hP
          have hD : va_D (AL s) [(aj, .inl (cy 2, 1, .inr (.inl (fun _ => 0)))), (am, .inr (15, [.int 1, .ref (ma 0), .int 0, .int 0, .int 0, .int 0, .ref (ma 1), .ref (ma 2), .null, .int 1, .int 10, .int 900, .ref (ma 3), .ref (ma 4), .int 0, .int 0, .int 0, .ref (ma 5), .int 1000, .int 50, .int 50, .int 1000, .int 10, .int 0, .int 3000, .int 0, .int 0, .int 0]))] := hD
          refine lv_iload hx hb dL_law_2762 (lv_at hl 1 rfl) ?_
          refine lv_icmp_eq (tgt := 2769) hx hb dL_law_2764 (by decide) (fun _ => ?_) (fun z => absurd (by decide) z)
          refine lv_iload hx hb dL_law_2769 (lv_at hl 1 rfl) ?_
          refine lv_if_ne (tgt := 2786) hx hb dL_law_2771 (by decide) (fun _ => ?_) (fun z => absurd z (by decide))
          refine lv_goto (tgt := 2947) hx hb dL_law_2786 (by decide) ?_
          exact law_tail LC hS (Nat.le_of_ble_eq_true rfl) (Nat.le_of_ble_eq_true rfl) (lv_sub hl [2, 7] rfl)
        · by_cases c4 : x3 < 50
          · refine lv_aload_n hx hb dL_law_2709 rfl (lv_at hl 4 rfl) ?_
            refine lv_aload_n hx hb dL_law_2710 rfl (lv_at hl 5 rfl) ?_
            refine lv_iload hx hb dL_law_2711 (lv_at hl 0 rfl) ?_
            refine lv_iconst (v := 1) hx hb dL_law_2713 (by decide) ?_
            refine lv_iadd hx hb dL_law_2714 ?_
            refine tp_i 1 (by decide) ?_
            refine va_sld hx hb hX hbl hbA hS (by unfold vp_in; decide) dL_law_2715 ?_
            refine tp_i x1 e1 ?_
            refine lv_aload_n hx hb dL_law_2716 rfl (lv_at hl 5 rfl) ?_
            refine lv_iload hx hb dL_law_2717 (lv_at hl 0 rfl) ?_
            refine lv_iconst (v := 2) hx hb dL_law_2719 (by decide) ?_
            refine lv_iadd hx hb dL_law_2720 ?_
            refine tp_i 2 (by decide) ?_
            refine va_sld hx hb hX hbl hbA hS (by unfold vp_in; decide) dL_law_2721 ?_
            refine tp_i x2 e2 ?_
            refine lv_aload_n hx hb dL_law_2722 rfl (lv_at hl 5 rfl) ?_
            refine lv_iload hx hb dL_law_2723 (lv_at hl 0 rfl) ?_
            refine lv_iconst (v := 3) hx hb dL_law_2725 (by decide) ?_
            refine lv_iadd hx hb dL_law_2726 ?_
            refine tp_i 3 (by decide) ?_
            refine va_sld hx hb hX hbl hbA hS (by unfold vp_in; decide) dL_law_2727 ?_
            refine tp_i x3 e3 ?_
            refine lv_aload_n hx hb dL_law_2728 rfl (lv_at hl 2 rfl) ?_
            refine ca_i (isC := [0]) (isR := [1, 2]) (wr := [(am, .inr (15, [.int 0, .ref (ma 0), .int 0, .int 0, .int 0, .int 0, .ref (ma 1), .ref (ma 2), .null, .int 1, .int 10, .int 900, .ref (ma 3), .ref (ma 4), .int 0, .int 0, .int 0, .ref (ma 5), .int 1000, .int 50, .int 50, .int 1000, .int 10, .int 0, .int 3000, .int 0, .int 0, .int 0])), (aj, .inl (cy 2, 1, .inr (.inl (fun _ => 0))))]) (rn_SW (isC := [0]) (wc := [(ax, .inr (14, [.ref (xa 0), .ref (xa 13), .ref (xa 18), .ref (xa 34), .ref (xa 45), .ref (xa 49), .ref (xa 50)]))]) (As := [.ref ax, .int x1, .int x2, .int x3, .ref aj]) (rest := []) (n := 5) hx hb hml hown hts hE hS hP hD hA hl.1 (k698_L_bestWork l hst D cy g x1 x2 x3 ax aj (.ref (xa 0)) (.ref (xa 13)) (.ref (xa 18)) (.ref (xa 34)) (.ref (xa 45)) (.ref (xa 49)) (.ref (xa 50)) H.size c0 c1 c2 c3 c4) rfl rfl ax_464 rfl rfl ax_465 ⟨Nat.le_of_ble_eq_true rfl, Nat.le_of_ble_eq_true rfl⟩ rfl rfl (Nat.le_of_ble_eq_true rfl) dL_law_2729 ⟨(Nat.le_of_ble_eq_true rfl), (Nat.le_of_ble_eq_true rfl)⟩) hP hD hS hA rfl rfl rfl (by decide) (fun ad2729 H locs hP hD hS => ?_)
            have hP : va_P D vwCl [(am, .inr (15, [.int 0, .ref (ma 0), .int 0, .int 0, .int 0, .int 0, .ref (ma 1), .ref (ma 2), .null, .int 1, .int 10, .int 900, .ref (ma 3), .ref (ma 4), .int 0, .int 0, .int 0, .ref (ma 5), .int 1000, .int 50, .int 50, .int 1000, .int 10, .int 0, .int 3000, .int 0, .int 0, .int 0])), (aj, .inl (cy 2, 1, .inr (.inl (fun _ => 0))))] H := hP
            have hD : va_D (AL s) [(am, .inr (15, [.int 0, .ref (ma 0), .int 0, .int 0, .int 0, .int 0, .ref (ma 1), .ref (ma 2), .null, .int 1, .int 10, .int 900, .ref (ma 3), .ref (ma 4), .int 0, .int 0, .int 0, .ref (ma 5), .int 1000, .int 50, .int 50, .int 1000, .int 10, .int 0, .int 3000, .int 0, .int 0, .int 0])), (aj, .inl (cy 2, 1, .inr (.inl (fun _ => 0))))] := hD
            refine lv_istore (lv' := [(6, .int 1), (5, .int 0), (4, .ref ao), (3, .ref aj), (2, .ref am), (1, .ref ax), (0, .ref b)]) hx hb dL_law_2732 hl (Nat.le_of_ble_eq_true rfl) rfl (fun ls hl => ?_)
            refine lv_aload_n hx hb dL_law_2734 rfl (lv_at hl 4 rfl) ?_
            refine lv_aload_n hx hb dL_law_2735 rfl (lv_at hl 6 rfl) ?_
            refine lv_iload hx hb dL_law_2736 (lv_at hl 1 rfl) ?_
            refine lv_iconst (v := 1) hx hb dL_law_2738 (by decide) ?_
            refine lv_iadd hx hb dL_law_2739 ?_
            refine tp_i 1 (by decide) ?_
            refine va_sld hx hb hX hbl hbA hS (by unfold vp_in; decide) dL_law_2740 ?_
            refine tp_i x1 e1 ?_
            refine lv_aload_n hx hb dL_law_2741 rfl (lv_at hl 6 rfl) ?_
            refine lv_iload hx hb dL_law_2742 (lv_at hl 1 rfl) ?_
            refine lv_iconst (v := 2) hx hb dL_law_2744 (by decide) ?_
            refine lv_iadd hx hb dL_law_2745 ?_
            refine tp_i 2 (by decide) ?_
            refine va_sld hx hb hX hbl hbA hS (by unfold vp_in; decide) dL_law_2746 ?_
            refine tp_i x2 e2 ?_
            refine lv_aload_n hx hb dL_law_2747 rfl (lv_at hl 6 rfl) ?_
            refine lv_iload hx hb dL_law_2748 (lv_at hl 1 rfl) ?_
            refine lv_iconst (v := 3) hx hb dL_law_2750 (by decide) ?_
            refine lv_iadd hx hb dL_law_2751 ?_
            refine tp_i 3 (by decide) ?_
            refine va_sld hx hb hX hbl hbA hS (by unfold vp_in; decide) dL_law_2752 ?_
            refine tp_i x3 e3 ?_
            refine ca_i (isC := [0]) (isR := [1]) (wr := [(aj, .inl (cy 2, 1, .inr (.inl (fun _ => 0))))]) (rn_V (ci := 15) (q0 := 0) (isC := [0]) (wc := [(am, .inr (15, [.int 0, .ref (ma 0), .int 0, .int 0, .int 0, .int 0, .ref (ma 1), .ref (ma 2), .null, .int 1, .int 10, .int 900, .ref (ma 3), .ref (ma 4), .int 0, .int 0, .int 0, .ref (ma 5), .int 1000, .int 50, .int 50, .int 1000, .int 10, .int 0, .int 3000, .int 0, .int 0, .int 0]))]) (As := [.int x1, .int x2, .int x3]) (rest := []) (n := 3) hx hb hml hown hts hE hS hP hD hA hl.1 (k699_X10_bestWork l D cy g x1 x2 x3 am (.int 0) (.ref (ma 0)) (.int 0) (.int 0) (.int 0) (.int 0) (.ref (ma 1)) (.ref (ma 2)) (.null) (.int 1) (.int 10) (.int 900) (.ref (ma 3)) (.ref (ma 4)) (.int 0) (.int 0) (.int 0) (.ref (ma 5)) (.int 1000) (.int 50) (.int 50) (.int 1000) (.int 10) (.int 0) (.int 3000) (.int 0) (.int 0) (.int 0) H.size c0 c1 c2 c3 c4) rfl rfl rfl rfl rfl ax_466 rfl rfl ax_467 ⟨Nat.le_of_ble_eq_true rfl, Nat.le_of_ble_eq_true rfl⟩ rfl rfl (Nat.le_of_ble_eq_true rfl) dL_law_2753 ⟨(Nat.le_of_ble_eq_true rfl), (Nat.le_of_ble_eq_true rfl)⟩) hP hD hS hA rfl rfl rfl (by decide) (fun ad2753 H locs hP hD hS => ?_)
            have hP : va_P D vwCl [(aj, .inl (cy 2, 1, .inr (.inl (fun _ => 0)))), (am, .inr (15, [.int 1, .ref (ma 0), .int 0, .int 0, .int 0, .int 0, .ref (ma 1), .ref (ma 2), .null, .int 1, .int 10, .int 900, .ref (ma 3), .ref (ma 4), .int 0, .int 0, .int 0, .ref (ma 5), .int 1000, .int 50, .int 50, .int 1000, .int 10, .int 0, .int 3000, .int 0, .int 0, .int 0]))] H := hP
            have hD : va_D (AL s) [(aj, .inl (cy 2, 1, .inr (.inl (fun _ => 0)))), (am, .inr (15, [.int 1, .ref (ma 0), .int 0, .int 0, .int 0, .int 0, .ref (ma 1), .ref (ma 2), .null, .int 1, .int 10, .int 900, .ref (ma 3), .ref (ma 4), .int 0, .int 0, .int 0, .ref (ma 5), .int 1000, .int 50, .int 50, .int 1000, .int 10, .int 0, .int 3000, .int 0, .int 0, .int 0]))] := hD
            refine lv_istore (lv' := [(7, .int (-1)), (6, .int 1), (5, .int 0), (4, .ref ao), (3, .ref aj), (2, .ref am), (1, .ref ax), (0, .ref b)]) hx hb dL_law_2756 hl (Nat.le_of_ble_eq_true rfl) rfl (fun ls hl => ?_)
            refine lv_aload_n hx hb dL_law_2758 rfl (lv_at hl 5 rfl) ?_
            refine ca_i (isC := [1]) (isR := [0]) (wr := [(aj, .inl (cy 2, 1, .inr (.inl (fun _ => 0))))]) (rn_V (ci := 15) (q0 := 1) (isC := [1]) (wc := [(am, .inr (15, [.int 1, .ref (ma 0), .int 0, .int 0, .int 0, .int 0, .ref (ma 1), .ref (ma 2), .null, .int 1, .int 10, .int 900, .ref (ma 3), .ref (ma 4), .int 0, .int 0, .int 0, .ref (ma 5), .int 1000, .int 50, .int 50, .int 1000, .int 10, .int 0, .int 3000, .int 0, .int 0, .int 0]))]) (As := []) (rest := []) (n := 0) hx hb hml hown hts hE hS hP hD hA hl.1 (k24_X10_thrown l D cy g am (.ref (ma 0)) (.int 0) (.int 0) (.int 0) (.int 0) (.ref (ma 1)) (.ref (ma 2)) (.null) (.int 1) (.int 10) (.int 900) (.ref (ma 3)) (.ref (ma 4)) (.int 0) (.int 0) (.int 0) (.ref (ma 5)) (.int 1000) (.int 50) (.int 50) (.int 1000) (.int 10) (.int 0) (.int 3000) (.int 0) (.int 0) (.int 0) H.size ) rfl rfl rfl rfl rfl ax_45 rfl rfl ax_46 ⟨Nat.le_of_ble_eq_true rfl, Nat.le_of_ble_eq_true rfl⟩ rfl rfl (Nat.le_of_ble_eq_true rfl) dL_law_2759 ⟨(Nat.le_of_ble_eq_true rfl), (Nat.le_of_ble_eq_true rfl)⟩) hP hD hS hA rfl rfl rfl (by decide) (fun ad2759 H locs hP hD hS => ?_)
            have hP : va_P D vwCl [(aj, .inl (cy 2, 1, .inr (.inl (fun _ => 0)))), (am, .inr (15, [.int 1, .ref (ma 0), .int 0, .int 0, .int 0, .int 0, .ref (ma 1), .ref (ma 2), .null, .int 1, .int 10, .int 900, .ref (ma 3), .ref (ma 4), .int 0, .int 0, .int 0, .ref (ma 5), .int 1000, .int 50, .int 50, .int 1000, .int 10, .int 0, .int 3000, .int 0, .int 0, .int 0]))] H := hP
            have hD : va_D (AL s) [(aj, .inl (cy 2, 1, .inr (.inl (fun _ => 0)))), (am, .inr (15, [.int 1, .ref (ma 0), .int 0, .int 0, .int 0, .int 0, .ref (ma 1), .ref (ma 2), .null, .int 1, .int 10, .int 900, .ref (ma 3), .ref (ma 4), .int 0, .int 0, .int 0, .ref (ma 5), .int 1000, .int 50, .int 50, .int 1000, .int 10, .int 0, .int 3000, .int 0, .int 0, .int 0]))] := hD
            refine lv_iload hx hb dL_law_2762 (lv_at hl 1 rfl) ?_
            refine lv_icmp_eq (tgt := 2769) hx hb dL_law_2764 (by decide) (fun _ => ?_) (fun z => absurd (by decide) z)
            refine lv_iload hx hb dL_law_2769 (lv_at hl 1 rfl) ?_
            refine lv_if_ne (tgt := 2786) hx hb dL_law_2771 (by decide) (fun _ => ?_) (fun z => absurd z (by decide))
            refine lv_goto (tgt := 2947) hx hb dL_law_2786 (by decide) ?_
            exact law_tail LC hS (Nat.le_of_ble_eq_true rfl) (Nat.le_of_ble_eq_true rfl) (lv_sub hl [2, 7] rfl)
          · by_cases c5 : (2000 : Int32) < x3
            · refine lv_aload_n hx hb dL_law_2709 rfl (lv_at hl 4 rfl) ?_
              refine lv_aload_n hx hb dL_law_2710 rfl (lv_at hl 5 rfl) ?_
              refine lv_iload hx hb dL_law_2711 (lv_at hl 0 rfl) ?_
              refine lv_iconst (v := 1) hx hb dL_law_2713 (by decide) ?_
              refine lv_iadd hx hb dL_law_2714 ?_
              refine tp_i 1 (by decide) ?_
              refine va_sld hx hb hX hbl hbA hS (by unfold vp_in; decide) dL_law_2715 ?_
              refine tp_i x1 e1 ?_
              refine lv_aload_n hx hb dL_law_2716 rfl (lv_at hl 5 rfl) ?_
              refine lv_iload hx hb dL_law_2717 (lv_at hl 0 rfl) ?_
              refine lv_iconst (v := 2) hx hb dL_law_2719 (by decide) ?_
              refine lv_iadd hx hb dL_law_2720 ?_
              refine tp_i 2 (by decide) ?_
              refine va_sld hx hb hX hbl hbA hS (by unfold vp_in; decide) dL_law_2721 ?_
              refine tp_i x2 e2 ?_
              refine lv_aload_n hx hb dL_law_2722 rfl (lv_at hl 5 rfl) ?_
              refine lv_iload hx hb dL_law_2723 (lv_at hl 0 rfl) ?_
              refine lv_iconst (v := 3) hx hb dL_law_2725 (by decide) ?_
              refine lv_iadd hx hb dL_law_2726 ?_
              refine tp_i 3 (by decide) ?_
              refine va_sld hx hb hX hbl hbA hS (by unfold vp_in; decide) dL_law_2727 ?_
              refine tp_i x3 e3 ?_
              refine lv_aload_n hx hb dL_law_2728 rfl (lv_at hl 2 rfl) ?_
              refine ca_i (isC := [0]) (isR := [1, 2]) (wr := [(am, .inr (15, [.int 0, .ref (ma 0), .int 0, .int 0, .int 0, .int 0, .ref (ma 1), .ref (ma 2), .null, .int 1, .int 10, .int 900, .ref (ma 3), .ref (ma 4), .int 0, .int 0, .int 0, .ref (ma 5), .int 1000, .int 50, .int 50, .int 1000, .int 10, .int 0, .int 3000, .int 0, .int 0, .int 0])), (aj, .inl (cy 2, 1, .inr (.inl (fun _ => 0))))]) (rn_SW (isC := [0]) (wc := [(ax, .inr (14, [.ref (xa 0), .ref (xa 13), .ref (xa 18), .ref (xa 34), .ref (xa 45), .ref (xa 49), .ref (xa 50)]))]) (As := [.ref ax, .int x1, .int x2, .int x3, .ref aj]) (rest := []) (n := 5) hx hb hml hown hts hE hS hP hD hA hl.1 (k701_L_bestWork l hst D cy g x1 x2 x3 ax aj (.ref (xa 0)) (.ref (xa 13)) (.ref (xa 18)) (.ref (xa 34)) (.ref (xa 45)) (.ref (xa 49)) (.ref (xa 50)) H.size c0 c1 c2 c3 c4 c5) rfl rfl ax_464 rfl rfl ax_465 ⟨Nat.le_of_ble_eq_true rfl, Nat.le_of_ble_eq_true rfl⟩ rfl rfl (Nat.le_of_ble_eq_true rfl) dL_law_2729 ⟨(Nat.le_of_ble_eq_true rfl), (Nat.le_of_ble_eq_true rfl)⟩) hP hD hS hA rfl rfl rfl (by decide) (fun ad2729 H locs hP hD hS => ?_)
              have hP : va_P D vwCl [(am, .inr (15, [.int 0, .ref (ma 0), .int 0, .int 0, .int 0, .int 0, .ref (ma 1), .ref (ma 2), .null, .int 1, .int 10, .int 900, .ref (ma 3), .ref (ma 4), .int 0, .int 0, .int 0, .ref (ma 5), .int 1000, .int 50, .int 50, .int 1000, .int 10, .int 0, .int 3000, .int 0, .int 0, .int 0])), (aj, .inl (cy 2, 1, .inr (.inl (fun _ => 0))))] H := hP
              have hD : va_D (AL s) [(am, .inr (15, [.int 0, .ref (ma 0), .int 0, .int 0, .int 0, .int 0, .ref (ma 1), .ref (ma 2), .null, .int 1, .int 10, .int 900, .ref (ma 3), .ref (ma 4), .int 0, .int 0, .int 0, .ref (ma 5), .int 1000, .int 50, .int 50, .int 1000, .int 10, .int 0, .int 3000, .int 0, .int 0, .int 0])), (aj, .inl (cy 2, 1, .inr (.inl (fun _ => 0))))] := hD
              refine lv_istore (lv' := [(6, .int 1), (5, .int 0), (4, .ref ao), (3, .ref aj), (2, .ref am), (1, .ref ax), (0, .ref b)]) hx hb dL_law_2732 hl (Nat.le_of_ble_eq_true rfl) rfl (fun ls hl => ?_)
              refine lv_aload_n hx hb dL_law_2734 rfl (lv_at hl 4 rfl) ?_
              refine lv_aload_n hx hb dL_law_2735 rfl (lv_at hl 6 rfl) ?_
              refine lv_iload hx hb dL_law_2736 (lv_at hl 1 rfl) ?_
              refine lv_iconst (v := 1) hx hb dL_law_2738 (by decide) ?_
              refine lv_iadd hx hb dL_law_2739 ?_
              refine tp_i 1 (by decide) ?_
              refine va_sld hx hb hX hbl hbA hS (by unfold vp_in; decide) dL_law_2740 ?_
              refine tp_i x1 e1 ?_
              refine lv_aload_n hx hb dL_law_2741 rfl (lv_at hl 6 rfl) ?_
              refine lv_iload hx hb dL_law_2742 (lv_at hl 1 rfl) ?_
              refine lv_iconst (v := 2) hx hb dL_law_2744 (by decide) ?_
              refine lv_iadd hx hb dL_law_2745 ?_
              refine tp_i 2 (by decide) ?_
              refine va_sld hx hb hX hbl hbA hS (by unfold vp_in; decide) dL_law_2746 ?_
              refine tp_i x2 e2 ?_
              refine lv_aload_n hx hb dL_law_2747 rfl (lv_at hl 6 rfl) ?_
              refine lv_iload hx hb dL_law_2748 (lv_at hl 1 rfl) ?_
              refine lv_iconst (v := 3) hx hb dL_law_2750 (by decide) ?_
              refine lv_iadd hx hb dL_law_2751 ?_
              refine tp_i 3 (by decide) ?_
              refine va_sld hx hb hX hbl hbA hS (by unfold vp_in; decide) dL_law_2752 ?_
              refine tp_i x3 e3 ?_
              refine ca_i (isC := [0]) (isR := [1]) (wr := [(aj, .inl (cy 2, 1, .inr (.inl (fun _ => 0))))]) (rn_V (ci := 15) (q0 := 0) (isC := [0]) (wc := [(am, .inr (15, [.int 0, .ref (ma 0), .int 0, .int 0, .int 0, .int 0, .ref (ma 1), .ref (ma 2), .null, .int 1, .int 10, .int 900, .ref (ma 3), .ref (ma 4), .int 0, .int 0, .int 0, .ref (ma 5), .int 1000, .int 50, .int 50, .int 1000, .int 10, .int 0, .int 3000, .int 0, .int 0, .int 0]))]) (As := [.int x1, .int x2, .int x3]) (rest := []) (n := 3) hx hb hml hown hts hE hS hP hD hA hl.1 (k702_X10_bestWork l D cy g x1 x2 x3 am (.int 0) (.ref (ma 0)) (.int 0) (.int 0) (.int 0) (.int 0) (.ref (ma 1)) (.ref (ma 2)) (.null) (.int 1) (.int 10) (.int 900) (.ref (ma 3)) (.ref (ma 4)) (.int 0) (.int 0) (.int 0) (.ref (ma 5)) (.int 1000) (.int 50) (.int 50) (.int 1000) (.int 10) (.int 0) (.int 3000) (.int 0) (.int 0) (.int 0) H.size c0 c1 c2 c3 c4 c5) rfl rfl rfl rfl rfl ax_466 rfl rfl ax_467 ⟨Nat.le_of_ble_eq_true rfl, Nat.le_of_ble_eq_true rfl⟩ rfl rfl (Nat.le_of_ble_eq_true rfl) dL_law_2753 ⟨(Nat.le_of_ble_eq_true rfl), (Nat.le_of_ble_eq_true rfl)⟩) hP hD hS hA rfl rfl rfl (by decide) (fun ad2753 H locs hP hD hS => ?_)
              have hP : va_P D vwCl [(aj, .inl (cy 2, 1, .inr (.inl (fun _ => 0)))), (am, .inr (15, [.int 1, .ref (ma 0), .int 0, .int 0, .int 0, .int 0, .ref (ma 1), .ref (ma 2), .null, .int 1, .int 10, .int 900, .ref (ma 3), .ref (ma 4), .int 0, .int 0, .int 0, .ref (ma 5), .int 1000, .int 50, .int 50, .int 1000, .int 10, .int 0, .int 3000, .int 0, .int 0, .int 0]))] H := hP
              have hD : va_D (AL s) [(aj, .inl (cy 2, 1, .inr (.inl (fun _ => 0)))), (am, .inr (15, [.int 1, .ref (ma 0), .int 0, .int 0, .int 0, .int 0, .ref (ma 1), .ref (ma 2), .null, .int 1, .int 10, .int 900, .ref (ma 3), .ref (ma 4), .int 0, .int 0, .int 0, .ref (ma 5), .int 1000, .int 50, .int 50, .int 1000, .int 10, .int 0, .int 3000, .int 0, .int 0, .int 0]))] := hD
              refine lv_istore (lv' := [(7, .int (-1)), (6, .int 1), (5, .int 0), (4, .ref ao), (3, .ref aj), (2, .ref am), (1, .ref ax), (0, .ref b)]) hx hb dL_law_2756 hl (Nat.le_of_ble_eq_true rfl) rfl (fun ls hl => ?_)
              refine lv_aload_n hx hb dL_law_2758 rfl (lv_at hl 5 rfl) ?_
              refine ca_i (isC := [1]) (isR := [0]) (wr := [(aj, .inl (cy 2, 1, .inr (.inl (fun _ => 0))))]) (rn_V (ci := 15) (q0 := 1) (isC := [1]) (wc := [(am, .inr (15, [.int 1, .ref (ma 0), .int 0, .int 0, .int 0, .int 0, .ref (ma 1), .ref (ma 2), .null, .int 1, .int 10, .int 900, .ref (ma 3), .ref (ma 4), .int 0, .int 0, .int 0, .ref (ma 5), .int 1000, .int 50, .int 50, .int 1000, .int 10, .int 0, .int 3000, .int 0, .int 0, .int 0]))]) (As := []) (rest := []) (n := 0) hx hb hml hown hts hE hS hP hD hA hl.1 (k24_X10_thrown l D cy g am (.ref (ma 0)) (.int 0) (.int 0) (.int 0) (.int 0) (.ref (ma 1)) (.ref (ma 2)) (.null) (.int 1) (.int 10) (.int 900) (.ref (ma 3)) (.ref (ma 4)) (.int 0) (.int 0) (.int 0) (.ref (ma 5)) (.int 1000) (.int 50) (.int 50) (.int 1000) (.int 10) (.int 0) (.int 3000) (.int 0) (.int 0) (.int 0) H.size ) rfl rfl rfl rfl rfl ax_45 rfl rfl ax_46 ⟨Nat.le_of_ble_eq_true rfl, Nat.le_of_ble_eq_true rfl⟩ rfl rfl (Nat.le_of_ble_eq_true rfl) dL_law_2759 ⟨(Nat.le_of_ble_eq_true rfl), (Nat.le_of_ble_eq_true rfl)⟩) hP hD hS hA rfl rfl rfl (by decide) (fun ad2759 H locs hP hD hS => ?_)
              have hP : va_P D vwCl [(aj, .inl (cy 2, 1, .inr (.inl (fun _ => 0)))), (am, .inr (15, [.int 1, .ref (ma 0), .int 0, .int 0, .int 0, .int 0, .ref (ma 1), .ref (ma 2), .null, .int 1, .int 10, .int 900, .ref (ma 3), .ref (ma 4), .int 0, .int 0, .int 0, .ref (ma 5), .int 1000, .int 50, .int 50, .int 1000, .int 10, .int 0, .int 3000, .int 0, .int 0, .int 0]))] H := hP
              have hD : va_D (AL s) [(aj, .inl (cy 2, 1, .inr (.inl (fun _ => 0)))), (am, .inr (15, [.int 1, .ref (ma 0), .int 0, .int 0, .int 0, .int 0, .ref (ma 1), .ref (ma 2), .null, .int 1, .int 10, .int 900, .ref (ma 3), .ref (ma 4), .int 0, .int 0, .int 0, .ref (ma 5), .int 1000, .int 50, .int 50, .int 1000, .int 10, .int 0, .int 3000, .int 0, .int 0, .int 0]))] := hD
              refine lv_iload hx hb dL_law_2762 (lv_at hl 1 rfl) ?_
              refine lv_icmp_eq (tgt := 2769) hx hb dL_law_2764 (by decide) (fun _ => ?_) (fun z => absurd (by decide) z)
              refine lv_iload hx hb dL_law_2769 (lv_at hl 1 rfl) ?_
              refine lv_if_ne (tgt := 2786) hx hb dL_law_2771 (by decide) (fun _ => ?_) (fun z => absurd z (by decide))
              refine lv_goto (tgt := 2947) hx hb dL_law_2786 (by decide) ?_
              exact law_tail LC hS (Nat.le_of_ble_eq_true rfl) (Nat.le_of_ble_eq_true rfl) (lv_sub hl [2, 7] rfl)
            · by_cases c6 : x3 < x2
              · by_cases c7 : x1 < (dU ((dU (1000 * x1) x2) * x3) 1000)
                · have d0 : ¬ x2 < 1 := by
                      have w0 : (1 : Int32).toInt = 1 := by decide
                      have w1 : (50 : Int32).toInt = 50 := by decide
                      have w2 : (2000 : Int32).toInt = 2000 := by decide
                      have z0 := c2
                      rw [fa_lt] at z0
                      have z1 := c3
                      rw [fa_lt] at z1
                      rw [fa_lt]
                      omega
                  have d1 : ¬ x2 = 0 := by
                      have w0 : (0 : Int32).toInt = 0 := by decide
                      have w1 : (1 : Int32).toInt = 1 := by decide
                      have w2 : (50 : Int32).toInt = 50 := by decide
                      have w3 : (2000 : Int32).toInt = 2000 := by decide
                      have z0 := c2
                      rw [fa_lt] at z0
                      have z1 := c3
                      rw [fa_lt] at z1
                      have z2 := d0
                      rw [fa_lt] at z2
                      rw [fa_eq]
                      omega
                  have d2 : ¬ x3 = 0 := by
                      have w0 : (0 : Int32).toInt = 0 := by decide
                      have w1 : (50 : Int32).toInt = 50 := by decide
                      have w2 : (2000 : Int32).toInt = 2000 := by decide
                      have z0 := c4
                      rw [fa_lt] at z0
                      have z1 := c5
                      rw [fa_lt] at z1
                      rw [fa_eq]
                      omega
                  refine lv_aload_n hx hb dL_law_2709 rfl (lv_at hl 4 rfl) ?_
                  refine lv_aload_n hx hb dL_law_2710 rfl (lv_at hl 5 rfl) ?_
                  refine lv_iload hx hb dL_law_2711 (lv_at hl 0 rfl) ?_
                  refine lv_iconst (v := 1) hx hb dL_law_2713 (by decide) ?_
                  refine lv_iadd hx hb dL_law_2714 ?_
                  refine tp_i 1 (by decide) ?_
                  refine va_sld hx hb hX hbl hbA hS (by unfold vp_in; decide) dL_law_2715 ?_
                  refine tp_i x1 e1 ?_
                  refine lv_aload_n hx hb dL_law_2716 rfl (lv_at hl 5 rfl) ?_
                  refine lv_iload hx hb dL_law_2717 (lv_at hl 0 rfl) ?_
                  refine lv_iconst (v := 2) hx hb dL_law_2719 (by decide) ?_
                  refine lv_iadd hx hb dL_law_2720 ?_
                  refine tp_i 2 (by decide) ?_
                  refine va_sld hx hb hX hbl hbA hS (by unfold vp_in; decide) dL_law_2721 ?_
                  refine tp_i x2 e2 ?_
                  refine lv_aload_n hx hb dL_law_2722 rfl (lv_at hl 5 rfl) ?_
                  refine lv_iload hx hb dL_law_2723 (lv_at hl 0 rfl) ?_
                  refine lv_iconst (v := 3) hx hb dL_law_2725 (by decide) ?_
                  refine lv_iadd hx hb dL_law_2726 ?_
                  refine tp_i 3 (by decide) ?_
                  refine va_sld hx hb hX hbl hbA hS (by unfold vp_in; decide) dL_law_2727 ?_
                  refine tp_i x3 e3 ?_
                  refine lv_aload_n hx hb dL_law_2728 rfl (lv_at hl 2 rfl) ?_
                  refine ca_i (isC := [0]) (isR := [1, 2]) (wr := [(am, .inr (15, [.int 0, .ref (ma 0), .int 0, .int 0, .int 0, .int 0, .ref (ma 1), .ref (ma 2), .null, .int 1, .int 10, .int 900, .ref (ma 3), .ref (ma 4), .int 0, .int 0, .int 0, .ref (ma 5), .int 1000, .int 50, .int 50, .int 1000, .int 10, .int 0, .int 3000, .int 0, .int 0, .int 0])), (aj, .inl (cy 2, 1, .inr (.inl (fun _ => 0))))]) (rn_SW (isC := [0]) (wc := [(ax, .inr (14, [.ref (xa 0), .ref (xa 13), .ref (xa 18), .ref (xa 34), .ref (xa 45), .ref (xa 49), .ref (xa 50)]))]) (As := [.ref ax, .int x1, .int x2, .int x3, .ref aj]) (rest := []) (n := 5) hx hb hml hown hts hE hS hP hD hA hl.1 (k705_L_bestWork l hst D cy g x1 x2 x3 ax aj (.ref (xa 0)) (.ref (xa 13)) (.ref (xa 18)) (.ref (xa 34)) (.ref (xa 45)) (.ref (xa 49)) (.ref (xa 50)) H.size c0 c1 c2 c3 c4 c5 c6 d0 c7) rfl rfl ax_464 rfl rfl ax_465 ⟨Nat.le_of_ble_eq_true rfl, Nat.le_of_ble_eq_true rfl⟩ rfl rfl (Nat.le_of_ble_eq_true rfl) dL_law_2729 ⟨(Nat.le_of_ble_eq_true rfl), (Nat.le_of_ble_eq_true rfl)⟩) hP hD hS hA rfl rfl rfl (by decide) (fun ad2729 H locs hP hD hS => ?_)
                  have hP : va_P D vwCl [(am, .inr (15, [.int 0, .ref (ma 0), .int 0, .int 0, .int 0, .int 0, .ref (ma 1), .ref (ma 2), .null, .int 1, .int 10, .int 900, .ref (ma 3), .ref (ma 4), .int 0, .int 0, .int 0, .ref (ma 5), .int 1000, .int 50, .int 50, .int 1000, .int 10, .int 0, .int 3000, .int 0, .int 0, .int 0])), (aj, .inl (cy 2, 1, .inr (.inl (fun _ => 0))))] H := hP
                  have hD : va_D (AL s) [(am, .inr (15, [.int 0, .ref (ma 0), .int 0, .int 0, .int 0, .int 0, .ref (ma 1), .ref (ma 2), .null, .int 1, .int 10, .int 900, .ref (ma 3), .ref (ma 4), .int 0, .int 0, .int 0, .ref (ma 5), .int 1000, .int 50, .int 50, .int 1000, .int 10, .int 0, .int 3000, .int 0, .int 0, .int 0])), (aj, .inl (cy 2, 1, .inr (.inl (fun _ => 0))))] := hD
                  refine lv_istore (lv' := [(6, .int 2), (5, .int 0), (4, .ref ao), (3, .ref aj), (2, .ref am), (1, .ref ax), (0, .ref b)]) hx hb dL_law_2732 hl (Nat.le_of_ble_eq_true rfl) rfl (fun ls hl => ?_)
                  refine lv_aload_n hx hb dL_law_2734 rfl (lv_at hl 4 rfl) ?_
                  refine lv_aload_n hx hb dL_law_2735 rfl (lv_at hl 6 rfl) ?_
                  refine lv_iload hx hb dL_law_2736 (lv_at hl 1 rfl) ?_
                  refine lv_iconst (v := 1) hx hb dL_law_2738 (by decide) ?_
                  refine lv_iadd hx hb dL_law_2739 ?_
                  refine tp_i 1 (by decide) ?_
                  refine va_sld hx hb hX hbl hbA hS (by unfold vp_in; decide) dL_law_2740 ?_
                  refine tp_i x1 e1 ?_
                  refine lv_aload_n hx hb dL_law_2741 rfl (lv_at hl 6 rfl) ?_
                  refine lv_iload hx hb dL_law_2742 (lv_at hl 1 rfl) ?_
                  refine lv_iconst (v := 2) hx hb dL_law_2744 (by decide) ?_
                  refine lv_iadd hx hb dL_law_2745 ?_
                  refine tp_i 2 (by decide) ?_
                  refine va_sld hx hb hX hbl hbA hS (by unfold vp_in; decide) dL_law_2746 ?_
                  refine tp_i x2 e2 ?_
                  refine lv_aload_n hx hb dL_law_2747 rfl (lv_at hl 6 rfl) ?_
                  refine lv_iload hx hb dL_law_2748 (lv_at hl 1 rfl) ?_
                  refine lv_iconst (v := 3) hx hb dL_law_2750 (by decide) ?_
                  refine lv_iadd hx hb dL_law_2751 ?_
                  refine tp_i 3 (by decide) ?_
                  refine va_sld hx hb hX hbl hbA hS (by unfold vp_in; decide) dL_law_2752 ?_
                  refine tp_i x3 e3 ?_
                  refine ca_i (isC := [0]) (isR := [1]) (wr := [(aj, .inl (cy 2, 1, .inr (.inl (fun _ => 0))))]) (rn_V (ci := 15) (q0 := 0) (isC := [0]) (wc := [(am, .inr (15, [.int 0, .ref (ma 0), .int 0, .int 0, .int 0, .int 0, .ref (ma 1), .ref (ma 2), .null, .int 1, .int 10, .int 900, .ref (ma 3), .ref (ma 4), .int 0, .int 0, .int 0, .ref (ma 5), .int 1000, .int 50, .int 50, .int 1000, .int 10, .int 0, .int 3000, .int 0, .int 0, .int 0]))]) (As := [.int x1, .int x2, .int x3]) (rest := []) (n := 3) hx hb hml hown hts hE hS hP hD hA hl.1 (k706_X10_bestWork l D cy g x1 x2 x3 am (.int 0) (.ref (ma 0)) (.int 0) (.int 0) (.int 0) (.int 0) (.ref (ma 1)) (.ref (ma 2)) (.null) (.int 1) (.int 10) (.int 900) (.ref (ma 3)) (.ref (ma 4)) (.int 0) (.int 0) (.int 0) (.ref (ma 5)) (.int 1000) (.int 50) (.int 50) (.int 1000) (.int 10) (.int 0) (.int 3000) (.int 0) (.int 0) (.int 0) H.size c0 c1 c2 c3 c4 c5 c6 d1 d2 c7) rfl rfl rfl rfl rfl ax_466 rfl rfl ax_467 ⟨Nat.le_of_ble_eq_true rfl, Nat.le_of_ble_eq_true rfl⟩ rfl rfl (Nat.le_of_ble_eq_true rfl) dL_law_2753 ⟨(Nat.le_of_ble_eq_true rfl), (Nat.le_of_ble_eq_true rfl)⟩) hP hD hS hA rfl rfl rfl (by decide) (fun ad2753 H locs hP hD hS => ?_)
                  have hP : va_P D vwCl [(aj, .inl (cy 2, 1, .inr (.inl (fun _ => 0)))), (am, .inr (15, [.int 2, .ref (ma 0), .int 0, .int 0, .int 0, .int 0, .ref (ma 1), .ref (ma 2), .null, .int 1, .int 10, .int 900, .ref (ma 3), .ref (ma 4), .int 0, .int 0, .int 0, .ref (ma 5), .int 1000, .int 50, .int 50, .int 1000, .int 10, .int 0, .int 3000, .int 0, .int 0, .int 0]))] H := hP
                  have hD : va_D (AL s) [(aj, .inl (cy 2, 1, .inr (.inl (fun _ => 0)))), (am, .inr (15, [.int 2, .ref (ma 0), .int 0, .int 0, .int 0, .int 0, .ref (ma 1), .ref (ma 2), .null, .int 1, .int 10, .int 900, .ref (ma 3), .ref (ma 4), .int 0, .int 0, .int 0, .ref (ma 5), .int 1000, .int 50, .int 50, .int 1000, .int 10, .int 0, .int 3000, .int 0, .int 0, .int 0]))] := hD
                  refine lv_istore (lv' := [(7, .int (-1)), (6, .int 2), (5, .int 0), (4, .ref ao), (3, .ref aj), (2, .ref am), (1, .ref ax), (0, .ref b)]) hx hb dL_law_2756 hl (Nat.le_of_ble_eq_true rfl) rfl (fun ls hl => ?_)
                  refine lv_aload_n hx hb dL_law_2758 rfl (lv_at hl 5 rfl) ?_
                  refine ca_i (isC := [1]) (isR := [0]) (wr := [(aj, .inl (cy 2, 1, .inr (.inl (fun _ => 0))))]) (rn_V (ci := 15) (q0 := 1) (isC := [1]) (wc := [(am, .inr (15, [.int 2, .ref (ma 0), .int 0, .int 0, .int 0, .int 0, .ref (ma 1), .ref (ma 2), .null, .int 1, .int 10, .int 900, .ref (ma 3), .ref (ma 4), .int 0, .int 0, .int 0, .ref (ma 5), .int 1000, .int 50, .int 50, .int 1000, .int 10, .int 0, .int 3000, .int 0, .int 0, .int 0]))]) (As := []) (rest := []) (n := 0) hx hb hml hown hts hE hS hP hD hA hl.1 (k148_X10_thrown l D cy g am (.ref (ma 0)) (.int 0) (.int 0) (.int 0) (.int 0) (.ref (ma 1)) (.ref (ma 2)) (.null) (.int 1) (.int 10) (.int 900) (.ref (ma 3)) (.ref (ma 4)) (.int 0) (.int 0) (.int 0) (.ref (ma 5)) (.int 1000) (.int 50) (.int 50) (.int 1000) (.int 10) (.int 0) (.int 3000) (.int 0) (.int 0) (.int 0) H.size ) rfl rfl rfl rfl rfl ax_45 rfl rfl ax_46 ⟨Nat.le_of_ble_eq_true rfl, Nat.le_of_ble_eq_true rfl⟩ rfl rfl (Nat.le_of_ble_eq_true rfl) dL_law_2759 ⟨(Nat.le_of_ble_eq_true rfl), (Nat.le_of_ble_eq_true rfl)⟩) hP hD hS hA rfl rfl rfl (by decide) (fun ad2759 H locs hP hD hS => ?_)
                  have hP : va_P D vwCl [(aj, .inl (cy 2, 1, .inr (.inl (fun _ => 0)))), (am, .inr (15, [.int 2, .ref (ma 0), .int 0, .int 0, .int 0, .int 0, .ref (ma 1), .ref (ma 2), .null, .int 1, .int 10, .int 900, .ref (ma 3), .ref (ma 4), .int 0, .int 0, .int 0, .ref (ma 5), .int 1000, .int 50, .int 50, .int 1000, .int 10, .int 0, .int 3000, .int 0, .int 0, .int 0]))] H := hP
                  have hD : va_D (AL s) [(aj, .inl (cy 2, 1, .inr (.inl (fun _ => 0)))), (am, .inr (15, [.int 2, .ref (ma 0), .int 0, .int 0, .int 0, .int 0, .ref (ma 1), .ref (ma 2), .null, .int 1, .int 10, .int 900, .ref (ma 3), .ref (ma 4), .int 0, .int 0, .int 0, .ref (ma 5), .int 1000, .int 50, .int 50, .int 1000, .int 10, .int 0, .int 3000, .int 0, .int 0, .int 0]))] := hD
                  refine lv_iload hx hb dL_law_2762 (lv_at hl 1 rfl) ?_
                  refine lv_icmp_eq (tgt := 2769) hx hb dL_law_2764 (by decide) (fun _ => ?_) (fun z => absurd (by decide) z)
                  refine lv_iload hx hb dL_law_2769 (lv_at hl 1 rfl) ?_
                  refine lv_if_ne (tgt := 2786) hx hb dL_law_2771 (by decide) (fun _ => ?_) (fun z => absurd z (by decide))
                  refine lv_goto (tgt := 2947) hx hb dL_law_2786 (by decide) ?_
                  exact law_tail LC hS (Nat.le_of_ble_eq_true rfl) (Nat.le_of_ble_eq_true rfl) (lv_sub hl [2, 7] rfl)
                · have d0 : ¬ x2 < 1 := by
                      have w0 : (1 : Int32).toInt = 1 := by decide
                      have w1 : (50 : Int32).toInt = 50 := by decide
                      have w2 : (2000 : Int32).toInt = 2000 := by decide
                      have z0 := c2
                      rw [fa_lt] at z0
                      have z1 := c3
                      rw [fa_lt] at z1
                      rw [fa_lt]
                      omega
                  have d1 : ¬ x2 = 0 := by
                      have w0 : (0 : Int32).toInt = 0 := by decide
                      have w1 : (1 : Int32).toInt = 1 := by decide
                      have w2 : (50 : Int32).toInt = 50 := by decide
                      have w3 : (2000 : Int32).toInt = 2000 := by decide
                      have z0 := c2
                      rw [fa_lt] at z0
                      have z1 := c3
                      rw [fa_lt] at z1
                      have z2 := d0
                      rw [fa_lt] at z2
                      rw [fa_eq]
                      omega
                  have d2 : ¬ x3 = 0 := by
                      have w0 : (0 : Int32).toInt = 0 := by decide
                      have w1 : (50 : Int32).toInt = 50 := by decide
                      have w2 : (2000 : Int32).toInt = 2000 := by decide
                      have z0 := c4
                      rw [fa_lt] at z0
                      have z1 := c5
                      rw [fa_lt] at z1
                      rw [fa_eq]
                      omega
                  have d3 : ¬ x2 = 0 := by
                      have w0 : (0 : Int32).toInt = 0 := by decide
                      have w1 : (1 : Int32).toInt = 1 := by decide
                      have w2 : (50 : Int32).toInt = 50 := by decide
                      have w3 : (2000 : Int32).toInt = 2000 := by decide
                      have z0 := c2
                      rw [fa_lt] at z0
                      have z1 := c3
                      rw [fa_lt] at z1
                      have z2 := d0
                      rw [fa_lt] at z2
                      have z3 := d1
                      rw [fa_eq] at z3
                      rw [fa_eq]
                      omega
                  have d4 : ¬ x3 = 0 := by
                      have w0 : (0 : Int32).toInt = 0 := by decide
                      have w1 : (50 : Int32).toInt = 50 := by decide
                      have w2 : (2000 : Int32).toInt = 2000 := by decide
                      have z0 := c4
                      rw [fa_lt] at z0
                      have z1 := c5
                      rw [fa_lt] at z1
                      have z2 := d2
                      rw [fa_eq] at z2
                      rw [fa_eq]
                      omega
                  refine lv_aload_n hx hb dL_law_2709 rfl (lv_at hl 4 rfl) ?_
                  refine lv_aload_n hx hb dL_law_2710 rfl (lv_at hl 5 rfl) ?_
                  refine lv_iload hx hb dL_law_2711 (lv_at hl 0 rfl) ?_
                  refine lv_iconst (v := 1) hx hb dL_law_2713 (by decide) ?_
                  refine lv_iadd hx hb dL_law_2714 ?_
                  refine tp_i 1 (by decide) ?_
                  refine va_sld hx hb hX hbl hbA hS (by unfold vp_in; decide) dL_law_2715 ?_
                  refine tp_i x1 e1 ?_
                  refine lv_aload_n hx hb dL_law_2716 rfl (lv_at hl 5 rfl) ?_
                  refine lv_iload hx hb dL_law_2717 (lv_at hl 0 rfl) ?_
                  refine lv_iconst (v := 2) hx hb dL_law_2719 (by decide) ?_
                  refine lv_iadd hx hb dL_law_2720 ?_
                  refine tp_i 2 (by decide) ?_
                  refine va_sld hx hb hX hbl hbA hS (by unfold vp_in; decide) dL_law_2721 ?_
                  refine tp_i x2 e2 ?_
                  refine lv_aload_n hx hb dL_law_2722 rfl (lv_at hl 5 rfl) ?_
                  refine lv_iload hx hb dL_law_2723 (lv_at hl 0 rfl) ?_
                  refine lv_iconst (v := 3) hx hb dL_law_2725 (by decide) ?_
                  refine lv_iadd hx hb dL_law_2726 ?_
                  refine tp_i 3 (by decide) ?_
                  refine va_sld hx hb hX hbl hbA hS (by unfold vp_in; decide) dL_law_2727 ?_
                  refine tp_i x3 e3 ?_
                  refine lv_aload_n hx hb dL_law_2728 rfl (lv_at hl 2 rfl) ?_
                  refine ca_i (isC := [0, 2]) (isR := [1]) (wr := [(am, .inr (15, [.int 0, .ref (ma 0), .int 0, .int 0, .int 0, .int 0, .ref (ma 1), .ref (ma 2), .null, .int 1, .int 10, .int 900, .ref (ma 3), .ref (ma 4), .int 0, .int 0, .int 0, .ref (ma 5), .int 1000, .int 50, .int 50, .int 1000, .int 10, .int 0, .int 3000, .int 0, .int 0, .int 0]))]) (rn_SW (isC := [0, 2]) (wc := [(ax, .inr (14, [.ref (xa 0), .ref (xa 13), .ref (xa 18), .ref (xa 34), .ref (xa 45), .ref (xa 49), .ref (xa 50)])), (aj, .inl (cy 2, 1, .inr (.inl (fun _ => 0))))]) (As := [.ref ax, .int x1, .int x2, .int x3, .ref aj]) (rest := []) (n := 5) hx hb hml hown hts hE hS hP hD hA hl.1 (k708_L_bestWork l D cy g x1 x2 x3 ax aj (.ref (xa 0)) (.ref (xa 13)) (.ref (xa 18)) (.ref (xa 34)) (.ref (xa 45)) (.ref (xa 49)) (.ref (xa 50)) (fun _ => 0) H.size c0 c1 c2 c3 c4 c5 c6 d0 c7) rfl rfl ax_464 rfl rfl ax_465 ⟨Nat.le_of_ble_eq_true rfl, Nat.le_of_ble_eq_true rfl⟩ rfl rfl (Nat.le_of_ble_eq_true rfl) dL_law_2729 ⟨(Nat.le_of_ble_eq_true rfl), (Nat.le_of_ble_eq_true rfl)⟩) hP hD hS hA rfl rfl rfl (by decide) (fun ad2729 H locs hP hD hS => ?_)
                  have hP : va_P D vwCl [(am, .inr (15, [.int 0, .ref (ma 0), .int 0, .int 0, .int 0, .int 0, .ref (ma 1), .ref (ma 2), .null, .int 1, .int 10, .int 900, .ref (ma 3), .ref (ma 4), .int 0, .int 0, .int 0, .ref (ma 5), .int 1000, .int 50, .int 50, .int 1000, .int 10, .int 0, .int 3000, .int 0, .int 0, .int 0])), (aj, .inl (cy 2, 1, .inr (.inl (vp_updL (fun _ => 0) (0 : Int32).toNatClampNeg ((x1 - (dU ((dU (1000 * x1) x2) * x3) 1000)).toInt64)))))] H := hP
                  have hD : va_D (AL s) [(am, .inr (15, [.int 0, .ref (ma 0), .int 0, .int 0, .int 0, .int 0, .ref (ma 1), .ref (ma 2), .null, .int 1, .int 10, .int 900, .ref (ma 3), .ref (ma 4), .int 0, .int 0, .int 0, .ref (ma 5), .int 1000, .int 50, .int 50, .int 1000, .int 10, .int 0, .int 3000, .int 0, .int 0, .int 0])), (aj, .inl (cy 2, 1, .inr (.inl (vp_updL (fun _ => 0) (0 : Int32).toNatClampNeg ((x1 - (dU ((dU (1000 * x1) x2) * x3) 1000)).toInt64)))))] := hD
                  refine lv_istore (lv' := [(6, .int 0), (5, .int 0), (4, .ref ao), (3, .ref aj), (2, .ref am), (1, .ref ax), (0, .ref b)]) hx hb dL_law_2732 hl (Nat.le_of_ble_eq_true rfl) rfl (fun ls hl => ?_)
                  refine lv_aload_n hx hb dL_law_2734 rfl (lv_at hl 4 rfl) ?_
                  refine lv_aload_n hx hb dL_law_2735 rfl (lv_at hl 6 rfl) ?_
                  refine lv_iload hx hb dL_law_2736 (lv_at hl 1 rfl) ?_
                  refine lv_iconst (v := 1) hx hb dL_law_2738 (by decide) ?_
                  refine lv_iadd hx hb dL_law_2739 ?_
                  refine tp_i 1 (by decide) ?_
                  refine va_sld hx hb hX hbl hbA hS (by unfold vp_in; decide) dL_law_2740 ?_
                  refine tp_i x1 e1 ?_
                  refine lv_aload_n hx hb dL_law_2741 rfl (lv_at hl 6 rfl) ?_
                  refine lv_iload hx hb dL_law_2742 (lv_at hl 1 rfl) ?_
                  refine lv_iconst (v := 2) hx hb dL_law_2744 (by decide) ?_
                  refine lv_iadd hx hb dL_law_2745 ?_
                  refine tp_i 2 (by decide) ?_
                  refine va_sld hx hb hX hbl hbA hS (by unfold vp_in; decide) dL_law_2746 ?_
                  refine tp_i x2 e2 ?_
                  refine lv_aload_n hx hb dL_law_2747 rfl (lv_at hl 6 rfl) ?_
                  refine lv_iload hx hb dL_law_2748 (lv_at hl 1 rfl) ?_
                  refine lv_iconst (v := 3) hx hb dL_law_2750 (by decide) ?_
                  refine lv_iadd hx hb dL_law_2751 ?_
                  refine tp_i 3 (by decide) ?_
                  refine va_sld hx hb hX hbl hbA hS (by unfold vp_in; decide) dL_law_2752 ?_
                  refine tp_i x3 e3 ?_
                  refine ca_i (isC := [0]) (isR := [1]) (wr := [(aj, .inl (cy 2, 1, .inr (.inl (vp_updL (fun _ => 0) (0 : Int32).toNatClampNeg ((x1 - (dU ((dU (1000 * x1) x2) * x3) 1000)).toInt64)))))]) (rn_V (ci := 15) (q0 := 0) (isC := [0]) (wc := [(am, .inr (15, [.int 0, .ref (ma 0), .int 0, .int 0, .int 0, .int 0, .ref (ma 1), .ref (ma 2), .null, .int 1, .int 10, .int 900, .ref (ma 3), .ref (ma 4), .int 0, .int 0, .int 0, .ref (ma 5), .int 1000, .int 50, .int 50, .int 1000, .int 10, .int 0, .int 3000, .int 0, .int 0, .int 0]))]) (As := [.int x1, .int x2, .int x3]) (rest := []) (n := 3) hx hb hml hown hts hE hS hP hD hA hl.1 (k709_X10_bestWork l D cy g x1 x2 x3 am (.int 0) (.ref (ma 0)) (.int 0) (.int 0) (.int 0) (.int 0) (.ref (ma 1)) (.ref (ma 2)) (.null) (.int 1) (.int 10) (.int 900) (.ref (ma 3)) (.ref (ma 4)) (.int 0) (.int 0) (.int 0) (.ref (ma 5)) (.int 1000) (.int 50) (.int 50) (.int 1000) (.int 10) (.int 0) (.int 3000) (.int 0) (.int 0) (.int 0) H.size c0 c1 c2 c3 c4 c5 c6 d1 d2 c7) rfl rfl rfl rfl rfl ax_466 rfl rfl ax_467 ⟨Nat.le_of_ble_eq_true rfl, Nat.le_of_ble_eq_true rfl⟩ rfl rfl (Nat.le_of_ble_eq_true rfl) dL_law_2753 ⟨(Nat.le_of_ble_eq_true rfl), (Nat.le_of_ble_eq_true rfl)⟩) hP hD hS hA rfl rfl rfl (by decide) (fun ad2753 H locs hP hD hS => ?_)
                  have hP : va_P D vwCl [(aj, .inl (cy 2, 1, .inr (.inl (vp_updL (fun _ => 0) (0 : Int32).toNatClampNeg ((x1 - (dU ((dU (1000 * x1) x2) * x3) 1000)).toInt64))))), (am, .inr (15, [.int 0, .ref (ma 0), .int 0, .int 0, .int 0, .int 0, .ref (ma 1), .ref (ma 2), .null, .int 1, .int 10, .int 900, .ref (ma 3), .ref (ma 4), .int 0, .int 0, .int 0, .ref (ma 5), .int 1000, .int 50, .int 50, .int 1000, .int 10, .int 0, .int 3000, .int 0, .int 0, .int 0]))] H := hP
                  have hD : va_D (AL s) [(aj, .inl (cy 2, 1, .inr (.inl (vp_updL (fun _ => 0) (0 : Int32).toNatClampNeg ((x1 - (dU ((dU (1000 * x1) x2) * x3) 1000)).toInt64))))), (am, .inr (15, [.int 0, .ref (ma 0), .int 0, .int 0, .int 0, .int 0, .ref (ma 1), .ref (ma 2), .null, .int 1, .int 10, .int 900, .ref (ma 3), .ref (ma 4), .int 0, .int 0, .int 0, .ref (ma 5), .int 1000, .int 50, .int 50, .int 1000, .int 10, .int 0, .int 3000, .int 0, .int 0, .int 0]))] := hD
                  refine lv_istore (lv' := [(7, .int (x1 - (dU ((dU (1000 * x1) x2) * x3) 1000))), (6, .int 0), (5, .int 0), (4, .ref ao), (3, .ref aj), (2, .ref am), (1, .ref ax), (0, .ref b)]) hx hb dL_law_2756 hl (Nat.le_of_ble_eq_true rfl) rfl (fun ls hl => ?_)
                  refine lv_aload_n hx hb dL_law_2758 rfl (lv_at hl 5 rfl) ?_
                  refine ca_i (isC := [1]) (isR := [0]) (wr := [(aj, .inl (cy 2, 1, .inr (.inl (vp_updL (fun _ => 0) (0 : Int32).toNatClampNeg ((x1 - (dU ((dU (1000 * x1) x2) * x3) 1000)).toInt64)))))]) (rn_V (ci := 15) (q0 := 1) (isC := [1]) (wc := [(am, .inr (15, [.int 0, .ref (ma 0), .int 0, .int 0, .int 0, .int 0, .ref (ma 1), .ref (ma 2), .null, .int 1, .int 10, .int 900, .ref (ma 3), .ref (ma 4), .int 0, .int 0, .int 0, .ref (ma 5), .int 1000, .int 50, .int 50, .int 1000, .int 10, .int 0, .int 3000, .int 0, .int 0, .int 0]))]) (As := []) (rest := []) (n := 0) hx hb hml hown hts hE hS hP hD hA hl.1 (k52_X10_thrown l D cy g am (.ref (ma 0)) (.int 0) (.int 0) (.int 0) (.int 0) (.ref (ma 1)) (.ref (ma 2)) (.null) (.int 1) (.int 10) (.int 900) (.ref (ma 3)) (.ref (ma 4)) (.int 0) (.int 0) (.int 0) (.ref (ma 5)) (.int 1000) (.int 50) (.int 50) (.int 1000) (.int 10) (.int 0) (.int 3000) (.int 0) (.int 0) (.int 0) H.size ) rfl rfl rfl rfl rfl ax_45 rfl rfl ax_46 ⟨Nat.le_of_ble_eq_true rfl, Nat.le_of_ble_eq_true rfl⟩ rfl rfl (Nat.le_of_ble_eq_true rfl) dL_law_2759 ⟨(Nat.le_of_ble_eq_true rfl), (Nat.le_of_ble_eq_true rfl)⟩) hP hD hS hA rfl rfl rfl (by decide) (fun ad2759 H locs hP hD hS => ?_)
                  have hP : va_P D vwCl [(aj, .inl (cy 2, 1, .inr (.inl (vp_updL (fun _ => 0) (0 : Int32).toNatClampNeg ((x1 - (dU ((dU (1000 * x1) x2) * x3) 1000)).toInt64))))), (am, .inr (15, [.int 0, .ref (ma 0), .int 0, .int 0, .int 0, .int 0, .ref (ma 1), .ref (ma 2), .null, .int 1, .int 10, .int 900, .ref (ma 3), .ref (ma 4), .int 0, .int 0, .int 0, .ref (ma 5), .int 1000, .int 50, .int 50, .int 1000, .int 10, .int 0, .int 3000, .int 0, .int 0, .int 0]))] H := hP
                  have hD : va_D (AL s) [(aj, .inl (cy 2, 1, .inr (.inl (vp_updL (fun _ => 0) (0 : Int32).toNatClampNeg ((x1 - (dU ((dU (1000 * x1) x2) * x3) 1000)).toInt64))))), (am, .inr (15, [.int 0, .ref (ma 0), .int 0, .int 0, .int 0, .int 0, .ref (ma 1), .ref (ma 2), .null, .int 1, .int 10, .int 900, .ref (ma 3), .ref (ma 4), .int 0, .int 0, .int 0, .ref (ma 5), .int 1000, .int 50, .int 50, .int 1000, .int 10, .int 0, .int 3000, .int 0, .int 0, .int 0]))] := hD
                  refine lv_iload hx hb dL_law_2762 (lv_at hl 1 rfl) ?_
                  refine lv_icmp_eq (tgt := 2769) hx hb dL_law_2764 (by decide) (fun _ => ?_) (fun z => absurd (by decide) z)
                  refine lv_iload hx hb dL_law_2769 (lv_at hl 1 rfl) ?_
                  refine lv_if_ne (tgt := 2786) hx hb dL_law_2771 (by decide) (fun z => absurd (by decide) z) (fun _ => ?_)
                  refine lv_aload_n hx hb dL_law_2774 rfl (lv_at hl 4 rfl) ?_
                  refine lv_iconst (v := 0) hx hb dL_law_2775 (by decide) ?_
                  refine va_lald hx hb hE.1 hP 0 2 rfl rfl (by unfold vp_in; decide) dL_law_2776 ?_
                  refine tp_l ((x1 - (dU ((dU (1000 * x1) x2) * x3) 1000)).toInt64) rfl ?_
                  refine lv_iload hx hb dL_law_2777 (lv_at hl 0 rfl) ?_
                  refine lv_i2l (v := (x1 - (dU ((dU (1000 * x1) x2) * x3) 1000)).toInt64) hx hb dL_law_2779 rfl ?_
                  refine W.lcmp hx hb dL_law_2780 ?_
                  refine lv_if_eq (tgt := 2786) hx hb dL_law_2781 (by decide) (fun _ => ?_) (fun z => absurd ((lg_cmp_eq _ _).mpr rfl) z)
                  refine lv_goto (tgt := 2947) hx hb dL_law_2786 (by decide) ?_
                  exact law_tail LC hS (Nat.le_of_ble_eq_true rfl) (Nat.le_of_ble_eq_true rfl) (lv_sub hl [2, 7] rfl)
              · refine lv_aload_n hx hb dL_law_2709 rfl (lv_at hl 4 rfl) ?_
                refine lv_aload_n hx hb dL_law_2710 rfl (lv_at hl 5 rfl) ?_
                refine lv_iload hx hb dL_law_2711 (lv_at hl 0 rfl) ?_
                refine lv_iconst (v := 1) hx hb dL_law_2713 (by decide) ?_
                refine lv_iadd hx hb dL_law_2714 ?_
                refine tp_i 1 (by decide) ?_
                refine va_sld hx hb hX hbl hbA hS (by unfold vp_in; decide) dL_law_2715 ?_
                refine tp_i x1 e1 ?_
                refine lv_aload_n hx hb dL_law_2716 rfl (lv_at hl 5 rfl) ?_
                refine lv_iload hx hb dL_law_2717 (lv_at hl 0 rfl) ?_
                refine lv_iconst (v := 2) hx hb dL_law_2719 (by decide) ?_
                refine lv_iadd hx hb dL_law_2720 ?_
                refine tp_i 2 (by decide) ?_
                refine va_sld hx hb hX hbl hbA hS (by unfold vp_in; decide) dL_law_2721 ?_
                refine tp_i x2 e2 ?_
                refine lv_aload_n hx hb dL_law_2722 rfl (lv_at hl 5 rfl) ?_
                refine lv_iload hx hb dL_law_2723 (lv_at hl 0 rfl) ?_
                refine lv_iconst (v := 3) hx hb dL_law_2725 (by decide) ?_
                refine lv_iadd hx hb dL_law_2726 ?_
                refine tp_i 3 (by decide) ?_
                refine va_sld hx hb hX hbl hbA hS (by unfold vp_in; decide) dL_law_2727 ?_
                refine tp_i x3 e3 ?_
                refine lv_aload_n hx hb dL_law_2728 rfl (lv_at hl 2 rfl) ?_
                refine ca_i (isC := [0]) (isR := [1, 2]) (wr := [(am, .inr (15, [.int 0, .ref (ma 0), .int 0, .int 0, .int 0, .int 0, .ref (ma 1), .ref (ma 2), .null, .int 1, .int 10, .int 900, .ref (ma 3), .ref (ma 4), .int 0, .int 0, .int 0, .ref (ma 5), .int 1000, .int 50, .int 50, .int 1000, .int 10, .int 0, .int 3000, .int 0, .int 0, .int 0])), (aj, .inl (cy 2, 1, .inr (.inl (fun _ => 0))))]) (rn_SW (isC := [0]) (wc := [(ax, .inr (14, [.ref (xa 0), .ref (xa 13), .ref (xa 18), .ref (xa 34), .ref (xa 45), .ref (xa 49), .ref (xa 50)]))]) (As := [.ref ax, .int x1, .int x2, .int x3, .ref aj]) (rest := []) (n := 5) hx hb hml hown hts hE hS hP hD hA hl.1 (k711_L_bestWork l hst D cy g x1 x2 x3 ax aj (.ref (xa 0)) (.ref (xa 13)) (.ref (xa 18)) (.ref (xa 34)) (.ref (xa 45)) (.ref (xa 49)) (.ref (xa 50)) H.size c0 c1 c2 c3 c4 c5 c6) rfl rfl ax_464 rfl rfl ax_465 ⟨Nat.le_of_ble_eq_true rfl, Nat.le_of_ble_eq_true rfl⟩ rfl rfl (Nat.le_of_ble_eq_true rfl) dL_law_2729 ⟨(Nat.le_of_ble_eq_true rfl), (Nat.le_of_ble_eq_true rfl)⟩) hP hD hS hA rfl rfl rfl (by decide) (fun ad2729 H locs hP hD hS => ?_)
                have hP : va_P D vwCl [(am, .inr (15, [.int 0, .ref (ma 0), .int 0, .int 0, .int 0, .int 0, .ref (ma 1), .ref (ma 2), .null, .int 1, .int 10, .int 900, .ref (ma 3), .ref (ma 4), .int 0, .int 0, .int 0, .ref (ma 5), .int 1000, .int 50, .int 50, .int 1000, .int 10, .int 0, .int 3000, .int 0, .int 0, .int 0])), (aj, .inl (cy 2, 1, .inr (.inl (fun _ => 0))))] H := hP
                have hD : va_D (AL s) [(am, .inr (15, [.int 0, .ref (ma 0), .int 0, .int 0, .int 0, .int 0, .ref (ma 1), .ref (ma 2), .null, .int 1, .int 10, .int 900, .ref (ma 3), .ref (ma 4), .int 0, .int 0, .int 0, .ref (ma 5), .int 1000, .int 50, .int 50, .int 1000, .int 10, .int 0, .int 3000, .int 0, .int 0, .int 0])), (aj, .inl (cy 2, 1, .inr (.inl (fun _ => 0))))] := hD
                refine lv_istore (lv' := [(6, .int 1), (5, .int 0), (4, .ref ao), (3, .ref aj), (2, .ref am), (1, .ref ax), (0, .ref b)]) hx hb dL_law_2732 hl (Nat.le_of_ble_eq_true rfl) rfl (fun ls hl => ?_)
                refine lv_aload_n hx hb dL_law_2734 rfl (lv_at hl 4 rfl) ?_
                refine lv_aload_n hx hb dL_law_2735 rfl (lv_at hl 6 rfl) ?_
                refine lv_iload hx hb dL_law_2736 (lv_at hl 1 rfl) ?_
                refine lv_iconst (v := 1) hx hb dL_law_2738 (by decide) ?_
                refine lv_iadd hx hb dL_law_2739 ?_
                refine tp_i 1 (by decide) ?_
                refine va_sld hx hb hX hbl hbA hS (by unfold vp_in; decide) dL_law_2740 ?_
                refine tp_i x1 e1 ?_
                refine lv_aload_n hx hb dL_law_2741 rfl (lv_at hl 6 rfl) ?_
                refine lv_iload hx hb dL_law_2742 (lv_at hl 1 rfl) ?_
                refine lv_iconst (v := 2) hx hb dL_law_2744 (by decide) ?_
                refine lv_iadd hx hb dL_law_2745 ?_
                refine tp_i 2 (by decide) ?_
                refine va_sld hx hb hX hbl hbA hS (by unfold vp_in; decide) dL_law_2746 ?_
                refine tp_i x2 e2 ?_
                refine lv_aload_n hx hb dL_law_2747 rfl (lv_at hl 6 rfl) ?_
                refine lv_iload hx hb dL_law_2748 (lv_at hl 1 rfl) ?_
                refine lv_iconst (v := 3) hx hb dL_law_2750 (by decide) ?_
                refine lv_iadd hx hb dL_law_2751 ?_
                refine tp_i 3 (by decide) ?_
                refine va_sld hx hb hX hbl hbA hS (by unfold vp_in; decide) dL_law_2752 ?_
                refine tp_i x3 e3 ?_
                refine ca_i (isC := [0]) (isR := [1]) (wr := [(aj, .inl (cy 2, 1, .inr (.inl (fun _ => 0))))]) (rn_V (ci := 15) (q0 := 0) (isC := [0]) (wc := [(am, .inr (15, [.int 0, .ref (ma 0), .int 0, .int 0, .int 0, .int 0, .ref (ma 1), .ref (ma 2), .null, .int 1, .int 10, .int 900, .ref (ma 3), .ref (ma 4), .int 0, .int 0, .int 0, .ref (ma 5), .int 1000, .int 50, .int 50, .int 1000, .int 10, .int 0, .int 3000, .int 0, .int 0, .int 0]))]) (As := [.int x1, .int x2, .int x3]) (rest := []) (n := 3) hx hb hml hown hts hE hS hP hD hA hl.1 (k712_X10_bestWork l D cy g x1 x2 x3 am (.int 0) (.ref (ma 0)) (.int 0) (.int 0) (.int 0) (.int 0) (.ref (ma 1)) (.ref (ma 2)) (.null) (.int 1) (.int 10) (.int 900) (.ref (ma 3)) (.ref (ma 4)) (.int 0) (.int 0) (.int 0) (.ref (ma 5)) (.int 1000) (.int 50) (.int 50) (.int 1000) (.int 10) (.int 0) (.int 3000) (.int 0) (.int 0) (.int 0) H.size c0 c1 c2 c3 c4 c5 c6) rfl rfl rfl rfl rfl ax_466 rfl rfl ax_467 ⟨Nat.le_of_ble_eq_true rfl, Nat.le_of_ble_eq_true rfl⟩ rfl rfl (Nat.le_of_ble_eq_true rfl) dL_law_2753 ⟨(Nat.le_of_ble_eq_true rfl), (Nat.le_of_ble_eq_true rfl)⟩) hP hD hS hA rfl rfl rfl (by decide) (fun ad2753 H locs hP hD hS => ?_)
                have hP : va_P D vwCl [(aj, .inl (cy 2, 1, .inr (.inl (fun _ => 0)))), (am, .inr (15, [.int 1, .ref (ma 0), .int 0, .int 0, .int 0, .int 0, .ref (ma 1), .ref (ma 2), .null, .int 1, .int 10, .int 900, .ref (ma 3), .ref (ma 4), .int 0, .int 0, .int 0, .ref (ma 5), .int 1000, .int 50, .int 50, .int 1000, .int 10, .int 0, .int 3000, .int 0, .int 0, .int 0]))] H := hP
                have hD : va_D (AL s) [(aj, .inl (cy 2, 1, .inr (.inl (fun _ => 0)))), (am, .inr (15, [.int 1, .ref (ma 0), .int 0, .int 0, .int 0, .int 0, .ref (ma 1), .ref (ma 2), .null, .int 1, .int 10, .int 900, .ref (ma 3), .ref (ma 4), .int 0, .int 0, .int 0, .ref (ma 5), .int 1000, .int 50, .int 50, .int 1000, .int 10, .int 0, .int 3000, .int 0, .int 0, .int 0]))] := hD
                refine lv_istore (lv' := [(7, .int (-1)), (6, .int 1), (5, .int 0), (4, .ref ao), (3, .ref aj), (2, .ref am), (1, .ref ax), (0, .ref b)]) hx hb dL_law_2756 hl (Nat.le_of_ble_eq_true rfl) rfl (fun ls hl => ?_)
                refine lv_aload_n hx hb dL_law_2758 rfl (lv_at hl 5 rfl) ?_
                refine ca_i (isC := [1]) (isR := [0]) (wr := [(aj, .inl (cy 2, 1, .inr (.inl (fun _ => 0))))]) (rn_V (ci := 15) (q0 := 1) (isC := [1]) (wc := [(am, .inr (15, [.int 1, .ref (ma 0), .int 0, .int 0, .int 0, .int 0, .ref (ma 1), .ref (ma 2), .null, .int 1, .int 10, .int 900, .ref (ma 3), .ref (ma 4), .int 0, .int 0, .int 0, .ref (ma 5), .int 1000, .int 50, .int 50, .int 1000, .int 10, .int 0, .int 3000, .int 0, .int 0, .int 0]))]) (As := []) (rest := []) (n := 0) hx hb hml hown hts hE hS hP hD hA hl.1 (k24_X10_thrown l D cy g am (.ref (ma 0)) (.int 0) (.int 0) (.int 0) (.int 0) (.ref (ma 1)) (.ref (ma 2)) (.null) (.int 1) (.int 10) (.int 900) (.ref (ma 3)) (.ref (ma 4)) (.int 0) (.int 0) (.int 0) (.ref (ma 5)) (.int 1000) (.int 50) (.int 50) (.int 1000) (.int 10) (.int 0) (.int 3000) (.int 0) (.int 0) (.int 0) H.size ) rfl rfl rfl rfl rfl ax_45 rfl rfl ax_46 ⟨Nat.le_of_ble_eq_true rfl, Nat.le_of_ble_eq_true rfl⟩ rfl rfl (Nat.le_of_ble_eq_true rfl) dL_law_2759 ⟨(Nat.le_of_ble_eq_true rfl), (Nat.le_of_ble_eq_true rfl)⟩) hP hD hS hA rfl rfl rfl (by decide) (fun ad2759 H locs hP hD hS => ?_)
                have hP : va_P D vwCl [(aj, .inl (cy 2, 1, .inr (.inl (fun _ => 0)))), (am, .inr (15, [.int 1, .ref (ma 0), .int 0, .int 0, .int 0, .int 0, .ref (ma 1), .ref (ma 2), .null, .int 1, .int 10, .int 900, .ref (ma 3), .ref (ma 4), .int 0, .int 0, .int 0, .ref (ma 5), .int 1000, .int 50, .int 50, .int 1000, .int 10, .int 0, .int 3000, .int 0, .int 0, .int 0]))] H := hP
                have hD : va_D (AL s) [(aj, .inl (cy 2, 1, .inr (.inl (fun _ => 0)))), (am, .inr (15, [.int 1, .ref (ma 0), .int 0, .int 0, .int 0, .int 0, .ref (ma 1), .ref (ma 2), .null, .int 1, .int 10, .int 900, .ref (ma 3), .ref (ma 4), .int 0, .int 0, .int 0, .ref (ma 5), .int 1000, .int 50, .int 50, .int 1000, .int 10, .int 0, .int 3000, .int 0, .int 0, .int 0]))] := hD
                refine lv_iload hx hb dL_law_2762 (lv_at hl 1 rfl) ?_
                refine lv_icmp_eq (tgt := 2769) hx hb dL_law_2764 (by decide) (fun _ => ?_) (fun z => absurd (by decide) z)
                refine lv_iload hx hb dL_law_2769 (lv_at hl 1 rfl) ?_
                refine lv_if_ne (tgt := 2786) hx hb dL_law_2771 (by decide) (fun _ => ?_) (fun z => absurd z (by decide))
                refine lv_goto (tgt := 2947) hx hb dL_law_2786 (by decide) ?_
                exact law_tail LC hS (Nat.le_of_ble_eq_true rfl) (Nat.le_of_ble_eq_true rfl) (lv_sub hl [2, 7] rfl)
set_option maxHeartbeats 4000000 in
set_option maxRecDepth 100000 in
theorem lc_47 {p : Program} {e : Env} {s : State} {m : MethodId} {below : List Frame} {meth : Method} {c : Code} {l : Launch} {b : Nat} {xs : Nat → Int32} {D : va_G} {cy : Nat → ClassId} {g : Nat → Nat} (hst : l.stackTraces = false) (LC : LCtx p s m meth c b xs D cy g) (ax am aj ao : Nat) (xa ma : Nat → Nat) (x1 x2 x3 x4 : Int32) (e1 : xs (1 : Int32).toNatClampNeg = x1) (e2 : xs (2 : Int32).toNatClampNeg = x2) (e3 : xs (3 : Int32).toNatClampNeg = x3) (e4 : xs (4 : Int32).toNatClampNeg = x4) {H : Heap} {locs : List Loc} (hP : va_P D vwCl [(ax, .inr (14, [.ref (xa 0), .ref (xa 13), .ref (xa 18), .ref (xa 34), .ref (xa 45), .ref (xa 49), .ref (xa 50)])), ((xa 0), .inr (5, [.ref (xa 1), .ref (xa 2), .int 0, .ref (xa 3), .ref (xa 5), .ref (xa 7), .ref (xa 9), .ref (xa 11)])), ((xa 34), .inr (6, [.ref (xa 35), .ref (xa 36), .ref (xa 37), .int 0, .int 1, .int 10, .ref (xa 38), .ref (xa 40), .ref (xa 42), .ref (xa 44), .int 0, .int 0, .int 0])), ((xa 38), .inr (13, [.long 900, .ref (xa 39), .int 1])), ((xa 49), .inr (7, [.int 1000, .int 10, .int 0, .int 3000, .int 50, .int 1000, .int 50, .int 0, .int 0, .int 0])), ((xa 50), .inr (11, [.long 0, .int 0, .int 0, .int 0, .long 900])), (am, .inr (15, [.int 0, .ref (ma 0), .int 0, .int 0, .int 0, .int 0, .ref (ma 1), .ref (ma 2), .null, .int 1, .int 10, .int 900, .ref (ma 3), .ref (ma 4), .int 0, .int 0, .int 0, .ref (ma 5), .int 1000, .int 50, .int 50, .int 1000, .int 10, .int 0, .int 3000, .int 0, .int 0, .int 0])), ((ma 0), .inr (4, [.int 0, .ref (g 0), .int 0]))] H) (hD : va_D (AL s) [(ax, .inr (14, [.ref (xa 0), .ref (xa 13), .ref (xa 18), .ref (xa 34), .ref (xa 45), .ref (xa 49), .ref (xa 50)])), ((xa 0), .inr (5, [.ref (xa 1), .ref (xa 2), .int 0, .ref (xa 3), .ref (xa 5), .ref (xa 7), .ref (xa 9), .ref (xa 11)])), ((xa 34), .inr (6, [.ref (xa 35), .ref (xa 36), .ref (xa 37), .int 0, .int 1, .int 10, .ref (xa 38), .ref (xa 40), .ref (xa 42), .ref (xa 44), .int 0, .int 0, .int 0])), ((xa 38), .inr (13, [.long 900, .ref (xa 39), .int 1])), ((xa 49), .inr (7, [.int 1000, .int 10, .int 0, .int 3000, .int 50, .int 1000, .int 50, .int 0, .int 0, .int 0])), ((xa 50), .inr (11, [.long 0, .int 0, .int 0, .int 0, .long 900])), (am, .inr (15, [.int 0, .ref (ma 0), .int 0, .int 0, .int 0, .int 0, .ref (ma 1), .ref (ma 2), .null, .int 1, .int 10, .int 900, .ref (ma 3), .ref (ma 4), .int 0, .int 0, .int 0, .ref (ma 5), .int 1000, .int 50, .int 50, .int 1000, .int 10, .int 0, .int 3000, .int 0, .int 0, .int 0])), ((ma 0), .inr (4, [.int 0, .ref (g 0), .int 0]))]) (hS : va_S (AL s) s.heap H locs) (ls : Array Slot) (hl : lv_has ls 9 [(5, .int 0), (4, .ref ao), (3, .ref aj), (2, .ref am), (1, .ref ax), (0, .ref b)]) : W p l e room_1 s m #[Value.ref b] below meth c H locs 100 1000 (lw_Z below #[Value.ref b] s) (F0 m 2789 ls []) := by
  obtain ⟨hx, hb, hr, hml, hown, hlk, hts, hE, hX, hbl⟩ := id LC
  have hA : ∀ q, s.heap.size ≤ q → (AL s) q := fun _ h => h
  have hbA : ¬ (AL s) b := Nat.not_le.mpr hbl
  refine lv_aload_n hx hb dL_law_2789 rfl (lv_at hl 4 rfl) ?_
  refine ca_l (isC := [0, 1, 5, 2, 3, 4]) (isR := [6, 7]) (wr := [(am, .inr (15, [.int 0, .ref (ma 0), .int 0, .int 0, .int 0, .int 0, .ref (ma 1), .ref (ma 2), .null, .int 1, .int 10, .int 900, .ref (ma 3), .ref (ma 4), .int 0, .int 0, .int 0, .ref (ma 5), .int 1000, .int 50, .int 50, .int 1000, .int 10, .int 0, .int 3000, .int 0, .int 0, .int 0])), ((ma 0), .inr (4, [.int 0, .ref (g 0), .int 0]))]) (rn_V (ci := 14) (q0 := 0) (isC := [0, 1, 5, 2, 3, 4]) (wc := [(ax, .inr (14, [.ref (xa 0), .ref (xa 13), .ref (xa 18), .ref (xa 34), .ref (xa 45), .ref (xa 49), .ref (xa 50)])), ((xa 0), .inr (5, [.ref (xa 1), .ref (xa 2), .int 0, .ref (xa 3), .ref (xa 5), .ref (xa 7), .ref (xa 9), .ref (xa 11)])), ((xa 50), .inr (11, [.long 0, .int 0, .int 0, .int 0, .long 900])), ((xa 34), .inr (6, [.ref (xa 35), .ref (xa 36), .ref (xa 37), .int 0, .int 1, .int 10, .ref (xa 38), .ref (xa 40), .ref (xa 42), .ref (xa 44), .int 0, .int 0, .int 0])), ((xa 38), .inr (13, [.long 900, .ref (xa 39), .int 1])), ((xa 49), .inr (7, [.int 1000, .int 10, .int 0, .int 3000, .int 50, .int 1000, .int 50, .int 0, .int 0, .int 0]))]) (As := []) (rest := []) (n := 0) hx hb hml hown hts hE hS hP hD hA hl.1 (k713_X9_checksum l D cy g ax (xa 0) (xa 50) (xa 34) (xa 38) (xa 49) (.ref (xa 13)) (.ref (xa 18)) (.ref (xa 45)) (.ref (xa 1)) (.ref (xa 2)) (.ref (xa 3)) (.ref (xa 5)) (.ref (xa 7)) (.ref (xa 9)) (.ref (xa 11)) (.int 0) (.int 0) (.long 900) (.ref (xa 35)) (.ref (xa 36)) (.ref (xa 37)) (.int 0) (.int 1) (.int 10) (.ref (xa 40)) (.ref (xa 42)) (.ref (xa 44)) (.int 0) (.int 0) (.int 0) (.ref (xa 39)) (.int 1000) (.int 10) (.int 0) (.int 3000) (.int 50) (.int 50) (.int 0) (.int 0) (.int 0) H.size ) rfl rfl rfl rfl rfl ax_468 rfl rfl ax_469 ⟨Nat.le_of_ble_eq_true rfl, Nat.le_of_ble_eq_true rfl⟩ rfl rfl (Nat.le_of_ble_eq_true rfl) dL_law_2790 ⟨(Nat.le_of_ble_eq_true rfl), (Nat.le_of_ble_eq_true rfl)⟩) hP hD hS hA rfl rfl rfl (by decide) (fun ad2790 H locs hP hD hS => ?_)
  have hP : va_P D vwCl [(am, .inr (15, [.int 0, .ref (ma 0), .int 0, .int 0, .int 0, .int 0, .ref (ma 1), .ref (ma 2), .null, .int 1, .int 10, .int 900, .ref (ma 3), .ref (ma 4), .int 0, .int 0, .int 0, .ref (ma 5), .int 1000, .int 50, .int 50, .int 1000, .int 10, .int 0, .int 3000, .int 0, .int 0, .int 0])), ((ma 0), .inr (4, [.int 0, .ref (g 0), .int 0]))] H := hP
  have hD : va_D (AL s) [(am, .inr (15, [.int 0, .ref (ma 0), .int 0, .int 0, .int 0, .int 0, .ref (ma 1), .ref (ma 2), .null, .int 1, .int 10, .int 900, .ref (ma 3), .ref (ma 4), .int 0, .int 0, .int 0, .ref (ma 5), .int 1000, .int 50, .int 50, .int 1000, .int 10, .int 0, .int 3000, .int 0, .int 0, .int 0])), ((ma 0), .inr (4, [.int 0, .ref (g 0), .int 0]))] := hD
  refine lv_aload_n hx hb dL_law_2793 rfl (lv_at hl 3 rfl) ?_
  refine ca_l (isC := [0, 1]) (isR := []) (wr := []) (rn_V (ci := 15) (q0 := 0) (isC := [0, 1]) (wc := [(am, .inr (15, [.int 0, .ref (ma 0), .int 0, .int 0, .int 0, .int 0, .ref (ma 1), .ref (ma 2), .null, .int 1, .int 10, .int 900, .ref (ma 3), .ref (ma 4), .int 0, .int 0, .int 0, .ref (ma 5), .int 1000, .int 50, .int 50, .int 1000, .int 10, .int 0, .int 3000, .int 0, .int 0, .int 0])), ((ma 0), .inr (4, [.int 0, .ref (g 0), .int 0]))]) (As := []) (rest := [.long 6493547]) (n := 0) hx hb hml hown hts hE hS hP hD hA hl.1 (k714_X10_checksum l D cy g am (ma 0) (.int 0) (.int 0) (.int 0) (.ref (ma 1)) (.ref (ma 2)) (.null) (.int 1) (.int 10) (.ref (ma 3)) (.ref (ma 4)) (.int 0) (.int 0) (.int 0) (.ref (ma 5)) (.int 50) (.int 50) (.int 1000) (.int 10) (.int 0) (.int 3000) (.int 0) (.int 0) (.int 0) (.ref (g 0)) H.size ) rfl rfl rfl rfl rfl ax_470 rfl rfl ax_471 ⟨Nat.le_of_ble_eq_true rfl, Nat.le_of_ble_eq_true rfl⟩ rfl rfl (Nat.le_of_ble_eq_true rfl) dL_law_2794 ⟨(Nat.le_of_ble_eq_true rfl), (Nat.le_of_ble_eq_true rfl)⟩) hP hD hS hA rfl rfl rfl (by decide) (fun ad2794 H locs hP hD hS => ?_)
  have hP : va_P D vwCl [(am, .inr (15, [.int 0, .ref (ma 0), .int 0, .int 0, .int 0, .int 0, .ref (ma 1), .ref (ma 2), .null, .int 1, .int 10, .int 900, .ref (ma 3), .ref (ma 4), .int 0, .int 0, .int 0, .ref (ma 5), .int 1000, .int 50, .int 50, .int 1000, .int 10, .int 0, .int 3000, .int 0, .int 0, .int 0]))] H := hP
  have hD : va_D (AL s) [(am, .inr (15, [.int 0, .ref (ma 0), .int 0, .int 0, .int 0, .int 0, .ref (ma 1), .ref (ma 2), .null, .int 1, .int 10, .int 900, .ref (ma 3), .ref (ma 4), .int 0, .int 0, .int 0, .ref (ma 5), .int 1000, .int 50, .int 50, .int 1000, .int 10, .int 0, .int 3000, .int 0, .int 0, .int 0]))] := hD
  refine W.lcmp hx hb dL_law_2797 ?_
  refine tp_i 0 (by decide) ?_
  refine lv_if_eq (tgt := 2947) hx hb dL_law_2798 (by decide) (fun _ => ?_) (fun z => absurd (by decide) z)
  exact law_tail LC hS (Nat.le_of_ble_eq_true rfl) (Nat.le_of_ble_eq_true rfl) (lv_sub hl [0, 5] rfl)
set_option maxHeartbeats 4000000 in
set_option maxRecDepth 100000 in
theorem lc_48 {p : Program} {e : Env} {s : State} {m : MethodId} {below : List Frame} {meth : Method} {c : Code} {l : Launch} {b : Nat} {xs : Nat → Int32} {D : va_G} {cy : Nat → ClassId} {g : Nat → Nat} (hst : l.stackTraces = false) (LC : LCtx p s m meth c b xs D cy g) (ax am aj ao : Nat) (xa ma : Nat → Nat) (x1 x2 x3 x4 : Int32) (e1 : xs (1 : Int32).toNatClampNeg = x1) (e2 : xs (2 : Int32).toNatClampNeg = x2) (e3 : xs (3 : Int32).toNatClampNeg = x3) (e4 : xs (4 : Int32).toNatClampNeg = x4) {H : Heap} {locs : List Loc} (hP : va_P D vwCl [(ax, .inr (14, [.ref (xa 0), .ref (xa 13), .ref (xa 18), .ref (xa 34), .ref (xa 45), .ref (xa 49), .ref (xa 50)])), ((xa 50), .inr (11, [.long 0, .int 0, .int 0, .int 0, .long 900])), (am, .inr (15, [.int 0, .ref (ma 0), .int 0, .int 0, .int 0, .int 0, .ref (ma 1), .ref (ma 2), .null, .int 1, .int 10, .int 900, .ref (ma 3), .ref (ma 4), .int 0, .int 0, .int 0, .ref (ma 5), .int 1000, .int 50, .int 50, .int 1000, .int 10, .int 0, .int 3000, .int 0, .int 0, .int 0]))] H) (hD : va_D (AL s) [(ax, .inr (14, [.ref (xa 0), .ref (xa 13), .ref (xa 18), .ref (xa 34), .ref (xa 45), .ref (xa 49), .ref (xa 50)])), ((xa 50), .inr (11, [.long 0, .int 0, .int 0, .int 0, .long 900])), (am, .inr (15, [.int 0, .ref (ma 0), .int 0, .int 0, .int 0, .int 0, .ref (ma 1), .ref (ma 2), .null, .int 1, .int 10, .int 900, .ref (ma 3), .ref (ma 4), .int 0, .int 0, .int 0, .ref (ma 5), .int 1000, .int 50, .int 50, .int 1000, .int 10, .int 0, .int 3000, .int 0, .int 0, .int 0]))]) (hS : va_S (AL s) s.heap H locs) (ls : Array Slot) (hl : lv_has ls 9 [(5, .int 0), (4, .ref ao), (3, .ref aj), (2, .ref am), (1, .ref ax), (0, .ref b)]) : W p l e room_1 s m #[Value.ref b] below meth c H locs 100 1000 (lw_Z below #[Value.ref b] s) (F0 m 2803 ls []) := by
  obtain ⟨hx, hb, hr, hml, hown, hlk, hts, hE, hX, hbl⟩ := id LC
  have hA : ∀ q, s.heap.size ≤ q → (AL s) q := fun _ h => h
  have hbA : ¬ (AL s) b := Nat.not_le.mpr hbl
  refine lv_aload_n hx hb dL_law_2803 rfl (lv_at hl 4 rfl) ?_
  refine lv_aload hx hb dL_law_2804 (lv_at hl 1 rfl) ?_
  refine ca_i (isC := [0, 1]) (isR := [2]) (wr := [(am, .inr (15, [.int 0, .ref (ma 0), .int 0, .int 0, .int 0, .int 0, .ref (ma 1), .ref (ma 2), .null, .int 1, .int 10, .int 900, .ref (ma 3), .ref (ma 4), .int 0, .int 0, .int 0, .ref (ma 5), .int 1000, .int 50, .int 50, .int 1000, .int 10, .int 0, .int 3000, .int 0, .int 0, .int 0]))]) (rn_SW (isC := [0, 1]) (wc := [(ax, .inr (14, [.ref (xa 0), .ref (xa 13), .ref (xa 18), .ref (xa 34), .ref (xa 45), .ref (xa 49), .ref (xa 50)])), ((xa 50), .inr (11, [.long 0, .int 0, .int 0, .int 0, .long 900]))]) (As := [.ref ax, .ref ao]) (rest := []) (n := 2) hx hb hml hown hts hE hS hP hD hA hl.1 (k716_L_makingShare l hst D cy g ax (xa 50) ao (.ref (xa 0)) (.ref (xa 13)) (.ref (xa 18)) (.ref (xa 34)) (.ref (xa 45)) (.ref (xa 49)) (.long 0) (.int 0) (.int 0) (.long 900) H.size ) rfl rfl ax_475 rfl rfl ax_476 ⟨Nat.le_of_ble_eq_true rfl, Nat.le_of_ble_eq_true rfl⟩ rfl rfl (Nat.le_of_ble_eq_true rfl) dL_law_2806 ⟨(Nat.le_of_ble_eq_true rfl), (Nat.le_of_ble_eq_true rfl)⟩) hP hD hS hA rfl rfl rfl (by decide) (fun ad2806 H locs hP hD hS => ?_)
  have hP : va_P D vwCl [(am, .inr (15, [.int 0, .ref (ma 0), .int 0, .int 0, .int 0, .int 0, .ref (ma 1), .ref (ma 2), .null, .int 1, .int 10, .int 900, .ref (ma 3), .ref (ma 4), .int 0, .int 0, .int 0, .ref (ma 5), .int 1000, .int 50, .int 50, .int 1000, .int 10, .int 0, .int 3000, .int 0, .int 0, .int 0]))] H := hP
  have hD : va_D (AL s) [(am, .inr (15, [.int 0, .ref (ma 0), .int 0, .int 0, .int 0, .int 0, .ref (ma 1), .ref (ma 2), .null, .int 1, .int 10, .int 900, .ref (ma 3), .ref (ma 4), .int 0, .int 0, .int 0, .ref (ma 5), .int 1000, .int 50, .int 50, .int 1000, .int 10, .int 0, .int 3000, .int 0, .int 0, .int 0]))] := hD
  refine lv_istore (lv' := [(6, .int 1), (5, .int 0), (4, .ref ao), (3, .ref aj), (2, .ref am), (1, .ref ax), (0, .ref b)]) hx hb dL_law_2809 hl (Nat.le_of_ble_eq_true rfl) rfl (fun ls hl => ?_)
  refine lv_aload_n hx hb dL_law_2811 rfl (lv_at hl 4 rfl) ?_
  refine ca_f (isC := [0]) (isR := []) (wr := []) (rn_V (ci := 15) (q0 := 0) (isC := [0]) (wc := [(am, .inr (15, [.int 0, .ref (ma 0), .int 0, .int 0, .int 0, .int 0, .ref (ma 1), .ref (ma 2), .null, .int 1, .int 10, .int 900, .ref (ma 3), .ref (ma 4), .int 0, .int 0, .int 0, .ref (ma 5), .int 1000, .int 50, .int 50, .int 1000, .int 10, .int 0, .int 3000, .int 0, .int 0, .int 0]))]) (As := []) (rest := []) (n := 0) hx hb hml hown hts hE hS hP hD hA hl.1 (k717_X10_makingShare l D cy g am (.int 0) (.ref (ma 0)) (.int 0) (.int 0) (.int 0) (.ref (ma 1)) (.ref (ma 2)) (.null) (.int 1) (.int 10) (.int 900) (.ref (ma 3)) (.ref (ma 4)) (.int 0) (.int 0) (.int 0) (.ref (ma 5)) (.int 1000) (.int 50) (.int 50) (.int 1000) (.int 10) (.int 0) (.int 3000) (.int 0) (.int 0) (.int 0) H.size ) rfl rfl rfl rfl rfl ax_477 rfl rfl ax_478 ⟨Nat.le_of_ble_eq_true rfl, Nat.le_of_ble_eq_true rfl⟩ rfl rfl (Nat.le_of_ble_eq_true rfl) dL_law_2812 ⟨(Nat.le_of_ble_eq_true rfl), (Nat.le_of_ble_eq_true rfl)⟩) hP hD hS hA rfl rfl rfl (by decide) (fun ad2812 H locs hP hD hS => ?_)
  have hP : va_P D vwCl [(am, .inr (15, [.int 1, .ref (ma 0), .int 0, .int 0, .int 0, .int 0, .ref (ma 1), .ref (ma 2), .null, .int 1, .int 10, .int 900, .ref (ma 3), .ref (ma 4), .int 0, .int 0, .int 0, .ref (ma 5), .int 1000, .int 50, .int 50, .int 1000, .int 10, .int 0, .int 3000, .int 0, .int 0, .int 0]))] H := hP
  have hD : va_D (AL s) [(am, .inr (15, [.int 1, .ref (ma 0), .int 0, .int 0, .int 0, .int 0, .ref (ma 1), .ref (ma 2), .null, .int 1, .int 10, .int 900, .ref (ma 3), .ref (ma 4), .int 0, .int 0, .int 0, .ref (ma 5), .int 1000, .int 50, .int 50, .int 1000, .int 10, .int 0, .int 3000, .int 0, .int 0, .int 0]))] := hD
  refine lv_fstore (lv' := [(7, .float FP.fconst0), (6, .int 1), (5, .int 0), (4, .ref ao), (3, .ref aj), (2, .ref am), (1, .ref ax), (0, .ref b)]) hx hb dL_law_2815 hl (Nat.le_of_ble_eq_true rfl) rfl (fun ls hl => ?_)
  refine lv_aload_n hx hb dL_law_2817 rfl (lv_at hl 5 rfl) ?_
  refine ca_i (isC := [0]) (isR := []) (wr := []) (rn_V (ci := 15) (q0 := 0) (isC := [0]) (wc := [(am, .inr (15, [.int 1, .ref (ma 0), .int 0, .int 0, .int 0, .int 0, .ref (ma 1), .ref (ma 2), .null, .int 1, .int 10, .int 900, .ref (ma 3), .ref (ma 4), .int 0, .int 0, .int 0, .ref (ma 5), .int 1000, .int 50, .int 50, .int 1000, .int 10, .int 0, .int 3000, .int 0, .int 0, .int 0]))]) (As := []) (rest := []) (n := 0) hx hb hml hown hts hE hS hP hD hA hl.1 (k24_X10_thrown l D cy g am (.ref (ma 0)) (.int 0) (.int 0) (.int 0) (.int 0) (.ref (ma 1)) (.ref (ma 2)) (.null) (.int 1) (.int 10) (.int 900) (.ref (ma 3)) (.ref (ma 4)) (.int 0) (.int 0) (.int 0) (.ref (ma 5)) (.int 1000) (.int 50) (.int 50) (.int 1000) (.int 10) (.int 0) (.int 3000) (.int 0) (.int 0) (.int 0) H.size ) rfl rfl rfl rfl rfl ax_45 rfl rfl ax_46 ⟨Nat.le_of_ble_eq_true rfl, Nat.le_of_ble_eq_true rfl⟩ rfl rfl (Nat.le_of_ble_eq_true rfl) dL_law_2818 ⟨(Nat.le_of_ble_eq_true rfl), (Nat.le_of_ble_eq_true rfl)⟩) hP hD hS hA rfl rfl rfl (by decide) (fun ad2818 H locs hP hD hS => ?_)
  have hP : va_P D vwCl [(am, .inr (15, [.int 1, .ref (ma 0), .int 0, .int 0, .int 0, .int 0, .ref (ma 1), .ref (ma 2), .null, .int 1, .int 10, .int 900, .ref (ma 3), .ref (ma 4), .int 0, .int 0, .int 0, .ref (ma 5), .int 1000, .int 50, .int 50, .int 1000, .int 10, .int 0, .int 3000, .int 0, .int 0, .int 0]))] H := hP
  have hD : va_D (AL s) [(am, .inr (15, [.int 1, .ref (ma 0), .int 0, .int 0, .int 0, .int 0, .ref (ma 1), .ref (ma 2), .null, .int 1, .int 10, .int 900, .ref (ma 3), .ref (ma 4), .int 0, .int 0, .int 0, .ref (ma 5), .int 1000, .int 50, .int 50, .int 1000, .int 10, .int 0, .int 3000, .int 0, .int 0, .int 0]))] := hD
  refine lv_iload hx hb dL_law_2821 (lv_at hl 1 rfl) ?_
  refine lv_icmp_eq (tgt := 2828) hx hb dL_law_2823 (by decide) (fun _ => ?_) (fun z => absurd (by decide) z)
  refine lv_iload hx hb dL_law_2828 (lv_at hl 1 rfl) ?_
  refine lv_if_ne (tgt := 2866) hx hb dL_law_2830 (by decide) (fun _ => ?_) (fun z => absurd z (by decide))
  refine lv_goto (tgt := 2947) hx hb dL_law_2866 (by decide) ?_
  exact law_tail LC hS (Nat.le_of_ble_eq_true rfl) (Nat.le_of_ble_eq_true rfl) (lv_sub hl [2, 7] rfl)
set_option maxHeartbeats 4000000 in
set_option maxRecDepth 100000 in
theorem lc_49 {p : Program} {e : Env} {s : State} {m : MethodId} {below : List Frame} {meth : Method} {c : Code} {l : Launch} {b : Nat} {xs : Nat → Int32} {D : va_G} {cy : Nat → ClassId} {g : Nat → Nat} (hst : l.stackTraces = false) (LC : LCtx p s m meth c b xs D cy g) (ax am aj ao : Nat) (xa ma : Nat → Nat) (x1 x2 x3 x4 : Int32) (e1 : xs (1 : Int32).toNatClampNeg = x1) (e2 : xs (2 : Int32).toNatClampNeg = x2) (e3 : xs (3 : Int32).toNatClampNeg = x3) (e4 : xs (4 : Int32).toNatClampNeg = x4) {H : Heap} {locs : List Loc} (hP : va_P D vwCl [(ax, .inr (14, [.ref (xa 0), .ref (xa 13), .ref (xa 18), .ref (xa 34), .ref (xa 45), .ref (xa 49), .ref (xa 50)])), ((xa 0), .inr (5, [.ref (xa 1), .ref (xa 2), .int 0, .ref (xa 3), .ref (xa 5), .ref (xa 7), .ref (xa 9), .ref (xa 11)])), (am, .inr (15, [.int 0, .ref (ma 0), .int 0, .int 0, .int 0, .int 0, .ref (ma 1), .ref (ma 2), .null, .int 1, .int 10, .int 900, .ref (ma 3), .ref (ma 4), .int 0, .int 0, .int 0, .ref (ma 5), .int 1000, .int 50, .int 50, .int 1000, .int 10, .int 0, .int 3000, .int 0, .int 0, .int 0])), ((ma 0), .inr (4, [.int 0, .ref (g 0), .int 0]))] H) (hD : va_D (AL s) [(ax, .inr (14, [.ref (xa 0), .ref (xa 13), .ref (xa 18), .ref (xa 34), .ref (xa 45), .ref (xa 49), .ref (xa 50)])), ((xa 0), .inr (5, [.ref (xa 1), .ref (xa 2), .int 0, .ref (xa 3), .ref (xa 5), .ref (xa 7), .ref (xa 9), .ref (xa 11)])), (am, .inr (15, [.int 0, .ref (ma 0), .int 0, .int 0, .int 0, .int 0, .ref (ma 1), .ref (ma 2), .null, .int 1, .int 10, .int 900, .ref (ma 3), .ref (ma 4), .int 0, .int 0, .int 0, .ref (ma 5), .int 1000, .int 50, .int 50, .int 1000, .int 10, .int 0, .int 3000, .int 0, .int 0, .int 0])), ((ma 0), .inr (4, [.int 0, .ref (g 0), .int 0]))]) (hS : va_S (AL s) s.heap H locs) (ls : Array Slot) (hl : lv_has ls 9 [(5, .int 0), (4, .ref ao), (3, .ref aj), (2, .ref am), (1, .ref ax), (0, .ref b)]) : W p l e room_1 s m #[Value.ref b] below meth c H locs 100 1000 (lw_Z below #[Value.ref b] s) (F0 m 2869 ls []) := by
  obtain ⟨hx, hb, hr, hml, hown, hlk, hts, hE, hX, hbl⟩ := id LC
  have hA : ∀ q, s.heap.size ≤ q → (AL s) q := fun _ h => h
  have hbA : ¬ (AL s) b := Nat.not_le.mpr hbl
  refine lv_aload_n hx hb dL_law_2869 rfl (lv_at hl 4 rfl) ?_
  refine lv_aload hx hb dL_law_2870 (lv_at hl 1 rfl) ?_
  refine ca_i (isC := [0, 1]) (isR := [2, 3]) (wr := [(am, .inr (15, [.int 0, .ref (ma 0), .int 0, .int 0, .int 0, .int 0, .ref (ma 1), .ref (ma 2), .null, .int 1, .int 10, .int 900, .ref (ma 3), .ref (ma 4), .int 0, .int 0, .int 0, .ref (ma 5), .int 1000, .int 50, .int 50, .int 1000, .int 10, .int 0, .int 3000, .int 0, .int 0, .int 0])), ((ma 0), .inr (4, [.int 0, .ref (g 0), .int 0]))]) (rn_SW (isC := [0, 1]) (wc := [(ax, .inr (14, [.ref (xa 0), .ref (xa 13), .ref (xa 18), .ref (xa 34), .ref (xa 45), .ref (xa 49), .ref (xa 50)])), ((xa 0), .inr (5, [.ref (xa 1), .ref (xa 2), .int 0, .ref (xa 3), .ref (xa 5), .ref (xa 7), .ref (xa 9), .ref (xa 11)]))]) (As := [.ref ax, .ref ao]) (rest := []) (n := 2) hx hb hml hown hts hE hS hP hD hA hl.1 (k719_L_meanTemperature l hst D cy g ax (xa 0) ao (.ref (xa 13)) (.ref (xa 18)) (.ref (xa 34)) (.ref (xa 45)) (.ref (xa 49)) (.ref (xa 50)) (.ref (xa 1)) (.ref (xa 2)) (.ref (xa 3)) (.ref (xa 5)) (.ref (xa 7)) (.ref (xa 9)) (.ref (xa 11)) H.size ) rfl rfl ax_481 rfl rfl ax_482 ⟨Nat.le_of_ble_eq_true rfl, Nat.le_of_ble_eq_true rfl⟩ rfl rfl (Nat.le_of_ble_eq_true rfl) dL_law_2872 ⟨(Nat.le_of_ble_eq_true rfl), (Nat.le_of_ble_eq_true rfl)⟩) hP hD hS hA rfl rfl rfl (by decide) (fun ad2872 H locs hP hD hS => ?_)
  have hP : va_P D vwCl [(am, .inr (15, [.int 0, .ref (ma 0), .int 0, .int 0, .int 0, .int 0, .ref (ma 1), .ref (ma 2), .null, .int 1, .int 10, .int 900, .ref (ma 3), .ref (ma 4), .int 0, .int 0, .int 0, .ref (ma 5), .int 1000, .int 50, .int 50, .int 1000, .int 10, .int 0, .int 3000, .int 0, .int 0, .int 0])), ((ma 0), .inr (4, [.int 0, .ref (g 0), .int 0]))] H := hP
  have hD : va_D (AL s) [(am, .inr (15, [.int 0, .ref (ma 0), .int 0, .int 0, .int 0, .int 0, .ref (ma 1), .ref (ma 2), .null, .int 1, .int 10, .int 900, .ref (ma 3), .ref (ma 4), .int 0, .int 0, .int 0, .ref (ma 5), .int 1000, .int 50, .int 50, .int 1000, .int 10, .int 0, .int 3000, .int 0, .int 0, .int 0])), ((ma 0), .inr (4, [.int 0, .ref (g 0), .int 0]))] := hD
  refine lv_istore (lv' := [(6, .int 1), (5, .int 0), (4, .ref ao), (3, .ref aj), (2, .ref am), (1, .ref ax), (0, .ref b)]) hx hb dL_law_2875 hl (Nat.le_of_ble_eq_true rfl) rfl (fun ls hl => ?_)
  refine lv_aload_n hx hb dL_law_2877 rfl (lv_at hl 4 rfl) ?_
  refine ca_d (isC := [0, 1]) (isR := []) (wr := []) (rn_V (ci := 15) (q0 := 0) (isC := [0, 1]) (wc := [(am, .inr (15, [.int 0, .ref (ma 0), .int 0, .int 0, .int 0, .int 0, .ref (ma 1), .ref (ma 2), .null, .int 1, .int 10, .int 900, .ref (ma 3), .ref (ma 4), .int 0, .int 0, .int 0, .ref (ma 5), .int 1000, .int 50, .int 50, .int 1000, .int 10, .int 0, .int 3000, .int 0, .int 0, .int 0])), ((ma 0), .inr (4, [.int 0, .ref (g 0), .int 0]))]) (As := []) (rest := []) (n := 0) hx hb hml hown hts hE hS hP hD hA hl.1 (k720_X10_meanTemperature l D cy g am (ma 0) (.int 0) (.int 0) (.int 0) (.int 0) (.int 0) (.ref (ma 1)) (.ref (ma 2)) (.null) (.int 1) (.int 10) (.int 900) (.ref (ma 3)) (.ref (ma 4)) (.int 0) (.int 0) (.int 0) (.ref (ma 5)) (.int 1000) (.int 50) (.int 50) (.int 1000) (.int 10) (.int 0) (.int 3000) (.int 0) (.int 0) (.int 0) (.ref (g 0)) H.size ) rfl rfl rfl rfl rfl ax_483 rfl rfl ax_484 ⟨Nat.le_of_ble_eq_true rfl, Nat.le_of_ble_eq_true rfl⟩ rfl rfl (Nat.le_of_ble_eq_true rfl) dL_law_2878 ⟨(Nat.le_of_ble_eq_true rfl), (Nat.le_of_ble_eq_true rfl)⟩) hP hD hS hA rfl rfl rfl (by decide) (fun ad2878 H locs hP hD hS => ?_)
  have hP : va_P D vwCl [(am, .inr (15, [.int 1, .ref (ma 0), .int 0, .int 0, .int 0, .int 0, .ref (ma 1), .ref (ma 2), .null, .int 1, .int 10, .int 900, .ref (ma 3), .ref (ma 4), .int 0, .int 0, .int 0, .ref (ma 5), .int 1000, .int 50, .int 50, .int 1000, .int 10, .int 0, .int 3000, .int 0, .int 0, .int 0]))] H := hP
  have hD : va_D (AL s) [(am, .inr (15, [.int 1, .ref (ma 0), .int 0, .int 0, .int 0, .int 0, .ref (ma 1), .ref (ma 2), .null, .int 1, .int 10, .int 900, .ref (ma 3), .ref (ma 4), .int 0, .int 0, .int 0, .ref (ma 5), .int 1000, .int 50, .int 50, .int 1000, .int 10, .int 0, .int 3000, .int 0, .int 0, .int 0]))] := hD
  refine lv_dstore (lv' := [(7, .double FP.dconst0), (6, .int 1), (5, .int 0), (4, .ref ao), (3, .ref aj), (2, .ref am), (1, .ref ax), (0, .ref b)]) hx hb dL_law_2881 hl (Nat.le_of_ble_eq_true rfl) rfl (fun ls hl => ?_)
  refine lv_aload_n hx hb dL_law_2883 rfl (lv_at hl 5 rfl) ?_
  refine ca_i (isC := [0]) (isR := []) (wr := []) (rn_V (ci := 15) (q0 := 0) (isC := [0]) (wc := [(am, .inr (15, [.int 1, .ref (ma 0), .int 0, .int 0, .int 0, .int 0, .ref (ma 1), .ref (ma 2), .null, .int 1, .int 10, .int 900, .ref (ma 3), .ref (ma 4), .int 0, .int 0, .int 0, .ref (ma 5), .int 1000, .int 50, .int 50, .int 1000, .int 10, .int 0, .int 3000, .int 0, .int 0, .int 0]))]) (As := []) (rest := []) (n := 0) hx hb hml hown hts hE hS hP hD hA hl.1 (k24_X10_thrown l D cy g am (.ref (ma 0)) (.int 0) (.int 0) (.int 0) (.int 0) (.ref (ma 1)) (.ref (ma 2)) (.null) (.int 1) (.int 10) (.int 900) (.ref (ma 3)) (.ref (ma 4)) (.int 0) (.int 0) (.int 0) (.ref (ma 5)) (.int 1000) (.int 50) (.int 50) (.int 1000) (.int 10) (.int 0) (.int 3000) (.int 0) (.int 0) (.int 0) H.size ) rfl rfl rfl rfl rfl ax_45 rfl rfl ax_46 ⟨Nat.le_of_ble_eq_true rfl, Nat.le_of_ble_eq_true rfl⟩ rfl rfl (Nat.le_of_ble_eq_true rfl) dL_law_2884 ⟨(Nat.le_of_ble_eq_true rfl), (Nat.le_of_ble_eq_true rfl)⟩) hP hD hS hA rfl rfl rfl (by decide) (fun ad2884 H locs hP hD hS => ?_)
  have hP : va_P D vwCl [(am, .inr (15, [.int 1, .ref (ma 0), .int 0, .int 0, .int 0, .int 0, .ref (ma 1), .ref (ma 2), .null, .int 1, .int 10, .int 900, .ref (ma 3), .ref (ma 4), .int 0, .int 0, .int 0, .ref (ma 5), .int 1000, .int 50, .int 50, .int 1000, .int 10, .int 0, .int 3000, .int 0, .int 0, .int 0]))] H := hP
  have hD : va_D (AL s) [(am, .inr (15, [.int 1, .ref (ma 0), .int 0, .int 0, .int 0, .int 0, .ref (ma 1), .ref (ma 2), .null, .int 1, .int 10, .int 900, .ref (ma 3), .ref (ma 4), .int 0, .int 0, .int 0, .ref (ma 5), .int 1000, .int 50, .int 50, .int 1000, .int 10, .int 0, .int 3000, .int 0, .int 0, .int 0]))] := hD
  refine lv_iload hx hb dL_law_2887 (lv_at hl 1 rfl) ?_
  refine lv_icmp_eq (tgt := 2894) hx hb dL_law_2889 (by decide) (fun _ => ?_) (fun z => absurd (by decide) z)
  refine lv_iload hx hb dL_law_2894 (lv_at hl 1 rfl) ?_
  refine lv_if_ne (tgt := 2931) hx hb dL_law_2896 (by decide) (fun _ => ?_) (fun z => absurd z (by decide))
  refine lv_goto (tgt := 2947) hx hb dL_law_2931 (by decide) ?_
  exact law_tail LC hS (Nat.le_of_ble_eq_true rfl) (Nat.le_of_ble_eq_true rfl) (lv_sub hl [2, 7] rfl)
set_option maxHeartbeats 4000000 in
set_option maxRecDepth 100000 in
theorem lc_50 {p : Program} {e : Env} {s : State} {m : MethodId} {below : List Frame} {meth : Method} {c : Code} {l : Launch} {b : Nat} {xs : Nat → Int32} {D : va_G} {cy : Nat → ClassId} {g : Nat → Nat} (hst : l.stackTraces = false) (LC : LCtx p s m meth c b xs D cy g) (ax am aj ao : Nat) (xa ma : Nat → Nat) (x1 x2 x3 x4 : Int32) (e1 : xs (1 : Int32).toNatClampNeg = x1) (e2 : xs (2 : Int32).toNatClampNeg = x2) (e3 : xs (3 : Int32).toNatClampNeg = x3) (e4 : xs (4 : Int32).toNatClampNeg = x4) {H : Heap} {locs : List Loc} (hP : va_P D vwCl [(ax, .inr (14, [.ref (xa 0), .ref (xa 13), .ref (xa 18), .ref (xa 34), .ref (xa 45), .ref (xa 49), .ref (xa 50)])), ((xa 0), .inr (5, [.ref (xa 1), .ref (xa 2), .int 0, .ref (xa 3), .ref (xa 5), .ref (xa 7), .ref (xa 9), .ref (xa 11)])), ((xa 18), .inr (8, [.ref (xa 19), .ref (xa 20), .ref (xa 21), .int 0, .int 0, .ref (xa 22), .ref (xa 28), .int 0, .int 0])), ((xa 34), .inr (6, [.ref (xa 35), .ref (xa 36), .ref (xa 37), .int 0, .int 1, .int 10, .ref (xa 38), .ref (xa 40), .ref (xa 42), .ref (xa 44), .int 0, .int 0, .int 0])), ((xa 38), .inr (13, [.long 900, .ref (xa 39), .int 1])), ((xa 50), .inr (11, [.long 0, .int 0, .int 0, .int 0, .long 900])), (am, .inr (15, [.int 0, .ref (ma 0), .int 0, .int 0, .int 0, .int 0, .ref (ma 1), .ref (ma 2), .null, .int 1, .int 10, .int 900, .ref (ma 3), .ref (ma 4), .int 0, .int 0, .int 0, .ref (ma 5), .int 1000, .int 50, .int 50, .int 1000, .int 10, .int 0, .int 3000, .int 0, .int 0, .int 0]))] H) (hD : va_D (AL s) [(ax, .inr (14, [.ref (xa 0), .ref (xa 13), .ref (xa 18), .ref (xa 34), .ref (xa 45), .ref (xa 49), .ref (xa 50)])), ((xa 0), .inr (5, [.ref (xa 1), .ref (xa 2), .int 0, .ref (xa 3), .ref (xa 5), .ref (xa 7), .ref (xa 9), .ref (xa 11)])), ((xa 18), .inr (8, [.ref (xa 19), .ref (xa 20), .ref (xa 21), .int 0, .int 0, .ref (xa 22), .ref (xa 28), .int 0, .int 0])), ((xa 34), .inr (6, [.ref (xa 35), .ref (xa 36), .ref (xa 37), .int 0, .int 1, .int 10, .ref (xa 38), .ref (xa 40), .ref (xa 42), .ref (xa 44), .int 0, .int 0, .int 0])), ((xa 38), .inr (13, [.long 900, .ref (xa 39), .int 1])), ((xa 50), .inr (11, [.long 0, .int 0, .int 0, .int 0, .long 900])), (am, .inr (15, [.int 0, .ref (ma 0), .int 0, .int 0, .int 0, .int 0, .ref (ma 1), .ref (ma 2), .null, .int 1, .int 10, .int 900, .ref (ma 3), .ref (ma 4), .int 0, .int 0, .int 0, .ref (ma 5), .int 1000, .int 50, .int 50, .int 1000, .int 10, .int 0, .int 3000, .int 0, .int 0, .int 0]))]) (hS : va_S (AL s) s.heap H locs) (ls : Array Slot) (hl : lv_has ls 9 [(5, .int 0), (4, .ref ao), (3, .ref aj), (2, .ref am), (1, .ref ax), (0, .ref b)]) : W p l e room_1 s m #[Value.ref b] below meth c H locs 100 1000 (lw_Z below #[Value.ref b] s) (F0 m 2934 ls []) := by
  obtain ⟨hx, hb, hr, hml, hown, hlk, hts, hE, hX, hbl⟩ := id LC
  have hA : ∀ q, s.heap.size ≤ q → (AL s) q := fun _ h => h
  have hbA : ¬ (AL s) b := Nat.not_le.mpr hbl
  refine lv_aload_n hx hb dL_law_2934 rfl (lv_at hl 4 rfl) ?_
  refine ca_i (isC := [0, 1, 3, 4, 5, 2]) (isR := [6]) (wr := [(am, .inr (15, [.int 0, .ref (ma 0), .int 0, .int 0, .int 0, .int 0, .ref (ma 1), .ref (ma 2), .null, .int 1, .int 10, .int 900, .ref (ma 3), .ref (ma 4), .int 0, .int 0, .int 0, .ref (ma 5), .int 1000, .int 50, .int 50, .int 1000, .int 10, .int 0, .int 3000, .int 0, .int 0, .int 0]))]) (rn_V (ci := 14) (q0 := 0) (isC := [0, 1, 3, 4, 5, 2]) (wc := [(ax, .inr (14, [.ref (xa 0), .ref (xa 13), .ref (xa 18), .ref (xa 34), .ref (xa 45), .ref (xa 49), .ref (xa 50)])), ((xa 0), .inr (5, [.ref (xa 1), .ref (xa 2), .int 0, .ref (xa 3), .ref (xa 5), .ref (xa 7), .ref (xa 9), .ref (xa 11)])), ((xa 34), .inr (6, [.ref (xa 35), .ref (xa 36), .ref (xa 37), .int 0, .int 1, .int 10, .ref (xa 38), .ref (xa 40), .ref (xa 42), .ref (xa 44), .int 0, .int 0, .int 0])), ((xa 38), .inr (13, [.long 900, .ref (xa 39), .int 1])), ((xa 50), .inr (11, [.long 0, .int 0, .int 0, .int 0, .long 900])), ((xa 18), .inr (8, [.ref (xa 19), .ref (xa 20), .ref (xa 21), .int 0, .int 0, .ref (xa 22), .ref (xa 28), .int 0, .int 0]))]) (As := []) (rest := []) (n := 0) hx hb hml hown hts hE hS hP hD hA hl.1 (k723_X9_isSound l D cy g ax (xa 0) (xa 34) (xa 38) (xa 50) (xa 18) (.ref (xa 13)) (.ref (xa 45)) (.ref (xa 49)) (.ref (xa 1)) (.ref (xa 2)) (.ref (xa 3)) (.ref (xa 5)) (.ref (xa 7)) (.ref (xa 9)) (.ref (xa 11)) (.ref (xa 35)) (.ref (xa 36)) (.ref (xa 37)) (.int 0) (.int 1) (.int 10) (.ref (xa 40)) (.ref (xa 42)) (.ref (xa 44)) (.int 0) (.int 0) (.int 0) (.ref (xa 39)) (.int 0) (.int 0) (.ref (xa 19)) (.ref (xa 20)) (.ref (xa 21)) (.int 0) (.ref (xa 22)) (.ref (xa 28)) (.int 0) (.int 0) H.size ) rfl rfl rfl rfl rfl ax_489 rfl rfl ax_490 ⟨Nat.le_of_ble_eq_true rfl, Nat.le_of_ble_eq_true rfl⟩ rfl rfl (Nat.le_of_ble_eq_true rfl) dL_law_2935 ⟨(Nat.le_of_ble_eq_true rfl), (Nat.le_of_ble_eq_true rfl)⟩) hP hD hS hA rfl rfl rfl (by decide) (fun ad2935 H locs hP hD hS => ?_)
  have hP : va_P D vwCl [(am, .inr (15, [.int 0, .ref (ma 0), .int 0, .int 0, .int 0, .int 0, .ref (ma 1), .ref (ma 2), .null, .int 1, .int 10, .int 900, .ref (ma 3), .ref (ma 4), .int 0, .int 0, .int 0, .ref (ma 5), .int 1000, .int 50, .int 50, .int 1000, .int 10, .int 0, .int 3000, .int 0, .int 0, .int 0]))] H := hP
  have hD : va_D (AL s) [(am, .inr (15, [.int 0, .ref (ma 0), .int 0, .int 0, .int 0, .int 0, .ref (ma 1), .ref (ma 2), .null, .int 1, .int 10, .int 900, .ref (ma 3), .ref (ma 4), .int 0, .int 0, .int 0, .ref (ma 5), .int 1000, .int 50, .int 50, .int 1000, .int 10, .int 0, .int 3000, .int 0, .int 0, .int 0]))] := hD
  refine lv_aload_n hx hb dL_law_2938 rfl (lv_at hl 3 rfl) ?_
  refine ca_i (isC := [0]) (isR := []) (wr := []) (rn_V (ci := 15) (q0 := 0) (isC := [0]) (wc := [(am, .inr (15, [.int 0, .ref (ma 0), .int 0, .int 0, .int 0, .int 0, .ref (ma 1), .ref (ma 2), .null, .int 1, .int 10, .int 900, .ref (ma 3), .ref (ma 4), .int 0, .int 0, .int 0, .ref (ma 5), .int 1000, .int 50, .int 50, .int 1000, .int 10, .int 0, .int 3000, .int 0, .int 0, .int 0]))]) (As := []) (rest := [.int 1]) (n := 0) hx hb hml hown hts hE hS hP hD hA hl.1 (k724_X10_isSound l D cy g am (.int 0) (.ref (ma 0)) (.int 0) (.int 0) (.int 0) (.int 0) (.ref (ma 1)) (.ref (ma 2)) (.null) (.int 1) (.int 10) (.int 900) (.ref (ma 3)) (.ref (ma 4)) (.int 0) (.int 0) (.int 0) (.ref (ma 5)) (.int 1000) (.int 50) (.int 50) (.int 1000) (.int 10) (.int 0) (.int 3000) (.int 0) (.int 0) (.int 0) H.size ) rfl rfl rfl rfl rfl ax_491 rfl rfl ax_492 ⟨Nat.le_of_ble_eq_true rfl, Nat.le_of_ble_eq_true rfl⟩ rfl rfl (Nat.le_of_ble_eq_true rfl) dL_law_2939 ⟨(Nat.le_of_ble_eq_true rfl), (Nat.le_of_ble_eq_true rfl)⟩) hP hD hS hA rfl rfl rfl (by decide) (fun ad2939 H locs hP hD hS => ?_)
  have hP : va_P D vwCl [(am, .inr (15, [.int 0, .ref (ma 0), .int 0, .int 0, .int 0, .int 0, .ref (ma 1), .ref (ma 2), .null, .int 1, .int 10, .int 900, .ref (ma 3), .ref (ma 4), .int 0, .int 0, .int 0, .ref (ma 5), .int 1000, .int 50, .int 50, .int 1000, .int 10, .int 0, .int 3000, .int 0, .int 0, .int 0]))] H := hP
  have hD : va_D (AL s) [(am, .inr (15, [.int 0, .ref (ma 0), .int 0, .int 0, .int 0, .int 0, .ref (ma 1), .ref (ma 2), .null, .int 1, .int 10, .int 900, .ref (ma 3), .ref (ma 4), .int 0, .int 0, .int 0, .ref (ma 5), .int 1000, .int 50, .int 50, .int 1000, .int 10, .int 0, .int 3000, .int 0, .int 0, .int 0]))] := hD
  refine lv_icmp_eq (tgt := 2947) hx hb dL_law_2942 (by decide) (fun _ => ?_) (fun z => absurd (by decide) z)
  exact law_tail LC hS (Nat.le_of_ble_eq_true rfl) (Nat.le_of_ble_eq_true rfl) (lv_sub hl [0, 5] rfl)

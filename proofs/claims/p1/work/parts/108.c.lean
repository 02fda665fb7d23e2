set_option maxHeartbeats 4000000 in
set_option maxRecDepth 100000 in
theorem k480_X8_set (l : Launch) (D : va_G) (cy : Nat → ClassId) (g : Nat → Nat) (a0 : Nat) (v0 : Value) (v1 : Value) (v2 : Value) (sz : Nat)  : Met l yX8_set [.code yX8_set cX8_set 3 none] ({ frames := 0, cells := 0, slots := 0, locals := 0 }) (PC D cy g [(a0, .inr (13, [v0, v1, v2]))] sz [.ref a0, .long 1800]) (QV D (fun ad => [(a0, .inr (13, [.long 1800, v1, .int 1]))]) (va_A [(a0, .inr (13, [v0, v1, v2]))] sz)) 0 0 (va_A [(a0, .inr (13, [v0, v1, v2]))] sz) := by
  refine st_V (by decide) (Nat.le_of_ble_eq_true rfl) ?_
  intro p e s m args below meth c A ls hx hb hr hml hown hlk hnm hsz hP hD hA hE hts hS hl
  have hown : s.vm.findClass RX8 = some m.cls := hown
  have hl : lv_has ls 3 [(0, .ref a0), (1, .long 1800)] := hl
  refine lv_aload_n hx hb dX8_set_0 rfl (lv_at hl 0 rfl) ?_
  refine lv_lload_n hx hb dX8_set_1 rfl (lv_at hl 1 rfl) ?_
  refine lv_ldc2 (v := 1125899906842623) hx hb hown (hts _ tw_84) dX8_set_2 ?_
  refine lv_land hx hb dX8_set_5 ?_
  refine tp_l 1800 (by decide) ?_
  refine va_put (D := D) (ci := 13) (v := .long 1800) (ty := .long) (C := RX8) (T := TX8) (N := 3) hx hb hts ax_0 tyX8 tyX8_ok nmX8 hown hE.1 hP hD hS 0 rfl rfl 0 (by decide) (hts _ tw_6) (fun _ h9 => h9) rfl (by decide +kernel) rfl rfl (Nat.le_of_ble_eq_true rfl) dX8_set_6 (fun H locs hP hD hS => ?_)
  have hP : va_P D vwCl [(a0, .inr (13, [.long 1800, v1, v2]))] H := hP
  have hD : va_D A [(a0, .inr (13, [.long 1800, v1, v2]))] := hD
  refine lv_aload_n hx hb dX8_set_9 rfl (lv_at hl 0 rfl) ?_
  refine lv_aload_n hx hb dX8_set_10 rfl (lv_at hl 0 rfl) ?_
  refine va_get (D := D) (ci := 13) (v := .long 1800) (C := RX8) (T := TX8) (N := 3) hx hb hts ax_0 hown hE.1 hP 0 rfl rfl 0 (by decide) (hts _ tw_6) (fun _ h9 => h9) rfl dX8_set_11 ?_
  refine lv_lconst (v := 0) hx hb dX8_set_14 (by decide) ?_
  refine W.lcmp hx hb dX8_set_15 ?_
  refine tp_i 1 (by decide) ?_
  refine lv_if_ne (tgt := 23) hx hb dX8_set_16 (by decide) (fun _ => ?_) (fun z => absurd z (by decide))
  refine lv_iconst (v := 1) hx hb dX8_set_23 (by decide) ?_
  refine va_put (D := D) (ci := 13) (v := .int 1) (ty := .int) (C := RX8) (T := TX8) (N := 3) hx hb hts ax_0 tyX8 tyX8_ok nmX8 hown hE.1 hP hD hS 0 rfl rfl 2 (by decide) (hts _ tw_9) (fun _ h9 => h9) rfl (by decide +kernel) rfl rfl (Nat.le_of_ble_eq_true rfl) dX8_set_24 (fun H locs hP hD hS => ?_)
  have hP : va_P D vwCl [(a0, .inr (13, [.long 1800, v1, .int 1]))] H := hP
  have hD : va_D A [(a0, .inr (13, [.long 1800, v1, .int 1]))] := hD
  refine lv_lload_n hx hb dX8_set_27 rfl (lv_at hl 1 rfl) ?_
  refine lv_ldc2 (v := 1125899906842624) hx hb hown (hts _ tw_85) dX8_set_28 ?_
  refine W.lcmp hx hb dX8_set_31 ?_
  refine tp_i (-1) (by decide) ?_
  refine lv_if_lt (tgt := 49) hx hb dX8_set_32 (by decide) (fun _ => ?_) (fun z => absurd (by decide) z)
  exact en_v hx hb hr hlk hP hD hS (fun _ => 0) (is := [0]) rfl rfl (Nat.le_of_ble_eq_true rfl) (Nat.le_of_ble_eq_true rfl) dX8_set_49
set_option maxHeartbeats 4000000 in
set_option maxRecDepth 100000 in
theorem k481_X8_setSum (l : Launch) (D : va_G) (cy : Nat → ClassId) (g : Nat → Nat) (a0 : Nat) (a1 : Nat) (v0 : Value) (v1 : Value) (sz : Nat)  : Met l yX8_setSum [.code yX8_setSum cX8_setSum 10 none] ({ frames := 1, cells := 0, slots := 0, locals := 22 }) (PC D cy g [(a0, .inr (13, [.long 0, v0, .int 0])), (a1, .inr (13, [.long 900, v1, .int 1]))] sz [.ref a0, .ref a0, .ref a1, .int 2]) (QV D (fun ad => [(a0, .inr (13, [.long 1800, v0, .int 1])), (a1, .inr (13, [.long 900, v1, .int 1]))]) (va_A [(a0, .inr (13, [.long 0, v0, .int 0])), (a1, .inr (13, [.long 900, v1, .int 1]))] sz)) 0 0 (va_A [(a0, .inr (13, [.long 0, v0, .int 0])), (a1, .inr (13, [.long 900, v1, .int 1]))] sz) := by
  refine st_V (by decide) (Nat.le_of_ble_eq_true rfl) ?_
  intro p e s m args below meth c A ls hx hb hr hml hown hlk hnm hsz hP hD hA hE hts hS hl
  have hown : s.vm.findClass RX8 = some m.cls := hown
  have hl : lv_has ls 10 [(0, .ref a0), (1, .ref a0), (2, .ref a1), (3, .int 2)] := hl
  refine lv_aload_n hx hb dX8_setSum_0 rfl (lv_at hl 1 rfl) ?_
  refine va_get (D := D) (ci := 13) (v := .int 0) (C := RX8) (T := TX8) (N := 3) hx hb hts ax_0 hown hE.1 hP 0 rfl rfl 2 (by decide) (hts _ tw_9) (fun _ h9 => h9) rfl dX8_setSum_1 ?_
  refine lv_iconst (v := 1) hx hb dX8_setSum_4 (by decide) ?_
  refine lv_icmp_gt (tgt := 33) hx hb dX8_setSum_5 (by decide) (fun z => absurd z (by decide)) (fun _ => ?_)
  refine lv_aload_n hx hb dX8_setSum_8 rfl (lv_at hl 2 rfl) ?_
  refine va_get (D := D) (ci := 13) (v := .int 1) (C := RX8) (T := TX8) (N := 3) hx hb hts ax_0 hown hE.1 hP 1 rfl rfl 2 (by decide) (hts _ tw_9) (fun _ h9 => h9) rfl dX8_setSum_9 ?_
  refine lv_iconst (v := 1) hx hb dX8_setSum_12 (by decide) ?_
  refine lv_icmp_gt (tgt := 33) hx hb dX8_setSum_13 (by decide) (fun z => absurd z (by decide)) (fun _ => ?_)
  refine lv_aload_n hx hb dX8_setSum_16 rfl (lv_at hl 0 rfl) ?_
  refine lv_aload_n hx hb dX8_setSum_17 rfl (lv_at hl 1 rfl) ?_
  refine va_get (D := D) (ci := 13) (v := .long 0) (C := RX8) (T := TX8) (N := 3) hx hb hts ax_0 hown hE.1 hP 0 rfl rfl 0 (by decide) (hts _ tw_6) (fun _ h9 => h9) rfl dX8_setSum_18 ?_
  refine lv_iload_n hx hb dX8_setSum_21 rfl (lv_at hl 3 rfl) ?_
  refine lv_i2l (v := 2) hx hb dX8_setSum_22 (by decide) ?_
  refine lv_aload_n hx hb dX8_setSum_23 rfl (lv_at hl 2 rfl) ?_
  refine va_get (D := D) (ci := 13) (v := .long 900) (C := RX8) (T := TX8) (N := 3) hx hb hts ax_0 hown hE.1 hP 1 rfl rfl 0 (by decide) (hts _ tw_6) (fun _ h9 => h9) rfl dX8_setSum_24 ?_
  refine lv_lmul hx hb dX8_setSum_27 ?_
  refine tp_l 1800 (by decide) ?_
  refine lv_ladd hx hb dX8_setSum_28 ?_
  refine tp_l 1800 (by decide) ?_
  refine ca_v (isC := [0]) (isR := [1]) (wr := [(a1, .inr (13, [.long 900, v1, .int 1]))]) (rn_V (ci := 13) (q0 := 0) (isC := [0]) (wc := [(a0, .inr (13, [.long 0, v0, .int 0]))]) (As := [.long 1800]) (rest := []) (n := 1) hx hb hml hown hts hE hS hP hD hA hl.1 (k480_X8_set l D cy g a0 (.long 0) (v0) (.int 0) s.heap.size ) rfl rfl rfl rfl rfl ax_317 rfl rfl ax_9 ⟨Nat.le_of_ble_eq_true rfl, Nat.le_of_ble_eq_true rfl⟩ rfl rfl (Nat.le_of_ble_eq_true rfl) dX8_setSum_29 ⟨(Nat.le_of_ble_eq_true rfl), (Nat.le_of_ble_eq_true rfl)⟩) hP hD hS hA rfl rfl rfl (by decide) (fun ad29 H locs hP hD hS => ?_)
  have hP : va_P D vwCl [(a1, .inr (13, [.long 900, v1, .int 1])), (a0, .inr (13, [.long 1800, v0, .int 1]))] H := hP
  have hD : va_D A [(a1, .inr (13, [.long 900, v1, .int 1])), (a0, .inr (13, [.long 1800, v0, .int 1]))] := hD
  exact en_v hx hb hr hlk hP hD hS (fun _ => 0) (is := [1, 0]) rfl rfl (Nat.le_of_ble_eq_true rfl) (Nat.le_of_ble_eq_true rfl) dX8_setSum_32
set_option maxHeartbeats 4000000 in
set_option maxRecDepth 100000 in
theorem k482_X8_setTimes (l : Launch) (D : va_G) (cy : Nat → ClassId) (g : Nat → Nat) (a0 : Nat) (a1 : Nat) (v0 : Value) (v1 : Value) (v2 : Value) (v3 : Value) (sz : Nat)  : Met l yX8_setTimes [.code yX8_setTimes cX8_setTimes 3 none] ({ frames := 2, cells := 0, slots := 0, locals := 51 }) (PC D cy g [(a0, .inr (13, [v0, v1, v2])), (a1, .inr (13, [.long 900, v3, .int 1]))] sz [.ref a0, .ref a1, .int 2]) (QV D (fun ad => [(a0, .inr (13, [.long 1800, v1, .int 1])), (a1, .inr (13, [.long 900, v3, .int 1]))]) (va_A [(a0, .inr (13, [v0, v1, v2])), (a1, .inr (13, [.long 900, v3, .int 1]))] sz)) 0 0 (va_A [(a0, .inr (13, [v0, v1, v2])), (a1, .inr (13, [.long 900, v3, .int 1]))] sz) := by
  refine st_V (by decide) (Nat.le_of_ble_eq_true rfl) ?_
  intro p e s m args below meth c A ls hx hb hr hml hown hlk hnm hsz hP hD hA hE hts hS hl
  have hown : s.vm.findClass RX8 = some m.cls := hown
  have hl : lv_has ls 3 [(0, .ref a0), (1, .ref a1), (2, .int 2)] := hl
  refine lv_aload_n hx hb dX8_setTimes_0 rfl (lv_at hl 0 rfl) ?_
  refine lv_lconst (v := 0) hx hb dX8_setTimes_1 (by decide) ?_
  refine ca_v (isC := [0]) (isR := [1]) (wr := [(a1, .inr (13, [.long 900, v3, .int 1]))]) (rn_V (ci := 13) (q0 := 0) (isC := [0]) (wc := [(a0, .inr (13, [v0, v1, v2]))]) (As := [.long 0]) (rest := []) (n := 1) hx hb hml hown hts hE hS hP hD hA hl.1 (k479_X8_set l D cy g a0 (v0) (v1) (v2) s.heap.size ) rfl rfl rfl rfl rfl ax_317 rfl rfl ax_9 ⟨Nat.le_of_ble_eq_true rfl, Nat.le_of_ble_eq_true rfl⟩ rfl rfl (Nat.le_of_ble_eq_true rfl) dX8_setTimes_2 ⟨(Nat.le_of_ble_eq_true rfl), (Nat.le_of_ble_eq_true rfl)⟩) hP hD hS hA rfl rfl rfl (by decide) (fun ad2 H locs hP hD hS => ?_)
  have hP : va_P D vwCl [(a1, .inr (13, [.long 900, v3, .int 1])), (a0, .inr (13, [.long 0, v1, .int 0]))] H := hP
  have hD : va_D A [(a1, .inr (13, [.long 900, v3, .int 1])), (a0, .inr (13, [.long 0, v1, .int 0]))] := hD
  refine lv_aload_n hx hb dX8_setTimes_5 rfl (lv_at hl 0 rfl) ?_
  refine lv_aload_n hx hb dX8_setTimes_6 rfl (lv_at hl 0 rfl) ?_
  refine lv_aload_n hx hb dX8_setTimes_7 rfl (lv_at hl 1 rfl) ?_
  refine lv_iload_n hx hb dX8_setTimes_8 rfl (lv_at hl 2 rfl) ?_
  refine ca_v (isC := [1, 0]) (isR := []) (wr := []) (rn_V (ci := 13) (q0 := 1) (isC := [1, 0]) (wc := [(a0, .inr (13, [.long 0, v1, .int 0])), (a1, .inr (13, [.long 900, v3, .int 1]))]) (As := [.ref a0, .ref a1, .int 2]) (rest := []) (n := 3) hx hb hml hown hts hE hS hP hD hA hl.1 (k481_X8_setSum l D cy g a0 a1 (v1) (v3) H.size ) rfl rfl rfl rfl rfl ax_318 rfl rfl ax_319 ⟨Nat.le_of_ble_eq_true rfl, Nat.le_of_ble_eq_true rfl⟩ rfl rfl (Nat.le_of_ble_eq_true rfl) dX8_setTimes_9 ⟨(Nat.le_of_ble_eq_true rfl), (Nat.le_of_ble_eq_true rfl)⟩) hP hD hS hA rfl rfl rfl (by decide) (fun ad9 H locs hP hD hS => ?_)
  have hP : va_P D vwCl [(a0, .inr (13, [.long 1800, v1, .int 1])), (a1, .inr (13, [.long 900, v3, .int 1]))] H := hP
  have hD : va_D A [(a0, .inr (13, [.long 1800, v1, .int 1])), (a1, .inr (13, [.long 900, v3, .int 1]))] := hD
  exact en_v hx hb hr hlk hP hD hS (fun _ => 0) (is := [0, 1]) rfl rfl (Nat.le_of_ble_eq_true rfl) (Nat.le_of_ble_eq_true rfl) dX8_setTimes_12
set_option maxHeartbeats 4000000 in
set_option maxRecDepth 100000 in
theorem k483_X8_set (l : Launch) (D : va_G) (cy : Nat → ClassId) (g : Nat → Nat) (a0 : Nat) (v0 : Value) (v1 : Value) (v2 : Value) (sz : Nat)  : Met l yX8_set [.code yX8_set cX8_set 3 none] ({ frames := 0, cells := 0, slots := 0, locals := 0 }) (PC D cy g [(a0, .inr (13, [v0, v1, v2]))] sz [.ref a0, .long 60]) (QV D (fun ad => [(a0, .inr (13, [.long 60, v1, .int 1]))]) (va_A [(a0, .inr (13, [v0, v1, v2]))] sz)) 0 0 (va_A [(a0, .inr (13, [v0, v1, v2]))] sz) := by
  refine st_V (by decide) (Nat.le_of_ble_eq_true rfl) ?_
  intro p e s m args below meth c A ls hx hb hr hml hown hlk hnm hsz hP hD hA hE hts hS hl
  have hown : s.vm.findClass RX8 = some m.cls := hown
  have hl : lv_has ls 3 [(0, .ref a0), (1, .long 60)] := hl
  refine lv_aload_n hx hb dX8_set_0 rfl (lv_at hl 0 rfl) ?_
  refine lv_lload_n hx hb dX8_set_1 rfl (lv_at hl 1 rfl) ?_
  refine lv_ldc2 (v := 1125899906842623) hx hb hown (hts _ tw_84) dX8_set_2 ?_
  refine lv_land hx hb dX8_set_5 ?_
  refine tp_l 60 (by decide) ?_
  refine va_put (D := D) (ci := 13) (v := .long 60) (ty := .long) (C := RX8) (T := TX8) (N := 3) hx hb hts ax_0 tyX8 tyX8_ok nmX8 hown hE.1 hP hD hS 0 rfl rfl 0 (by decide) (hts _ tw_6) (fun _ h9 => h9) rfl (by decide +kernel) rfl rfl (Nat.le_of_ble_eq_true rfl) dX8_set_6 (fun H locs hP hD hS => ?_)
  have hP : va_P D vwCl [(a0, .inr (13, [.long 60, v1, v2]))] H := hP
  have hD : va_D A [(a0, .inr (13, [.long 60, v1, v2]))] := hD
  refine lv_aload_n hx hb dX8_set_9 rfl (lv_at hl 0 rfl) ?_
  refine lv_aload_n hx hb dX8_set_10 rfl (lv_at hl 0 rfl) ?_
  refine va_get (D := D) (ci := 13) (v := .long 60) (C := RX8) (T := TX8) (N := 3) hx hb hts ax_0 hown hE.1 hP 0 rfl rfl 0 (by decide) (hts _ tw_6) (fun _ h9 => h9) rfl dX8_set_11 ?_
  refine lv_lconst (v := 0) hx hb dX8_set_14 (by decide) ?_
  refine W.lcmp hx hb dX8_set_15 ?_
  refine tp_i 1 (by decide) ?_
  refine lv_if_ne (tgt := 23) hx hb dX8_set_16 (by decide) (fun _ => ?_) (fun z => absurd z (by decide))
  refine lv_iconst (v := 1) hx hb dX8_set_23 (by decide) ?_
  refine va_put (D := D) (ci := 13) (v := .int 1) (ty := .int) (C := RX8) (T := TX8) (N := 3) hx hb hts ax_0 tyX8 tyX8_ok nmX8 hown hE.1 hP hD hS 0 rfl rfl 2 (by decide) (hts _ tw_9) (fun _ h9 => h9) rfl (by decide +kernel) rfl rfl (Nat.le_of_ble_eq_true rfl) dX8_set_24 (fun H locs hP hD hS => ?_)
  have hP : va_P D vwCl [(a0, .inr (13, [.long 60, v1, .int 1]))] H := hP
  have hD : va_D A [(a0, .inr (13, [.long 60, v1, .int 1]))] := hD
  refine lv_lload_n hx hb dX8_set_27 rfl (lv_at hl 1 rfl) ?_
  refine lv_ldc2 (v := 1125899906842624) hx hb hown (hts _ tw_85) dX8_set_28 ?_
  refine W.lcmp hx hb dX8_set_31 ?_
  refine tp_i (-1) (by decide) ?_
  refine lv_if_lt (tgt := 49) hx hb dX8_set_32 (by decide) (fun _ => ?_) (fun z => absurd (by decide) z)
  exact en_v hx hb hr hlk hP hD hS (fun _ => 0) (is := [0]) rfl rfl (Nat.le_of_ble_eq_true rfl) (Nat.le_of_ble_eq_true rfl) dX8_set_49
set_option maxHeartbeats 4000000 in
set_option maxRecDepth 100000 in
theorem k484_X8_setQuotient (l : Launch) (D : va_G) (cy : Nat → ClassId) (g : Nat → Nat) (a0 : Nat) (v0 : Value) (sz : Nat)  : Met l yX8_setQuotient [.code yX8_setQuotient cX8_setQuotient 9 none] ({ frames := 1, cells := 0, slots := 0, locals := 22 }) (PC D cy g [(a0, .inr (13, [.long 1800, v0, .int 1]))] sz [.ref a0, .ref a0, .int 30]) (QV D (fun ad => [(a0, .inr (13, [.long 60, v0, .int 1]))]) (va_A [(a0, .inr (13, [.long 1800, v0, .int 1]))] sz)) 0 0 (va_A [(a0, .inr (13, [.long 1800, v0, .int 1]))] sz) := by
  refine st_V (by decide) (Nat.le_of_ble_eq_true rfl) ?_
  intro p e s m args below meth c A ls hx hb hr hml hown hlk hnm hsz hP hD hA hE hts hS hl
  have hown : s.vm.findClass RX8 = some m.cls := hown
  have hl : lv_has ls 9 [(0, .ref a0), (1, .ref a0), (2, .int 30)] := hl
  refine lv_iload_n hx hb dX8_setQuotient_0 rfl (lv_at hl 2 rfl) ?_
  refine lv_iconst (v := 1) hx hb dX8_setQuotient_1 (by decide) ?_
  refine lv_icmp_lt (tgt := 13) hx hb dX8_setQuotient_2 (by decide) (fun z => absurd z (by decide)) (fun _ => ?_)
  refine lv_aload_n hx hb dX8_setQuotient_5 rfl (lv_at hl 1 rfl) ?_
  refine va_get (D := D) (ci := 13) (v := .int 1) (C := RX8) (T := TX8) (N := 3) hx hb hts ax_0 hown hE.1 hP 0 rfl rfl 2 (by decide) (hts _ tw_9) (fun _ h9 => h9) rfl dX8_setQuotient_6 ?_
  refine lv_iconst (v := 1) hx hb dX8_setQuotient_9 (by decide) ?_
  refine lv_icmp_gt (tgt := 34) hx hb dX8_setQuotient_10 (by decide) (fun z => absurd z (by decide)) (fun _ => ?_)
  refine lv_aload_n hx hb dX8_setQuotient_13 rfl (lv_at hl 0 rfl) ?_
  refine lv_iload_n hx hb dX8_setQuotient_14 rfl (lv_at hl 2 rfl) ?_
  refine lv_iconst (v := 1) hx hb dX8_setQuotient_15 (by decide) ?_
  refine lv_icmp_ge (tgt := 23) hx hb dX8_setQuotient_16 (by decide) (fun _ => ?_) (fun z => absurd (by decide) z)
  refine lv_aload_n hx hb dX8_setQuotient_23 rfl (lv_at hl 1 rfl) ?_
  refine va_get (D := D) (ci := 13) (v := .long 1800) (C := RX8) (T := TX8) (N := 3) hx hb hts ax_0 hown hE.1 hP 0 rfl rfl 0 (by decide) (hts _ tw_6) (fun _ h9 => h9) rfl dX8_setQuotient_24 ?_
  refine lv_iload_n hx hb dX8_setQuotient_27 rfl (lv_at hl 2 rfl) ?_
  refine lv_i2l (v := 30) hx hb dX8_setQuotient_28 (by decide) ?_
  refine lv_ldiv hx hb dX8_setQuotient_29 (by decide) ?_
  refine tp_l 60 (by decide) ?_
  refine ca_v (isC := [0]) (isR := []) (wr := []) (rn_V (ci := 13) (q0 := 0) (isC := [0]) (wc := [(a0, .inr (13, [.long 1800, v0, .int 1]))]) (As := [.long 60]) (rest := []) (n := 1) hx hb hml hown hts hE hS hP hD hA hl.1 (k483_X8_set l D cy g a0 (.long 1800) (v0) (.int 1) s.heap.size ) rfl rfl rfl rfl rfl ax_317 rfl rfl ax_9 ⟨Nat.le_of_ble_eq_true rfl, Nat.le_of_ble_eq_true rfl⟩ rfl rfl (Nat.le_of_ble_eq_true rfl) dX8_setQuotient_30 ⟨(Nat.le_of_ble_eq_true rfl), (Nat.le_of_ble_eq_true rfl)⟩) hP hD hS hA rfl rfl rfl (by decide) (fun ad30 H locs hP hD hS => ?_)
  have hP : va_P D vwCl [(a0, .inr (13, [.long 60, v0, .int 1]))] H := hP
  have hD : va_D A [(a0, .inr (13, [.long 60, v0, .int 1]))] := hD
  exact en_v hx hb hr hlk hP hD hS (fun _ => 0) (is := [0]) rfl rfl (Nat.le_of_ble_eq_true rfl) (Nat.le_of_ble_eq_true rfl) dX8_setQuotient_33
set_option maxHeartbeats 4000000 in
set_option maxRecDepth 100000 in
theorem k485_X1_pressureNow (l : Launch) (D : va_G) (cy : Nat → ClassId) (g : Nat → Nat) (a0 : Nat) (a1 : Nat) (a2 : Nat) (v0 : Value) (v1 : Value) (v2 : Value) (v3 : Value) (v4 : Value) (v5 : Value) (v6 : Value) (v7 : Value) (v8 : Value) (v9 : Value) (v10 : Value) (v11 : Value) (v12 : Value) (v13 : Value) (sz : Nat)  : Met l yX1_pressureNow [.code yX1_pressureNow cX1_pressureNow 1 (some (.object "Cycleworks$Whole"))] ({ frames := 3, cells := 0, slots := 0, locals := 73 }) (PC D cy g [(a0, .inr (6, [v0, v1, v2, v3, v4, .int 10, .ref a2, v5, .ref a1, v6, v7, v8, v9])), (a1, .inr (13, [v10, v11, v12])), (a2, .inr (13, [.long 900, v13, .int 1]))] sz [.ref a0]) (QR D (fun ad => a1) (fun ad => [(a0, .inr (6, [v0, v1, v2, v3, v4, .int 10, .ref a2, v5, .ref a1, v6, v7, v8, v9])), (a1, .inr (13, [.long 60, v11, .int 1])), (a2, .inr (13, [.long 900, v13, .int 1]))]) (va_A [(a0, .inr (6, [v0, v1, v2, v3, v4, .int 10, .ref a2, v5, .ref a1, v6, v7, v8, v9])), (a1, .inr (13, [v10, v11, v12])), (a2, .inr (13, [.long 900, v13, .int 1]))] sz)) 0 0 (va_A [(a0, .inr (6, [v0, v1, v2, v3, v4, .int 10, .ref a2, v5, .ref a1, v6, v7, v8, v9])), (a1, .inr (13, [v10, v11, v12])), (a2, .inr (13, [.long 900, v13, .int 1]))] sz) := by
  refine st_R (by decide) (Nat.le_of_ble_eq_true rfl) ?_
  intro p e s m args below meth c A ls hx hb hr hml hown hlk hnm hsz hP hD hA hE hts hS hl
  have hown : s.vm.findClass RX1 = some m.cls := hown
  have hl : lv_has ls 1 [(0, .ref a0)] := hl
  refine lv_aload_n hx hb dX1_pressureNow_0 rfl (lv_at hl 0 rfl) ?_
  refine va_get (D := D) (ci := 6) (v := .ref a1) (C := RX1) (T := TX1) (N := 13) hx hb hts ax_7 hown hE.1 hP 0 rfl rfl 8 (by decide) (hts _ tw_114) (fun _ h9 => h9) rfl dX1_pressureNow_1 ?_
  refine lv_aload_n hx hb dX1_pressureNow_4 rfl (lv_at hl 0 rfl) ?_
  refine va_get (D := D) (ci := 6) (v := .ref a2) (C := RX1) (T := TX1) (N := 13) hx hb hts ax_7 hown hE.1 hP 0 rfl rfl 6 (by decide) (hts _ tw_101) (fun _ h9 => h9) rfl dX1_pressureNow_5 ?_
  refine lv_iconst (v := 2) hx hb dX1_pressureNow_8 (by decide) ?_
  refine ca_v (isC := [1, 2]) (isR := [0]) (wr := [(a0, .inr (6, [v0, v1, v2, v3, v4, .int 10, .ref a2, v5, .ref a1, v6, v7, v8, v9]))]) (rn_V (ci := 13) (q0 := 1) (isC := [1, 2]) (wc := [(a1, .inr (13, [v10, v11, v12])), (a2, .inr (13, [.long 900, v13, .int 1]))]) (As := [.ref a2, .int 2]) (rest := []) (n := 2) hx hb hml hown hts hE hS hP hD hA hl.1 (k482_X8_setTimes l D cy g a1 a2 (v10) (v11) (v12) (v13) s.heap.size ) rfl rfl rfl rfl rfl ax_320 rfl rfl ax_321 ⟨Nat.le_of_ble_eq_true rfl, Nat.le_of_ble_eq_true rfl⟩ rfl rfl (Nat.le_of_ble_eq_true rfl) dX1_pressureNow_9 ⟨(Nat.le_of_ble_eq_true rfl), (Nat.le_of_ble_eq_true rfl)⟩) hP hD hS hA rfl rfl rfl (by decide) (fun ad9 H locs hP hD hS => ?_)
  have hP : va_P D vwCl [(a0, .inr (6, [v0, v1, v2, v3, v4, .int 10, .ref a2, v5, .ref a1, v6, v7, v8, v9])), (a1, .inr (13, [.long 1800, v11, .int 1])), (a2, .inr (13, [.long 900, v13, .int 1]))] H := hP
  have hD : va_D A [(a0, .inr (6, [v0, v1, v2, v3, v4, .int 10, .ref a2, v5, .ref a1, v6, v7, v8, v9])), (a1, .inr (13, [.long 1800, v11, .int 1])), (a2, .inr (13, [.long 900, v13, .int 1]))] := hD
  refine lv_aload_n hx hb dX1_pressureNow_12 rfl (lv_at hl 0 rfl) ?_
  refine va_get (D := D) (ci := 6) (v := .ref a1) (C := RX1) (T := TX1) (N := 13) hx hb hts ax_7 hown hE.1 hP 0 rfl rfl 8 (by decide) (hts _ tw_114) (fun _ h9 => h9) rfl dX1_pressureNow_13 ?_
  refine lv_aload_n hx hb dX1_pressureNow_16 rfl (lv_at hl 0 rfl) ?_
  refine va_get (D := D) (ci := 6) (v := .ref a1) (C := RX1) (T := TX1) (N := 13) hx hb hts ax_7 hown hE.1 hP 0 rfl rfl 8 (by decide) (hts _ tw_114) (fun _ h9 => h9) rfl dX1_pressureNow_17 ?_
  refine lv_iconst (v := 3) hx hb dX1_pressureNow_20 (by decide) ?_
  refine lv_aload_n hx hb dX1_pressureNow_21 rfl (lv_at hl 0 rfl) ?_
  refine va_get (D := D) (ci := 6) (v := .int 10) (C := RX1) (T := TX1) (N := 13) hx hb hts ax_7 hown hE.1 hP 0 rfl rfl 5 (by decide) (hts _ tw_100) (fun _ h9 => h9) rfl dX1_pressureNow_22 ?_
  refine lv_imul hx hb dX1_pressureNow_25 ?_
  refine tp_i 30 (by decide) ?_
  refine ca_v (isC := [1]) (isR := [0, 2]) (wr := [(a0, .inr (6, [v0, v1, v2, v3, v4, .int 10, .ref a2, v5, .ref a1, v6, v7, v8, v9])), (a2, .inr (13, [.long 900, v13, .int 1]))]) (rn_V (ci := 13) (q0 := 1) (isC := [1]) (wc := [(a1, .inr (13, [.long 1800, v11, .int 1]))]) (As := [.ref a1, .int 30]) (rest := []) (n := 2) hx hb hml hown hts hE hS hP hD hA hl.1 (k484_X8_setQuotient l D cy g a1 (v11) H.size ) rfl rfl rfl rfl rfl ax_322 rfl rfl ax_323 ⟨Nat.le_of_ble_eq_true rfl, Nat.le_of_ble_eq_true rfl⟩ rfl rfl (Nat.le_of_ble_eq_true rfl) dX1_pressureNow_26 ⟨(Nat.le_of_ble_eq_true rfl), (Nat.le_of_ble_eq_true rfl)⟩) hP hD hS hA rfl rfl rfl (by decide) (fun ad26 H locs hP hD hS => ?_)
  have hP : va_P D vwCl [(a0, .inr (6, [v0, v1, v2, v3, v4, .int 10, .ref a2, v5, .ref a1, v6, v7, v8, v9])), (a2, .inr (13, [.long 900, v13, .int 1])), (a1, .inr (13, [.long 60, v11, .int 1]))] H := hP
  have hD : va_D A [(a0, .inr (6, [v0, v1, v2, v3, v4, .int 10, .ref a2, v5, .ref a1, v6, v7, v8, v9])), (a2, .inr (13, [.long 900, v13, .int 1])), (a1, .inr (13, [.long 60, v11, .int 1]))] := hD
  refine lv_aload_n hx hb dX1_pressureNow_29 rfl (lv_at hl 0 rfl) ?_
  refine va_get (D := D) (ci := 6) (v := .ref a1) (C := RX1) (T := TX1) (N := 13) hx hb hts ax_7 hown hE.1 hP 0 rfl rfl 8 (by decide) (hts _ tw_114) (fun _ h9 => h9) rfl dX1_pressureNow_30 ?_
  exact en_r hx hb hr (Or.inl ⟨_, rfl⟩) hlk hP hD hS (fun _ => 0) rfl (is := [0, 2, 1]) rfl rfl (Nat.le_of_ble_eq_true rfl) (Nat.le_of_ble_eq_true rfl) dX1_pressureNow_33
set_option maxHeartbeats 4000000 in
set_option maxRecDepth 100000 in
theorem k486_X8_low (l : Launch) (D : va_G) (cy : Nat → ClassId) (g : Nat → Nat) (a0 : Nat) (v0 : Value) (sz : Nat)  : Met l yX8_low [.code yX8_low cX8_low 1 (some .long)] ({ frames := 0, cells := 0, slots := 0, locals := 0 }) (PC D cy g [(a0, .inr (13, [.long 60, v0, .int 1]))] sz [.ref a0]) (QL D 60 (fun ad => [(a0, .inr (13, [.long 60, v0, .int 1]))]) (va_A [(a0, .inr (13, [.long 60, v0, .int 1]))] sz)) 0 0 (va_A [(a0, .inr (13, [.long 60, v0, .int 1]))] sz) := by
  refine st_L (by decide) (Nat.le_of_ble_eq_true rfl) ?_
  intro p e s m args below meth c A ls hx hb hr hml hown hlk hnm hsz hP hD hA hE hts hS hl
  have hown : s.vm.findClass RX8 = some m.cls := hown
  have hl : lv_has ls 1 [(0, .ref a0)] := hl
  refine lv_aload_n hx hb dX8_low_0 rfl (lv_at hl 0 rfl) ?_
  refine va_get (D := D) (ci := 13) (v := .int 1) (C := RX8) (T := TX8) (N := 3) hx hb hts ax_0 hown hE.1 hP 0 rfl rfl 2 (by decide) (hts _ tw_9) (fun _ h9 => h9) rfl dX8_low_1 ?_
  refine lv_iconst (v := 1) hx hb dX8_low_4 (by decide) ?_
  refine lv_icmp_le (tgt := 24) hx hb dX8_low_5 (by decide) (fun _ => ?_) (fun z => absurd (by decide) z)
  refine lv_aload_n hx hb dX8_low_24 rfl (lv_at hl 0 rfl) ?_
  refine va_get (D := D) (ci := 13) (v := .long 60) (C := RX8) (T := TX8) (N := 3) hx hb hts ax_0 hown hE.1 hP 0 rfl rfl 0 (by decide) (hts _ tw_6) (fun _ h9 => h9) rfl dX8_low_25 ?_
  exact en_l hx hb hr hlk hP hD hS (fun _ => 0) (is := [0]) rfl rfl (Nat.le_of_ble_eq_true rfl) (Nat.le_of_ble_eq_true rfl) dX8_low_28
set_option maxHeartbeats 4000000 in
set_option maxRecDepth 100000 in
theorem k487_X9_gasPressure (l : Launch) (D : va_G) (cy : Nat → ClassId) (g : Nat → Nat) (a0 : Nat) (a1 : Nat) (a2 : Nat) (a3 : Nat) (v0 : Value) (v1 : Value) (v2 : Value) (v3 : Value) (v4 : Value) (v5 : Value) (v6 : Value) (v7 : Value) (v8 : Value) (v9 : Value) (v10 : Value) (v11 : Value) (v12 : Value) (v13 : Value) (v14 : Value) (v15 : Value) (v16 : Value) (v17 : Value) (v18 : Value) (v19 : Value) (sz : Nat)  : Met l yX9_gasPressure [.code yX9_gasPressure cX9_gasPressure 1 (some .int)] ({ frames := 4, cells := 0, slots := 0, locals := 93 }) (PC D cy g [(a0, .inr (14, [v0, v1, v2, .ref a1, v3, v4, v5])), (a1, .inr (6, [v6, v7, v8, v9, v10, .int 10, .ref a3, v11, .ref a2, v12, v13, v14, v15])), (a2, .inr (13, [v16, v17, v18])), (a3, .inr (13, [.long 900, v19, .int 1]))] sz [.ref a0]) (QI D 60 (fun ad => []) (va_A [(a0, .inr (14, [v0, v1, v2, .ref a1, v3, v4, v5])), (a1, .inr (6, [v6, v7, v8, v9, v10, .int 10, .ref a3, v11, .ref a2, v12, v13, v14, v15])), (a2, .inr (13, [v16, v17, v18])), (a3, .inr (13, [.long 900, v19, .int 1]))] sz)) 0 0 (va_A [(a0, .inr (14, [v0, v1, v2, .ref a1, v3, v4, v5])), (a1, .inr (6, [v6, v7, v8, v9, v10, .int 10, .ref a3, v11, .ref a2, v12, v13, v14, v15])), (a2, .inr (13, [v16, v17, v18])), (a3, .inr (13, [.long 900, v19, .int 1]))] sz) := by
  refine st_I (by decide) (Nat.le_of_ble_eq_true rfl) ?_
  intro p e s m args below meth c A ls hx hb hr hml hown hlk hnm hsz hP hD hA hE hts hS hl
  have hown : s.vm.findClass RX9 = some m.cls := hown
  have hl : lv_has ls 1 [(0, .ref a0)] := hl
  refine lv_aload_n hx hb dX9_gasPressure_0 rfl (lv_at hl 0 rfl) ?_
  refine va_get (D := D) (ci := 14) (v := .ref a1) (C := RX9) (T := TX9) (N := 7) hx hb hts ax_16 hown hE.1 hP 0 rfl rfl 3 (by decide) (hts _ tw_199) (fun _ h9 => h9) rfl dX9_gasPressure_1 ?_
  refine ca_r (isC := [1, 2, 3]) (isR := [0]) (wr := [(a0, .inr (14, [v0, v1, v2, .ref a1, v3, v4, v5]))]) (rn_V (ci := 6) (q0 := 1) (isC := [1, 2, 3]) (wc := [(a1, .inr (6, [v6, v7, v8, v9, v10, .int 10, .ref a3, v11, .ref a2, v12, v13, v14, v15])), (a2, .inr (13, [v16, v17, v18])), (a3, .inr (13, [.long 900, v19, .int 1]))]) (As := []) (rest := []) (n := 0) hx hb hml hown hts hE hS hP hD hA hl.1 (k485_X1_pressureNow l D cy g a1 a2 a3 (v6) (v7) (v8) (v9) (v10) (v11) (v12) (v13) (v14) (v15) (v16) (v17) (v18) (v19) s.heap.size ) rfl rfl rfl rfl rfl ax_324 rfl rfl ax_325 ⟨Nat.le_of_ble_eq_true rfl, Nat.le_of_ble_eq_true rfl⟩ rfl rfl (Nat.le_of_ble_eq_true rfl) dX9_gasPressure_4 ⟨(Nat.le_of_ble_eq_true rfl), (Nat.le_of_ble_eq_true rfl)⟩) hP hD hS hA rfl rfl rfl (by decide) (fun ad4 H locs hP hD hS => ?_)
  have hP : va_P D vwCl [(a0, .inr (14, [v0, v1, v2, .ref a1, v3, v4, v5])), (a1, .inr (6, [v6, v7, v8, v9, v10, .int 10, .ref a3, v11, .ref a2, v12, v13, v14, v15])), (a2, .inr (13, [.long 60, v17, .int 1])), (a3, .inr (13, [.long 900, v19, .int 1]))] H := hP
  have hD : va_D A [(a0, .inr (14, [v0, v1, v2, .ref a1, v3, v4, v5])), (a1, .inr (6, [v6, v7, v8, v9, v10, .int 10, .ref a3, v11, .ref a2, v12, v13, v14, v15])), (a2, .inr (13, [.long 60, v17, .int 1])), (a3, .inr (13, [.long 900, v19, .int 1]))] := hD
  refine ca_l (isC := [2]) (isR := [0, 1, 3]) (wr := [(a0, .inr (14, [v0, v1, v2, .ref a1, v3, v4, v5])), (a1, .inr (6, [v6, v7, v8, v9, v10, .int 10, .ref a3, v11, .ref a2, v12, v13, v14, v15])), (a3, .inr (13, [.long 900, v19, .int 1]))]) (rn_V (ci := 13) (q0 := 2) (isC := [2]) (wc := [(a2, .inr (13, [.long 60, v17, .int 1]))]) (As := []) (rest := []) (n := 0) hx hb hml hown hts hE hS hP hD hA hl.1 (k486_X8_low l D cy g a2 (v17) H.size ) rfl rfl rfl rfl rfl ax_23 rfl rfl ax_24 ⟨Nat.le_of_ble_eq_true rfl, Nat.le_of_ble_eq_true rfl⟩ rfl rfl (Nat.le_of_ble_eq_true rfl) dX9_gasPressure_7 ⟨(Nat.le_of_ble_eq_true rfl), (Nat.le_of_ble_eq_true rfl)⟩) hP hD hS hA rfl rfl rfl (by decide) (fun ad7 H locs hP hD hS => ?_)
  have hP : va_P D vwCl [(a0, .inr (14, [v0, v1, v2, .ref a1, v3, v4, v5])), (a1, .inr (6, [v6, v7, v8, v9, v10, .int 10, .ref a3, v11, .ref a2, v12, v13, v14, v15])), (a3, .inr (13, [.long 900, v19, .int 1])), (a2, .inr (13, [.long 60, v17, .int 1]))] H := hP
  have hD : va_D A [(a0, .inr (14, [v0, v1, v2, .ref a1, v3, v4, v5])), (a1, .inr (6, [v6, v7, v8, v9, v10, .int 10, .ref a3, v11, .ref a2, v12, v13, v14, v15])), (a3, .inr (13, [.long 900, v19, .int 1])), (a2, .inr (13, [.long 60, v17, .int 1]))] := hD
  refine lv_l2i (v := 60) hx hb dX9_gasPressure_10 (by decide) ?_
  exact en_z hx hb hr hlk hP hD hS rfl (fun _ => 0) (is := []) rfl rfl (Nat.le_of_ble_eq_true rfl) (Nat.le_of_ble_eq_true rfl) dX9_gasPressure_11
set_option maxHeartbeats 4000000 in
set_option maxRecDepth 100000 in
theorem k488_X10_push (l : Launch) (D : va_G) (cy : Nat → ClassId) (g : Nat → Nat) (a0 : Nat) (v0 : Value) (v1 : Value) (v2 : Value) (v3 : Value) (v4 : Value) (v5 : Value) (v6 : Value) (v7 : Value) (v8 : Value) (v9 : Value) (v10 : Value) (v11 : Value) (v12 : Value) (v13 : Value) (v14 : Value) (v15 : Value) (v16 : Value) (v17 : Value) (v18 : Value) (v19 : Value) (v20 : Value) (v21 : Value) (v22 : Value) (v23 : Value) (v24 : Value) (v25 : Value) (sz : Nat)  : Met l yX10_push [.code yX10_push cX10_push 1 (some .int)] ({ frames := 0, cells := 0, slots := 0, locals := 0 }) (PC D cy g [(a0, .inr (15, [v0, v1, v2, v3, v4, v5, v6, v7, v8, v9, .int 10, .int 900, v10, v11, v12, v13, v14, v15, v16, v17, v18, v19, v20, v21, v22, v23, v24, v25]))] sz [.ref a0]) (QI D 60 (fun ad => [(a0, .inr (15, [v0, v1, v2, v3, v4, v5, v6, v7, v8, v9, .int 10, .int 900, v10, v11, v12, v13, v14, v15, v16, v17, v18, v19, v20, v21, v22, v23, v24, v25]))]) (va_A [(a0, .inr (15, [v0, v1, v2, v3, v4, v5, v6, v7, v8, v9, .int 10, .int 900, v10, v11, v12, v13, v14, v15, v16, v17, v18, v19, v20, v21, v22, v23, v24, v25]))] sz)) 0 0 (va_A [(a0, .inr (15, [v0, v1, v2, v3, v4, v5, v6, v7, v8, v9, .int 10, .int 900, v10, v11, v12, v13, v14, v15, v16, v17, v18, v19, v20, v21, v22, v23, v24, v25]))] sz) := by
  refine st_I (by decide) (Nat.le_of_ble_eq_true rfl) ?_
  intro p e s m args below meth c A ls hx hb hr hml hown hlk hnm hsz hP hD hA hE hts hS hl
  have hown : s.vm.findClass RX10 = some m.cls := hown
  have hl : lv_has ls 1 [(0, .ref a0)] := hl
  refine lv_iconst (v := 2) hx hb dX10_push_0 (by decide) ?_
  refine lv_aload_n hx hb dX10_push_1 rfl (lv_at hl 0 rfl) ?_
  refine va_get (D := D) (ci := 15) (v := .int 900) (C := RX10) (T := TX10) (N := 28) hx hb hts ax_29 hown hE.1 hP 0 rfl rfl 11 (by decide) (hts _ tw_282) (fun _ h9 => h9) rfl dX10_push_2 ?_
  refine lv_imul hx hb dX10_push_5 ?_
  refine tp_i 1800 (by decide) ?_
  refine lv_iconst (v := 3) hx hb dX10_push_6 (by decide) ?_
  refine lv_aload_n hx hb dX10_push_7 rfl (lv_at hl 0 rfl) ?_
  refine va_get (D := D) (ci := 15) (v := .int 10) (C := RX10) (T := TX10) (N := 28) hx hb hts ax_29 hown hE.1 hP 0 rfl rfl 10 (by decide) (hts _ tw_281) (fun _ h9 => h9) rfl dX10_push_8 ?_
  refine lv_imul hx hb dX10_push_11 ?_
  refine tp_i 30 (by decide) ?_
  refine lv_idiv hx hb dX10_push_12 (by decide) ?_
  refine tp_i 60 (by decide) ?_
  exact en_z hx hb hr hlk hP hD hS rfl (fun _ => 0) (is := [0]) rfl rfl (Nat.le_of_ble_eq_true rfl) (Nat.le_of_ble_eq_true rfl) dX10_push_13
set_option maxHeartbeats 4000000 in
set_option maxRecDepth 100000 in
theorem k489_X10_gasPressure (l : Launch) (D : va_G) (cy : Nat → ClassId) (g : Nat → Nat) (a0 : Nat) (v0 : Value) (v1 : Value) (v2 : Value) (v3 : Value) (v4 : Value) (v5 : Value) (v6 : Value) (v7 : Value) (v8 : Value) (v9 : Value) (v10 : Value) (v11 : Value) (v12 : Value) (v13 : Value) (v14 : Value) (v15 : Value) (v16 : Value) (v17 : Value) (v18 : Value) (v19 : Value) (v20 : Value) (v21 : Value) (v22 : Value) (v23 : Value) (v24 : Value) (v25 : Value) (sz : Nat)  : Met l yX10_gasPressure [.code yX10_gasPressure cX10_gasPressure 1 (some .int)] ({ frames := 1, cells := 0, slots := 0, locals := 20 }) (PC D cy g [(a0, .inr (15, [v0, v1, v2, v3, v4, v5, v6, v7, v8, v9, .int 10, .int 900, v10, v11, v12, v13, v14, v15, v16, v17, v18, v19, v20, v21, v22, v23, v24, v25]))] sz [.ref a0]) (QI D 60 (fun ad => [(a0, .inr (15, [.int 0, v1, v2, v3, v4, v5, v6, v7, v8, v9, .int 10, .int 900, v10, v11, v12, v13, v14, v15, v16, v17, v18, v19, v20, v21, v22, v23, v24, v25]))]) (va_A [(a0, .inr (15, [v0, v1, v2, v3, v4, v5, v6, v7, v8, v9, .int 10, .int 900, v10, v11, v12, v13, v14, v15, v16, v17, v18, v19, v20, v21, v22, v23, v24, v25]))] sz)) 0 0 (va_A [(a0, .inr (15, [v0, v1, v2, v3, v4, v5, v6, v7, v8, v9, .int 10, .int 900, v10, v11, v12, v13, v14, v15, v16, v17, v18, v19, v20, v21, v22, v23, v24, v25]))] sz) := by
  refine st_I (by decide) (Nat.le_of_ble_eq_true rfl) ?_
  intro p e s m args below meth c A ls hx hb hr hml hown hlk hnm hsz hP hD hA hE hts hS hl
  have hown : s.vm.findClass RX10 = some m.cls := hown
  have hl : lv_has ls 1 [(0, .ref a0)] := hl
  refine lv_aload_n hx hb dX10_gasPressure_0 rfl (lv_at hl 0 rfl) ?_
  refine ca_v (isC := [0]) (isR := []) (wr := []) (rn_V (ci := 15) (q0 := 0) (isC := [0]) (wc := [(a0, .inr (15, [v0, v1, v2, v3, v4, v5, v6, v7, v8, v9, .int 10, .int 900, v10, v11, v12, v13, v14, v15, v16, v17, v18, v19, v20, v21, v22, v23, v24, v25]))]) (As := []) (rest := []) (n := 0) hx hb hml hown hts hE hS hP hD hA hl.1 (k20_X10_begins l D cy g a0 (v0) (v1) (v2) (v3) (v4) (v5) (v6) (v7) (v8) (v9) (.int 10) (.int 900) (v10) (v11) (v12) (v13) (v14) (v15) (v16) (v17) (v18) (v19) (v20) (v21) (v22) (v23) (v24) (v25) s.heap.size ) rfl rfl rfl rfl rfl ax_37 rfl rfl ax_38 ⟨Nat.le_of_ble_eq_true rfl, Nat.le_of_ble_eq_true rfl⟩ rfl rfl (Nat.le_of_ble_eq_true rfl) dX10_gasPressure_1 ⟨(Nat.le_of_ble_eq_true rfl), (Nat.le_of_ble_eq_true rfl)⟩) hP hD hS hA rfl rfl rfl (by decide) (fun ad1 H locs hP hD hS => ?_)
  have hP : va_P D vwCl [(a0, .inr (15, [.int 0, v1, v2, v3, v4, v5, v6, v7, v8, v9, .int 10, .int 900, v10, v11, v12, v13, v14, v15, v16, v17, v18, v19, v20, v21, v22, v23, v24, v25]))] H := hP
  have hD : va_D A [(a0, .inr (15, [.int 0, v1, v2, v3, v4, v5, v6, v7, v8, v9, .int 10, .int 900, v10, v11, v12, v13, v14, v15, v16, v17, v18, v19, v20, v21, v22, v23, v24, v25]))] := hD
  refine lv_aload_n hx hb dX10_gasPressure_4 rfl (lv_at hl 0 rfl) ?_
  refine ca_i (isC := [0]) (isR := []) (wr := []) (rn_V (ci := 15) (q0 := 0) (isC := [0]) (wc := [(a0, .inr (15, [.int 0, v1, v2, v3, v4, v5, v6, v7, v8, v9, .int 10, .int 900, v10, v11, v12, v13, v14, v15, v16, v17, v18, v19, v20, v21, v22, v23, v24, v25]))]) (As := []) (rest := []) (n := 0) hx hb hml hown hts hE hS hP hD hA hl.1 (k488_X10_push l D cy g a0 (.int 0) (v1) (v2) (v3) (v4) (v5) (v6) (v7) (v8) (v9) (v10) (v11) (v12) (v13) (v14) (v15) (v16) (v17) (v18) (v19) (v20) (v21) (v22) (v23) (v24) (v25) H.size ) rfl rfl rfl rfl rfl ax_328 rfl rfl ax_329 ⟨Nat.le_of_ble_eq_true rfl, Nat.le_of_ble_eq_true rfl⟩ rfl rfl (Nat.le_of_ble_eq_true rfl) dX10_gasPressure_5 ⟨(Nat.le_of_ble_eq_true rfl), (Nat.le_of_ble_eq_true rfl)⟩) hP hD hS hA rfl rfl rfl (by decide) (fun ad5 H locs hP hD hS => ?_)
  have hP : va_P D vwCl [(a0, .inr (15, [.int 0, v1, v2, v3, v4, v5, v6, v7, v8, v9, .int 10, .int 900, v10, v11, v12, v13, v14, v15, v16, v17, v18, v19, v20, v21, v22, v23, v24, v25]))] H := hP
  have hD : va_D A [(a0, .inr (15, [.int 0, v1, v2, v3, v4, v5, v6, v7, v8, v9, .int 10, .int 900, v10, v11, v12, v13, v14, v15, v16, v17, v18, v19, v20, v21, v22, v23, v24, v25]))] := hD
  exact en_z hx hb hr hlk hP hD hS rfl (fun _ => 0) (is := [0]) rfl rfl (Nat.le_of_ble_eq_true rfl) (Nat.le_of_ble_eq_true rfl) dX10_gasPressure_8
set_option maxHeartbeats 4000000 in
set_option maxRecDepth 100000 in
theorem k490_X9_gasVolume (l : Launch) (D : va_G) (cy : Nat → ClassId) (g : Nat → Nat) (a0 : Nat) (a1 : Nat) (v0 : Value) (v1 : Value) (v2 : Value) (v3 : Value) (v4 : Value) (v5 : Value) (v6 : Value) (v7 : Value) (v8 : Value) (v9 : Value) (v10 : Value) (v11 : Value) (v12 : Value) (v13 : Value) (v14 : Value) (v15 : Value) (v16 : Value) (v17 : Value) (sz : Nat)  : Met l yX9_gasVolume [.code yX9_gasVolume cX9_gasVolume 1 (some .int)] ({ frames := 0, cells := 0, slots := 0, locals := 0 }) (PC D cy g [(a0, .inr (14, [v0, v1, v2, .ref a1, v3, v4, v5])), (a1, .inr (6, [v6, v7, v8, v9, v10, .int 10, v11, v12, v13, v14, v15, v16, v17]))] sz [.ref a0]) (QI D 10 (fun ad => []) (va_A [(a0, .inr (14, [v0, v1, v2, .ref a1, v3, v4, v5])), (a1, .inr (6, [v6, v7, v8, v9, v10, .int 10, v11, v12, v13, v14, v15, v16, v17]))] sz)) 0 0 (va_A [(a0, .inr (14, [v0, v1, v2, .ref a1, v3, v4, v5])), (a1, .inr (6, [v6, v7, v8, v9, v10, .int 10, v11, v12, v13, v14, v15, v16, v17]))] sz) := by
  refine st_I (by decide) (Nat.le_of_ble_eq_true rfl) ?_
  intro p e s m args below meth c A ls hx hb hr hml hown hlk hnm hsz hP hD hA hE hts hS hl
  have hown : s.vm.findClass RX9 = some m.cls := hown
  have hl : lv_has ls 1 [(0, .ref a0)] := hl
  refine lv_aload_n hx hb dX9_gasVolume_0 rfl (lv_at hl 0 rfl) ?_
  refine va_get (D := D) (ci := 14) (v := .ref a1) (C := RX9) (T := TX9) (N := 7) hx hb hts ax_16 hown hE.1 hP 0 rfl rfl 3 (by decide) (hts _ tw_199) (fun _ h9 => h9) rfl dX9_gasVolume_1 ?_
  refine va_getN (D := D) (ci := 6) (v := .int 10) (C := RX1) (T := TX1) (N := 13) hx hb hts ax_7 hown hE.1 hP 1 rfl rfl 5 (by decide) (hts _ tw_924) (fun _ h9 => h9) rfl dX9_gasVolume_4 ?_
  exact en_z hx hb hr hlk hP hD hS rfl (fun _ => 0) (is := []) rfl rfl (Nat.le_of_ble_eq_true rfl) (Nat.le_of_ble_eq_true rfl) dX9_gasVolume_7
set_option maxHeartbeats 4000000 in
set_option maxRecDepth 100000 in
theorem k491_X10_gasVolume (l : Launch) (D : va_G) (cy : Nat → ClassId) (g : Nat → Nat) (a0 : Nat) (v0 : Value) (v1 : Value) (v2 : Value) (v3 : Value) (v4 : Value) (v5 : Value) (v6 : Value) (v7 : Value) (v8 : Value) (v9 : Value) (v10 : Value) (v11 : Value) (v12 : Value) (v13 : Value) (v14 : Value) (v15 : Value) (v16 : Value) (v17 : Value) (v18 : Value) (v19 : Value) (v20 : Value) (v21 : Value) (v22 : Value) (v23 : Value) (v24 : Value) (v25 : Value) (v26 : Value) (sz : Nat)  : Met l yX10_gasVolume [.code yX10_gasVolume cX10_gasVolume 1 (some .int)] ({ frames := 1, cells := 0, slots := 0, locals := 20 }) (PC D cy g [(a0, .inr (15, [v0, v1, v2, v3, v4, v5, v6, v7, v8, v9, .int 10, v10, v11, v12, v13, v14, v15, v16, v17, v18, v19, v20, v21, v22, v23, v24, v25, v26]))] sz [.ref a0]) (QI D 10 (fun ad => [(a0, .inr (15, [.int 0, v1, v2, v3, v4, v5, v6, v7, v8, v9, .int 10, v10, v11, v12, v13, v14, v15, v16, v17, v18, v19, v20, v21, v22, v23, v24, v25, v26]))]) (va_A [(a0, .inr (15, [v0, v1, v2, v3, v4, v5, v6, v7, v8, v9, .int 10, v10, v11, v12, v13, v14, v15, v16, v17, v18, v19, v20, v21, v22, v23, v24, v25, v26]))] sz)) 0 0 (va_A [(a0, .inr (15, [v0, v1, v2, v3, v4, v5, v6, v7, v8, v9, .int 10, v10, v11, v12, v13, v14, v15, v16, v17, v18, v19, v20, v21, v22, v23, v24, v25, v26]))] sz) := by
  refine st_I (by decide) (Nat.le_of_ble_eq_true rfl) ?_
  intro p e s m args below meth c A ls hx hb hr hml hown hlk hnm hsz hP hD hA hE hts hS hl
  have hown : s.vm.findClass RX10 = some m.cls := hown
  have hl : lv_has ls 1 [(0, .ref a0)] := hl
  refine lv_aload_n hx hb dX10_gasVolume_0 rfl (lv_at hl 0 rfl) ?_
  refine ca_v (isC := [0]) (isR := []) (wr := []) (rn_V (ci := 15) (q0 := 0) (isC := [0]) (wc := [(a0, .inr (15, [v0, v1, v2, v3, v4, v5, v6, v7, v8, v9, .int 10, v10, v11, v12, v13, v14, v15, v16, v17, v18, v19, v20, v21, v22, v23, v24, v25, v26]))]) (As := []) (rest := []) (n := 0) hx hb hml hown hts hE hS hP hD hA hl.1 (k20_X10_begins l D cy g a0 (v0) (v1) (v2) (v3) (v4) (v5) (v6) (v7) (v8) (v9) (.int 10) (v10) (v11) (v12) (v13) (v14) (v15) (v16) (v17) (v18) (v19) (v20) (v21) (v22) (v23) (v24) (v25) (v26) s.heap.size ) rfl rfl rfl rfl rfl ax_37 rfl rfl ax_38 ⟨Nat.le_of_ble_eq_true rfl, Nat.le_of_ble_eq_true rfl⟩ rfl rfl (Nat.le_of_ble_eq_true rfl) dX10_gasVolume_1 ⟨(Nat.le_of_ble_eq_true rfl), (Nat.le_of_ble_eq_true rfl)⟩) hP hD hS hA rfl rfl rfl (by decide) (fun ad1 H locs hP hD hS => ?_)
  have hP : va_P D vwCl [(a0, .inr (15, [.int 0, v1, v2, v3, v4, v5, v6, v7, v8, v9, .int 10, v10, v11, v12, v13, v14, v15, v16, v17, v18, v19, v20, v21, v22, v23, v24, v25, v26]))] H := hP
  have hD : va_D A [(a0, .inr (15, [.int 0, v1, v2, v3, v4, v5, v6, v7, v8, v9, .int 10, v10, v11, v12, v13, v14, v15, v16, v17, v18, v19, v20, v21, v22, v23, v24, v25, v26]))] := hD
  refine lv_aload_n hx hb dX10_gasVolume_4 rfl (lv_at hl 0 rfl) ?_
  refine va_get (D := D) (ci := 15) (v := .int 10) (C := RX10) (T := TX10) (N := 28) hx hb hts ax_29 hown hE.1 hP 0 rfl rfl 10 (by decide) (hts _ tw_281) (fun _ h9 => h9) rfl dX10_gasVolume_5 ?_
  exact en_z hx hb hr hlk hP hD hS rfl (fun _ => 0) (is := [0]) rfl rfl (Nat.le_of_ble_eq_true rfl) (Nat.le_of_ble_eq_true rfl) dX10_gasVolume_8
set_option maxHeartbeats 4000000 in
set_option maxRecDepth 100000 in
theorem k492_X1_hasMark (l : Launch) (D : va_G) (cy : Nat → ClassId) (g : Nat → Nat) (x0 : Int32) (b0 : Nat) (sz : Nat) (h0 : x0 < 0) : Met l yX1_hasMark [.code yX1_hasMark cX1_hasMark 2 (some .boolean)] ({ frames := 0, cells := 0, slots := 0, locals := 0 }) (PC D cy g [] sz [.ref b0, .int x0]) (QI D 0 (fun ad => []) (va_A [] sz)) 0 0 (va_A [] sz) := by
  refine st_I (by decide) (Nat.le_of_ble_eq_true rfl) ?_
  intro p e s m args below meth c A ls hx hb hr hml hown hlk hnm hsz hP hD hA hE hts hS hl
  have hown : s.vm.findClass RX1 = some m.cls := hown
  have hl : lv_has ls 2 [(0, .ref b0), (1, .int x0)] := hl
  refine lv_iload_n hx hb dX1_hasMark_0 rfl (lv_at hl 1 rfl) ?_
  refine lv_if_lt (tgt := 23) hx hb dX1_hasMark_1 (by decide) (fun _ => ?_) (fun z => absurd h0 z)
  refine lv_iconst (v := 0) hx hb dX1_hasMark_23 (by decide) ?_
  exact en_z hx hb hr hlk hP hD hS rfl (fun _ => 0) (is := []) rfl rfl (Nat.le_of_ble_eq_true rfl) (Nat.le_of_ble_eq_true rfl) dX1_hasMark_24
set_option maxHeartbeats 4000000 in
set_option maxRecDepth 100000 in
theorem k493_X9_cardAt (l : Launch) (hst : l.stackTraces = false) (D : va_G) (cy : Nat → ClassId) (g : Nat → Nat) (x0 : Int32) (a0 : Nat) (a1 : Nat) (v0 : Value) (v1 : Value) (v2 : Value) (v3 : Value) (v4 : Value) (v5 : Value) (v6 : Value) (v7 : Value) (v8 : Value) (v9 : Value) (v10 : Value) (v11 : Value) (v12 : Value) (v13 : Value) (v14 : Value) (v15 : Value) (v16 : Value) (v17 : Value) (v18 : Value) (sz : Nat) (h0 : x0 < 0) : vx_Met l yX9_cardAt [.code yX9_cardAt cX9_cardAt 2 (some .int)] ({ frames := 6, cells := 1, slots := 6, locals := 82 }) (PC D cy g [(a0, .inr (14, [v0, v1, v2, .ref a1, v3, v4, v5])), (a1, .inr (6, [v6, v7, v8, v9, v10, v11, v12, v13, v14, v15, v16, v17, v18]))] sz [.ref a0, .int x0]) QN (XE "java/util/NoSuchElementException" (va_A [(a0, .inr (14, [v0, v1, v2, .ref a1, v3, v4, v5])), (a1, .inr (6, [v6, v7, v8, v9, v10, v11, v12, v13, v14, v15, v16, v17, v18]))] sz)) 1 6 (va_A [(a0, .inr (14, [v0, v1, v2, .ref a1, v3, v4, v5])), (a1, .inr (6, [v6, v7, v8, v9, v10, v11, v12, v13, v14, v15, v16, v17, v18]))] sz) := by
  refine st_X (by decide) (Nat.le_of_ble_eq_true rfl) ?_
  intro p e s m args below meth c A ls hx hb hr hml hown hlk hnm hsz hP hD hA hE hts hS hl hout
  have hown : s.vm.findClass RX9 = some m.cls := hown
  have hl : lv_has ls 2 [(0, .ref a0), (1, .int x0)] := hl
  refine lv_aload_n hx hb dX9_cardAt_0 rfl (lv_at hl 0 rfl) ?_
  refine va_get (D := D) (ci := 14) (v := .ref a1) (C := RX9) (T := TX9) (N := 7) hx hb hts ax_16 hown hE.1 hP 0 rfl rfl 3 (by decide) (hts _ tw_199) (fun _ h9 => h9) rfl dX9_cardAt_1 ?_
  refine lv_iload_n hx hb dX9_cardAt_4 rfl (lv_at hl 1 rfl) ?_
  refine ca_i (isC := []) (isR := [0, 1]) (wr := [(a0, .inr (14, [v0, v1, v2, .ref a1, v3, v4, v5])), (a1, .inr (6, [v6, v7, v8, v9, v10, v11, v12, v13, v14, v15, v16, v17, v18]))]) (rn_V (ci := 6) (q0 := 1) (isC := []) (wc := []) (As := [.int x0]) (rest := []) (n := 1) hx hb hml hown hts hE hS hP hD hA hl.1 (k492_X1_hasMark l D cy g x0 a1 s.heap.size h0) rfl rfl rfl rfl rfl ax_336 rfl rfl ax_337 ⟨Nat.le_of_ble_eq_true rfl, Nat.le_of_ble_eq_true rfl⟩ rfl rfl (Nat.le_of_ble_eq_true rfl) dX9_cardAt_5 ⟨(Nat.le_of_ble_eq_true rfl), (Nat.le_of_ble_eq_true rfl)⟩) hP hD hS hA rfl rfl rfl (by decide) (fun ad5 H locs hP hD hS => ?_)
  have hP : va_P D vwCl [(a0, .inr (14, [v0, v1, v2, .ref a1, v3, v4, v5])), (a1, .inr (6, [v6, v7, v8, v9, v10, v11, v12, v13, v14, v15, v16, v17, v18]))] H := hP
  have hD : va_D A [(a0, .inr (14, [v0, v1, v2, .ref a1, v3, v4, v5])), (a1, .inr (6, [v6, v7, v8, v9, v10, v11, v12, v13, v14, v15, v16, v17, v18]))] := hD
  refine lv_if_ne (tgt := 22) hx hb dX9_cardAt_8 (by decide) (fun z => absurd (by decide) z) (fun _ => ?_)
  exact th_NW (text := "the card has no such step") hx hb hst hown hts hE hS (hl.1.trans hml.symm) hout hlk tw_524 tw_525 (by decide +kernel) dX9_cardAt_11 dX9_cardAt_14 dX9_cardAt_15 dX9_cardAt_18 dX9_cardAt_21 ⟨Nat.le_of_ble_eq_true rfl, Nat.le_of_ble_eq_true rfl, Nat.le_of_ble_eq_true rfl, Nat.le_of_ble_eq_true rfl⟩ (Nat.le_of_ble_eq_true rfl) (Nat.le_of_ble_eq_true rfl)
set_option maxHeartbeats 4000000 in
set_option maxRecDepth 100000 in
theorem k494_L_cardAt (l : Launch) (hst : l.stackTraces = false) (D : va_G) (cy : Nat → ClassId) (g : Nat → Nat) (x0 : Int32) (a0 : Nat) (a1 : Nat) (b0 : Nat) (v0 : Value) (v1 : Value) (v2 : Value) (v3 : Value) (v4 : Value) (v5 : Value) (v6 : Value) (v7 : Value) (v8 : Value) (v9 : Value) (v10 : Value) (v11 : Value) (v12 : Value) (v13 : Value) (v14 : Value) (v15 : Value) (v16 : Value) (v17 : Value) (v18 : Value) (sz : Nat) (h0 : x0 < 0) : Met l yL_cardAt [.codeWith yL_cardAt cL_cardAt 4 (some .int) [(0, 9, 12, 45)]] ({ frames := 7, cells := 1, slots := 6, locals := 103 }) (PC D cy g [(a0, .inr (14, [v0, v1, v2, .ref a1, v3, v4, v5])), (a1, .inr (6, [v6, v7, v8, v9, v10, v11, v12, v13, v14, v15, v16, v17, v18]))] sz [.ref a0, .int x0, .ref b0]) (QI D 1 (fun ad => []) (va_A [(a0, .inr (14, [v0, v1, v2, .ref a1, v3, v4, v5])), (a1, .inr (6, [v6, v7, v8, v9, v10, v11, v12, v13, v14, v15, v16, v17, v18]))] sz)) 1 6 (va_A [(a0, .inr (14, [v0, v1, v2, .ref a1, v3, v4, v5])), (a1, .inr (6, [v6, v7, v8, v9, v10, v11, v12, v13, v14, v15, v16, v17, v18]))] sz) := by
  refine sh_I (by decide) (Nat.le_of_ble_eq_true rfl) ?_
  intro p e s m args below meth c A ls hx hb hr hml hown hlk hnm hsz hP hD hA hE hts hS hl htb
  have hown : s.vm.findClass RL = some m.cls := hown
  have hl : lv_has ls 4 [(0, .ref a0), (1, .int x0), (2, .ref b0)] := hl
  refine lv_aload_n hx hb dL_cardAt_0 rfl (lv_at hl 2 rfl) ?_
  refine lv_iconst (v := 0) hx hb dL_cardAt_1 (by decide) ?_
  refine lv_aload_n hx hb dL_cardAt_2 rfl (lv_at hl 0 rfl) ?_
  refine lv_iload_n hx hb dL_cardAt_3 rfl (lv_at hl 1 rfl) ?_
  refine cx_catch (isC := [0, 1]) (isR := []) (wr := []) (hp := []) (z := (0, 9, 12, 45)) (hq := []) (name := "java/util/NoSuchElementException") (own := RL) (rx_V (ci := 14) (q0 := 0) (isC := [0, 1]) (wc := [(a0, .inr (14, [v0, v1, v2, .ref a1, v3, v4, v5])), (a1, .inr (6, [v6, v7, v8, v9, v10, v11, v12, v13, v14, v15, v16, v17, v18]))]) (As := [.int x0]) (rest := [.int 0, .ref b0]) (n := 1) hx hb hml hown hts hE hS hP hD hA hl.1 (k493_X9_cardAt l hst D cy g x0 a0 a1 (v0) (v1) (v2) (v3) (v4) (v5) (v6) (v7) (v8) (v9) (v10) (v11) (v12) (v13) (v14) (v15) (v16) (v17) (v18) s.heap.size h0) rfl rfl rfl rfl rfl ax_338 rfl rfl ax_339 ⟨Nat.le_of_ble_eq_true rfl, Nat.le_of_ble_eq_true rfl⟩ rfl rfl (Nat.le_of_ble_eq_true rfl) dL_cardAt_4 ⟨(Nat.le_of_ble_eq_true rfl), (Nat.le_of_ble_eq_true rfl)⟩) hP hD hS hA hown hts hE htb rfl rfl rfl rfl (by decide) (fun z hz => by cases hz) (by decide) (by decide) tw_534 tw_535 (fun qx H locs hP hD hS => ?_)
  have hP : va_P D vwCl [] H := hP
  have hD : va_D A [] := hD
  refine lv_astore_n (lv' := [(3, .ref qx), (0, .ref a0), (1, .int x0), (2, .ref b0)]) hx hb dL_cardAt_12 rfl hl (Nat.le_of_ble_eq_true rfl) rfl (fun ls hl => ?_)
  refine lv_iconst (v := 1) hx hb dL_cardAt_13 (by decide) ?_
  exact en_z hx hb hr hlk hP hD hS rfl (fun _ => 0) (is := []) rfl rfl (Nat.le_of_ble_eq_true rfl) (Nat.le_of_ble_eq_true rfl) dL_cardAt_14
set_option maxHeartbeats 4000000 in
set_option maxRecDepth 100000 in
theorem k495_X10_cardAt (l : Launch) (D : va_G) (cy : Nat → ClassId) (g : Nat → Nat) (x0 : Int32) (a0 : Nat) (a1 : Nat) (v0 : Value) (v1 : Value) (v2 : Value) (v3 : Value) (v4 : Value) (v5 : Value) (v6 : Value) (v7 : Value) (v8 : Value) (v9 : Value) (v10 : Value) (v11 : Value) (v12 : Value) (v13 : Value) (v14 : Value) (v15 : Value) (v16 : Value) (v17 : Value) (v18 : Value) (v19 : Value) (v20 : Value) (v21 : Value) (v22 : Value) (v23 : Value) (v24 : Value) (v25 : Value) (v26 : Value) (v27 : Value) (v28 : Value) (sz : Nat) (h0 : x0 < 0) : Met l yX10_cardAt [.code yX10_cardAt cX10_cardAt 2 (some .int)] ({ frames := 2, cells := 0, slots := 0, locals := 46 }) (PC D cy g [(a0, .inr (15, [v0, v1, v2, v3, v4, v5, v6, v7, v8, v9, v10, v11, v12, .ref a1, v13, v14, v15, v16, v17, v18, v19, v20, v21, v22, v23, v24, v25, v26])), (a1, .inr (4, [v27, v28, .int 0]))] sz [.ref a0, .int x0]) (QI D (-1) (fun ad => [(a0, .inr (15, [.int 1, v1, v2, v3, v4, v5, v6, v7, v8, v9, v10, v11, v12, .ref a1, v13, v14, v15, v16, v17, v18, v19, v20, v21, v22, v23, v24, v25, v26]))]) (va_A [(a0, .inr (15, [v0, v1, v2, v3, v4, v5, v6, v7, v8, v9, v10, v11, v12, .ref a1, v13, v14, v15, v16, v17, v18, v19, v20, v21, v22, v23, v24, v25, v26])), (a1, .inr (4, [v27, v28, .int 0]))] sz)) 0 0 (va_A [(a0, .inr (15, [v0, v1, v2, v3, v4, v5, v6, v7, v8, v9, v10, v11, v12, .ref a1, v13, v14, v15, v16, v17, v18, v19, v20, v21, v22, v23, v24, v25, v26])), (a1, .inr (4, [v27, v28, .int 0]))] sz) := by
  refine st_I (by decide) (Nat.le_of_ble_eq_true rfl) ?_
  intro p e s m args below meth c A ls hx hb hr hml hown hlk hnm hsz hP hD hA hE hts hS hl
  have hown : s.vm.findClass RX10 = some m.cls := hown
  have hl : lv_has ls 2 [(0, .ref a0), (1, .int x0)] := hl
  refine lv_aload_n hx hb dX10_cardAt_0 rfl (lv_at hl 0 rfl) ?_
  refine ca_v (isC := [0]) (isR := [1]) (wr := [(a1, .inr (4, [v27, v28, .int 0]))]) (rn_V (ci := 15) (q0 := 0) (isC := [0]) (wc := [(a0, .inr (15, [v0, v1, v2, v3, v4, v5, v6, v7, v8, v9, v10, v11, v12, .ref a1, v13, v14, v15, v16, v17, v18, v19, v20, v21, v22, v23, v24, v25, v26]))]) (As := []) (rest := []) (n := 0) hx hb hml hown hts hE hS hP hD hA hl.1 (k20_X10_begins l D cy g a0 (v0) (v1) (v2) (v3) (v4) (v5) (v6) (v7) (v8) (v9) (v10) (v11) (v12) (.ref a1) (v13) (v14) (v15) (v16) (v17) (v18) (v19) (v20) (v21) (v22) (v23) (v24) (v25) (v26) s.heap.size ) rfl rfl rfl rfl rfl ax_37 rfl rfl ax_38 ⟨Nat.le_of_ble_eq_true rfl, Nat.le_of_ble_eq_true rfl⟩ rfl rfl (Nat.le_of_ble_eq_true rfl) dX10_cardAt_1 ⟨(Nat.le_of_ble_eq_true rfl), (Nat.le_of_ble_eq_true rfl)⟩) hP hD hS hA rfl rfl rfl (by decide) (fun ad1 H locs hP hD hS => ?_)
  have hP : va_P D vwCl [(a1, .inr (4, [v27, v28, .int 0])), (a0, .inr (15, [.int 0, v1, v2, v3, v4, v5, v6, v7, v8, v9, v10, v11, v12, .ref a1, v13, v14, v15, v16, v17, v18, v19, v20, v21, v22, v23, v24, v25, v26]))] H := hP
  have hD : va_D A [(a1, .inr (4, [v27, v28, .int 0])), (a0, .inr (15, [.int 0, v1, v2, v3, v4, v5, v6, v7, v8, v9, v10, v11, v12, .ref a1, v13, v14, v15, v16, v17, v18, v19, v20, v21, v22, v23, v24, v25, v26]))] := hD
  refine lv_aload_n hx hb dX10_cardAt_4 rfl (lv_at hl 0 rfl) ?_
  refine lv_aload_n hx hb dX10_cardAt_5 rfl (lv_at hl 0 rfl) ?_
  refine va_get (D := D) (ci := 15) (v := .ref a1) (C := RX10) (T := TX10) (N := 28) hx hb hts ax_29 hown hE.1 hP 1 rfl rfl 13 (by decide) (hts _ tw_284) (fun _ h9 => h9) rfl dX10_cardAt_6 ?_
  refine lv_iload_n hx hb dX10_cardAt_9 rfl (lv_at hl 1 rfl) ?_
  refine ca_i (isC := [0]) (isR := [1]) (wr := [(a0, .inr (15, [.int 0, v1, v2, v3, v4, v5, v6, v7, v8, v9, v10, v11, v12, .ref a1, v13, v14, v15, v16, v17, v18, v19, v20, v21, v22, v23, v24, v25, v26]))]) (rn_S (isC := [0]) (wc := [(a1, .inr (4, [v27, v28, .int 0]))]) (As := [.ref a1, .int x0]) (rest := [.ref a0]) (n := 2) hx hb hml hown hts hE hS hP hD hA hl.1 (k70_X10_isOf l D cy g x0 a1 (v27) (v28) H.size h0) rfl rfl ax_74 rfl rfl ax_75 ⟨Nat.le_of_ble_eq_true rfl, Nat.le_of_ble_eq_true rfl⟩ rfl rfl (Nat.le_of_ble_eq_true rfl) dX10_cardAt_10 ⟨(Nat.le_of_ble_eq_true rfl), (Nat.le_of_ble_eq_true rfl)⟩) hP hD hS hA rfl rfl rfl (by decide) (fun ad10 H locs hP hD hS => ?_)
  have hP : va_P D vwCl [(a0, .inr (15, [.int 0, v1, v2, v3, v4, v5, v6, v7, v8, v9, v10, v11, v12, .ref a1, v13, v14, v15, v16, v17, v18, v19, v20, v21, v22, v23, v24, v25, v26])), (a1, .inr (4, [v27, v28, .int 0]))] H := hP
  have hD : va_D A [(a0, .inr (15, [.int 0, v1, v2, v3, v4, v5, v6, v7, v8, v9, v10, v11, v12, .ref a1, v13, v14, v15, v16, v17, v18, v19, v20, v21, v22, v23, v24, v25, v26])), (a1, .inr (4, [v27, v28, .int 0]))] := hD
  refine lv_if_ne (tgt := 20) hx hb dX10_cardAt_13 (by decide) (fun z => absurd (by decide) z) (fun _ => ?_)
  refine lv_iconst (v := 1) hx hb dX10_cardAt_16 (by decide) ?_
  refine lv_goto (tgt := 21) hx hb dX10_cardAt_17 (by decide) ?_
  refine lv_iconst (v := 1) hx hb dX10_cardAt_21 (by decide) ?_
  refine ca_i (isC := [0]) (isR := [1]) (wr := [(a1, .inr (4, [v27, v28, .int 0]))]) (rn_V (ci := 15) (q0 := 0) (isC := [0]) (wc := [(a0, .inr (15, [.int 0, v1, v2, v3, v4, v5, v6, v7, v8, v9, v10, v11, v12, .ref a1, v13, v14, v15, v16, v17, v18, v19, v20, v21, v22, v23, v24, v25, v26]))]) (As := [.int 1, .int 1]) (rest := []) (n := 2) hx hb hml hown hts hE hS hP hD hA hl.1 (k22_X10_fails l D cy g a0 (v1) (v2) (v3) (v4) (v5) (v6) (v7) (v8) (v9) (v10) (v11) (v12) (.ref a1) (v13) (v14) (v15) (v16) (v17) (v18) (v19) (v20) (v21) (v22) (v23) (v24) (v25) (v26) H.size ) rfl rfl rfl rfl rfl ax_41 rfl rfl ax_42 ⟨Nat.le_of_ble_eq_true rfl, Nat.le_of_ble_eq_true rfl⟩ rfl rfl (Nat.le_of_ble_eq_true rfl) dX10_cardAt_22 ⟨(Nat.le_of_ble_eq_true rfl), (Nat.le_of_ble_eq_true rfl)⟩) hP hD hS hA rfl rfl rfl (by decide) (fun ad22 H locs hP hD hS => ?_)
  have hP : va_P D vwCl [(a1, .inr (4, [v27, v28, .int 0])), (a0, .inr (15, [.int 1, v1, v2, v3, v4, v5, v6, v7, v8, v9, v10, v11, v12, .ref a1, v13, v14, v15, v16, v17, v18, v19, v20, v21, v22, v23, v24, v25, v26]))] H := hP
  have hD : va_D A [(a1, .inr (4, [v27, v28, .int 0])), (a0, .inr (15, [.int 1, v1, v2, v3, v4, v5, v6, v7, v8, v9, v10, v11, v12, .ref a1, v13, v14, v15, v16, v17, v18, v19, v20, v21, v22, v23, v24, v25, v26]))] := hD
  refine lv_if_eq (tgt := 32) hx hb dX10_cardAt_25 (by decide) (fun z => absurd z (by decide)) (fun _ => ?_)
  refine lv_iconst (v := (-1)) hx hb dX10_cardAt_28 (by decide) ?_
  refine lv_goto (tgt := 48) hx hb dX10_cardAt_29 (by decide) ?_
  exact en_z hx hb hr hlk hP hD hS rfl (fun _ => 0) (is := [1]) rfl rfl (Nat.le_of_ble_eq_true rfl) (Nat.le_of_ble_eq_true rfl) dX10_cardAt_48
set_option maxHeartbeats 4000000 in
set_option maxRecDepth 100000 in
theorem k496_X1_hasMark (l : Launch) (D : va_G) (cy : Nat → ClassId) (g : Nat → Nat) (x0 : Int32) (a0 : Nat) (v0 : Value) (v1 : Value) (v2 : Value) (v3 : Value) (v4 : Value) (v5 : Value) (v6 : Value) (v7 : Value) (v8 : Value) (v9 : Value) (v10 : Value) (v11 : Value) (sz : Nat) (h0 : ¬ x0 < 0) : Met l yX1_hasMark [.code yX1_hasMark cX1_hasMark 2 (some .boolean)] ({ frames := 0, cells := 0, slots := 0, locals := 0 }) (PC D cy g [(a0, .inr (6, [v0, v1, v2, v3, v4, v5, v6, v7, v8, v9, .int 0, v10, v11]))] sz [.ref a0, .int x0]) (QI D 0 (fun ad => [(a0, .inr (6, [v0, v1, v2, v3, v4, v5, v6, v7, v8, v9, .int 0, v10, v11]))]) (va_A [(a0, .inr (6, [v0, v1, v2, v3, v4, v5, v6, v7, v8, v9, .int 0, v10, v11]))] sz)) 0 0 (va_A [(a0, .inr (6, [v0, v1, v2, v3, v4, v5, v6, v7, v8, v9, .int 0, v10, v11]))] sz) := by
  refine st_I (by decide) (Nat.le_of_ble_eq_true rfl) ?_
  intro p e s m args below meth c A ls hx hb hr hml hown hlk hnm hsz hP hD hA hE hts hS hl
  have hown : s.vm.findClass RX1 = some m.cls := hown
  have hl : lv_has ls 2 [(0, .ref a0), (1, .int x0)] := hl
  refine lv_iload_n hx hb dX1_hasMark_0 rfl (lv_at hl 1 rfl) ?_
  refine lv_if_lt (tgt := 23) hx hb dX1_hasMark_1 (by decide) (fun z => absurd z h0) (fun _ => ?_)
  refine lv_iload_n hx hb dX1_hasMark_4 rfl (lv_at hl 1 rfl) ?_
  refine lv_aload_n hx hb dX1_hasMark_5 rfl (lv_at hl 0 rfl) ?_
  refine va_get (D := D) (ci := 6) (v := .int 0) (C := RX1) (T := TX1) (N := 13) hx hb hts ax_7 hown hE.1 hP 0 rfl rfl 10 (by decide) (hts _ tw_116) (fun _ h9 => h9) rfl dX1_hasMark_6 ?_
  refine lv_icmp_ge (tgt := 23) hx hb dX1_hasMark_9 (by decide) (fun _ => ?_) (fun z => absurd (fa_of_nlt h0) z)
  refine lv_iconst (v := 0) hx hb dX1_hasMark_23 (by decide) ?_
  exact en_z hx hb hr hlk hP hD hS rfl (fun _ => 0) (is := [0]) rfl rfl (Nat.le_of_ble_eq_true rfl) (Nat.le_of_ble_eq_true rfl) dX1_hasMark_24
set_option maxHeartbeats 4000000 in
set_option maxRecDepth 100000 in
theorem k497_X9_cardAt (l : Launch) (hst : l.stackTraces = false) (D : va_G) (cy : Nat → ClassId) (g : Nat → Nat) (x0 : Int32) (a0 : Nat) (a1 : Nat) (v0 : Value) (v1 : Value) (v2 : Value) (v3 : Value) (v4 : Value) (v5 : Value) (v6 : Value) (v7 : Value) (v8 : Value) (v9 : Value) (v10 : Value) (v11 : Value) (v12 : Value) (v13 : Value) (v14 : Value) (v15 : Value) (v16 : Value) (v17 : Value) (sz : Nat) (h0 : ¬ x0 < 0) : vx_Met l yX9_cardAt [.code yX9_cardAt cX9_cardAt 2 (some .int)] ({ frames := 6, cells := 1, slots := 6, locals := 82 }) (PC D cy g [(a0, .inr (14, [v0, v1, v2, .ref a1, v3, v4, v5])), (a1, .inr (6, [v6, v7, v8, v9, v10, v11, v12, v13, v14, v15, .int 0, v16, v17]))] sz [.ref a0, .int x0]) QN (XE "java/util/NoSuchElementException" (va_A [(a0, .inr (14, [v0, v1, v2, .ref a1, v3, v4, v5])), (a1, .inr (6, [v6, v7, v8, v9, v10, v11, v12, v13, v14, v15, .int 0, v16, v17]))] sz)) 1 6 (va_A [(a0, .inr (14, [v0, v1, v2, .ref a1, v3, v4, v5])), (a1, .inr (6, [v6, v7, v8, v9, v10, v11, v12, v13, v14, v15, .int 0, v16, v17]))] sz) := by
  refine st_X (by decide) (Nat.le_of_ble_eq_true rfl) ?_
  intro p e s m args below meth c A ls hx hb hr hml hown hlk hnm hsz hP hD hA hE hts hS hl hout
  have hown : s.vm.findClass RX9 = some m.cls := hown
  have hl : lv_has ls 2 [(0, .ref a0), (1, .int x0)] := hl
  refine lv_aload_n hx hb dX9_cardAt_0 rfl (lv_at hl 0 rfl) ?_
  refine va_get (D := D) (ci := 14) (v := .ref a1) (C := RX9) (T := TX9) (N := 7) hx hb hts ax_16 hown hE.1 hP 0 rfl rfl 3 (by decide) (hts _ tw_199) (fun _ h9 => h9) rfl dX9_cardAt_1 ?_
  refine lv_iload_n hx hb dX9_cardAt_4 rfl (lv_at hl 1 rfl) ?_
  refine ca_i (isC := [1]) (isR := [0]) (wr := [(a0, .inr (14, [v0, v1, v2, .ref a1, v3, v4, v5]))]) (rn_V (ci := 6) (q0 := 1) (isC := [1]) (wc := [(a1, .inr (6, [v6, v7, v8, v9, v10, v11, v12, v13, v14, v15, .int 0, v16, v17]))]) (As := [.int x0]) (rest := []) (n := 1) hx hb hml hown hts hE hS hP hD hA hl.1 (k496_X1_hasMark l D cy g x0 a1 (v6) (v7) (v8) (v9) (v10) (v11) (v12) (v13) (v14) (v15) (v16) (v17) s.heap.size h0) rfl rfl rfl rfl rfl ax_336 rfl rfl ax_337 ⟨Nat.le_of_ble_eq_true rfl, Nat.le_of_ble_eq_true rfl⟩ rfl rfl (Nat.le_of_ble_eq_true rfl) dX9_cardAt_5 ⟨(Nat.le_of_ble_eq_true rfl), (Nat.le_of_ble_eq_true rfl)⟩) hP hD hS hA rfl rfl rfl (by decide) (fun ad5 H locs hP hD hS => ?_)
  have hP : va_P D vwCl [(a0, .inr (14, [v0, v1, v2, .ref a1, v3, v4, v5])), (a1, .inr (6, [v6, v7, v8, v9, v10, v11, v12, v13, v14, v15, .int 0, v16, v17]))] H := hP
  have hD : va_D A [(a0, .inr (14, [v0, v1, v2, .ref a1, v3, v4, v5])), (a1, .inr (6, [v6, v7, v8, v9, v10, v11, v12, v13, v14, v15, .int 0, v16, v17]))] := hD
  refine lv_if_ne (tgt := 22) hx hb dX9_cardAt_8 (by decide) (fun z => absurd (by decide) z) (fun _ => ?_)
  exact th_NW (text := "the card has no such step") hx hb hst hown hts hE hS (hl.1.trans hml.symm) hout hlk tw_524 tw_525 (by decide +kernel) dX9_cardAt_11 dX9_cardAt_14 dX9_cardAt_15 dX9_cardAt_18 dX9_cardAt_21 ⟨Nat.le_of_ble_eq_true rfl, Nat.le_of_ble_eq_true rfl, Nat.le_of_ble_eq_true rfl, Nat.le_of_ble_eq_true rfl⟩ (Nat.le_of_ble_eq_true rfl) (Nat.le_of_ble_eq_true rfl)
set_option maxHeartbeats 4000000 in
set_option maxRecDepth 100000 in
theorem k498_L_cardAt (l : Launch) (hst : l.stackTraces = false) (D : va_G) (cy : Nat → ClassId) (g : Nat → Nat) (x0 : Int32) (a0 : Nat) (a1 : Nat) (b0 : Nat) (v0 : Value) (v1 : Value) (v2 : Value) (v3 : Value) (v4 : Value) (v5 : Value) (v6 : Value) (v7 : Value) (v8 : Value) (v9 : Value) (v10 : Value) (v11 : Value) (v12 : Value) (v13 : Value) (v14 : Value) (v15 : Value) (v16 : Value) (v17 : Value) (sz : Nat) (h0 : ¬ x0 < 0) : Met l yL_cardAt [.codeWith yL_cardAt cL_cardAt 4 (some .int) [(0, 9, 12, 45)]] ({ frames := 7, cells := 1, slots := 6, locals := 103 }) (PC D cy g [(a0, .inr (14, [v0, v1, v2, .ref a1, v3, v4, v5])), (a1, .inr (6, [v6, v7, v8, v9, v10, v11, v12, v13, v14, v15, .int 0, v16, v17]))] sz [.ref a0, .int x0, .ref b0]) (QI D 1 (fun ad => []) (va_A [(a0, .inr (14, [v0, v1, v2, .ref a1, v3, v4, v5])), (a1, .inr (6, [v6, v7, v8, v9, v10, v11, v12, v13, v14, v15, .int 0, v16, v17]))] sz)) 1 6 (va_A [(a0, .inr (14, [v0, v1, v2, .ref a1, v3, v4, v5])), (a1, .inr (6, [v6, v7, v8, v9, v10, v11, v12, v13, v14, v15, .int 0, v16, v17]))] sz) := by
  refine sh_I (by decide) (Nat.le_of_ble_eq_true rfl) ?_
  intro p e s m args below meth c A ls hx hb hr hml hown hlk hnm hsz hP hD hA hE hts hS hl htb
  have hown : s.vm.findClass RL = some m.cls := hown
  have hl : lv_has ls 4 [(0, .ref a0), (1, .int x0), (2, .ref b0)] := hl
  refine lv_aload_n hx hb dL_cardAt_0 rfl (lv_at hl 2 rfl) ?_
  refine lv_iconst (v := 0) hx hb dL_cardAt_1 (by decide) ?_
  refine lv_aload_n hx hb dL_cardAt_2 rfl (lv_at hl 0 rfl) ?_
  refine lv_iload_n hx hb dL_cardAt_3 rfl (lv_at hl 1 rfl) ?_
  refine cx_catch (isC := [0, 1]) (isR := []) (wr := []) (hp := []) (z := (0, 9, 12, 45)) (hq := []) (name := "java/util/NoSuchElementException") (own := RL) (rx_V (ci := 14) (q0 := 0) (isC := [0, 1]) (wc := [(a0, .inr (14, [v0, v1, v2, .ref a1, v3, v4, v5])), (a1, .inr (6, [v6, v7, v8, v9, v10, v11, v12, v13, v14, v15, .int 0, v16, v17]))]) (As := [.int x0]) (rest := [.int 0, .ref b0]) (n := 1) hx hb hml hown hts hE hS hP hD hA hl.1 (k497_X9_cardAt l hst D cy g x0 a0 a1 (v0) (v1) (v2) (v3) (v4) (v5) (v6) (v7) (v8) (v9) (v10) (v11) (v12) (v13) (v14) (v15) (v16) (v17) s.heap.size h0) rfl rfl rfl rfl rfl ax_338 rfl rfl ax_339 ⟨Nat.le_of_ble_eq_true rfl, Nat.le_of_ble_eq_true rfl⟩ rfl rfl (Nat.le_of_ble_eq_true rfl) dL_cardAt_4 ⟨(Nat.le_of_ble_eq_true rfl), (Nat.le_of_ble_eq_true rfl)⟩) hP hD hS hA hown hts hE htb rfl rfl rfl rfl (by decide) (fun z hz => by cases hz) (by decide) (by decide) tw_534 tw_535 (fun qx H locs hP hD hS => ?_)
  have hP : va_P D vwCl [] H := hP
  have hD : va_D A [] := hD
  refine lv_astore_n (lv' := [(3, .ref qx), (0, .ref a0), (1, .int x0), (2, .ref b0)]) hx hb dL_cardAt_12 rfl hl (Nat.le_of_ble_eq_true rfl) rfl (fun ls hl => ?_)
  refine lv_iconst (v := 1) hx hb dL_cardAt_13 (by decide) ?_
  exact en_z hx hb hr hlk hP hD hS rfl (fun _ => 0) (is := []) rfl rfl (Nat.le_of_ble_eq_true rfl) (Nat.le_of_ble_eq_true rfl) dL_cardAt_14
set_option maxHeartbeats 4000000 in
set_option maxRecDepth 100000 in
theorem k499_X10_cardAt (l : Launch) (D : va_G) (cy : Nat → ClassId) (g : Nat → Nat) (x0 : Int32) (a0 : Nat) (a1 : Nat) (v0 : Value) (v1 : Value) (v2 : Value) (v3 : Value) (v4 : Value) (v5 : Value) (v6 : Value) (v7 : Value) (v8 : Value) (v9 : Value) (v10 : Value) (v11 : Value) (v12 : Value) (v13 : Value) (v14 : Value) (v15 : Value) (v16 : Value) (v17 : Value) (v18 : Value) (v19 : Value) (v20 : Value) (v21 : Value) (v22 : Value) (v23 : Value) (v24 : Value) (v25 : Value) (v26 : Value) (v27 : Value) (v28 : Value) (sz : Nat) (h0 : ¬ x0 < 0) (h1 : (-1 : Int32) < x0) : Met l yX10_cardAt [.code yX10_cardAt cX10_cardAt 2 (some .int)] ({ frames := 2, cells := 0, slots := 0, locals := 46 }) (PC D cy g [(a0, .inr (15, [v0, v1, v2, v3, v4, v5, v6, v7, v8, v9, v10, v11, v12, .ref a1, v13, v14, v15, v16, v17, v18, v19, v20, v21, v22, v23, v24, v25, v26])), (a1, .inr (4, [v27, v28, .int 0]))] sz [.ref a0, .int x0]) (QI D (-1) (fun ad => [(a0, .inr (15, [.int 1, v1, v2, v3, v4, v5, v6, v7, v8, v9, v10, v11, v12, .ref a1, v13, v14, v15, v16, v17, v18, v19, v20, v21, v22, v23, v24, v25, v26]))]) (va_A [(a0, .inr (15, [v0, v1, v2, v3, v4, v5, v6, v7, v8, v9, v10, v11, v12, .ref a1, v13, v14, v15, v16, v17, v18, v19, v20, v21, v22, v23, v24, v25, v26])), (a1, .inr (4, [v27, v28, .int 0]))] sz)) 0 0 (va_A [(a0, .inr (15, [v0, v1, v2, v3, v4, v5, v6, v7, v8, v9, v10, v11, v12, .ref a1, v13, v14, v15, v16, v17, v18, v19, v20, v21, v22, v23, v24, v25, v26])), (a1, .inr (4, [v27, v28, .int 0]))] sz) := by
  refine st_I (by decide) (Nat.le_of_ble_eq_true rfl) ?_
  intro p e s m args below meth c A ls hx hb hr hml hown hlk hnm hsz hP hD hA hE hts hS hl
  have hown : s.vm.findClass RX10 = some m.cls := hown
  have hl : lv_has ls 2 [(0, .ref a0), (1, .int x0)] := hl
  refine lv_aload_n hx hb dX10_cardAt_0 rfl (lv_at hl 0 rfl) ?_
  refine ca_v (isC := [0]) (isR := [1]) (wr := [(a1, .inr (4, [v27, v28, .int 0]))]) (rn_V (ci := 15) (q0 := 0) (isC := [0]) (wc := [(a0, .inr (15, [v0, v1, v2, v3, v4, v5, v6, v7, v8, v9, v10, v11, v12, .ref a1, v13, v14, v15, v16, v17, v18, v19, v20, v21, v22, v23, v24, v25, v26]))]) (As := []) (rest := []) (n := 0) hx hb hml hown hts hE hS hP hD hA hl.1 (k20_X10_begins l D cy g a0 (v0) (v1) (v2) (v3) (v4) (v5) (v6) (v7) (v8) (v9) (v10) (v11) (v12) (.ref a1) (v13) (v14) (v15) (v16) (v17) (v18) (v19) (v20) (v21) (v22) (v23) (v24) (v25) (v26) s.heap.size ) rfl rfl rfl rfl rfl ax_37 rfl rfl ax_38 ⟨Nat.le_of_ble_eq_true rfl, Nat.le_of_ble_eq_true rfl⟩ rfl rfl (Nat.le_of_ble_eq_true rfl) dX10_cardAt_1 ⟨(Nat.le_of_ble_eq_true rfl), (Nat.le_of_ble_eq_true rfl)⟩) hP hD hS hA rfl rfl rfl (by decide) (fun ad1 H locs hP hD hS => ?_)
  have hP : va_P D vwCl [(a1, .inr (4, [v27, v28, .int 0])), (a0, .inr (15, [.int 0, v1, v2, v3, v4, v5, v6, v7, v8, v9, v10, v11, v12, .ref a1, v13, v14, v15, v16, v17, v18, v19, v20, v21, v22, v23, v24, v25, v26]))] H := hP
  have hD : va_D A [(a1, .inr (4, [v27, v28, .int 0])), (a0, .inr (15, [.int 0, v1, v2, v3, v4, v5, v6, v7, v8, v9, v10, v11, v12, .ref a1, v13, v14, v15, v16, v17, v18, v19, v20, v21, v22, v23, v24, v25, v26]))] := hD
  refine lv_aload_n hx hb dX10_cardAt_4 rfl (lv_at hl 0 rfl) ?_
  refine lv_aload_n hx hb dX10_cardAt_5 rfl (lv_at hl 0 rfl) ?_
  refine va_get (D := D) (ci := 15) (v := .ref a1) (C := RX10) (T := TX10) (N := 28) hx hb hts ax_29 hown hE.1 hP 1 rfl rfl 13 (by decide) (hts _ tw_284) (fun _ h9 => h9) rfl dX10_cardAt_6 ?_
  refine lv_iload_n hx hb dX10_cardAt_9 rfl (lv_at hl 1 rfl) ?_
  refine ca_i (isC := [0]) (isR := [1]) (wr := [(a0, .inr (15, [.int 0, v1, v2, v3, v4, v5, v6, v7, v8, v9, v10, v11, v12, .ref a1, v13, v14, v15, v16, v17, v18, v19, v20, v21, v22, v23, v24, v25, v26]))]) (rn_S (isC := [0]) (wc := [(a1, .inr (4, [v27, v28, .int 0]))]) (As := [.ref a1, .int x0]) (rest := [.ref a0]) (n := 2) hx hb hml hown hts hE hS hP hD hA hl.1 (k77_X10_isOf l D cy g x0 a1 (v27) (v28) H.size h0 h1) rfl rfl ax_74 rfl rfl ax_75 ⟨Nat.le_of_ble_eq_true rfl, Nat.le_of_ble_eq_true rfl⟩ rfl rfl (Nat.le_of_ble_eq_true rfl) dX10_cardAt_10 ⟨(Nat.le_of_ble_eq_true rfl), (Nat.le_of_ble_eq_true rfl)⟩) hP hD hS hA rfl rfl rfl (by decide) (fun ad10 H locs hP hD hS => ?_)
  have hP : va_P D vwCl [(a0, .inr (15, [.int 0, v1, v2, v3, v4, v5, v6, v7, v8, v9, v10, v11, v12, .ref a1, v13, v14, v15, v16, v17, v18, v19, v20, v21, v22, v23, v24, v25, v26])), (a1, .inr (4, [v27, v28, .int 0]))] H := hP
  have hD : va_D A [(a0, .inr (15, [.int 0, v1, v2, v3, v4, v5, v6, v7, v8, v9, v10, v11, v12, .ref a1, v13, v14, v15, v16, v17, v18, v19, v20, v21, v22, v23, v24, v25, v26])), (a1, .inr (4, [v27, v28, .int 0]))] := hD
  refine lv_if_ne (tgt := 20) hx hb dX10_cardAt_13 (by decide) (fun z => absurd (by decide) z) (fun _ => ?_)
  refine lv_iconst (v := 1) hx hb dX10_cardAt_16 (by decide) ?_
  refine lv_goto (tgt := 21) hx hb dX10_cardAt_17 (by decide) ?_
  refine lv_iconst (v := 1) hx hb dX10_cardAt_21 (by decide) ?_
  refine ca_i (isC := [0]) (isR := [1]) (wr := [(a1, .inr (4, [v27, v28, .int 0]))]) (rn_V (ci := 15) (q0 := 0) (isC := [0]) (wc := [(a0, .inr (15, [.int 0, v1, v2, v3, v4, v5, v6, v7, v8, v9, v10, v11, v12, .ref a1, v13, v14, v15, v16, v17, v18, v19, v20, v21, v22, v23, v24, v25, v26]))]) (As := [.int 1, .int 1]) (rest := []) (n := 2) hx hb hml hown hts hE hS hP hD hA hl.1 (k22_X10_fails l D cy g a0 (v1) (v2) (v3) (v4) (v5) (v6) (v7) (v8) (v9) (v10) (v11) (v12) (.ref a1) (v13) (v14) (v15) (v16) (v17) (v18) (v19) (v20) (v21) (v22) (v23) (v24) (v25) (v26) H.size ) rfl rfl rfl rfl rfl ax_41 rfl rfl ax_42 ⟨Nat.le_of_ble_eq_true rfl, Nat.le_of_ble_eq_true rfl⟩ rfl rfl (Nat.le_of_ble_eq_true rfl) dX10_cardAt_22 ⟨(Nat.le_of_ble_eq_true rfl), (Nat.le_of_ble_eq_true rfl)⟩) hP hD hS hA rfl rfl rfl (by decide) (fun ad22 H locs hP hD hS => ?_)
  have hP : va_P D vwCl [(a1, .inr (4, [v27, v28, .int 0])), (a0, .inr (15, [.int 1, v1, v2, v3, v4, v5, v6, v7, v8, v9, v10, v11, v12, .ref a1, v13, v14, v15, v16, v17, v18, v19, v20, v21, v22, v23, v24, v25, v26]))] H := hP
  have hD : va_D A [(a1, .inr (4, [v27, v28, .int 0])), (a0, .inr (15, [.int 1, v1, v2, v3, v4, v5, v6, v7, v8, v9, v10, v11, v12, .ref a1, v13, v14, v15, v16, v17, v18, v19, v20, v21, v22, v23, v24, v25, v26]))] := hD
  refine lv_if_eq (tgt := 32) hx hb dX10_cardAt_25 (by decide) (fun z => absurd z (by decide)) (fun _ => ?_)
  refine lv_iconst (v := (-1)) hx hb dX10_cardAt_28 (by decide) ?_
  refine lv_goto (tgt := 48) hx hb dX10_cardAt_29 (by decide) ?_
  exact en_z hx hb hr hlk hP hD hS rfl (fun _ => 0) (is := [1]) rfl rfl (Nat.le_of_ble_eq_true rfl) (Nat.le_of_ble_eq_true rfl) dX10_cardAt_48
set_option maxHeartbeats 4000000 in
set_option maxRecDepth 100000 in
theorem k500_X9_addStream (l : Launch) (hst : l.stackTraces = false) (D : va_G) (cy : Nat → ClassId) (g : Nat → Nat) (x0 : Int32) (x1 : Int32) (x2 : Int32) (b0 : Nat) (sz : Nat) (h0 : x0 < 50) : vx_Met l yX9_addStream [.code yX9_addStream cX9_addStream 4 (some .int)] ({ frames := 6, cells := 1, slots := 6, locals := 82 }) (PC D cy g [] sz [.ref b0, .int x0, .int x1, .int x2]) QN (XE "java/lang/IllegalArgumentException" (va_A [] sz)) 1 6 (va_A [] sz) := by
  refine st_X (by decide) (Nat.le_of_ble_eq_true rfl) ?_
  intro p e s m args below meth c A ls hx hb hr hml hown hlk hnm hsz hP hD hA hE hts hS hl hout
  have hown : s.vm.findClass RX9 = some m.cls := hown
  have hl : lv_has ls 4 [(0, .ref b0), (1, .int x0), (2, .int x1), (3, .int x2)] := hl
  refine lv_iload_n hx hb dX9_addStream_0 rfl (lv_at hl 1 rfl) ?_
  refine lv_bipush (v := 50) hx hb dX9_addStream_1 (by decide) ?_
  refine lv_sipush (v := 999) hx hb dX9_addStream_3 (by decide) ?_
  refine ca_i (isC := []) (isR := []) (wr := []) (rn_S (isC := []) (wc := []) (As := [.int x0, .int 50, .int 999]) (rest := []) (n := 3) hx hb hml hown hts hE hS hP hD hA hl.1 (k17_X9_isOutside l D cy g x0 50 999 s.heap.size h0) rfl rfl ax_30 rfl rfl ax_31 ⟨Nat.le_of_ble_eq_true rfl, Nat.le_of_ble_eq_true rfl⟩ rfl rfl (Nat.le_of_ble_eq_true rfl) dX9_addStream_6 ⟨(Nat.le_of_ble_eq_true rfl), (Nat.le_of_ble_eq_true rfl)⟩) hP hD hS hA rfl rfl rfl (by decide) (fun ad6 H locs hP hD hS => ?_)
  have hP : va_P D vwCl [] H := hP
  have hD : va_D A [] := hD
  refine lv_if_ne (tgt := 39) hx hb dX9_addStream_9 (by decide) (fun _ => ?_) (fun z => absurd z (by decide))
  exact th_S (text := "a number is out of range") hx hb hst hown hts hE hS (hl.1.trans hml.symm) hout hlk (by decide +kernel) tw_296 tw_297 ax_32 (by decide +kernel) dX9_addStream_39 dX9_addStream_42 dX9_addStream_43 dX9_addStream_45 dX9_addStream_48 ⟨Nat.le_of_ble_eq_true rfl, Nat.le_of_ble_eq_true rfl, Nat.le_of_ble_eq_true rfl, Nat.le_of_ble_eq_true rfl⟩ (Nat.le_of_ble_eq_true rfl) (Nat.le_of_ble_eq_true rfl)
set_option maxHeartbeats 4000000 in
set_option maxRecDepth 100000 in
theorem k501_L_addStream (l : Launch) (hst : l.stackTraces = false) (D : va_G) (cy : Nat → ClassId) (g : Nat → Nat) (x0 : Int32) (x1 : Int32) (x2 : Int32) (a0 : Nat) (b0 : Nat) (v0 : Value) (v1 : Value) (v2 : Value) (v3 : Value) (v4 : Value) (v5 : Value) (v6 : Value) (sz : Nat) (h0 : x0 < 50) : Met l yL_addStream [.codeWith yL_addStream cL_addStream 6 (some .int) [(0, 12, 15, 13), (0, 12, 19, 15)]] ({ frames := 7, cells := 1, slots := 6, locals := 105 }) (PC D cy g [(a0, .inr (14, [v0, v1, v2, v3, v4, v5, v6]))] sz [.ref a0, .int x0, .int x1, .int x2, .ref b0]) (QI D 1 (fun ad => []) (va_A [(a0, .inr (14, [v0, v1, v2, v3, v4, v5, v6]))] sz)) 1 6 (va_A [(a0, .inr (14, [v0, v1, v2, v3, v4, v5, v6]))] sz) := by
  refine sh_I (by decide) (Nat.le_of_ble_eq_true rfl) ?_
  intro p e s m args below meth c A ls hx hb hr hml hown hlk hnm hsz hP hD hA hE hts hS hl htb
  have hown : s.vm.findClass RL = some m.cls := hown
  have hl : lv_has ls 6 [(0, .ref a0), (1, .int x0), (2, .int x1), (3, .int x2), (4, .ref b0)] := hl
  refine lv_aload hx hb dL_addStream_0 (lv_at hl 4 rfl) ?_
  refine lv_iconst (v := 0) hx hb dL_addStream_2 (by decide) ?_
  refine lv_aload_n hx hb dL_addStream_3 rfl (lv_at hl 0 rfl) ?_
  refine lv_iload_n hx hb dL_addStream_4 rfl (lv_at hl 1 rfl) ?_
  refine lv_iload_n hx hb dL_addStream_5 rfl (lv_at hl 2 rfl) ?_
  refine lv_iload_n hx hb dL_addStream_6 rfl (lv_at hl 3 rfl) ?_
  refine cx_catch (isC := []) (isR := [0]) (wr := [(a0, .inr (14, [v0, v1, v2, v3, v4, v5, v6]))]) (hp := []) (z := (0, 12, 15, 13)) (hq := [(0, 12, 19, 15)]) (name := "java/lang/IllegalArgumentException") (own := RL) (rx_V (ci := 14) (q0 := 0) (isC := []) (wc := []) (As := [.int x0, .int x1, .int x2]) (rest := [.int 0, .ref b0]) (n := 3) hx hb hml hown hts hE hS hP hD hA hl.1 (k500_X9_addStream l hst D cy g x0 x1 x2 a0 s.heap.size h0) rfl rfl rfl rfl rfl ax_344 rfl rfl ax_345 ⟨Nat.le_of_ble_eq_true rfl, Nat.le_of_ble_eq_true rfl⟩ rfl rfl (Nat.le_of_ble_eq_true rfl) dL_addStream_7 ⟨(Nat.le_of_ble_eq_true rfl), (Nat.le_of_ble_eq_true rfl)⟩) hP hD hS hA hown hts hE htb rfl rfl rfl rfl (by decide) (fun z hz => by cases hz) (by decide) (by decide) tw_302 tw_303 (fun qx H locs hP hD hS => ?_)
  have hP : va_P D vwCl [(a0, .inr (14, [v0, v1, v2, v3, v4, v5, v6]))] H := hP
  have hD : va_D A [(a0, .inr (14, [v0, v1, v2, v3, v4, v5, v6]))] := hD
  refine lv_astore (lv' := [(5, .ref qx), (0, .ref a0), (1, .int x0), (2, .int x1), (3, .int x2), (4, .ref b0)]) hx hb dL_addStream_15 hl (Nat.le_of_ble_eq_true rfl) rfl (fun ls hl => ?_)
  refine lv_iconst (v := 1) hx hb dL_addStream_17 (by decide) ?_
  exact en_z hx hb hr hlk hP hD hS rfl (fun _ => 0) (is := []) rfl rfl (Nat.le_of_ble_eq_true rfl) (Nat.le_of_ble_eq_true rfl) dL_addStream_18
set_option maxHeartbeats 4000000 in
set_option maxRecDepth 100000 in
theorem k502_X10_addStream (l : Launch) (D : va_G) (cy : Nat → ClassId) (g : Nat → Nat) (x0 : Int32) (x1 : Int32) (x2 : Int32) (a0 : Nat) (v0 : Value) (v1 : Value) (v2 : Value) (v3 : Value) (v4 : Value) (v5 : Value) (v6 : Value) (v7 : Value) (v8 : Value) (v9 : Value) (v10 : Value) (v11 : Value) (v12 : Value) (v13 : Value) (v14 : Value) (v15 : Value) (v16 : Value) (v17 : Value) (v18 : Value) (v19 : Value) (v20 : Value) (v21 : Value) (v22 : Value) (v23 : Value) (v24 : Value) (v25 : Value) (v26 : Value) (v27 : Value) (sz : Nat) (h0 : x0 < 50) : Met l yX10_addStream [.code yX10_addStream cX10_addStream 4 (some .int)] ({ frames := 1, cells := 0, slots := 0, locals := 25 }) (PC D cy g [(a0, .inr (15, [v0, v1, v2, v3, v4, v5, v6, v7, v8, v9, v10, v11, v12, v13, v14, v15, v16, v17, v18, v19, v20, v21, v22, v23, v24, v25, v26, v27]))] sz [.ref a0, .int x0, .int x1, .int x2]) (QI D (-1) (fun ad => [(a0, .inr (15, [.int 1, v1, v2, v3, v4, v5, v6, v7, v8, v9, v10, v11, v12, v13, v14, v15, v16, v17, v18, v19, v20, v21, v22, v23, v24, v25, v26, v27]))]) (va_A [(a0, .inr (15, [v0, v1, v2, v3, v4, v5, v6, v7, v8, v9, v10, v11, v12, v13, v14, v15, v16, v17, v18, v19, v20, v21, v22, v23, v24, v25, v26, v27]))] sz)) 0 0 (va_A [(a0, .inr (15, [v0, v1, v2, v3, v4, v5, v6, v7, v8, v9, v10, v11, v12, v13, v14, v15, v16, v17, v18, v19, v20, v21, v22, v23, v24, v25, v26, v27]))] sz) := by
  refine st_I (by decide) (Nat.le_of_ble_eq_true rfl) ?_
  intro p e s m args below meth c A ls hx hb hr hml hown hlk hnm hsz hP hD hA hE hts hS hl
  have hown : s.vm.findClass RX10 = some m.cls := hown
  have hl : lv_has ls 4 [(0, .ref a0), (1, .int x0), (2, .int x1), (3, .int x2)] := hl
  refine lv_aload_n hx hb dX10_addStream_0 rfl (lv_at hl 0 rfl) ?_
  refine ca_v (isC := [0]) (isR := []) (wr := []) (rn_V (ci := 15) (q0 := 0) (isC := [0]) (wc := [(a0, .inr (15, [v0, v1, v2, v3, v4, v5, v6, v7, v8, v9, v10, v11, v12, v13, v14, v15, v16, v17, v18, v19, v20, v21, v22, v23, v24, v25, v26, v27]))]) (As := []) (rest := []) (n := 0) hx hb hml hown hts hE hS hP hD hA hl.1 (k20_X10_begins l D cy g a0 (v0) (v1) (v2) (v3) (v4) (v5) (v6) (v7) (v8) (v9) (v10) (v11) (v12) (v13) (v14) (v15) (v16) (v17) (v18) (v19) (v20) (v21) (v22) (v23) (v24) (v25) (v26) (v27) s.heap.size ) rfl rfl rfl rfl rfl ax_37 rfl rfl ax_38 ⟨Nat.le_of_ble_eq_true rfl, Nat.le_of_ble_eq_true rfl⟩ rfl rfl (Nat.le_of_ble_eq_true rfl) dX10_addStream_1 ⟨(Nat.le_of_ble_eq_true rfl), (Nat.le_of_ble_eq_true rfl)⟩) hP hD hS hA rfl rfl rfl (by decide) (fun ad1 H locs hP hD hS => ?_)
  have hP : va_P D vwCl [(a0, .inr (15, [.int 0, v1, v2, v3, v4, v5, v6, v7, v8, v9, v10, v11, v12, v13, v14, v15, v16, v17, v18, v19, v20, v21, v22, v23, v24, v25, v26, v27]))] H := hP
  have hD : va_D A [(a0, .inr (15, [.int 0, v1, v2, v3, v4, v5, v6, v7, v8, v9, v10, v11, v12, v13, v14, v15, v16, v17, v18, v19, v20, v21, v22, v23, v24, v25, v26, v27]))] := hD
  refine lv_aload_n hx hb dX10_addStream_4 rfl (lv_at hl 0 rfl) ?_
  refine lv_iload_n hx hb dX10_addStream_5 rfl (lv_at hl 1 rfl) ?_
  refine lv_i2l (v := x0.toInt64) hx hb dX10_addStream_6 rfl ?_
  refine lv_ldc2 (v := 50) hx hb hown (hts _ tw_314) dX10_addStream_7 ?_
  refine lv_ldc2 (v := 999) hx hb hown (hts _ tw_493) dX10_addStream_10 ?_
  refine ca_i (isC := []) (isR := [0]) (wr := [(a0, .inr (15, [.int 0, v1, v2, v3, v4, v5, v6, v7, v8, v9, v10, v11, v12, v13, v14, v15, v16, v17, v18, v19, v20, v21, v22, v23, v24, v25, v26, v27]))]) (rn_S (isC := []) (wc := []) (As := [.long x0.toInt64, .long 50, .long 999]) (rest := [.ref a0]) (n := 3) hx hb hml hown hts hE hS hP hD hA hl.1 (k21_X10_in l D cy g x0.toInt64 50 999 H.size (wl_lt rfl (by decide) h0)) rfl rfl ax_39 rfl rfl ax_40 ⟨Nat.le_of_ble_eq_true rfl, Nat.le_of_ble_eq_true rfl⟩ rfl rfl (Nat.le_of_ble_eq_true rfl) dX10_addStream_13 ⟨(Nat.le_of_ble_eq_true rfl), (Nat.le_of_ble_eq_true rfl)⟩) hP hD hS hA rfl rfl rfl (by decide) (fun ad13 H locs hP hD hS => ?_)
  have hP : va_P D vwCl [(a0, .inr (15, [.int 0, v1, v2, v3, v4, v5, v6, v7, v8, v9, v10, v11, v12, v13, v14, v15, v16, v17, v18, v19, v20, v21, v22, v23, v24, v25, v26, v27]))] H := hP
  have hD : va_D A [(a0, .inr (15, [.int 0, v1, v2, v3, v4, v5, v6, v7, v8, v9, v10, v11, v12, v13, v14, v15, v16, v17, v18, v19, v20, v21, v22, v23, v24, v25, v26, v27]))] := hD
  refine lv_if_eq (tgt := 50) hx hb dX10_addStream_16 (by decide) (fun _ => ?_) (fun z => absurd (by decide) z)
  refine lv_iconst (v := 1) hx hb dX10_addStream_50 (by decide) ?_
  refine lv_goto (tgt := 55) hx hb dX10_addStream_51 (by decide) ?_
  refine lv_iconst (v := 1) hx hb dX10_addStream_55 (by decide) ?_
  refine ca_i (isC := [0]) (isR := []) (wr := []) (rn_V (ci := 15) (q0 := 0) (isC := [0]) (wc := [(a0, .inr (15, [.int 0, v1, v2, v3, v4, v5, v6, v7, v8, v9, v10, v11, v12, v13, v14, v15, v16, v17, v18, v19, v20, v21, v22, v23, v24, v25, v26, v27]))]) (As := [.int 1, .int 1]) (rest := []) (n := 2) hx hb hml hown hts hE hS hP hD hA hl.1 (k22_X10_fails l D cy g a0 (v1) (v2) (v3) (v4) (v5) (v6) (v7) (v8) (v9) (v10) (v11) (v12) (v13) (v14) (v15) (v16) (v17) (v18) (v19) (v20) (v21) (v22) (v23) (v24) (v25) (v26) (v27) H.size ) rfl rfl rfl rfl rfl ax_41 rfl rfl ax_42 ⟨Nat.le_of_ble_eq_true rfl, Nat.le_of_ble_eq_true rfl⟩ rfl rfl (Nat.le_of_ble_eq_true rfl) dX10_addStream_56 ⟨(Nat.le_of_ble_eq_true rfl), (Nat.le_of_ble_eq_true rfl)⟩) hP hD hS hA rfl rfl rfl (by decide) (fun ad56 H locs hP hD hS => ?_)
  have hP : va_P D vwCl [(a0, .inr (15, [.int 1, v1, v2, v3, v4, v5, v6, v7, v8, v9, v10, v11, v12, v13, v14, v15, v16, v17, v18, v19, v20, v21, v22, v23, v24, v25, v26, v27]))] H := hP
  have hD : va_D A [(a0, .inr (15, [.int 1, v1, v2, v3, v4, v5, v6, v7, v8, v9, v10, v11, v12, v13, v14, v15, v16, v17, v18, v19, v20, v21, v22, v23, v24, v25, v26, v27]))] := hD
  refine lv_if_ne (tgt := 89) hx hb dX10_addStream_59 (by decide) (fun _ => ?_) (fun z => absurd z (by decide))
  refine lv_iconst (v := (-1)) hx hb dX10_addStream_89 (by decide) ?_
  exact en_z hx hb hr hlk hP hD hS rfl (fun _ => 0) (is := [0]) rfl rfl (Nat.le_of_ble_eq_true rfl) (Nat.le_of_ble_eq_true rfl) dX10_addStream_90
set_option maxHeartbeats 4000000 in
set_option maxRecDepth 100000 in
theorem k503_X9_addStream (l : Launch) (hst : l.stackTraces = false) (D : va_G) (cy : Nat → ClassId) (g : Nat → Nat) (x0 : Int32) (x1 : Int32) (x2 : Int32) (b0 : Nat) (sz : Nat) (h0 : ¬ x0 < 50) (h1 : (999 : Int32) < x0) : vx_Met l yX9_addStream [.code yX9_addStream cX9_addStream 4 (some .int)] ({ frames := 6, cells := 1, slots := 6, locals := 82 }) (PC D cy g [] sz [.ref b0, .int x0, .int x1, .int x2]) QN (XE "java/lang/IllegalArgumentException" (va_A [] sz)) 1 6 (va_A [] sz) := by
  refine st_X (by decide) (Nat.le_of_ble_eq_true rfl) ?_
  intro p e s m args below meth c A ls hx hb hr hml hown hlk hnm hsz hP hD hA hE hts hS hl hout
  have hown : s.vm.findClass RX9 = some m.cls := hown
  have hl : lv_has ls 4 [(0, .ref b0), (1, .int x0), (2, .int x1), (3, .int x2)] := hl
  refine lv_iload_n hx hb dX9_addStream_0 rfl (lv_at hl 1 rfl) ?_
  refine lv_bipush (v := 50) hx hb dX9_addStream_1 (by decide) ?_
  refine lv_sipush (v := 999) hx hb dX9_addStream_3 (by decide) ?_
  refine ca_i (isC := []) (isR := []) (wr := []) (rn_S (isC := []) (wc := []) (As := [.int x0, .int 50, .int 999]) (rest := []) (n := 3) hx hb hml hown hts hE hS hP hD hA hl.1 (k25_X9_isOutside l D cy g x0 50 999 s.heap.size h0 h1) rfl rfl ax_30 rfl rfl ax_31 ⟨Nat.le_of_ble_eq_true rfl, Nat.le_of_ble_eq_true rfl⟩ rfl rfl (Nat.le_of_ble_eq_true rfl) dX9_addStream_6 ⟨(Nat.le_of_ble_eq_true rfl), (Nat.le_of_ble_eq_true rfl)⟩) hP hD hS hA rfl rfl rfl (by decide) (fun ad6 H locs hP hD hS => ?_)
  have hP : va_P D vwCl [] H := hP
  have hD : va_D A [] := hD
  refine lv_if_ne (tgt := 39) hx hb dX9_addStream_9 (by decide) (fun _ => ?_) (fun z => absurd z (by decide))
  exact th_S (text := "a number is out of range") hx hb hst hown hts hE hS (hl.1.trans hml.symm) hout hlk (by decide +kernel) tw_296 tw_297 ax_32 (by decide +kernel) dX9_addStream_39 dX9_addStream_42 dX9_addStream_43 dX9_addStream_45 dX9_addStream_48 ⟨Nat.le_of_ble_eq_true rfl, Nat.le_of_ble_eq_true rfl, Nat.le_of_ble_eq_true rfl, Nat.le_of_ble_eq_true rfl⟩ (Nat.le_of_ble_eq_true rfl) (Nat.le_of_ble_eq_true rfl)
set_option maxHeartbeats 4000000 in
set_option maxRecDepth 100000 in
theorem k504_L_addStream (l : Launch) (hst : l.stackTraces = false) (D : va_G) (cy : Nat → ClassId) (g : Nat → Nat) (x0 : Int32) (x1 : Int32) (x2 : Int32) (a0 : Nat) (b0 : Nat) (v0 : Value) (v1 : Value) (v2 : Value) (v3 : Value) (v4 : Value) (v5 : Value) (v6 : Value) (sz : Nat) (h0 : ¬ x0 < 50) (h1 : (999 : Int32) < x0) : Met l yL_addStream [.codeWith yL_addStream cL_addStream 6 (some .int) [(0, 12, 15, 13), (0, 12, 19, 15)]] ({ frames := 7, cells := 1, slots := 6, locals := 105 }) (PC D cy g [(a0, .inr (14, [v0, v1, v2, v3, v4, v5, v6]))] sz [.ref a0, .int x0, .int x1, .int x2, .ref b0]) (QI D 1 (fun ad => []) (va_A [(a0, .inr (14, [v0, v1, v2, v3, v4, v5, v6]))] sz)) 1 6 (va_A [(a0, .inr (14, [v0, v1, v2, v3, v4, v5, v6]))] sz) := by
  refine sh_I (by decide) (Nat.le_of_ble_eq_true rfl) ?_
  intro p e s m args below meth c A ls hx hb hr hml hown hlk hnm hsz hP hD hA hE hts hS hl htb
  have hown : s.vm.findClass RL = some m.cls := hown
  have hl : lv_has ls 6 [(0, .ref a0), (1, .int x0), (2, .int x1), (3, .int x2), (4, .ref b0)] := hl
  refine lv_aload hx hb dL_addStream_0 (lv_at hl 4 rfl) ?_
  refine lv_iconst (v := 0) hx hb dL_addStream_2 (by decide) ?_
  refine lv_aload_n hx hb dL_addStream_3 rfl (lv_at hl 0 rfl) ?_
  refine lv_iload_n hx hb dL_addStream_4 rfl (lv_at hl 1 rfl) ?_
  refine lv_iload_n hx hb dL_addStream_5 rfl (lv_at hl 2 rfl) ?_
  refine lv_iload_n hx hb dL_addStream_6 rfl (lv_at hl 3 rfl) ?_
  refine cx_catch (isC := []) (isR := [0]) (wr := [(a0, .inr (14, [v0, v1, v2, v3, v4, v5, v6]))]) (hp := []) (z := (0, 12, 15, 13)) (hq := [(0, 12, 19, 15)]) (name := "java/lang/IllegalArgumentException") (own := RL) (rx_V (ci := 14) (q0 := 0) (isC := []) (wc := []) (As := [.int x0, .int x1, .int x2]) (rest := [.int 0, .ref b0]) (n := 3) hx hb hml hown hts hE hS hP hD hA hl.1 (k503_X9_addStream l hst D cy g x0 x1 x2 a0 s.heap.size h0 h1) rfl rfl rfl rfl rfl ax_344 rfl rfl ax_345 ⟨Nat.le_of_ble_eq_true rfl, Nat.le_of_ble_eq_true rfl⟩ rfl rfl (Nat.le_of_ble_eq_true rfl) dL_addStream_7 ⟨(Nat.le_of_ble_eq_true rfl), (Nat.le_of_ble_eq_true rfl)⟩) hP hD hS hA hown hts hE htb rfl rfl rfl rfl (by decide) (fun z hz => by cases hz) (by decide) (by decide) tw_302 tw_303 (fun qx H locs hP hD hS => ?_)
  have hP : va_P D vwCl [(a0, .inr (14, [v0, v1, v2, v3, v4, v5, v6]))] H := hP
  have hD : va_D A [(a0, .inr (14, [v0, v1, v2, v3, v4, v5, v6]))] := hD
  refine lv_astore (lv' := [(5, .ref qx), (0, .ref a0), (1, .int x0), (2, .int x1), (3, .int x2), (4, .ref b0)]) hx hb dL_addStream_15 hl (Nat.le_of_ble_eq_true rfl) rfl (fun ls hl => ?_)
  refine lv_iconst (v := 1) hx hb dL_addStream_17 (by decide) ?_
  exact en_z hx hb hr hlk hP hD hS rfl (fun _ => 0) (is := []) rfl rfl (Nat.le_of_ble_eq_true rfl) (Nat.le_of_ble_eq_true rfl) dL_addStream_18
set_option maxHeartbeats 4000000 in
set_option maxRecDepth 100000 in
theorem k505_X10_addStream (l : Launch) (D : va_G) (cy : Nat → ClassId) (g : Nat → Nat) (x0 : Int32) (x1 : Int32) (x2 : Int32) (a0 : Nat) (v0 : Value) (v1 : Value) (v2 : Value) (v3 : Value) (v4 : Value) (v5 : Value) (v6 : Value) (v7 : Value) (v8 : Value) (v9 : Value) (v10 : Value) (v11 : Value) (v12 : Value) (v13 : Value) (v14 : Value) (v15 : Value) (v16 : Value) (v17 : Value) (v18 : Value) (v19 : Value) (v20 : Value) (v21 : Value) (v22 : Value) (v23 : Value) (v24 : Value) (v25 : Value) (v26 : Value) (v27 : Value) (sz : Nat) (h0 : ¬ x0 < 50) (h1 : (999 : Int32) < x0) : Met l yX10_addStream [.code yX10_addStream cX10_addStream 4 (some .int)] ({ frames := 1, cells := 0, slots := 0, locals := 25 }) (PC D cy g [(a0, .inr (15, [v0, v1, v2, v3, v4, v5, v6, v7, v8, v9, v10, v11, v12, v13, v14, v15, v16, v17, v18, v19, v20, v21, v22, v23, v24, v25, v26, v27]))] sz [.ref a0, .int x0, .int x1, .int x2]) (QI D (-1) (fun ad => [(a0, .inr (15, [.int 1, v1, v2, v3, v4, v5, v6, v7, v8, v9, v10, v11, v12, v13, v14, v15, v16, v17, v18, v19, v20, v21, v22, v23, v24, v25, v26, v27]))]) (va_A [(a0, .inr (15, [v0, v1, v2, v3, v4, v5, v6, v7, v8, v9, v10, v11, v12, v13, v14, v15, v16, v17, v18, v19, v20, v21, v22, v23, v24, v25, v26, v27]))] sz)) 0 0 (va_A [(a0, .inr (15, [v0, v1, v2, v3, v4, v5, v6, v7, v8, v9, v10, v11, v12, v13, v14, v15, v16, v17, v18, v19, v20, v21, v22, v23, v24, v25, v26, v27]))] sz) := by
  refine st_I (by decide) (Nat.le_of_ble_eq_true rfl) ?_
  intro p e s m args below meth c A ls hx hb hr hml hown hlk hnm hsz hP hD hA hE hts hS hl
  have hown : s.vm.findClass RX10 = some m.cls := hown
  have hl : lv_has ls 4 [(0, .ref a0), (1, .int x0), (2, .int x1), (3, .int x2)] := hl
  refine lv_aload_n hx hb dX10_addStream_0 rfl (lv_at hl 0 rfl) ?_
  refine ca_v (isC := [0]) (isR := []) (wr := []) (rn_V (ci := 15) (q0 := 0) (isC := [0]) (wc := [(a0, .inr (15, [v0, v1, v2, v3, v4, v5, v6, v7, v8, v9, v10, v11, v12, v13, v14, v15, v16, v17, v18, v19, v20, v21, v22, v23, v24, v25, v26, v27]))]) (As := []) (rest := []) (n := 0) hx hb hml hown hts hE hS hP hD hA hl.1 (k20_X10_begins l D cy g a0 (v0) (v1) (v2) (v3) (v4) (v5) (v6) (v7) (v8) (v9) (v10) (v11) (v12) (v13) (v14) (v15) (v16) (v17) (v18) (v19) (v20) (v21) (v22) (v23) (v24) (v25) (v26) (v27) s.heap.size ) rfl rfl rfl rfl rfl ax_37 rfl rfl ax_38 ⟨Nat.le_of_ble_eq_true rfl, Nat.le_of_ble_eq_true rfl⟩ rfl rfl (Nat.le_of_ble_eq_true rfl) dX10_addStream_1 ⟨(Nat.le_of_ble_eq_true rfl), (Nat.le_of_ble_eq_true rfl)⟩) hP hD hS hA rfl rfl rfl (by decide) (fun ad1 H locs hP hD hS => ?_)
  have hP : va_P D vwCl [(a0, .inr (15, [.int 0, v1, v2, v3, v4, v5, v6, v7, v8, v9, v10, v11, v12, v13, v14, v15, v16, v17, v18, v19, v20, v21, v22, v23, v24, v25, v26, v27]))] H := hP
  have hD : va_D A [(a0, .inr (15, [.int 0, v1, v2, v3, v4, v5, v6, v7, v8, v9, v10, v11, v12, v13, v14, v15, v16, v17, v18, v19, v20, v21, v22, v23, v24, v25, v26, v27]))] := hD
  refine lv_aload_n hx hb dX10_addStream_4 rfl (lv_at hl 0 rfl) ?_
  refine lv_iload_n hx hb dX10_addStream_5 rfl (lv_at hl 1 rfl) ?_
  refine lv_i2l (v := x0.toInt64) hx hb dX10_addStream_6 rfl ?_
  refine lv_ldc2 (v := 50) hx hb hown (hts _ tw_314) dX10_addStream_7 ?_
  refine lv_ldc2 (v := 999) hx hb hown (hts _ tw_493) dX10_addStream_10 ?_
  refine ca_i (isC := []) (isR := [0]) (wr := [(a0, .inr (15, [.int 0, v1, v2, v3, v4, v5, v6, v7, v8, v9, v10, v11, v12, v13, v14, v15, v16, v17, v18, v19, v20, v21, v22, v23, v24, v25, v26, v27]))]) (rn_S (isC := []) (wc := []) (As := [.long x0.toInt64, .long 50, .long 999]) (rest := [.ref a0]) (n := 3) hx hb hml hown hts hE hS hP hD hA hl.1 (k28_X10_in l D cy g x0.toInt64 50 999 H.size (wl_nlt rfl (by decide) h0) (wl_lt (by decide) rfl h1)) rfl rfl ax_39 rfl rfl ax_40 ⟨Nat.le_of_ble_eq_true rfl, Nat.le_of_ble_eq_true rfl⟩ rfl rfl (Nat.le_of_ble_eq_true rfl) dX10_addStream_13 ⟨(Nat.le_of_ble_eq_true rfl), (Nat.le_of_ble_eq_true rfl)⟩) hP hD hS hA rfl rfl rfl (by decide) (fun ad13 H locs hP hD hS => ?_)
  have hP : va_P D vwCl [(a0, .inr (15, [.int 0, v1, v2, v3, v4, v5, v6, v7, v8, v9, v10, v11, v12, v13, v14, v15, v16, v17, v18, v19, v20, v21, v22, v23, v24, v25, v26, v27]))] H := hP
  have hD : va_D A [(a0, .inr (15, [.int 0, v1, v2, v3, v4, v5, v6, v7, v8, v9, v10, v11, v12, v13, v14, v15, v16, v17, v18, v19, v20, v21, v22, v23, v24, v25, v26, v27]))] := hD
  refine lv_if_eq (tgt := 50) hx hb dX10_addStream_16 (by decide) (fun _ => ?_) (fun z => absurd (by decide) z)
  refine lv_iconst (v := 1) hx hb dX10_addStream_50 (by decide) ?_
  refine lv_goto (tgt := 55) hx hb dX10_addStream_51 (by decide) ?_
  refine lv_iconst (v := 1) hx hb dX10_addStream_55 (by decide) ?_
  refine ca_i (isC := [0]) (isR := []) (wr := []) (rn_V (ci := 15) (q0 := 0) (isC := [0]) (wc := [(a0, .inr (15, [.int 0, v1, v2, v3, v4, v5, v6, v7, v8, v9, v10, v11, v12, v13, v14, v15, v16, v17, v18, v19, v20, v21, v22, v23, v24, v25, v26, v27]))]) (As := [.int 1, .int 1]) (rest := []) (n := 2) hx hb hml hown hts hE hS hP hD hA hl.1 (k22_X10_fails l D cy g a0 (v1) (v2) (v3) (v4) (v5) (v6) (v7) (v8) (v9) (v10) (v11) (v12) (v13) (v14) (v15) (v16) (v17) (v18) (v19) (v20) (v21) (v22) (v23) (v24) (v25) (v26) (v27) H.size ) rfl rfl rfl rfl rfl ax_41 rfl rfl ax_42 ⟨Nat.le_of_ble_eq_true rfl, Nat.le_of_ble_eq_true rfl⟩ rfl rfl (Nat.le_of_ble_eq_true rfl) dX10_addStream_56 ⟨(Nat.le_of_ble_eq_true rfl), (Nat.le_of_ble_eq_true rfl)⟩) hP hD hS hA rfl rfl rfl (by decide) (fun ad56 H locs hP hD hS => ?_)
  have hP : va_P D vwCl [(a0, .inr (15, [.int 1, v1, v2, v3, v4, v5, v6, v7, v8, v9, v10, v11, v12, v13, v14, v15, v16, v17, v18, v19, v20, v21, v22, v23, v24, v25, v26, v27]))] H := hP
  have hD : va_D A [(a0, .inr (15, [.int 1, v1, v2, v3, v4, v5, v6, v7, v8, v9, v10, v11, v12, v13, v14, v15, v16, v17, v18, v19, v20, v21, v22, v23, v24, v25, v26, v27]))] := hD
  refine lv_if_ne (tgt := 89) hx hb dX10_addStream_59 (by decide) (fun _ => ?_) (fun z => absurd z (by decide))
  refine lv_iconst (v := (-1)) hx hb dX10_addStream_89 (by decide) ?_
  exact en_z hx hb hr hlk hP hD hS rfl (fun _ => 0) (is := [0]) rfl rfl (Nat.le_of_ble_eq_true rfl) (Nat.le_of_ble_eq_true rfl) dX10_addStream_90
set_option maxHeartbeats 4000000 in
set_option maxRecDepth 100000 in
theorem k506_X9_addStream (l : Launch) (hst : l.stackTraces = false) (D : va_G) (cy : Nat → ClassId) (g : Nat → Nat) (x0 : Int32) (x1 : Int32) (x2 : Int32) (b0 : Nat) (sz : Nat) (h0 : ¬ x0 < 50) (h1 : ¬ (999 : Int32) < x0) (h2 : x1 < 50) : vx_Met l yX9_addStream [.code yX9_addStream cX9_addStream 4 (some .int)] ({ frames := 6, cells := 1, slots := 6, locals := 82 }) (PC D cy g [] sz [.ref b0, .int x0, .int x1, .int x2]) QN (XE "java/lang/IllegalArgumentException" (va_A [] sz)) 1 6 (va_A [] sz) := by
  refine st_X (by decide) (Nat.le_of_ble_eq_true rfl) ?_
  intro p e s m args below meth c A ls hx hb hr hml hown hlk hnm hsz hP hD hA hE hts hS hl hout
  have hown : s.vm.findClass RX9 = some m.cls := hown
  have hl : lv_has ls 4 [(0, .ref b0), (1, .int x0), (2, .int x1), (3, .int x2)] := hl
  refine lv_iload_n hx hb dX9_addStream_0 rfl (lv_at hl 1 rfl) ?_
  refine lv_bipush (v := 50) hx hb dX9_addStream_1 (by decide) ?_
  refine lv_sipush (v := 999) hx hb dX9_addStream_3 (by decide) ?_
  refine ca_i (isC := []) (isR := []) (wr := []) (rn_S (isC := []) (wc := []) (As := [.int x0, .int 50, .int 999]) (rest := []) (n := 3) hx hb hml hown hts hE hS hP hD hA hl.1 (k30_X9_isOutside l D cy g x0 50 999 s.heap.size h0 h1) rfl rfl ax_30 rfl rfl ax_31 ⟨Nat.le_of_ble_eq_true rfl, Nat.le_of_ble_eq_true rfl⟩ rfl rfl (Nat.le_of_ble_eq_true rfl) dX9_addStream_6 ⟨(Nat.le_of_ble_eq_true rfl), (Nat.le_of_ble_eq_true rfl)⟩) hP hD hS hA rfl rfl rfl (by decide) (fun ad6 H locs hP hD hS => ?_)
  have hP : va_P D vwCl [] H := hP
  have hD : va_D A [] := hD
  refine lv_if_ne (tgt := 39) hx hb dX9_addStream_9 (by decide) (fun z => absurd (by decide) z) (fun _ => ?_)
  refine lv_iload_n hx hb dX9_addStream_12 rfl (lv_at hl 2 rfl) ?_
  refine lv_bipush (v := 50) hx hb dX9_addStream_13 (by decide) ?_
  refine lv_sipush (v := 999) hx hb dX9_addStream_15 (by decide) ?_
  refine ca_i (isC := []) (isR := []) (wr := []) (rn_S (isC := []) (wc := []) (As := [.int x1, .int 50, .int 999]) (rest := []) (n := 3) hx hb hml hown hts hE hS hP hD hA hl.1 (k17_X9_isOutside l D cy g x1 50 999 H.size h2) rfl rfl ax_30 rfl rfl ax_31 ⟨Nat.le_of_ble_eq_true rfl, Nat.le_of_ble_eq_true rfl⟩ rfl rfl (Nat.le_of_ble_eq_true rfl) dX9_addStream_18 ⟨(Nat.le_of_ble_eq_true rfl), (Nat.le_of_ble_eq_true rfl)⟩) hP hD hS hA rfl rfl rfl (by decide) (fun ad18 H locs hP hD hS => ?_)
  have hP : va_P D vwCl [] H := hP
  have hD : va_D A [] := hD
  refine lv_if_ne (tgt := 39) hx hb dX9_addStream_21 (by decide) (fun _ => ?_) (fun z => absurd z (by decide))
  exact th_S (text := "a number is out of range") hx hb hst hown hts hE hS (hl.1.trans hml.symm) hout hlk (by decide +kernel) tw_296 tw_297 ax_32 (by decide +kernel) dX9_addStream_39 dX9_addStream_42 dX9_addStream_43 dX9_addStream_45 dX9_addStream_48 ⟨Nat.le_of_ble_eq_true rfl, Nat.le_of_ble_eq_true rfl, Nat.le_of_ble_eq_true rfl, Nat.le_of_ble_eq_true rfl⟩ (Nat.le_of_ble_eq_true rfl) (Nat.le_of_ble_eq_true rfl)
set_option maxHeartbeats 4000000 in
set_option maxRecDepth 100000 in
theorem k507_L_addStream (l : Launch) (hst : l.stackTraces = false) (D : va_G) (cy : Nat → ClassId) (g : Nat → Nat) (x0 : Int32) (x1 : Int32) (x2 : Int32) (a0 : Nat) (b0 : Nat) (v0 : Value) (v1 : Value) (v2 : Value) (v3 : Value) (v4 : Value) (v5 : Value) (v6 : Value) (sz : Nat) (h0 : ¬ x0 < 50) (h1 : ¬ (999 : Int32) < x0) (h2 : x1 < 50) : Met l yL_addStream [.codeWith yL_addStream cL_addStream 6 (some .int) [(0, 12, 15, 13), (0, 12, 19, 15)]] ({ frames := 7, cells := 1, slots := 6, locals := 105 }) (PC D cy g [(a0, .inr (14, [v0, v1, v2, v3, v4, v5, v6]))] sz [.ref a0, .int x0, .int x1, .int x2, .ref b0]) (QI D 1 (fun ad => []) (va_A [(a0, .inr (14, [v0, v1, v2, v3, v4, v5, v6]))] sz)) 1 6 (va_A [(a0, .inr (14, [v0, v1, v2, v3, v4, v5, v6]))] sz) := by
  refine sh_I (by decide) (Nat.le_of_ble_eq_true rfl) ?_
  intro p e s m args below meth c A ls hx hb hr hml hown hlk hnm hsz hP hD hA hE hts hS hl htb
  have hown : s.vm.findClass RL = some m.cls := hown
  have hl : lv_has ls 6 [(0, .ref a0), (1, .int x0), (2, .int x1), (3, .int x2), (4, .ref b0)] := hl
  refine lv_aload hx hb dL_addStream_0 (lv_at hl 4 rfl) ?_
  refine lv_iconst (v := 0) hx hb dL_addStream_2 (by decide) ?_
  refine lv_aload_n hx hb dL_addStream_3 rfl (lv_at hl 0 rfl) ?_
  refine lv_iload_n hx hb dL_addStream_4 rfl (lv_at hl 1 rfl) ?_
  refine lv_iload_n hx hb dL_addStream_5 rfl (lv_at hl 2 rfl) ?_
  refine lv_iload_n hx hb dL_addStream_6 rfl (lv_at hl 3 rfl) ?_
  refine cx_catch (isC := []) (isR := [0]) (wr := [(a0, .inr (14, [v0, v1, v2, v3, v4, v5, v6]))]) (hp := []) (z := (0, 12, 15, 13)) (hq := [(0, 12, 19, 15)]) (name := "java/lang/IllegalArgumentException") (own := RL) (rx_V (ci := 14) (q0 := 0) (isC := []) (wc := []) (As := [.int x0, .int x1, .int x2]) (rest := [.int 0, .ref b0]) (n := 3) hx hb hml hown hts hE hS hP hD hA hl.1 (k506_X9_addStream l hst D cy g x0 x1 x2 a0 s.heap.size h0 h1 h2) rfl rfl rfl rfl rfl ax_344 rfl rfl ax_345 ⟨Nat.le_of_ble_eq_true rfl, Nat.le_of_ble_eq_true rfl⟩ rfl rfl (Nat.le_of_ble_eq_true rfl) dL_addStream_7 ⟨(Nat.le_of_ble_eq_true rfl), (Nat.le_of_ble_eq_true rfl)⟩) hP hD hS hA hown hts hE htb rfl rfl rfl rfl (by decide) (fun z hz => by cases hz) (by decide) (by decide) tw_302 tw_303 (fun qx H locs hP hD hS => ?_)
  have hP : va_P D vwCl [(a0, .inr (14, [v0, v1, v2, v3, v4, v5, v6]))] H := hP
  have hD : va_D A [(a0, .inr (14, [v0, v1, v2, v3, v4, v5, v6]))] := hD
  refine lv_astore (lv' := [(5, .ref qx), (0, .ref a0), (1, .int x0), (2, .int x1), (3, .int x2), (4, .ref b0)]) hx hb dL_addStream_15 hl (Nat.le_of_ble_eq_true rfl) rfl (fun ls hl => ?_)
  refine lv_iconst (v := 1) hx hb dL_addStream_17 (by decide) ?_
  exact en_z hx hb hr hlk hP hD hS rfl (fun _ => 0) (is := []) rfl rfl (Nat.le_of_ble_eq_true rfl) (Nat.le_of_ble_eq_true rfl) dL_addStream_18
set_option maxHeartbeats 4000000 in
set_option maxRecDepth 100000 in
theorem k508_X10_addStream (l : Launch) (D : va_G) (cy : Nat → ClassId) (g : Nat → Nat) (x0 : Int32) (x1 : Int32) (x2 : Int32) (a0 : Nat) (v0 : Value) (v1 : Value) (v2 : Value) (v3 : Value) (v4 : Value) (v5 : Value) (v6 : Value) (v7 : Value) (v8 : Value) (v9 : Value) (v10 : Value) (v11 : Value) (v12 : Value) (v13 : Value) (v14 : Value) (v15 : Value) (v16 : Value) (v17 : Value) (v18 : Value) (v19 : Value) (v20 : Value) (v21 : Value) (v22 : Value) (v23 : Value) (v24 : Value) (v25 : Value) (v26 : Value) (v27 : Value) (sz : Nat) (h0 : ¬ x0 < 50) (h1 : ¬ (999 : Int32) < x0) (h2 : x1 < 50) : Met l yX10_addStream [.code yX10_addStream cX10_addStream 4 (some .int)] ({ frames := 1, cells := 0, slots := 0, locals := 25 }) (PC D cy g [(a0, .inr (15, [v0, v1, v2, v3, v4, v5, v6, v7, v8, v9, v10, v11, v12, v13, v14, v15, v16, v17, v18, v19, v20, v21, v22, v23, v24, v25, v26, v27]))] sz [.ref a0, .int x0, .int x1, .int x2]) (QI D (-1) (fun ad => [(a0, .inr (15, [.int 1, v1, v2, v3, v4, v5, v6, v7, v8, v9, v10, v11, v12, v13, v14, v15, v16, v17, v18, v19, v20, v21, v22, v23, v24, v25, v26, v27]))]) (va_A [(a0, .inr (15, [v0, v1, v2, v3, v4, v5, v6, v7, v8, v9, v10, v11, v12, v13, v14, v15, v16, v17, v18, v19, v20, v21, v22, v23, v24, v25, v26, v27]))] sz)) 0 0 (va_A [(a0, .inr (15, [v0, v1, v2, v3, v4, v5, v6, v7, v8, v9, v10, v11, v12, v13, v14, v15, v16, v17, v18, v19, v20, v21, v22, v23, v24, v25, v26, v27]))] sz) := by
  refine st_I (by decide) (Nat.le_of_ble_eq_true rfl) ?_
  intro p e s m args below meth c A ls hx hb hr hml hown hlk hnm hsz hP hD hA hE hts hS hl
  have hown : s.vm.findClass RX10 = some m.cls := hown
  have hl : lv_has ls 4 [(0, .ref a0), (1, .int x0), (2, .int x1), (3, .int x2)] := hl
  refine lv_aload_n hx hb dX10_addStream_0 rfl (lv_at hl 0 rfl) ?_
  refine ca_v (isC := [0]) (isR := []) (wr := []) (rn_V (ci := 15) (q0 := 0) (isC := [0]) (wc := [(a0, .inr (15, [v0, v1, v2, v3, v4, v5, v6, v7, v8, v9, v10, v11, v12, v13, v14, v15, v16, v17, v18, v19, v20, v21, v22, v23, v24, v25, v26, v27]))]) (As := []) (rest := []) (n := 0) hx hb hml hown hts hE hS hP hD hA hl.1 (k20_X10_begins l D cy g a0 (v0) (v1) (v2) (v3) (v4) (v5) (v6) (v7) (v8) (v9) (v10) (v11) (v12) (v13) (v14) (v15) (v16) (v17) (v18) (v19) (v20) (v21) (v22) (v23) (v24) (v25) (v26) (v27) s.heap.size ) rfl rfl rfl rfl rfl ax_37 rfl rfl ax_38 ⟨Nat.le_of_ble_eq_true rfl, Nat.le_of_ble_eq_true rfl⟩ rfl rfl (Nat.le_of_ble_eq_true rfl) dX10_addStream_1 ⟨(Nat.le_of_ble_eq_true rfl), (Nat.le_of_ble_eq_true rfl)⟩) hP hD hS hA rfl rfl rfl (by decide) (fun ad1 H locs hP hD hS => ?_)
  have hP : va_P D vwCl [(a0, .inr (15, [.int 0, v1, v2, v3, v4, v5, v6, v7, v8, v9, v10, v11, v12, v13, v14, v15, v16, v17, v18, v19, v20, v21, v22, v23, v24, v25, v26, v27]))] H := hP
  have hD : va_D A [(a0, .inr (15, [.int 0, v1, v2, v3, v4, v5, v6, v7, v8, v9, v10, v11, v12, v13, v14, v15, v16, v17, v18, v19, v20, v21, v22, v23, v24, v25, v26, v27]))] := hD
  refine lv_aload_n hx hb dX10_addStream_4 rfl (lv_at hl 0 rfl) ?_
  refine lv_iload_n hx hb dX10_addStream_5 rfl (lv_at hl 1 rfl) ?_
  refine lv_i2l (v := x0.toInt64) hx hb dX10_addStream_6 rfl ?_
  refine lv_ldc2 (v := 50) hx hb hown (hts _ tw_314) dX10_addStream_7 ?_
  refine lv_ldc2 (v := 999) hx hb hown (hts _ tw_493) dX10_addStream_10 ?_
  refine ca_i (isC := []) (isR := [0]) (wr := [(a0, .inr (15, [.int 0, v1, v2, v3, v4, v5, v6, v7, v8, v9, v10, v11, v12, v13, v14, v15, v16, v17, v18, v19, v20, v21, v22, v23, v24, v25, v26, v27]))]) (rn_S (isC := []) (wc := []) (As := [.long x0.toInt64, .long 50, .long 999]) (rest := [.ref a0]) (n := 3) hx hb hml hown hts hE hS hP hD hA hl.1 (k33_X10_in l D cy g x0.toInt64 50 999 H.size (wl_nlt rfl (by decide) h0) (wl_nlt (by decide) rfl h1)) rfl rfl ax_39 rfl rfl ax_40 ⟨Nat.le_of_ble_eq_true rfl, Nat.le_of_ble_eq_true rfl⟩ rfl rfl (Nat.le_of_ble_eq_true rfl) dX10_addStream_13 ⟨(Nat.le_of_ble_eq_true rfl), (Nat.le_of_ble_eq_true rfl)⟩) hP hD hS hA rfl rfl rfl (by decide) (fun ad13 H locs hP hD hS => ?_)
  have hP : va_P D vwCl [(a0, .inr (15, [.int 0, v1, v2, v3, v4, v5, v6, v7, v8, v9, v10, v11, v12, v13, v14, v15, v16, v17, v18, v19, v20, v21, v22, v23, v24, v25, v26, v27]))] H := hP
  have hD : va_D A [(a0, .inr (15, [.int 0, v1, v2, v3, v4, v5, v6, v7, v8, v9, v10, v11, v12, v13, v14, v15, v16, v17, v18, v19, v20, v21, v22, v23, v24, v25, v26, v27]))] := hD
  refine lv_if_eq (tgt := 50) hx hb dX10_addStream_16 (by decide) (fun z => absurd z (by decide)) (fun _ => ?_)
  refine lv_iload_n hx hb dX10_addStream_19 rfl (lv_at hl 2 rfl) ?_
  refine lv_i2l (v := x1.toInt64) hx hb dX10_addStream_20 rfl ?_
  refine lv_ldc2 (v := 50) hx hb hown (hts _ tw_314) dX10_addStream_21 ?_
  refine lv_ldc2 (v := 999) hx hb hown (hts _ tw_493) dX10_addStream_24 ?_
  refine ca_i (isC := []) (isR := [0]) (wr := [(a0, .inr (15, [.int 0, v1, v2, v3, v4, v5, v6, v7, v8, v9, v10, v11, v12, v13, v14, v15, v16, v17, v18, v19, v20, v21, v22, v23, v24, v25, v26, v27]))]) (rn_S (isC := []) (wc := []) (As := [.long x1.toInt64, .long 50, .long 999]) (rest := [.ref a0]) (n := 3) hx hb hml hown hts hE hS hP hD hA hl.1 (k21_X10_in l D cy g x1.toInt64 50 999 H.size (wl_lt rfl (by decide) h2)) rfl rfl ax_39 rfl rfl ax_40 ⟨Nat.le_of_ble_eq_true rfl, Nat.le_of_ble_eq_true rfl⟩ rfl rfl (Nat.le_of_ble_eq_true rfl) dX10_addStream_27 ⟨(Nat.le_of_ble_eq_true rfl), (Nat.le_of_ble_eq_true rfl)⟩) hP hD hS hA rfl rfl rfl (by decide) (fun ad27 H locs hP hD hS => ?_)
  have hP : va_P D vwCl [(a0, .inr (15, [.int 0, v1, v2, v3, v4, v5, v6, v7, v8, v9, v10, v11, v12, v13, v14, v15, v16, v17, v18, v19, v20, v21, v22, v23, v24, v25, v26, v27]))] H := hP
  have hD : va_D A [(a0, .inr (15, [.int 0, v1, v2, v3, v4, v5, v6, v7, v8, v9, v10, v11, v12, v13, v14, v15, v16, v17, v18, v19, v20, v21, v22, v23, v24, v25, v26, v27]))] := hD
  refine lv_if_eq (tgt := 50) hx hb dX10_addStream_30 (by decide) (fun _ => ?_) (fun z => absurd (by decide) z)
  refine lv_iconst (v := 1) hx hb dX10_addStream_50 (by decide) ?_
  refine lv_goto (tgt := 55) hx hb dX10_addStream_51 (by decide) ?_
  refine lv_iconst (v := 1) hx hb dX10_addStream_55 (by decide) ?_
  refine ca_i (isC := [0]) (isR := []) (wr := []) (rn_V (ci := 15) (q0 := 0) (isC := [0]) (wc := [(a0, .inr (15, [.int 0, v1, v2, v3, v4, v5, v6, v7, v8, v9, v10, v11, v12, v13, v14, v15, v16, v17, v18, v19, v20, v21, v22, v23, v24, v25, v26, v27]))]) (As := [.int 1, .int 1]) (rest := []) (n := 2) hx hb hml hown hts hE hS hP hD hA hl.1 (k22_X10_fails l D cy g a0 (v1) (v2) (v3) (v4) (v5) (v6) (v7) (v8) (v9) (v10) (v11) (v12) (v13) (v14) (v15) (v16) (v17) (v18) (v19) (v20) (v21) (v22) (v23) (v24) (v25) (v26) (v27) H.size ) rfl rfl rfl rfl rfl ax_41 rfl rfl ax_42 ⟨Nat.le_of_ble_eq_true rfl, Nat.le_of_ble_eq_true rfl⟩ rfl rfl (Nat.le_of_ble_eq_true rfl) dX10_addStream_56 ⟨(Nat.le_of_ble_eq_true rfl), (Nat.le_of_ble_eq_true rfl)⟩) hP hD hS hA rfl rfl rfl (by decide) (fun ad56 H locs hP hD hS => ?_)
  have hP : va_P D vwCl [(a0, .inr (15, [.int 1, v1, v2, v3, v4, v5, v6, v7, v8, v9, v10, v11, v12, v13, v14, v15, v16, v17, v18, v19, v20, v21, v22, v23, v24, v25, v26, v27]))] H := hP
  have hD : va_D A [(a0, .inr (15, [.int 1, v1, v2, v3, v4, v5, v6, v7, v8, v9, v10, v11, v12, v13, v14, v15, v16, v17, v18, v19, v20, v21, v22, v23, v24, v25, v26, v27]))] := hD
  refine lv_if_ne (tgt := 89) hx hb dX10_addStream_59 (by decide) (fun _ => ?_) (fun z => absurd z (by decide))
  refine lv_iconst (v := (-1)) hx hb dX10_addStream_89 (by decide) ?_
  exact en_z hx hb hr hlk hP hD hS rfl (fun _ => 0) (is := [0]) rfl rfl (Nat.le_of_ble_eq_true rfl) (Nat.le_of_ble_eq_true rfl) dX10_addStream_90
set_option maxHeartbeats 4000000 in
set_option maxRecDepth 100000 in
theorem k509_X9_addStream (l : Launch) (hst : l.stackTraces = false) (D : va_G) (cy : Nat → ClassId) (g : Nat → Nat) (x0 : Int32) (x1 : Int32) (x2 : Int32) (b0 : Nat) (sz : Nat) (h0 : ¬ x0 < 50) (h1 : ¬ (999 : Int32) < x0) (h2 : ¬ x1 < 50) (h3 : (999 : Int32) < x1) : vx_Met l yX9_addStream [.code yX9_addStream cX9_addStream 4 (some .int)] ({ frames := 6, cells := 1, slots := 6, locals := 82 }) (PC D cy g [] sz [.ref b0, .int x0, .int x1, .int x2]) QN (XE "java/lang/IllegalArgumentException" (va_A [] sz)) 1 6 (va_A [] sz) := by
  refine st_X (by decide) (Nat.le_of_ble_eq_true rfl) ?_
  intro p e s m args below meth c A ls hx hb hr hml hown hlk hnm hsz hP hD hA hE hts hS hl hout
  have hown : s.vm.findClass RX9 = some m.cls := hown
  have hl : lv_has ls 4 [(0, .ref b0), (1, .int x0), (2, .int x1), (3, .int x2)] := hl
  refine lv_iload_n hx hb dX9_addStream_0 rfl (lv_at hl 1 rfl) ?_
  refine lv_bipush (v := 50) hx hb dX9_addStream_1 (by decide) ?_
  refine lv_sipush (v := 999) hx hb dX9_addStream_3 (by decide) ?_
  refine ca_i (isC := []) (isR := []) (wr := []) (rn_S (isC := []) (wc := []) (As := [.int x0, .int 50, .int 999]) (rest := []) (n := 3) hx hb hml hown hts hE hS hP hD hA hl.1 (k30_X9_isOutside l D cy g x0 50 999 s.heap.size h0 h1) rfl rfl ax_30 rfl rfl ax_31 ⟨Nat.le_of_ble_eq_true rfl, Nat.le_of_ble_eq_true rfl⟩ rfl rfl (Nat.le_of_ble_eq_true rfl) dX9_addStream_6 ⟨(Nat.le_of_ble_eq_true rfl), (Nat.le_of_ble_eq_true rfl)⟩) hP hD hS hA rfl rfl rfl (by decide) (fun ad6 H locs hP hD hS => ?_)
  have hP : va_P D vwCl [] H := hP
  have hD : va_D A [] := hD
  refine lv_if_ne (tgt := 39) hx hb dX9_addStream_9 (by decide) (fun z => absurd (by decide) z) (fun _ => ?_)
  refine lv_iload_n hx hb dX9_addStream_12 rfl (lv_at hl 2 rfl) ?_
  refine lv_bipush (v := 50) hx hb dX9_addStream_13 (by decide) ?_
  refine lv_sipush (v := 999) hx hb dX9_addStream_15 (by decide) ?_
  refine ca_i (isC := []) (isR := []) (wr := []) (rn_S (isC := []) (wc := []) (As := [.int x1, .int 50, .int 999]) (rest := []) (n := 3) hx hb hml hown hts hE hS hP hD hA hl.1 (k25_X9_isOutside l D cy g x1 50 999 H.size h2 h3) rfl rfl ax_30 rfl rfl ax_31 ⟨Nat.le_of_ble_eq_true rfl, Nat.le_of_ble_eq_true rfl⟩ rfl rfl (Nat.le_of_ble_eq_true rfl) dX9_addStream_18 ⟨(Nat.le_of_ble_eq_true rfl), (Nat.le_of_ble_eq_true rfl)⟩) hP hD hS hA rfl rfl rfl (by decide) (fun ad18 H locs hP hD hS => ?_)
  have hP : va_P D vwCl [] H := hP
  have hD : va_D A [] := hD
  refine lv_if_ne (tgt := 39) hx hb dX9_addStream_21 (by decide) (fun _ => ?_) (fun z => absurd z (by decide))
  exact th_S (text := "a number is out of range") hx hb hst hown hts hE hS (hl.1.trans hml.symm) hout hlk (by decide +kernel) tw_296 tw_297 ax_32 (by decide +kernel) dX9_addStream_39 dX9_addStream_42 dX9_addStream_43 dX9_addStream_45 dX9_addStream_48 ⟨Nat.le_of_ble_eq_true rfl, Nat.le_of_ble_eq_true rfl, Nat.le_of_ble_eq_true rfl, Nat.le_of_ble_eq_true rfl⟩ (Nat.le_of_ble_eq_true rfl) (Nat.le_of_ble_eq_true rfl)
set_option maxHeartbeats 4000000 in
set_option maxRecDepth 100000 in
theorem k510_L_addStream (l : Launch) (hst : l.stackTraces = false) (D : va_G) (cy : Nat → ClassId) (g : Nat → Nat) (x0 : Int32) (x1 : Int32) (x2 : Int32) (a0 : Nat) (b0 : Nat) (v0 : Value) (v1 : Value) (v2 : Value) (v3 : Value) (v4 : Value) (v5 : Value) (v6 : Value) (sz : Nat) (h0 : ¬ x0 < 50) (h1 : ¬ (999 : Int32) < x0) (h2 : ¬ x1 < 50) (h3 : (999 : Int32) < x1) : Met l yL_addStream [.codeWith yL_addStream cL_addStream 6 (some .int) [(0, 12, 15, 13), (0, 12, 19, 15)]] ({ frames := 7, cells := 1, slots := 6, locals := 105 }) (PC D cy g [(a0, .inr (14, [v0, v1, v2, v3, v4, v5, v6]))] sz [.ref a0, .int x0, .int x1, .int x2, .ref b0]) (QI D 1 (fun ad => []) (va_A [(a0, .inr (14, [v0, v1, v2, v3, v4, v5, v6]))] sz)) 1 6 (va_A [(a0, .inr (14, [v0, v1, v2, v3, v4, v5, v6]))] sz) := by
  refine sh_I (by decide) (Nat.le_of_ble_eq_true rfl) ?_
  intro p e s m args below meth c A ls hx hb hr hml hown hlk hnm hsz hP hD hA hE hts hS hl htb
  have hown : s.vm.findClass RL = some m.cls := hown
  have hl : lv_has ls 6 [(0, .ref a0), (1, .int x0), (2, .int x1), (3, .int x2), (4, .ref b0)] := hl
  refine lv_aload hx hb dL_addStream_0 (lv_at hl 4 rfl) ?_
  refine lv_iconst (v := 0) hx hb dL_addStream_2 (by decide) ?_
  refine lv_aload_n hx hb dL_addStream_3 rfl (lv_at hl 0 rfl) ?_
  refine lv_iload_n hx hb dL_addStream_4 rfl (lv_at hl 1 rfl) ?_
  refine lv_iload_n hx hb dL_addStream_5 rfl (lv_at hl 2 rfl) ?_
  refine lv_iload_n hx hb dL_addStream_6 rfl (lv_at hl 3 rfl) ?_
  refine cx_catch (isC := []) (isR := [0]) (wr := [(a0, .inr (14, [v0, v1, v2, v3, v4, v5, v6]))]) (hp := []) (z := (0, 12, 15, 13)) (hq := [(0, 12, 19, 15)]) (name := "java/lang/IllegalArgumentException") (own := RL) (rx_V (ci := 14) (q0 := 0) (isC := []) (wc := []) (As := [.int x0, .int x1, .int x2]) (rest := [.int 0, .ref b0]) (n := 3) hx hb hml hown hts hE hS hP hD hA hl.1 (k509_X9_addStream l hst D cy g x0 x1 x2 a0 s.heap.size h0 h1 h2 h3) rfl rfl rfl rfl rfl ax_344 rfl rfl ax_345 ⟨Nat.le_of_ble_eq_true rfl, Nat.le_of_ble_eq_true rfl⟩ rfl rfl (Nat.le_of_ble_eq_true rfl) dL_addStream_7 ⟨(Nat.le_of_ble_eq_true rfl), (Nat.le_of_ble_eq_true rfl)⟩) hP hD hS hA hown hts hE htb rfl rfl rfl rfl (by decide) (fun z hz => by cases hz) (by decide) (by decide) tw_302 tw_303 (fun qx H locs hP hD hS => ?_)
  have hP : va_P D vwCl [(a0, .inr (14, [v0, v1, v2, v3, v4, v5, v6]))] H := hP
  have hD : va_D A [(a0, .inr (14, [v0, v1, v2, v3, v4, v5, v6]))] := hD
  refine lv_astore (lv' := [(5, .ref qx), (0, .ref a0), (1, .int x0), (2, .int x1), (3, .int x2), (4, .ref b0)]) hx hb dL_addStream_15 hl (Nat.le_of_ble_eq_true rfl) rfl (fun ls hl => ?_)
  refine lv_iconst (v := 1) hx hb dL_addStream_17 (by decide) ?_
  exact en_z hx hb hr hlk hP hD hS rfl (fun _ => 0) (is := []) rfl rfl (Nat.le_of_ble_eq_true rfl) (Nat.le_of_ble_eq_true rfl) dL_addStream_18
set_option maxHeartbeats 4000000 in
set_option maxRecDepth 100000 in
theorem k511_X10_addStream (l : Launch) (D : va_G) (cy : Nat → ClassId) (g : Nat → Nat) (x0 : Int32) (x1 : Int32) (x2 : Int32) (a0 : Nat) (v0 : Value) (v1 : Value) (v2 : Value) (v3 : Value) (v4 : Value) (v5 : Value) (v6 : Value) (v7 : Value) (v8 : Value) (v9 : Value) (v10 : Value) (v11 : Value) (v12 : Value) (v13 : Value) (v14 : Value) (v15 : Value) (v16 : Value) (v17 : Value) (v18 : Value) (v19 : Value) (v20 : Value) (v21 : Value) (v22 : Value) (v23 : Value) (v24 : Value) (v25 : Value) (v26 : Value) (v27 : Value) (sz : Nat) (h0 : ¬ x0 < 50) (h1 : ¬ (999 : Int32) < x0) (h2 : ¬ x1 < 50) (h3 : (999 : Int32) < x1) : Met l yX10_addStream [.code yX10_addStream cX10_addStream 4 (some .int)] ({ frames := 1, cells := 0, slots := 0, locals := 25 }) (PC D cy g [(a0, .inr (15, [v0, v1, v2, v3, v4, v5, v6, v7, v8, v9, v10, v11, v12, v13, v14, v15, v16, v17, v18, v19, v20, v21, v22, v23, v24, v25, v26, v27]))] sz [.ref a0, .int x0, .int x1, .int x2]) (QI D (-1) (fun ad => [(a0, .inr (15, [.int 1, v1, v2, v3, v4, v5, v6, v7, v8, v9, v10, v11, v12, v13, v14, v15, v16, v17, v18, v19, v20, v21, v22, v23, v24, v25, v26, v27]))]) (va_A [(a0, .inr (15, [v0, v1, v2, v3, v4, v5, v6, v7, v8, v9, v10, v11, v12, v13, v14, v15, v16, v17, v18, v19, v20, v21, v22, v23, v24, v25, v26, v27]))] sz)) 0 0 (va_A [(a0, .inr (15, [v0, v1, v2, v3, v4, v5, v6, v7, v8, v9, v10, v11, v12, v13, v14, v15, v16, v17, v18, v19, v20, v21, v22, v23, v24, v25, v26, v27]))] sz) := by
  refine st_I (by decide) (Nat.le_of_ble_eq_true rfl) ?_
  intro p e s m args below meth c A ls hx hb hr hml hown hlk hnm hsz hP hD hA hE hts hS hl
  have hown : s.vm.findClass RX10 = some m.cls := hown
  have hl : lv_has ls 4 [(0, .ref a0), (1, .int x0), (2, .int x1), (3, .int x2)] := hl
  refine lv_aload_n hx hb dX10_addStream_0 rfl (lv_at hl 0 rfl) ?_
  refine ca_v (isC := [0]) (isR := []) (wr := []) (rn_V (ci := 15) (q0 := 0) (isC := [0]) (wc := [(a0, .inr (15, [v0, v1, v2, v3, v4, v5, v6, v7, v8, v9, v10, v11, v12, v13, v14, v15, v16, v17, v18, v19, v20, v21, v22, v23, v24, v25, v26, v27]))]) (As := []) (rest := []) (n := 0) hx hb hml hown hts hE hS hP hD hA hl.1 (k20_X10_begins l D cy g a0 (v0) (v1) (v2) (v3) (v4) (v5) (v6) (v7) (v8) (v9) (v10) (v11) (v12) (v13) (v14) (v15) (v16) (v17) (v18) (v19) (v20) (v21) (v22) (v23) (v24) (v25) (v26) (v27) s.heap.size ) rfl rfl rfl rfl rfl ax_37 rfl rfl ax_38 ⟨Nat.le_of_ble_eq_true rfl, Nat.le_of_ble_eq_true rfl⟩ rfl rfl (Nat.le_of_ble_eq_true rfl) dX10_addStream_1 ⟨(Nat.le_of_ble_eq_true rfl), (Nat.le_of_ble_eq_true rfl)⟩) hP hD hS hA rfl rfl rfl (by decide) (fun ad1 H locs hP hD hS => ?_)
  have hP : va_P D vwCl [(a0, .inr (15, [.int 0, v1, v2, v3, v4, v5, v6, v7, v8, v9, v10, v11, v12, v13, v14, v15, v16, v17, v18, v19, v20, v21, v22, v23, v24, v25, v26, v27]))] H := hP
  have hD : va_D A [(a0, .inr (15, [.int 0, v1, v2, v3, v4, v5, v6, v7, v8, v9, v10, v11, v12, v13, v14, v15, v16, v17, v18, v19, v20, v21, v22, v23, v24, v25, v26, v27]))] := hD
  refine lv_aload_n hx hb dX10_addStream_4 rfl (lv_at hl 0 rfl) ?_
  refine lv_iload_n hx hb dX10_addStream_5 rfl (lv_at hl 1 rfl) ?_
  refine lv_i2l (v := x0.toInt64) hx hb dX10_addStream_6 rfl ?_
  refine lv_ldc2 (v := 50) hx hb hown (hts _ tw_314) dX10_addStream_7 ?_
  refine lv_ldc2 (v := 999) hx hb hown (hts _ tw_493) dX10_addStream_10 ?_
  refine ca_i (isC := []) (isR := [0]) (wr := [(a0, .inr (15, [.int 0, v1, v2, v3, v4, v5, v6, v7, v8, v9, v10, v11, v12, v13, v14, v15, v16, v17, v18, v19, v20, v21, v22, v23, v24, v25, v26, v27]))]) (rn_S (isC := []) (wc := []) (As := [.long x0.toInt64, .long 50, .long 999]) (rest := [.ref a0]) (n := 3) hx hb hml hown hts hE hS hP hD hA hl.1 (k33_X10_in l D cy g x0.toInt64 50 999 H.size (wl_nlt rfl (by decide) h0) (wl_nlt (by decide) rfl h1)) rfl rfl ax_39 rfl rfl ax_40 ⟨Nat.le_of_ble_eq_true rfl, Nat.le_of_ble_eq_true rfl⟩ rfl rfl (Nat.le_of_ble_eq_true rfl) dX10_addStream_13 ⟨(Nat.le_of_ble_eq_true rfl), (Nat.le_of_ble_eq_true rfl)⟩) hP hD hS hA rfl rfl rfl (by decide) (fun ad13 H locs hP hD hS => ?_)
  have hP : va_P D vwCl [(a0, .inr (15, [.int 0, v1, v2, v3, v4, v5, v6, v7, v8, v9, v10, v11, v12, v13, v14, v15, v16, v17, v18, v19, v20, v21, v22, v23, v24, v25, v26, v27]))] H := hP
  have hD : va_D A [(a0, .inr (15, [.int 0, v1, v2, v3, v4, v5, v6, v7, v8, v9, v10, v11, v12, v13, v14, v15, v16, v17, v18, v19, v20, v21, v22, v23, v24, v25, v26, v27]))] := hD
  refine lv_if_eq (tgt := 50) hx hb dX10_addStream_16 (by decide) (fun z => absurd z (by decide)) (fun _ => ?_)
  refine lv_iload_n hx hb dX10_addStream_19 rfl (lv_at hl 2 rfl) ?_
  refine lv_i2l (v := x1.toInt64) hx hb dX10_addStream_20 rfl ?_
  refine lv_ldc2 (v := 50) hx hb hown (hts _ tw_314) dX10_addStream_21 ?_
  refine lv_ldc2 (v := 999) hx hb hown (hts _ tw_493) dX10_addStream_24 ?_
  refine ca_i (isC := []) (isR := [0]) (wr := [(a0, .inr (15, [.int 0, v1, v2, v3, v4, v5, v6, v7, v8, v9, v10, v11, v12, v13, v14, v15, v16, v17, v18, v19, v20, v21, v22, v23, v24, v25, v26, v27]))]) (rn_S (isC := []) (wc := []) (As := [.long x1.toInt64, .long 50, .long 999]) (rest := [.ref a0]) (n := 3) hx hb hml hown hts hE hS hP hD hA hl.1 (k28_X10_in l D cy g x1.toInt64 50 999 H.size (wl_nlt rfl (by decide) h2) (wl_lt (by decide) rfl h3)) rfl rfl ax_39 rfl rfl ax_40 ⟨Nat.le_of_ble_eq_true rfl, Nat.le_of_ble_eq_true rfl⟩ rfl rfl (Nat.le_of_ble_eq_true rfl) dX10_addStream_27 ⟨(Nat.le_of_ble_eq_true rfl), (Nat.le_of_ble_eq_true rfl)⟩) hP hD hS hA rfl rfl rfl (by decide) (fun ad27 H locs hP hD hS => ?_)
  have hP : va_P D vwCl [(a0, .inr (15, [.int 0, v1, v2, v3, v4, v5, v6, v7, v8, v9, v10, v11, v12, v13, v14, v15, v16, v17, v18, v19, v20, v21, v22, v23, v24, v25, v26, v27]))] H := hP
  have hD : va_D A [(a0, .inr (15, [.int 0, v1, v2, v3, v4, v5, v6, v7, v8, v9, v10, v11, v12, v13, v14, v15, v16, v17, v18, v19, v20, v21, v22, v23, v24, v25, v26, v27]))] := hD
  refine lv_if_eq (tgt := 50) hx hb dX10_addStream_30 (by decide) (fun _ => ?_) (fun z => absurd (by decide) z)
  refine lv_iconst (v := 1) hx hb dX10_addStream_50 (by decide) ?_
  refine lv_goto (tgt := 55) hx hb dX10_addStream_51 (by decide) ?_
  refine lv_iconst (v := 1) hx hb dX10_addStream_55 (by decide) ?_
  refine ca_i (isC := [0]) (isR := []) (wr := []) (rn_V (ci := 15) (q0 := 0) (isC := [0]) (wc := [(a0, .inr (15, [.int 0, v1, v2, v3, v4, v5, v6, v7, v8, v9, v10, v11, v12, v13, v14, v15, v16, v17, v18, v19, v20, v21, v22, v23, v24, v25, v26, v27]))]) (As := [.int 1, .int 1]) (rest := []) (n := 2) hx hb hml hown hts hE hS hP hD hA hl.1 (k22_X10_fails l D cy g a0 (v1) (v2) (v3) (v4) (v5) (v6) (v7) (v8) (v9) (v10) (v11) (v12) (v13) (v14) (v15) (v16) (v17) (v18) (v19) (v20) (v21) (v22) (v23) (v24) (v25) (v26) (v27) H.size ) rfl rfl rfl rfl rfl ax_41 rfl rfl ax_42 ⟨Nat.le_of_ble_eq_true rfl, Nat.le_of_ble_eq_true rfl⟩ rfl rfl (Nat.le_of_ble_eq_true rfl) dX10_addStream_56 ⟨(Nat.le_of_ble_eq_true rfl), (Nat.le_of_ble_eq_true rfl)⟩) hP hD hS hA rfl rfl rfl (by decide) (fun ad56 H locs hP hD hS => ?_)
  have hP : va_P D vwCl [(a0, .inr (15, [.int 1, v1, v2, v3, v4, v5, v6, v7, v8, v9, v10, v11, v12, v13, v14, v15, v16, v17, v18, v19, v20, v21, v22, v23, v24, v25, v26, v27]))] H := hP
  have hD : va_D A [(a0, .inr (15, [.int 1, v1, v2, v3, v4, v5, v6, v7, v8, v9, v10, v11, v12, v13, v14, v15, v16, v17, v18, v19, v20, v21, v22, v23, v24, v25, v26, v27]))] := hD
  refine lv_if_ne (tgt := 89) hx hb dX10_addStream_59 (by decide) (fun _ => ?_) (fun z => absurd z (by decide))
  refine lv_iconst (v := (-1)) hx hb dX10_addStream_89 (by decide) ?_
  exact en_z hx hb hr hlk hP hD hS rfl (fun _ => 0) (is := [0]) rfl rfl (Nat.le_of_ble_eq_true rfl) (Nat.le_of_ble_eq_true rfl) dX10_addStream_90
set_option maxHeartbeats 4000000 in
set_option maxRecDepth 100000 in
theorem k512_X9_addStream (l : Launch) (hst : l.stackTraces = false) (D : va_G) (cy : Nat → ClassId) (g : Nat → Nat) (x0 : Int32) (x1 : Int32) (x2 : Int32) (b0 : Nat) (sz : Nat) (h0 : ¬ x0 < 50) (h1 : ¬ (999 : Int32) < x0) (h2 : ¬ x1 < 50) (h3 : ¬ (999 : Int32) < x1) (h4 : x2 < 1) : vx_Met l yX9_addStream [.code yX9_addStream cX9_addStream 4 (some .int)] ({ frames := 6, cells := 1, slots := 6, locals := 82 }) (PC D cy g [] sz [.ref b0, .int x0, .int x1, .int x2]) QN (XE "java/lang/IllegalArgumentException" (va_A [] sz)) 1 6 (va_A [] sz) := by
  refine st_X (by decide) (Nat.le_of_ble_eq_true rfl) ?_
  intro p e s m args below meth c A ls hx hb hr hml hown hlk hnm hsz hP hD hA hE hts hS hl hout
  have hown : s.vm.findClass RX9 = some m.cls := hown
  have hl : lv_has ls 4 [(0, .ref b0), (1, .int x0), (2, .int x1), (3, .int x2)] := hl
  refine lv_iload_n hx hb dX9_addStream_0 rfl (lv_at hl 1 rfl) ?_
  refine lv_bipush (v := 50) hx hb dX9_addStream_1 (by decide) ?_
  refine lv_sipush (v := 999) hx hb dX9_addStream_3 (by decide) ?_
  refine ca_i (isC := []) (isR := []) (wr := []) (rn_S (isC := []) (wc := []) (As := [.int x0, .int 50, .int 999]) (rest := []) (n := 3) hx hb hml hown hts hE hS hP hD hA hl.1 (k30_X9_isOutside l D cy g x0 50 999 s.heap.size h0 h1) rfl rfl ax_30 rfl rfl ax_31 ⟨Nat.le_of_ble_eq_true rfl, Nat.le_of_ble_eq_true rfl⟩ rfl rfl (Nat.le_of_ble_eq_true rfl) dX9_addStream_6 ⟨(Nat.le_of_ble_eq_true rfl), (Nat.le_of_ble_eq_true rfl)⟩) hP hD hS hA rfl rfl rfl (by decide) (fun ad6 H locs hP hD hS => ?_)
  have hP : va_P D vwCl [] H := hP
  have hD : va_D A [] := hD
  refine lv_if_ne (tgt := 39) hx hb dX9_addStream_9 (by decide) (fun z => absurd (by decide) z) (fun _ => ?_)
  refine lv_iload_n hx hb dX9_addStream_12 rfl (lv_at hl 2 rfl) ?_
  refine lv_bipush (v := 50) hx hb dX9_addStream_13 (by decide) ?_
  refine lv_sipush (v := 999) hx hb dX9_addStream_15 (by decide) ?_
  refine ca_i (isC := []) (isR := []) (wr := []) (rn_S (isC := []) (wc := []) (As := [.int x1, .int 50, .int 999]) (rest := []) (n := 3) hx hb hml hown hts hE hS hP hD hA hl.1 (k30_X9_isOutside l D cy g x1 50 999 H.size h2 h3) rfl rfl ax_30 rfl rfl ax_31 ⟨Nat.le_of_ble_eq_true rfl, Nat.le_of_ble_eq_true rfl⟩ rfl rfl (Nat.le_of_ble_eq_true rfl) dX9_addStream_18 ⟨(Nat.le_of_ble_eq_true rfl), (Nat.le_of_ble_eq_true rfl)⟩) hP hD hS hA rfl rfl rfl (by decide) (fun ad18 H locs hP hD hS => ?_)
  have hP : va_P D vwCl [] H := hP
  have hD : va_D A [] := hD
  refine lv_if_ne (tgt := 39) hx hb dX9_addStream_21 (by decide) (fun z => absurd (by decide) z) (fun _ => ?_)
  refine lv_iload_n hx hb dX9_addStream_24 rfl (lv_at hl 3 rfl) ?_
  refine lv_iconst (v := 1) hx hb dX9_addStream_25 (by decide) ?_
  refine lv_bipush (v := 50) hx hb dX9_addStream_26 (by decide) ?_
  refine ca_i (isC := []) (isR := []) (wr := []) (rn_S (isC := []) (wc := []) (As := [.int x2, .int 1, .int 50]) (rest := []) (n := 3) hx hb hml hown hts hE hS hP hD hA hl.1 (k17_X9_isOutside l D cy g x2 1 50 H.size h4) rfl rfl ax_30 rfl rfl ax_31 ⟨Nat.le_of_ble_eq_true rfl, Nat.le_of_ble_eq_true rfl⟩ rfl rfl (Nat.le_of_ble_eq_true rfl) dX9_addStream_28 ⟨(Nat.le_of_ble_eq_true rfl), (Nat.le_of_ble_eq_true rfl)⟩) hP hD hS hA rfl rfl rfl (by decide) (fun ad28 H locs hP hD hS => ?_)
  have hP : va_P D vwCl [] H := hP
  have hD : va_D A [] := hD
  refine lv_if_ne (tgt := 39) hx hb dX9_addStream_31 (by decide) (fun _ => ?_) (fun z => absurd z (by decide))
  exact th_S (text := "a number is out of range") hx hb hst hown hts hE hS (hl.1.trans hml.symm) hout hlk (by decide +kernel) tw_296 tw_297 ax_32 (by decide +kernel) dX9_addStream_39 dX9_addStream_42 dX9_addStream_43 dX9_addStream_45 dX9_addStream_48 ⟨Nat.le_of_ble_eq_true rfl, Nat.le_of_ble_eq_true rfl, Nat.le_of_ble_eq_true rfl, Nat.le_of_ble_eq_true rfl⟩ (Nat.le_of_ble_eq_true rfl) (Nat.le_of_ble_eq_true rfl)
set_option maxHeartbeats 4000000 in
set_option maxRecDepth 100000 in
theorem k513_L_addStream (l : Launch) (hst : l.stackTraces = false) (D : va_G) (cy : Nat → ClassId) (g : Nat → Nat) (x0 : Int32) (x1 : Int32) (x2 : Int32) (a0 : Nat) (b0 : Nat) (v0 : Value) (v1 : Value) (v2 : Value) (v3 : Value) (v4 : Value) (v5 : Value) (v6 : Value) (sz : Nat) (h0 : ¬ x0 < 50) (h1 : ¬ (999 : Int32) < x0) (h2 : ¬ x1 < 50) (h3 : ¬ (999 : Int32) < x1) (h4 : x2 < 1) : Met l yL_addStream [.codeWith yL_addStream cL_addStream 6 (some .int) [(0, 12, 15, 13), (0, 12, 19, 15)]] ({ frames := 7, cells := 1, slots := 6, locals := 105 }) (PC D cy g [(a0, .inr (14, [v0, v1, v2, v3, v4, v5, v6]))] sz [.ref a0, .int x0, .int x1, .int x2, .ref b0]) (QI D 1 (fun ad => []) (va_A [(a0, .inr (14, [v0, v1, v2, v3, v4, v5, v6]))] sz)) 1 6 (va_A [(a0, .inr (14, [v0, v1, v2, v3, v4, v5, v6]))] sz) := by
  refine sh_I (by decide) (Nat.le_of_ble_eq_true rfl) ?_
  intro p e s m args below meth c A ls hx hb hr hml hown hlk hnm hsz hP hD hA hE hts hS hl htb
  have hown : s.vm.findClass RL = some m.cls := hown
  have hl : lv_has ls 6 [(0, .ref a0), (1, .int x0), (2, .int x1), (3, .int x2), (4, .ref b0)] := hl
  refine lv_aload hx hb dL_addStream_0 (lv_at hl 4 rfl) ?_
  refine lv_iconst (v := 0) hx hb dL_addStream_2 (by decide) ?_
  refine lv_aload_n hx hb dL_addStream_3 rfl (lv_at hl 0 rfl) ?_
  refine lv_iload_n hx hb dL_addStream_4 rfl (lv_at hl 1 rfl) ?_
  refine lv_iload_n hx hb dL_addStream_5 rfl (lv_at hl 2 rfl) ?_
  refine lv_iload_n hx hb dL_addStream_6 rfl (lv_at hl 3 rfl) ?_
  refine cx_catch (isC := []) (isR := [0]) (wr := [(a0, .inr (14, [v0, v1, v2, v3, v4, v5, v6]))]) (hp := []) (z := (0, 12, 15, 13)) (hq := [(0, 12, 19, 15)]) (name := "java/lang/IllegalArgumentException") (own := RL) (rx_V (ci := 14) (q0 := 0) (isC := []) (wc := []) (As := [.int x0, .int x1, .int x2]) (rest := [.int 0, .ref b0]) (n := 3) hx hb hml hown hts hE hS hP hD hA hl.1 (k512_X9_addStream l hst D cy g x0 x1 x2 a0 s.heap.size h0 h1 h2 h3 h4) rfl rfl rfl rfl rfl ax_344 rfl rfl ax_345 ⟨Nat.le_of_ble_eq_true rfl, Nat.le_of_ble_eq_true rfl⟩ rfl rfl (Nat.le_of_ble_eq_true rfl) dL_addStream_7 ⟨(Nat.le_of_ble_eq_true rfl), (Nat.le_of_ble_eq_true rfl)⟩) hP hD hS hA hown hts hE htb rfl rfl rfl rfl (by decide) (fun z hz => by cases hz) (by decide) (by decide) tw_302 tw_303 (fun qx H locs hP hD hS => ?_)
  have hP : va_P D vwCl [(a0, .inr (14, [v0, v1, v2, v3, v4, v5, v6]))] H := hP
  have hD : va_D A [(a0, .inr (14, [v0, v1, v2, v3, v4, v5, v6]))] := hD
  refine lv_astore (lv' := [(5, .ref qx), (0, .ref a0), (1, .int x0), (2, .int x1), (3, .int x2), (4, .ref b0)]) hx hb dL_addStream_15 hl (Nat.le_of_ble_eq_true rfl) rfl (fun ls hl => ?_)
  refine lv_iconst (v := 1) hx hb dL_addStream_17 (by decide) ?_
  exact en_z hx hb hr hlk hP hD hS rfl (fun _ => 0) (is := []) rfl rfl (Nat.le_of_ble_eq_true rfl) (Nat.le_of_ble_eq_true rfl) dL_addStream_18
set_option maxHeartbeats 4000000 in
set_option maxRecDepth 100000 in
theorem k514_X10_addStream (l : Launch) (D : va_G) (cy : Nat → ClassId) (g : Nat → Nat) (x0 : Int32) (x1 : Int32) (x2 : Int32) (a0 : Nat) (v0 : Value) (v1 : Value) (v2 : Value) (v3 : Value) (v4 : Value) (v5 : Value) (v6 : Value) (v7 : Value) (v8 : Value) (v9 : Value) (v10 : Value) (v11 : Value) (v12 : Value) (v13 : Value) (v14 : Value) (v15 : Value) (v16 : Value) (v17 : Value) (v18 : Value) (v19 : Value) (v20 : Value) (v21 : Value) (v22 : Value) (v23 : Value) (v24 : Value) (v25 : Value) (v26 : Value) (v27 : Value) (sz : Nat) (h0 : ¬ x0 < 50) (h1 : ¬ (999 : Int32) < x0) (h2 : ¬ x1 < 50) (h3 : ¬ (999 : Int32) < x1) (h4 : x2 < 1) : Met l yX10_addStream [.code yX10_addStream cX10_addStream 4 (some .int)] ({ frames := 1, cells := 0, slots := 0, locals := 25 }) (PC D cy g [(a0, .inr (15, [v0, v1, v2, v3, v4, v5, v6, v7, v8, v9, v10, v11, v12, v13, v14, v15, v16, v17, v18, v19, v20, v21, v22, v23, v24, v25, v26, v27]))] sz [.ref a0, .int x0, .int x1, .int x2]) (QI D (-1) (fun ad => [(a0, .inr (15, [.int 1, v1, v2, v3, v4, v5, v6, v7, v8, v9, v10, v11, v12, v13, v14, v15, v16, v17, v18, v19, v20, v21, v22, v23, v24, v25, v26, v27]))]) (va_A [(a0, .inr (15, [v0, v1, v2, v3, v4, v5, v6, v7, v8, v9, v10, v11, v12, v13, v14, v15, v16, v17, v18, v19, v20, v21, v22, v23, v24, v25, v26, v27]))] sz)) 0 0 (va_A [(a0, .inr (15, [v0, v1, v2, v3, v4, v5, v6, v7, v8, v9, v10, v11, v12, v13, v14, v15, v16, v17, v18, v19, v20, v21, v22, v23, v24, v25, v26, v27]))] sz) := by
  refine st_I (by decide) (Nat.le_of_ble_eq_true rfl) ?_
  intro p e s m args below meth c A ls hx hb hr hml hown hlk hnm hsz hP hD hA hE hts hS hl
  have hown : s.vm.findClass RX10 = some m.cls := hown
  have hl : lv_has ls 4 [(0, .ref a0), (1, .int x0), (2, .int x1), (3, .int x2)] := hl
  refine lv_aload_n hx hb dX10_addStream_0 rfl (lv_at hl 0 rfl) ?_
  refine ca_v (isC := [0]) (isR := []) (wr := []) (rn_V (ci := 15) (q0 := 0) (isC := [0]) (wc := [(a0, .inr (15, [v0, v1, v2, v3, v4, v5, v6, v7, v8, v9, v10, v11, v12, v13, v14, v15, v16, v17, v18, v19, v20, v21, v22, v23, v24, v25, v26, v27]))]) (As := []) (rest := []) (n := 0) hx hb hml hown hts hE hS hP hD hA hl.1 (k20_X10_begins l D cy g a0 (v0) (v1) (v2) (v3) (v4) (v5) (v6) (v7) (v8) (v9) (v10) (v11) (v12) (v13) (v14) (v15) (v16) (v17) (v18) (v19) (v20) (v21) (v22) (v23) (v24) (v25) (v26) (v27) s.heap.size ) rfl rfl rfl rfl rfl ax_37 rfl rfl ax_38 ⟨Nat.le_of_ble_eq_true rfl, Nat.le_of_ble_eq_true rfl⟩ rfl rfl (Nat.le_of_ble_eq_true rfl) dX10_addStream_1 ⟨(Nat.le_of_ble_eq_true rfl), (Nat.le_of_ble_eq_true rfl)⟩) hP hD hS hA rfl rfl rfl (by decide) (fun ad1 H locs hP hD hS => ?_)
  have hP : va_P D vwCl [(a0, .inr (15, [.int 0, v1, v2, v3, v4, v5, v6, v7, v8, v9, v10, v11, v12, v13, v14, v15, v16, v17, v18, v19, v20, v21, v22, v23, v24, v25, v26, v27]))] H := hP
  have hD : va_D A [(a0, .inr (15, [.int 0, v1, v2, v3, v4, v5, v6, v7, v8, v9, v10, v11, v12, v13, v14, v15, v16, v17, v18, v19, v20, v21, v22, v23, v24, v25, v26, v27]))] := hD
  refine lv_aload_n hx hb dX10_addStream_4 rfl (lv_at hl 0 rfl) ?_
  refine lv_iload_n hx hb dX10_addStream_5 rfl (lv_at hl 1 rfl) ?_
  refine lv_i2l (v := x0.toInt64) hx hb dX10_addStream_6 rfl ?_
  refine lv_ldc2 (v := 50) hx hb hown (hts _ tw_314) dX10_addStream_7 ?_
  refine lv_ldc2 (v := 999) hx hb hown (hts _ tw_493) dX10_addStream_10 ?_
  refine ca_i (isC := []) (isR := [0]) (wr := [(a0, .inr (15, [.int 0, v1, v2, v3, v4, v5, v6, v7, v8, v9, v10, v11, v12, v13, v14, v15, v16, v17, v18, v19, v20, v21, v22, v23, v24, v25, v26, v27]))]) (rn_S (isC := []) (wc := []) (As := [.long x0.toInt64, .long 50, .long 999]) (rest := [.ref a0]) (n := 3) hx hb hml hown hts hE hS hP hD hA hl.1 (k33_X10_in l D cy g x0.toInt64 50 999 H.size (wl_nlt rfl (by decide) h0) (wl_nlt (by decide) rfl h1)) rfl rfl ax_39 rfl rfl ax_40 ⟨Nat.le_of_ble_eq_true rfl, Nat.le_of_ble_eq_true rfl⟩ rfl rfl (Nat.le_of_ble_eq_true rfl) dX10_addStream_13 ⟨(Nat.le_of_ble_eq_true rfl), (Nat.le_of_ble_eq_true rfl)⟩) hP hD hS hA rfl rfl rfl (by decide) (fun ad13 H locs hP hD hS => ?_)
  have hP : va_P D vwCl [(a0, .inr (15, [.int 0, v1, v2, v3, v4, v5, v6, v7, v8, v9, v10, v11, v12, v13, v14, v15, v16, v17, v18, v19, v20, v21, v22, v23, v24, v25, v26, v27]))] H := hP
  have hD : va_D A [(a0, .inr (15, [.int 0, v1, v2, v3, v4, v5, v6, v7, v8, v9, v10, v11, v12, v13, v14, v15, v16, v17, v18, v19, v20, v21, v22, v23, v24, v25, v26, v27]))] := hD
  refine lv_if_eq (tgt := 50) hx hb dX10_addStream_16 (by decide) (fun z => absurd z (by decide)) (fun _ => ?_)
  refine lv_iload_n hx hb dX10_addStream_19 rfl (lv_at hl 2 rfl) ?_
  refine lv_i2l (v := x1.toInt64) hx hb dX10_addStream_20 rfl ?_
  refine lv_ldc2 (v := 50) hx hb hown (hts _ tw_314) dX10_addStream_21 ?_
  refine lv_ldc2 (v := 999) hx hb hown (hts _ tw_493) dX10_addStream_24 ?_
  refine ca_i (isC := []) (isR := [0]) (wr := [(a0, .inr (15, [.int 0, v1, v2, v3, v4, v5, v6, v7, v8, v9, v10, v11, v12, v13, v14, v15, v16, v17, v18, v19, v20, v21, v22, v23, v24, v25, v26, v27]))]) (rn_S (isC := []) (wc := []) (As := [.long x1.toInt64, .long 50, .long 999]) (rest := [.ref a0]) (n := 3) hx hb hml hown hts hE hS hP hD hA hl.1 (k33_X10_in l D cy g x1.toInt64 50 999 H.size (wl_nlt rfl (by decide) h2) (wl_nlt (by decide) rfl h3)) rfl rfl ax_39 rfl rfl ax_40 ⟨Nat.le_of_ble_eq_true rfl, Nat.le_of_ble_eq_true rfl⟩ rfl rfl (Nat.le_of_ble_eq_true rfl) dX10_addStream_27 ⟨(Nat.le_of_ble_eq_true rfl), (Nat.le_of_ble_eq_true rfl)⟩) hP hD hS hA rfl rfl rfl (by decide) (fun ad27 H locs hP hD hS => ?_)
  have hP : va_P D vwCl [(a0, .inr (15, [.int 0, v1, v2, v3, v4, v5, v6, v7, v8, v9, v10, v11, v12, v13, v14, v15, v16, v17, v18, v19, v20, v21, v22, v23, v24, v25, v26, v27]))] H := hP
  have hD : va_D A [(a0, .inr (15, [.int 0, v1, v2, v3, v4, v5, v6, v7, v8, v9, v10, v11, v12, v13, v14, v15, v16, v17, v18, v19, v20, v21, v22, v23, v24, v25, v26, v27]))] := hD
  refine lv_if_eq (tgt := 50) hx hb dX10_addStream_30 (by decide) (fun z => absurd z (by decide)) (fun _ => ?_)
  refine lv_iload_n hx hb dX10_addStream_33 rfl (lv_at hl 3 rfl) ?_
  refine lv_i2l (v := x2.toInt64) hx hb dX10_addStream_34 rfl ?_
  refine lv_lconst (v := 1) hx hb dX10_addStream_35 (by decide) ?_
  refine lv_ldc2 (v := 50) hx hb hown (hts _ tw_314) dX10_addStream_36 ?_
  refine ca_i (isC := []) (isR := [0]) (wr := [(a0, .inr (15, [.int 0, v1, v2, v3, v4, v5, v6, v7, v8, v9, v10, v11, v12, v13, v14, v15, v16, v17, v18, v19, v20, v21, v22, v23, v24, v25, v26, v27]))]) (rn_S (isC := []) (wc := []) (As := [.long x2.toInt64, .long 1, .long 50]) (rest := [.ref a0]) (n := 3) hx hb hml hown hts hE hS hP hD hA hl.1 (k21_X10_in l D cy g x2.toInt64 1 50 H.size (wl_lt rfl (by decide) h4)) rfl rfl ax_39 rfl rfl ax_40 ⟨Nat.le_of_ble_eq_true rfl, Nat.le_of_ble_eq_true rfl⟩ rfl rfl (Nat.le_of_ble_eq_true rfl) dX10_addStream_39 ⟨(Nat.le_of_ble_eq_true rfl), (Nat.le_of_ble_eq_true rfl)⟩) hP hD hS hA rfl rfl rfl (by decide) (fun ad39 H locs hP hD hS => ?_)
  have hP : va_P D vwCl [(a0, .inr (15, [.int 0, v1, v2, v3, v4, v5, v6, v7, v8, v9, v10, v11, v12, v13, v14, v15, v16, v17, v18, v19, v20, v21, v22, v23, v24, v25, v26, v27]))] H := hP
  have hD : va_D A [(a0, .inr (15, [.int 0, v1, v2, v3, v4, v5, v6, v7, v8, v9, v10, v11, v12, v13, v14, v15, v16, v17, v18, v19, v20, v21, v22, v23, v24, v25, v26, v27]))] := hD
  refine lv_if_eq (tgt := 50) hx hb dX10_addStream_42 (by decide) (fun _ => ?_) (fun z => absurd (by decide) z)
  refine lv_iconst (v := 1) hx hb dX10_addStream_50 (by decide) ?_
  refine lv_goto (tgt := 55) hx hb dX10_addStream_51 (by decide) ?_
  refine lv_iconst (v := 1) hx hb dX10_addStream_55 (by decide) ?_
  refine ca_i (isC := [0]) (isR := []) (wr := []) (rn_V (ci := 15) (q0 := 0) (isC := [0]) (wc := [(a0, .inr (15, [.int 0, v1, v2, v3, v4, v5, v6, v7, v8, v9, v10, v11, v12, v13, v14, v15, v16, v17, v18, v19, v20, v21, v22, v23, v24, v25, v26, v27]))]) (As := [.int 1, .int 1]) (rest := []) (n := 2) hx hb hml hown hts hE hS hP hD hA hl.1 (k22_X10_fails l D cy g a0 (v1) (v2) (v3) (v4) (v5) (v6) (v7) (v8) (v9) (v10) (v11) (v12) (v13) (v14) (v15) (v16) (v17) (v18) (v19) (v20) (v21) (v22) (v23) (v24) (v25) (v26) (v27) H.size ) rfl rfl rfl rfl rfl ax_41 rfl rfl ax_42 ⟨Nat.le_of_ble_eq_true rfl, Nat.le_of_ble_eq_true rfl⟩ rfl rfl (Nat.le_of_ble_eq_true rfl) dX10_addStream_56 ⟨(Nat.le_of_ble_eq_true rfl), (Nat.le_of_ble_eq_true rfl)⟩) hP hD hS hA rfl rfl rfl (by decide) (fun ad56 H locs hP hD hS => ?_)
  have hP : va_P D vwCl [(a0, .inr (15, [.int 1, v1, v2, v3, v4, v5, v6, v7, v8, v9, v10, v11, v12, v13, v14, v15, v16, v17, v18, v19, v20, v21, v22, v23, v24, v25, v26, v27]))] H := hP
  have hD : va_D A [(a0, .inr (15, [.int 1, v1, v2, v3, v4, v5, v6, v7, v8, v9, v10, v11, v12, v13, v14, v15, v16, v17, v18, v19, v20, v21, v22, v23, v24, v25, v26, v27]))] := hD
  refine lv_if_ne (tgt := 89) hx hb dX10_addStream_59 (by decide) (fun _ => ?_) (fun z => absurd z (by decide))
  refine lv_iconst (v := (-1)) hx hb dX10_addStream_89 (by decide) ?_
  exact en_z hx hb hr hlk hP hD hS rfl (fun _ => 0) (is := [0]) rfl rfl (Nat.le_of_ble_eq_true rfl) (Nat.le_of_ble_eq_true rfl) dX10_addStream_90
set_option maxHeartbeats 4000000 in
set_option maxRecDepth 100000 in
theorem k515_X9_addStream (l : Launch) (hst : l.stackTraces = false) (D : va_G) (cy : Nat → ClassId) (g : Nat → Nat) (x0 : Int32) (x1 : Int32) (x2 : Int32) (b0 : Nat) (sz : Nat) (h0 : ¬ x0 < 50) (h1 : ¬ (999 : Int32) < x0) (h2 : ¬ x1 < 50) (h3 : ¬ (999 : Int32) < x1) (h4 : ¬ x2 < 1) (h5 : (50 : Int32) < x2) : vx_Met l yX9_addStream [.code yX9_addStream cX9_addStream 4 (some .int)] ({ frames := 6, cells := 1, slots := 6, locals := 82 }) (PC D cy g [] sz [.ref b0, .int x0, .int x1, .int x2]) QN (XE "java/lang/IllegalArgumentException" (va_A [] sz)) 1 6 (va_A [] sz) := by
  refine st_X (by decide) (Nat.le_of_ble_eq_true rfl) ?_
  intro p e s m args below meth c A ls hx hb hr hml hown hlk hnm hsz hP hD hA hE hts hS hl hout
  have hown : s.vm.findClass RX9 = some m.cls := hown
  have hl : lv_has ls 4 [(0, .ref b0), (1, .int x0), (2, .int x1), (3, .int x2)] := hl
  refine lv_iload_n hx hb dX9_addStream_0 rfl (lv_at hl 1 rfl) ?_
  refine lv_bipush (v := 50) hx hb dX9_addStream_1 (by decide) ?_
  refine lv_sipush (v := 999) hx hb dX9_addStream_3 (by decide) ?_
  refine ca_i (isC := []) (isR := []) (wr := []) (rn_S (isC := []) (wc := []) (As := [.int x0, .int 50, .int 999]) (rest := []) (n := 3) hx hb hml hown hts hE hS hP hD hA hl.1 (k30_X9_isOutside l D cy g x0 50 999 s.heap.size h0 h1) rfl rfl ax_30 rfl rfl ax_31 ⟨Nat.le_of_ble_eq_true rfl, Nat.le_of_ble_eq_true rfl⟩ rfl rfl (Nat.le_of_ble_eq_true rfl) dX9_addStream_6 ⟨(Nat.le_of_ble_eq_true rfl), (Nat.le_of_ble_eq_true rfl)⟩) hP hD hS hA rfl rfl rfl (by decide) (fun ad6 H locs hP hD hS => ?_)
  have hP : va_P D vwCl [] H := hP
  have hD : va_D A [] := hD
  refine lv_if_ne (tgt := 39) hx hb dX9_addStream_9 (by decide) (fun z => absurd (by decide) z) (fun _ => ?_)
  refine lv_iload_n hx hb dX9_addStream_12 rfl (lv_at hl 2 rfl) ?_
  refine lv_bipush (v := 50) hx hb dX9_addStream_13 (by decide) ?_
  refine lv_sipush (v := 999) hx hb dX9_addStream_15 (by decide) ?_
  refine ca_i (isC := []) (isR := []) (wr := []) (rn_S (isC := []) (wc := []) (As := [.int x1, .int 50, .int 999]) (rest := []) (n := 3) hx hb hml hown hts hE hS hP hD hA hl.1 (k30_X9_isOutside l D cy g x1 50 999 H.size h2 h3) rfl rfl ax_30 rfl rfl ax_31 ⟨Nat.le_of_ble_eq_true rfl, Nat.le_of_ble_eq_true rfl⟩ rfl rfl (Nat.le_of_ble_eq_true rfl) dX9_addStream_18 ⟨(Nat.le_of_ble_eq_true rfl), (Nat.le_of_ble_eq_true rfl)⟩) hP hD hS hA rfl rfl rfl (by decide) (fun ad18 H locs hP hD hS => ?_)
  have hP : va_P D vwCl [] H := hP
  have hD : va_D A [] := hD
  refine lv_if_ne (tgt := 39) hx hb dX9_addStream_21 (by decide) (fun z => absurd (by decide) z) (fun _ => ?_)
  refine lv_iload_n hx hb dX9_addStream_24 rfl (lv_at hl 3 rfl) ?_
  refine lv_iconst (v := 1) hx hb dX9_addStream_25 (by decide) ?_
  refine lv_bipush (v := 50) hx hb dX9_addStream_26 (by decide) ?_
  refine ca_i (isC := []) (isR := []) (wr := []) (rn_S (isC := []) (wc := []) (As := [.int x2, .int 1, .int 50]) (rest := []) (n := 3) hx hb hml hown hts hE hS hP hD hA hl.1 (k25_X9_isOutside l D cy g x2 1 50 H.size h4 h5) rfl rfl ax_30 rfl rfl ax_31 ⟨Nat.le_of_ble_eq_true rfl, Nat.le_of_ble_eq_true rfl⟩ rfl rfl (Nat.le_of_ble_eq_true rfl) dX9_addStream_28 ⟨(Nat.le_of_ble_eq_true rfl), (Nat.le_of_ble_eq_true rfl)⟩) hP hD hS hA rfl rfl rfl (by decide) (fun ad28 H locs hP hD hS => ?_)
  have hP : va_P D vwCl [] H := hP
  have hD : va_D A [] := hD
  refine lv_if_ne (tgt := 39) hx hb dX9_addStream_31 (by decide) (fun _ => ?_) (fun z => absurd z (by decide))
  exact th_S (text := "a number is out of range") hx hb hst hown hts hE hS (hl.1.trans hml.symm) hout hlk (by decide +kernel) tw_296 tw_297 ax_32 (by decide +kernel) dX9_addStream_39 dX9_addStream_42 dX9_addStream_43 dX9_addStream_45 dX9_addStream_48 ⟨Nat.le_of_ble_eq_true rfl, Nat.le_of_ble_eq_true rfl, Nat.le_of_ble_eq_true rfl, Nat.le_of_ble_eq_true rfl⟩ (Nat.le_of_ble_eq_true rfl) (Nat.le_of_ble_eq_true rfl)
set_option maxHeartbeats 4000000 in
set_option maxRecDepth 100000 in
theorem k516_L_addStream (l : Launch) (hst : l.stackTraces = false) (D : va_G) (cy : Nat → ClassId) (g : Nat → Nat) (x0 : Int32) (x1 : Int32) (x2 : Int32) (a0 : Nat) (b0 : Nat) (v0 : Value) (v1 : Value) (v2 : Value) (v3 : Value) (v4 : Value) (v5 : Value) (v6 : Value) (sz : Nat) (h0 : ¬ x0 < 50) (h1 : ¬ (999 : Int32) < x0) (h2 : ¬ x1 < 50) (h3 : ¬ (999 : Int32) < x1) (h4 : ¬ x2 < 1) (h5 : (50 : Int32) < x2) : Met l yL_addStream [.codeWith yL_addStream cL_addStream 6 (some .int) [(0, 12, 15, 13), (0, 12, 19, 15)]] ({ frames := 7, cells := 1, slots := 6, locals := 105 }) (PC D cy g [(a0, .inr (14, [v0, v1, v2, v3, v4, v5, v6]))] sz [.ref a0, .int x0, .int x1, .int x2, .ref b0]) (QI D 1 (fun ad => []) (va_A [(a0, .inr (14, [v0, v1, v2, v3, v4, v5, v6]))] sz)) 1 6 (va_A [(a0, .inr (14, [v0, v1, v2, v3, v4, v5, v6]))] sz) := by
  refine sh_I (by decide) (Nat.le_of_ble_eq_true rfl) ?_
  intro p e s m args below meth c A ls hx hb hr hml hown hlk hnm hsz hP hD hA hE hts hS hl htb
  have hown : s.vm.findClass RL = some m.cls := hown
  have hl : lv_has ls 6 [(0, .ref a0), (1, .int x0), (2, .int x1), (3, .int x2), (4, .ref b0)] := hl
  refine lv_aload hx hb dL_addStream_0 (lv_at hl 4 rfl) ?_
  refine lv_iconst (v := 0) hx hb dL_addStream_2 (by decide) ?_
  refine lv_aload_n hx hb dL_addStream_3 rfl (lv_at hl 0 rfl) ?_
  refine lv_iload_n hx hb dL_addStream_4 rfl (lv_at hl 1 rfl) ?_
  refine lv_iload_n hx hb dL_addStream_5 rfl (lv_at hl 2 rfl) ?_
  refine lv_iload_n hx hb dL_addStream_6 rfl (lv_at hl 3 rfl) ?_
  refine cx_catch (isC := []) (isR := [0]) (wr := [(a0, .inr (14, [v0, v1, v2, v3, v4, v5, v6]))]) (hp := []) (z := (0, 12, 15, 13)) (hq := [(0, 12, 19, 15)]) (name := "java/lang/IllegalArgumentException") (own := RL) (rx_V (ci := 14) (q0 := 0) (isC := []) (wc := []) (As := [.int x0, .int x1, .int x2]) (rest := [.int 0, .ref b0]) (n := 3) hx hb hml hown hts hE hS hP hD hA hl.1 (k515_X9_addStream l hst D cy g x0 x1 x2 a0 s.heap.size h0 h1 h2 h3 h4 h5) rfl rfl rfl rfl rfl ax_344 rfl rfl ax_345 ⟨Nat.le_of_ble_eq_true rfl, Nat.le_of_ble_eq_true rfl⟩ rfl rfl (Nat.le_of_ble_eq_true rfl) dL_addStream_7 ⟨(Nat.le_of_ble_eq_true rfl), (Nat.le_of_ble_eq_true rfl)⟩) hP hD hS hA hown hts hE htb rfl rfl rfl rfl (by decide) (fun z hz => by cases hz) (by decide) (by decide) tw_302 tw_303 (fun qx H locs hP hD hS => ?_)
  have hP : va_P D vwCl [(a0, .inr (14, [v0, v1, v2, v3, v4, v5, v6]))] H := hP
  have hD : va_D A [(a0, .inr (14, [v0, v1, v2, v3, v4, v5, v6]))] := hD
  refine lv_astore (lv' := [(5, .ref qx), (0, .ref a0), (1, .int x0), (2, .int x1), (3, .int x2), (4, .ref b0)]) hx hb dL_addStream_15 hl (Nat.le_of_ble_eq_true rfl) rfl (fun ls hl => ?_)
  refine lv_iconst (v := 1) hx hb dL_addStream_17 (by decide) ?_
  exact en_z hx hb hr hlk hP hD hS rfl (fun _ => 0) (is := []) rfl rfl (Nat.le_of_ble_eq_true rfl) (Nat.le_of_ble_eq_true rfl) dL_addStream_18
set_option maxHeartbeats 4000000 in
set_option maxRecDepth 100000 in
theorem k517_X10_addStream (l : Launch) (D : va_G) (cy : Nat → ClassId) (g : Nat → Nat) (x0 : Int32) (x1 : Int32) (x2 : Int32) (a0 : Nat) (v0 : Value) (v1 : Value) (v2 : Value) (v3 : Value) (v4 : Value) (v5 : Value) (v6 : Value) (v7 : Value) (v8 : Value) (v9 : Value) (v10 : Value) (v11 : Value) (v12 : Value) (v13 : Value) (v14 : Value) (v15 : Value) (v16 : Value) (v17 : Value) (v18 : Value) (v19 : Value) (v20 : Value) (v21 : Value) (v22 : Value) (v23 : Value) (v24 : Value) (v25 : Value) (v26 : Value) (v27 : Value) (sz : Nat) (h0 : ¬ x0 < 50) (h1 : ¬ (999 : Int32) < x0) (h2 : ¬ x1 < 50) (h3 : ¬ (999 : Int32) < x1) (h4 : ¬ x2 < 1) (h5 : (50 : Int32) < x2) : Met l yX10_addStream [.code yX10_addStream cX10_addStream 4 (some .int)] ({ frames := 1, cells := 0, slots := 0, locals := 25 }) (PC D cy g [(a0, .inr (15, [v0, v1, v2, v3, v4, v5, v6, v7, v8, v9, v10, v11, v12, v13, v14, v15, v16, v17, v18, v19, v20, v21, v22, v23, v24, v25, v26, v27]))] sz [.ref a0, .int x0, .int x1, .int x2]) (QI D (-1) (fun ad => [(a0, .inr (15, [.int 1, v1, v2, v3, v4, v5, v6, v7, v8, v9, v10, v11, v12, v13, v14, v15, v16, v17, v18, v19, v20, v21, v22, v23, v24, v25, v26, v27]))]) (va_A [(a0, .inr (15, [v0, v1, v2, v3, v4, v5, v6, v7, v8, v9, v10, v11, v12, v13, v14, v15, v16, v17, v18, v19, v20, v21, v22, v23, v24, v25, v26, v27]))] sz)) 0 0 (va_A [(a0, .inr (15, [v0, v1, v2, v3, v4, v5, v6, v7, v8, v9, v10, v11, v12, v13, v14, v15, v16, v17, v18, v19, v20, v21, v22, v23, v24, v25, v26, v27]))] sz) := by
  refine st_I (by decide) (Nat.le_of_ble_eq_true rfl) ?_
  intro p e s m args below meth c A ls hx hb hr hml hown hlk hnm hsz hP hD hA hE hts hS hl
  have hown : s.vm.findClass RX10 = some m.cls := hown
  have hl : lv_has ls 4 [(0, .ref a0), (1, .int x0), (2, .int x1), (3, .int x2)] := hl
  refine lv_aload_n hx hb dX10_addStream_0 rfl (lv_at hl 0 rfl) ?_
  refine ca_v (isC := [0]) (isR := []) (wr := []) (rn_V (ci := 15) (q0 := 0) (isC := [0]) (wc := [(a0, .inr (15, [v0, v1, v2, v3, v4, v5, v6, v7, v8, v9, v10, v11, v12, v13, v14, v15, v16, v17, v18, v19, v20, v21, v22, v23, v24, v25, v26, v27]))]) (As := []) (rest := []) (n := 0) hx hb hml hown hts hE hS hP hD hA hl.1 (k20_X10_begins l D cy g a0 (v0) (v1) (v2) (v3) (v4) (v5) (v6) (v7) (v8) (v9) (v10) (v11) (v12) (v13) (v14) (v15) (v16) (v17) (v18) (v19) (v20) (v21) (v22) (v23) (v24) (v25) (v26) (v27) s.heap.size ) rfl rfl rfl rfl rfl ax_37 rfl rfl ax_38 ⟨Nat.le_of_ble_eq_true rfl, Nat.le_of_ble_eq_true rfl⟩ rfl rfl (Nat.le_of_ble_eq_true rfl) dX10_addStream_1 ⟨(Nat.le_of_ble_eq_true rfl), (Nat.le_of_ble_eq_true rfl)⟩) hP hD hS hA rfl rfl rfl (by decide) (fun ad1 H locs hP hD hS => ?_)
  have hP : va_P D vwCl [(a0, .inr (15, [.int 0, v1, v2, v3, v4, v5, v6, v7, v8, v9, v10, v11, v12, v13, v14, v15, v16, v17, v18, v19, v20, v21, v22, v23, v24, v25, v26, v27]))] H := hP
  have hD : va_D A [(a0, .inr (15, [.int 0, v1, v2, v3, v4, v5, v6, v7, v8, v9, v10, v11, v12, v13, v14, v15, v16, v17, v18, v19, v20, v21, v22, v23, v24, v25, v26, v27]))] := hD
  refine lv_aload_n hx hb dX10_addStream_4 rfl (lv_at hl 0 rfl) ?_
  refine lv_iload_n hx hb dX10_addStream_5 rfl (lv_at hl 1 rfl) ?_
  refine lv_i2l (v := x0.toInt64) hx hb dX10_addStream_6 rfl ?_
  refine lv_ldc2 (v := 50) hx hb hown (hts _ tw_314) dX10_addStream_7 ?_
  refine lv_ldc2 (v := 999) hx hb hown (hts _ tw_493) dX10_addStream_10 ?_
  refine ca_i (isC := []) (isR := [0]) (wr := [(a0, .inr (15, [.int 0, v1, v2, v3, v4, v5, v6, v7, v8, v9, v10, v11, v12, v13, v14, v15, v16, v17, v18, v19, v20, v21, v22, v23, v24, v25, v26, v27]))]) (rn_S (isC := []) (wc := []) (As := [.long x0.toInt64, .long 50, .long 999]) (rest := [.ref a0]) (n := 3) hx hb hml hown hts hE hS hP hD hA hl.1 (k33_X10_in l D cy g x0.toInt64 50 999 H.size (wl_nlt rfl (by decide) h0) (wl_nlt (by decide) rfl h1)) rfl rfl ax_39 rfl rfl ax_40 ⟨Nat.le_of_ble_eq_true rfl, Nat.le_of_ble_eq_true rfl⟩ rfl rfl (Nat.le_of_ble_eq_true rfl) dX10_addStream_13 ⟨(Nat.le_of_ble_eq_true rfl), (Nat.le_of_ble_eq_true rfl)⟩) hP hD hS hA rfl rfl rfl (by decide) (fun ad13 H locs hP hD hS => ?_)
  have hP : va_P D vwCl [(a0, .inr (15, [.int 0, v1, v2, v3, v4, v5, v6, v7, v8, v9, v10, v11, v12, v13, v14, v15, v16, v17, v18, v19, v20, v21, v22, v23, v24, v25, v26, v27]))] H := hP
  have hD : va_D A [(a0, .inr (15, [.int 0, v1, v2, v3, v4, v5, v6, v7, v8, v9, v10, v11, v12, v13, v14, v15, v16, v17, v18, v19, v20, v21, v22, v23, v24, v25, v26, v27]))] := hD
  refine lv_if_eq (tgt := 50) hx hb dX10_addStream_16 (by decide) (fun z => absurd z (by decide)) (fun _ => ?_)
  refine lv_iload_n hx hb dX10_addStream_19 rfl (lv_at hl 2 rfl) ?_
  refine lv_i2l (v := x1.toInt64) hx hb dX10_addStream_20 rfl ?_
  refine lv_ldc2 (v := 50) hx hb hown (hts _ tw_314) dX10_addStream_21 ?_
  refine lv_ldc2 (v := 999) hx hb hown (hts _ tw_493) dX10_addStream_24 ?_
  refine ca_i (isC := []) (isR := [0]) (wr := [(a0, .inr (15, [.int 0, v1, v2, v3, v4, v5, v6, v7, v8, v9, v10, v11, v12, v13, v14, v15, v16, v17, v18, v19, v20, v21, v22, v23, v24, v25, v26, v27]))]) (rn_S (isC := []) (wc := []) (As := [.long x1.toInt64, .long 50, .long 999]) (rest := [.ref a0]) (n := 3) hx hb hml hown hts hE hS hP hD hA hl.1 (k33_X10_in l D cy g x1.toInt64 50 999 H.size (wl_nlt rfl (by decide) h2) (wl_nlt (by decide) rfl h3)) rfl rfl ax_39 rfl rfl ax_40 ⟨Nat.le_of_ble_eq_true rfl, Nat.le_of_ble_eq_true rfl⟩ rfl rfl (Nat.le_of_ble_eq_true rfl) dX10_addStream_27 ⟨(Nat.le_of_ble_eq_true rfl), (Nat.le_of_ble_eq_true rfl)⟩) hP hD hS hA rfl rfl rfl (by decide) (fun ad27 H locs hP hD hS => ?_)
  have hP : va_P D vwCl [(a0, .inr (15, [.int 0, v1, v2, v3, v4, v5, v6, v7, v8, v9, v10, v11, v12, v13, v14, v15, v16, v17, v18, v19, v20, v21, v22, v23, v24, v25, v26, v27]))] H := hP
  have hD : va_D A [(a0, .inr (15, [.int 0, v1, v2, v3, v4, v5, v6, v7, v8, v9, v10, v11, v12, v13, v14, v15, v16, v17, v18, v19, v20, v21, v22, v23, v24, v25, v26, v27]))] := hD
  refine lv_if_eq (tgt := 50) hx hb dX10_addStream_30 (by decide) (fun z => absurd z (by decide)) (fun _ => ?_)
  refine lv_iload_n hx hb dX10_addStream_33 rfl (lv_at hl 3 rfl) ?_
  refine lv_i2l (v := x2.toInt64) hx hb dX10_addStream_34 rfl ?_
  refine lv_lconst (v := 1) hx hb dX10_addStream_35 (by decide) ?_
  refine lv_ldc2 (v := 50) hx hb hown (hts _ tw_314) dX10_addStream_36 ?_
  refine ca_i (isC := []) (isR := [0]) (wr := [(a0, .inr (15, [.int 0, v1, v2, v3, v4, v5, v6, v7, v8, v9, v10, v11, v12, v13, v14, v15, v16, v17, v18, v19, v20, v21, v22, v23, v24, v25, v26, v27]))]) (rn_S (isC := []) (wc := []) (As := [.long x2.toInt64, .long 1, .long 50]) (rest := [.ref a0]) (n := 3) hx hb hml hown hts hE hS hP hD hA hl.1 (k28_X10_in l D cy g x2.toInt64 1 50 H.size (wl_nlt rfl (by decide) h4) (wl_lt (by decide) rfl h5)) rfl rfl ax_39 rfl rfl ax_40 ⟨Nat.le_of_ble_eq_true rfl, Nat.le_of_ble_eq_true rfl⟩ rfl rfl (Nat.le_of_ble_eq_true rfl) dX10_addStream_39 ⟨(Nat.le_of_ble_eq_true rfl), (Nat.le_of_ble_eq_true rfl)⟩) hP hD hS hA rfl rfl rfl (by decide) (fun ad39 H locs hP hD hS => ?_)
  have hP : va_P D vwCl [(a0, .inr (15, [.int 0, v1, v2, v3, v4, v5, v6, v7, v8, v9, v10, v11, v12, v13, v14, v15, v16, v17, v18, v19, v20, v21, v22, v23, v24, v25, v26, v27]))] H := hP
  have hD : va_D A [(a0, .inr (15, [.int 0, v1, v2, v3, v4, v5, v6, v7, v8, v9, v10, v11, v12, v13, v14, v15, v16, v17, v18, v19, v20, v21, v22, v23, v24, v25, v26, v27]))] := hD
  refine lv_if_eq (tgt := 50) hx hb dX10_addStream_42 (by decide) (fun _ => ?_) (fun z => absurd (by decide) z)
  refine lv_iconst (v := 1) hx hb dX10_addStream_50 (by decide) ?_
  refine lv_goto (tgt := 55) hx hb dX10_addStream_51 (by decide) ?_
  refine lv_iconst (v := 1) hx hb dX10_addStream_55 (by decide) ?_
  refine ca_i (isC := [0]) (isR := []) (wr := []) (rn_V (ci := 15) (q0 := 0) (isC := [0]) (wc := [(a0, .inr (15, [.int 0, v1, v2, v3, v4, v5, v6, v7, v8, v9, v10, v11, v12, v13, v14, v15, v16, v17, v18, v19, v20, v21, v22, v23, v24, v25, v26, v27]))]) (As := [.int 1, .int 1]) (rest := []) (n := 2) hx hb hml hown hts hE hS hP hD hA hl.1 (k22_X10_fails l D cy g a0 (v1) (v2) (v3) (v4) (v5) (v6) (v7) (v8) (v9) (v10) (v11) (v12) (v13) (v14) (v15) (v16) (v17) (v18) (v19) (v20) (v21) (v22) (v23) (v24) (v25) (v26) (v27) H.size ) rfl rfl rfl rfl rfl ax_41 rfl rfl ax_42 ⟨Nat.le_of_ble_eq_true rfl, Nat.le_of_ble_eq_true rfl⟩ rfl rfl (Nat.le_of_ble_eq_true rfl) dX10_addStream_56 ⟨(Nat.le_of_ble_eq_true rfl), (Nat.le_of_ble_eq_true rfl)⟩) hP hD hS hA rfl rfl rfl (by decide) (fun ad56 H locs hP hD hS => ?_)
  have hP : va_P D vwCl [(a0, .inr (15, [.int 1, v1, v2, v3, v4, v5, v6, v7, v8, v9, v10, v11, v12, v13, v14, v15, v16, v17, v18, v19, v20, v21, v22, v23, v24, v25, v26, v27]))] H := hP
  have hD : va_D A [(a0, .inr (15, [.int 1, v1, v2, v3, v4, v5, v6, v7, v8, v9, v10, v11, v12, v13, v14, v15, v16, v17, v18, v19, v20, v21, v22, v23, v24, v25, v26, v27]))] := hD
  refine lv_if_ne (tgt := 89) hx hb dX10_addStream_59 (by decide) (fun _ => ?_) (fun z => absurd z (by decide))
  refine lv_iconst (v := (-1)) hx hb dX10_addStream_89 (by decide) ?_
  exact en_z hx hb hr hlk hP hD hS rfl (fun _ => 0) (is := [0]) rfl rfl (Nat.le_of_ble_eq_true rfl) (Nat.le_of_ble_eq_true rfl) dX10_addStream_90
set_option maxHeartbeats 4000000 in
set_option maxRecDepth 100000 in
theorem k518_X9_addStream (l : Launch) (hst : l.stackTraces = false) (D : va_G) (cy : Nat → ClassId) (g : Nat → Nat) (x0 : Int32) (x1 : Int32) (x2 : Int32) (b0 : Nat) (sz : Nat) (h0 : ¬ x0 < 50) (h1 : ¬ (999 : Int32) < x0) (h2 : ¬ x1 < 50) (h3 : ¬ (999 : Int32) < x1) (h4 : ¬ x2 < 1) (h5 : ¬ (50 : Int32) < x2) (h6 : x0 = x1) : vx_Met l yX9_addStream [.code yX9_addStream cX9_addStream 4 (some .int)] ({ frames := 6, cells := 1, slots := 6, locals := 82 }) (PC D cy g [] sz [.ref b0, .int x0, .int x1, .int x2]) QN (XE "java/lang/IllegalArgumentException" (va_A [] sz)) 1 6 (va_A [] sz) := by
  refine st_X (by decide) (Nat.le_of_ble_eq_true rfl) ?_
  intro p e s m args below meth c A ls hx hb hr hml hown hlk hnm hsz hP hD hA hE hts hS hl hout
  have hown : s.vm.findClass RX9 = some m.cls := hown
  have hl : lv_has ls 4 [(0, .ref b0), (1, .int x0), (2, .int x1), (3, .int x2)] := hl
  refine lv_iload_n hx hb dX9_addStream_0 rfl (lv_at hl 1 rfl) ?_
  refine lv_bipush (v := 50) hx hb dX9_addStream_1 (by decide) ?_
  refine lv_sipush (v := 999) hx hb dX9_addStream_3 (by decide) ?_
  refine ca_i (isC := []) (isR := []) (wr := []) (rn_S (isC := []) (wc := []) (As := [.int x0, .int 50, .int 999]) (rest := []) (n := 3) hx hb hml hown hts hE hS hP hD hA hl.1 (k30_X9_isOutside l D cy g x0 50 999 s.heap.size h0 h1) rfl rfl ax_30 rfl rfl ax_31 ⟨Nat.le_of_ble_eq_true rfl, Nat.le_of_ble_eq_true rfl⟩ rfl rfl (Nat.le_of_ble_eq_true rfl) dX9_addStream_6 ⟨(Nat.le_of_ble_eq_true rfl), (Nat.le_of_ble_eq_true rfl)⟩) hP hD hS hA rfl rfl rfl (by decide) (fun ad6 H locs hP hD hS => ?_)
  have hP : va_P D vwCl [] H := hP
  have hD : va_D A [] := hD
  refine lv_if_ne (tgt := 39) hx hb dX9_addStream_9 (by decide) (fun z => absurd (by decide) z) (fun _ => ?_)
  refine lv_iload_n hx hb dX9_addStream_12 rfl (lv_at hl 2 rfl) ?_
  refine lv_bipush (v := 50) hx hb dX9_addStream_13 (by decide) ?_
  refine lv_sipush (v := 999) hx hb dX9_addStream_15 (by decide) ?_
  refine ca_i (isC := []) (isR := []) (wr := []) (rn_S (isC := []) (wc := []) (As := [.int x1, .int 50, .int 999]) (rest := []) (n := 3) hx hb hml hown hts hE hS hP hD hA hl.1 (k30_X9_isOutside l D cy g x1 50 999 H.size h2 h3) rfl rfl ax_30 rfl rfl ax_31 ⟨Nat.le_of_ble_eq_true rfl, Nat.le_of_ble_eq_true rfl⟩ rfl rfl (Nat.le_of_ble_eq_true rfl) dX9_addStream_18 ⟨(Nat.le_of_ble_eq_true rfl), (Nat.le_of_ble_eq_true rfl)⟩) hP hD hS hA rfl rfl rfl (by decide) (fun ad18 H locs hP hD hS => ?_)
  have hP : va_P D vwCl [] H := hP
  have hD : va_D A [] := hD
  refine lv_if_ne (tgt := 39) hx hb dX9_addStream_21 (by decide) (fun z => absurd (by decide) z) (fun _ => ?_)
  refine lv_iload_n hx hb dX9_addStream_24 rfl (lv_at hl 3 rfl) ?_
  refine lv_iconst (v := 1) hx hb dX9_addStream_25 (by decide) ?_
  refine lv_bipush (v := 50) hx hb dX9_addStream_26 (by decide) ?_
  refine ca_i (isC := []) (isR := []) (wr := []) (rn_S (isC := []) (wc := []) (As := [.int x2, .int 1, .int 50]) (rest := []) (n := 3) hx hb hml hown hts hE hS hP hD hA hl.1 (k30_X9_isOutside l D cy g x2 1 50 H.size h4 h5) rfl rfl ax_30 rfl rfl ax_31 ⟨Nat.le_of_ble_eq_true rfl, Nat.le_of_ble_eq_true rfl⟩ rfl rfl (Nat.le_of_ble_eq_true rfl) dX9_addStream_28 ⟨(Nat.le_of_ble_eq_true rfl), (Nat.le_of_ble_eq_true rfl)⟩) hP hD hS hA rfl rfl rfl (by decide) (fun ad28 H locs hP hD hS => ?_)
  have hP : va_P D vwCl [] H := hP
  have hD : va_D A [] := hD
  refine lv_if_ne (tgt := 39) hx hb dX9_addStream_31 (by decide) (fun z => absurd (by decide) z) (fun _ => ?_)
  refine lv_iload_n hx hb dX9_addStream_34 rfl (lv_at hl 1 rfl) ?_
  refine lv_iload_n hx hb dX9_addStream_35 rfl (lv_at hl 2 rfl) ?_
  refine lv_icmp_ne (tgt := 49) hx hb dX9_addStream_36 (by decide) (fun z => absurd h6 z) (fun _ => ?_)
  exact th_S (text := "a number is out of range") hx hb hst hown hts hE hS (hl.1.trans hml.symm) hout hlk (by decide +kernel) tw_296 tw_297 ax_32 (by decide +kernel) dX9_addStream_39 dX9_addStream_42 dX9_addStream_43 dX9_addStream_45 dX9_addStream_48 ⟨Nat.le_of_ble_eq_true rfl, Nat.le_of_ble_eq_true rfl, Nat.le_of_ble_eq_true rfl, Nat.le_of_ble_eq_true rfl⟩ (Nat.le_of_ble_eq_true rfl) (Nat.le_of_ble_eq_true rfl)
set_option maxHeartbeats 4000000 in
set_option maxRecDepth 100000 in
theorem k519_L_addStream (l : Launch) (hst : l.stackTraces = false) (D : va_G) (cy : Nat → ClassId) (g : Nat → Nat) (x0 : Int32) (x1 : Int32) (x2 : Int32) (a0 : Nat) (b0 : Nat) (v0 : Value) (v1 : Value) (v2 : Value) (v3 : Value) (v4 : Value) (v5 : Value) (v6 : Value) (sz : Nat) (h0 : ¬ x0 < 50) (h1 : ¬ (999 : Int32) < x0) (h2 : ¬ x1 < 50) (h3 : ¬ (999 : Int32) < x1) (h4 : ¬ x2 < 1) (h5 : ¬ (50 : Int32) < x2) (h6 : x0 = x1) : Met l yL_addStream [.codeWith yL_addStream cL_addStream 6 (some .int) [(0, 12, 15, 13), (0, 12, 19, 15)]] ({ frames := 7, cells := 1, slots := 6, locals := 105 }) (PC D cy g [(a0, .inr (14, [v0, v1, v2, v3, v4, v5, v6]))] sz [.ref a0, .int x0, .int x1, .int x2, .ref b0]) (QI D 1 (fun ad => []) (va_A [(a0, .inr (14, [v0, v1, v2, v3, v4, v5, v6]))] sz)) 1 6 (va_A [(a0, .inr (14, [v0, v1, v2, v3, v4, v5, v6]))] sz) := by
  refine sh_I (by decide) (Nat.le_of_ble_eq_true rfl) ?_
  intro p e s m args below meth c A ls hx hb hr hml hown hlk hnm hsz hP hD hA hE hts hS hl htb
  have hown : s.vm.findClass RL = some m.cls := hown
  have hl : lv_has ls 6 [(0, .ref a0), (1, .int x0), (2, .int x1), (3, .int x2), (4, .ref b0)] := hl
  refine lv_aload hx hb dL_addStream_0 (lv_at hl 4 rfl) ?_
  refine lv_iconst (v := 0) hx hb dL_addStream_2 (by decide) ?_
  refine lv_aload_n hx hb dL_addStream_3 rfl (lv_at hl 0 rfl) ?_
  refine lv_iload_n hx hb dL_addStream_4 rfl (lv_at hl 1 rfl) ?_
  refine lv_iload_n hx hb dL_addStream_5 rfl (lv_at hl 2 rfl) ?_
  refine lv_iload_n hx hb dL_addStream_6 rfl (lv_at hl 3 rfl) ?_
  refine cx_catch (isC := []) (isR := [0]) (wr := [(a0, .inr (14, [v0, v1, v2, v3, v4, v5, v6]))]) (hp := []) (z := (0, 12, 15, 13)) (hq := [(0, 12, 19, 15)]) (name := "java/lang/IllegalArgumentException") (own := RL) (rx_V (ci := 14) (q0 := 0) (isC := []) (wc := []) (As := [.int x0, .int x1, .int x2]) (rest := [.int 0, .ref b0]) (n := 3) hx hb hml hown hts hE hS hP hD hA hl.1 (k518_X9_addStream l hst D cy g x0 x1 x2 a0 s.heap.size h0 h1 h2 h3 h4 h5 h6) rfl rfl rfl rfl rfl ax_344 rfl rfl ax_345 ⟨Nat.le_of_ble_eq_true rfl, Nat.le_of_ble_eq_true rfl⟩ rfl rfl (Nat.le_of_ble_eq_true rfl) dL_addStream_7 ⟨(Nat.le_of_ble_eq_true rfl), (Nat.le_of_ble_eq_true rfl)⟩) hP hD hS hA hown hts hE htb rfl rfl rfl rfl (by decide) (fun z hz => by cases hz) (by decide) (by decide) tw_302 tw_303 (fun qx H locs hP hD hS => ?_)
  have hP : va_P D vwCl [(a0, .inr (14, [v0, v1, v2, v3, v4, v5, v6]))] H := hP
  have hD : va_D A [(a0, .inr (14, [v0, v1, v2, v3, v4, v5, v6]))] := hD
  refine lv_astore (lv' := [(5, .ref qx), (0, .ref a0), (1, .int x0), (2, .int x1), (3, .int x2), (4, .ref b0)]) hx hb dL_addStream_15 hl (Nat.le_of_ble_eq_true rfl) rfl (fun ls hl => ?_)
  refine lv_iconst (v := 1) hx hb dL_addStream_17 (by decide) ?_
  exact en_z hx hb hr hlk hP hD hS rfl (fun _ => 0) (is := []) rfl rfl (Nat.le_of_ble_eq_true rfl) (Nat.le_of_ble_eq_true rfl) dL_addStream_18
set_option maxHeartbeats 4000000 in
set_option maxRecDepth 100000 in
theorem k520_X10_addStream (l : Launch) (D : va_G) (cy : Nat → ClassId) (g : Nat → Nat) (x0 : Int32) (x1 : Int32) (x2 : Int32) (a0 : Nat) (v0 : Value) (v1 : Value) (v2 : Value) (v3 : Value) (v4 : Value) (v5 : Value) (v6 : Value) (v7 : Value) (v8 : Value) (v9 : Value) (v10 : Value) (v11 : Value) (v12 : Value) (v13 : Value) (v14 : Value) (v15 : Value) (v16 : Value) (v17 : Value) (v18 : Value) (v19 : Value) (v20 : Value) (v21 : Value) (v22 : Value) (v23 : Value) (v24 : Value) (v25 : Value) (v26 : Value) (v27 : Value) (sz : Nat) (h0 : ¬ x0 < 50) (h1 : ¬ (999 : Int32) < x0) (h2 : ¬ x1 < 50) (h3 : ¬ (999 : Int32) < x1) (h4 : ¬ x2 < 1) (h5 : ¬ (50 : Int32) < x2) (h6 : x0 = x1) : Met l yX10_addStream [.code yX10_addStream cX10_addStream 4 (some .int)] ({ frames := 1, cells := 0, slots := 0, locals := 25 }) (PC D cy g [(a0, .inr (15, [v0, v1, v2, v3, v4, v5, v6, v7, v8, v9, v10, v11, v12, v13, v14, v15, v16, v17, v18, v19, v20, v21, v22, v23, v24, v25, v26, v27]))] sz [.ref a0, .int x0, .int x1, .int x2]) (QI D (-1) (fun ad => [(a0, .inr (15, [.int 1, v1, v2, v3, v4, v5, v6, v7, v8, v9, v10, v11, v12, v13, v14, v15, v16, v17, v18, v19, v20, v21, v22, v23, v24, v25, v26, v27]))]) (va_A [(a0, .inr (15, [v0, v1, v2, v3, v4, v5, v6, v7, v8, v9, v10, v11, v12, v13, v14, v15, v16, v17, v18, v19, v20, v21, v22, v23, v24, v25, v26, v27]))] sz)) 0 0 (va_A [(a0, .inr (15, [v0, v1, v2, v3, v4, v5, v6, v7, v8, v9, v10, v11, v12, v13, v14, v15, v16, v17, v18, v19, v20, v21, v22, v23, v24, v25, v26, v27]))] sz) := by
  refine st_I (by decide) (Nat.le_of_ble_eq_true rfl) ?_
  intro p e s m args below meth c A ls hx hb hr hml hown hlk hnm hsz hP hD hA hE hts hS hl
  have hown : s.vm.findClass RX10 = some m.cls := hown
  have hl : lv_has ls 4 [(0, .ref a0), (1, .int x0), (2, .int x1), (3, .int x2)] := hl
  refine lv_aload_n hx hb dX10_addStream_0 rfl (lv_at hl 0 rfl) ?_
  refine ca_v (isC := [0]) (isR := []) (wr := []) (rn_V (ci := 15) (q0 := 0) (isC := [0]) (wc := [(a0, .inr (15, [v0, v1, v2, v3, v4, v5, v6, v7, v8, v9, v10, v11, v12, v13, v14, v15, v16, v17, v18, v19, v20, v21, v22, v23, v24, v25, v26, v27]))]) (As := []) (rest := []) (n := 0) hx hb hml hown hts hE hS hP hD hA hl.1 (k20_X10_begins l D cy g a0 (v0) (v1) (v2) (v3) (v4) (v5) (v6) (v7) (v8) (v9) (v10) (v11) (v12) (v13) (v14) (v15) (v16) (v17) (v18) (v19) (v20) (v21) (v22) (v23) (v24) (v25) (v26) (v27) s.heap.size ) rfl rfl rfl rfl rfl ax_37 rfl rfl ax_38 ⟨Nat.le_of_ble_eq_true rfl, Nat.le_of_ble_eq_true rfl⟩ rfl rfl (Nat.le_of_ble_eq_true rfl) dX10_addStream_1 ⟨(Nat.le_of_ble_eq_true rfl), (Nat.le_of_ble_eq_true rfl)⟩) hP hD hS hA rfl rfl rfl (by decide) (fun ad1 H locs hP hD hS => ?_)
  have hP : va_P D vwCl [(a0, .inr (15, [.int 0, v1, v2, v3, v4, v5, v6, v7, v8, v9, v10, v11, v12, v13, v14, v15, v16, v17, v18, v19, v20, v21, v22, v23, v24, v25, v26, v27]))] H := hP
  have hD : va_D A [(a0, .inr (15, [.int 0, v1, v2, v3, v4, v5, v6, v7, v8, v9, v10, v11, v12, v13, v14, v15, v16, v17, v18, v19, v20, v21, v22, v23, v24, v25, v26, v27]))] := hD
  refine lv_aload_n hx hb dX10_addStream_4 rfl (lv_at hl 0 rfl) ?_
  refine lv_iload_n hx hb dX10_addStream_5 rfl (lv_at hl 1 rfl) ?_
  refine lv_i2l (v := x0.toInt64) hx hb dX10_addStream_6 rfl ?_
  refine lv_ldc2 (v := 50) hx hb hown (hts _ tw_314) dX10_addStream_7 ?_
  refine lv_ldc2 (v := 999) hx hb hown (hts _ tw_493) dX10_addStream_10 ?_
  refine ca_i (isC := []) (isR := [0]) (wr := [(a0, .inr (15, [.int 0, v1, v2, v3, v4, v5, v6, v7, v8, v9, v10, v11, v12, v13, v14, v15, v16, v17, v18, v19, v20, v21, v22, v23, v24, v25, v26, v27]))]) (rn_S (isC := []) (wc := []) (As := [.long x0.toInt64, .long 50, .long 999]) (rest := [.ref a0]) (n := 3) hx hb hml hown hts hE hS hP hD hA hl.1 (k33_X10_in l D cy g x0.toInt64 50 999 H.size (wl_nlt rfl (by decide) h0) (wl_nlt (by decide) rfl h1)) rfl rfl ax_39 rfl rfl ax_40 ⟨Nat.le_of_ble_eq_true rfl, Nat.le_of_ble_eq_true rfl⟩ rfl rfl (Nat.le_of_ble_eq_true rfl) dX10_addStream_13 ⟨(Nat.le_of_ble_eq_true rfl), (Nat.le_of_ble_eq_true rfl)⟩) hP hD hS hA rfl rfl rfl (by decide) (fun ad13 H locs hP hD hS => ?_)
  have hP : va_P D vwCl [(a0, .inr (15, [.int 0, v1, v2, v3, v4, v5, v6, v7, v8, v9, v10, v11, v12, v13, v14, v15, v16, v17, v18, v19, v20, v21, v22, v23, v24, v25, v26, v27]))] H := hP
  have hD : va_D A [(a0, .inr (15, [.int 0, v1, v2, v3, v4, v5, v6, v7, v8, v9, v10, v11, v12, v13, v14, v15, v16, v17, v18, v19, v20, v21, v22, v23, v24, v25, v26, v27]))] := hD
  refine lv_if_eq (tgt := 50) hx hb dX10_addStream_16 (by decide) (fun z => absurd z (by decide)) (fun _ => ?_)
  refine lv_iload_n hx hb dX10_addStream_19 rfl (lv_at hl 2 rfl) ?_
  refine lv_i2l (v := x1.toInt64) hx hb dX10_addStream_20 rfl ?_
  refine lv_ldc2 (v := 50) hx hb hown (hts _ tw_314) dX10_addStream_21 ?_
  refine lv_ldc2 (v := 999) hx hb hown (hts _ tw_493) dX10_addStream_24 ?_
  refine ca_i (isC := []) (isR := [0]) (wr := [(a0, .inr (15, [.int 0, v1, v2, v3, v4, v5, v6, v7, v8, v9, v10, v11, v12, v13, v14, v15, v16, v17, v18, v19, v20, v21, v22, v23, v24, v25, v26, v27]))]) (rn_S (isC := []) (wc := []) (As := [.long x1.toInt64, .long 50, .long 999]) (rest := [.ref a0]) (n := 3) hx hb hml hown hts hE hS hP hD hA hl.1 (k33_X10_in l D cy g x1.toInt64 50 999 H.size (wl_nlt rfl (by decide) h2) (wl_nlt (by decide) rfl h3)) rfl rfl ax_39 rfl rfl ax_40 ⟨Nat.le_of_ble_eq_true rfl, Nat.le_of_ble_eq_true rfl⟩ rfl rfl (Nat.le_of_ble_eq_true rfl) dX10_addStream_27 ⟨(Nat.le_of_ble_eq_true rfl), (Nat.le_of_ble_eq_true rfl)⟩) hP hD hS hA rfl rfl rfl (by decide) (fun ad27 H locs hP hD hS => ?_)
  have hP : va_P D vwCl [(a0, .inr (15, [.int 0, v1, v2, v3, v4, v5, v6, v7, v8, v9, v10, v11, v12, v13, v14, v15, v16, v17, v18, v19, v20, v21, v22, v23, v24, v25, v26, v27]))] H := hP
  have hD : va_D A [(a0, .inr (15, [.int 0, v1, v2, v3, v4, v5, v6, v7, v8, v9, v10, v11, v12, v13, v14, v15, v16, v17, v18, v19, v20, v21, v22, v23, v24, v25, v26, v27]))] := hD
  refine lv_if_eq (tgt := 50) hx hb dX10_addStream_30 (by decide) (fun z => absurd z (by decide)) (fun _ => ?_)
  refine lv_iload_n hx hb dX10_addStream_33 rfl (lv_at hl 3 rfl) ?_
  refine lv_i2l (v := x2.toInt64) hx hb dX10_addStream_34 rfl ?_
  refine lv_lconst (v := 1) hx hb dX10_addStream_35 (by decide) ?_
  refine lv_ldc2 (v := 50) hx hb hown (hts _ tw_314) dX10_addStream_36 ?_
  refine ca_i (isC := []) (isR := [0]) (wr := [(a0, .inr (15, [.int 0, v1, v2, v3, v4, v5, v6, v7, v8, v9, v10, v11, v12, v13, v14, v15, v16, v17, v18, v19, v20, v21, v22, v23, v24, v25, v26, v27]))]) (rn_S (isC := []) (wc := []) (As := [.long x2.toInt64, .long 1, .long 50]) (rest := [.ref a0]) (n := 3) hx hb hml hown hts hE hS hP hD hA hl.1 (k33_X10_in l D cy g x2.toInt64 1 50 H.size (wl_nlt rfl (by decide) h4) (wl_nlt (by decide) rfl h5)) rfl rfl ax_39 rfl rfl ax_40 ⟨Nat.le_of_ble_eq_true rfl, Nat.le_of_ble_eq_true rfl⟩ rfl rfl (Nat.le_of_ble_eq_true rfl) dX10_addStream_39 ⟨(Nat.le_of_ble_eq_true rfl), (Nat.le_of_ble_eq_true rfl)⟩) hP hD hS hA rfl rfl rfl (by decide) (fun ad39 H locs hP hD hS => ?_)
  have hP : va_P D vwCl [(a0, .inr (15, [.int 0, v1, v2, v3, v4, v5, v6, v7, v8, v9, v10, v11, v12, v13, v14, v15, v16, v17, v18, v19, v20, v21, v22, v23, v24, v25, v26, v27]))] H := hP
  have hD : va_D A [(a0, .inr (15, [.int 0, v1, v2, v3, v4, v5, v6, v7, v8, v9, v10, v11, v12, v13, v14, v15, v16, v17, v18, v19, v20, v21, v22, v23, v24, v25, v26, v27]))] := hD
  refine lv_if_eq (tgt := 50) hx hb dX10_addStream_42 (by decide) (fun z => absurd z (by decide)) (fun _ => ?_)
  refine lv_iload_n hx hb dX10_addStream_45 rfl (lv_at hl 1 rfl) ?_
  refine lv_iload_n hx hb dX10_addStream_46 rfl (lv_at hl 2 rfl) ?_
  refine lv_icmp_ne (tgt := 54) hx hb dX10_addStream_47 (by decide) (fun z => absurd h6 z) (fun _ => ?_)
  refine lv_iconst (v := 1) hx hb dX10_addStream_50 (by decide) ?_
  refine lv_goto (tgt := 55) hx hb dX10_addStream_51 (by decide) ?_
  refine lv_iconst (v := 1) hx hb dX10_addStream_55 (by decide) ?_
  refine ca_i (isC := [0]) (isR := []) (wr := []) (rn_V (ci := 15) (q0 := 0) (isC := [0]) (wc := [(a0, .inr (15, [.int 0, v1, v2, v3, v4, v5, v6, v7, v8, v9, v10, v11, v12, v13, v14, v15, v16, v17, v18, v19, v20, v21, v22, v23, v24, v25, v26, v27]))]) (As := [.int 1, .int 1]) (rest := []) (n := 2) hx hb hml hown hts hE hS hP hD hA hl.1 (k22_X10_fails l D cy g a0 (v1) (v2) (v3) (v4) (v5) (v6) (v7) (v8) (v9) (v10) (v11) (v12) (v13) (v14) (v15) (v16) (v17) (v18) (v19) (v20) (v21) (v22) (v23) (v24) (v25) (v26) (v27) H.size ) rfl rfl rfl rfl rfl ax_41 rfl rfl ax_42 ⟨Nat.le_of_ble_eq_true rfl, Nat.le_of_ble_eq_true rfl⟩ rfl rfl (Nat.le_of_ble_eq_true rfl) dX10_addStream_56 ⟨(Nat.le_of_ble_eq_true rfl), (Nat.le_of_ble_eq_true rfl)⟩) hP hD hS hA rfl rfl rfl (by decide) (fun ad56 H locs hP hD hS => ?_)
  have hP : va_P D vwCl [(a0, .inr (15, [.int 1, v1, v2, v3, v4, v5, v6, v7, v8, v9, v10, v11, v12, v13, v14, v15, v16, v17, v18, v19, v20, v21, v22, v23, v24, v25, v26, v27]))] H := hP
  have hD : va_D A [(a0, .inr (15, [.int 1, v1, v2, v3, v4, v5, v6, v7, v8, v9, v10, v11, v12, v13, v14, v15, v16, v17, v18, v19, v20, v21, v22, v23, v24, v25, v26, v27]))] := hD
  refine lv_if_ne (tgt := 89) hx hb dX10_addStream_59 (by decide) (fun _ => ?_) (fun z => absurd z (by decide))
  refine lv_iconst (v := (-1)) hx hb dX10_addStream_89 (by decide) ?_
  exact en_z hx hb hr hlk hP hD hS rfl (fun _ => 0) (is := [0]) rfl rfl (Nat.le_of_ble_eq_true rfl) (Nat.le_of_ble_eq_true rfl) dX10_addStream_90
set_option maxHeartbeats 4000000 in
set_option maxRecDepth 100000 in
theorem k521_X5_isFull (l : Launch) (D : va_G) (cy : Nat → ClassId) (g : Nat → Nat) (a0 : Nat) (v0 : Value) (v1 : Value) (v2 : Value) (sz : Nat)  : Met l yX5_isFull [.code yX5_isFull cX5_isFull 1 (some .boolean)] ({ frames := 0, cells := 0, slots := 0, locals := 0 }) (PC D cy g [(a0, .inr (10, [v0, v1, v2, .int 0]))] sz [.ref a0]) (QI D 0 (fun ad => [(a0, .inr (10, [v0, v1, v2, .int 0]))]) (va_A [(a0, .inr (10, [v0, v1, v2, .int 0]))] sz)) 0 0 (va_A [(a0, .inr (10, [v0, v1, v2, .int 0]))] sz) := by
  refine st_I (by decide) (Nat.le_of_ble_eq_true rfl) ?_
  intro p e s m args below meth c A ls hx hb hr hml hown hlk hnm hsz hP hD hA hE hts hS hl
  have hown : s.vm.findClass RX5 = some m.cls := hown
  have hl : lv_has ls 1 [(0, .ref a0)] := hl
  refine lv_aload_n hx hb dX5_isFull_0 rfl (lv_at hl 0 rfl) ?_
  refine va_get (D := D) (ci := 10) (v := .int 0) (C := RX5) (T := TX5) (N := 4) hx hb hts ax_12 hown hE.1 hP 0 rfl rfl 3 (by decide) (hts _ tw_132) (fun _ h9 => h9) rfl dX5_isFull_1 ?_
  refine lv_bipush (v := 10) hx hb dX5_isFull_4 (by decide) ?_
  refine lv_icmp_lt (tgt := 13) hx hb dX5_isFull_6 (by decide) (fun _ => ?_) (fun z => absurd (by decide) z)
  refine lv_iconst (v := 0) hx hb dX5_isFull_13 (by decide) ?_
  exact en_z hx hb hr hlk hP hD hS rfl (fun _ => 0) (is := [0]) rfl rfl (Nat.le_of_ble_eq_true rfl) (Nat.le_of_ble_eq_true rfl) dX5_isFull_14
set_option maxHeartbeats 4000000 in
set_option maxRecDepth 100000 in
theorem k522_X5_append (l : Launch) (D : va_G) (cy : Nat → ClassId) (g : Nat → Nat) (x0 : Int32) (x1 : Int32) (x2 : Int32) (a0 : Nat) (a1 : Nat) (a2 : Nat) (a3 : Nat) (f0 : Nat → Int32) (f1 : Nat → Int32) (f2 : Nat → Int32) (sz : Nat)  : Met l yX5_append [.code yX5_append cX5_append 4 (some .int)] ({ frames := 1, cells := 0, slots := 0, locals := 20 }) (PC D cy g [(a0, .inr (10, [.ref a1, .ref a2, .ref a3, .int 0])), (a1, .inl (cy 1, 10, .inl f0)), (a2, .inl (cy 1, 10, .inl f1)), (a3, .inl (cy 1, 10, .inl f2))] sz [.ref a0, .int x0, .int x1, .int x2]) (QI D 1 (fun ad => [(a0, .inr (10, [.ref a1, .ref a2, .ref a3, .int 1])), (a1, .inl (cy 1, 10, .inl (upd f0 (0 : Int32).toNatClampNeg x0))), (a2, .inl (cy 1, 10, .inl (upd f1 (0 : Int32).toNatClampNeg x1))), (a3, .inl (cy 1, 10, .inl (upd f2 (0 : Int32).toNatClampNeg x2)))]) (va_A [(a0, .inr (10, [.ref a1, .ref a2, .ref a3, .int 0])), (a1, .inl (cy 1, 10, .inl f0)), (a2, .inl (cy 1, 10, .inl f1)), (a3, .inl (cy 1, 10, .inl f2))] sz)) 0 0 (va_A [(a0, .inr (10, [.ref a1, .ref a2, .ref a3, .int 0])), (a1, .inl (cy 1, 10, .inl f0)), (a2, .inl (cy 1, 10, .inl f1)), (a3, .inl (cy 1, 10, .inl f2))] sz) := by
  refine st_I (by decide) (Nat.le_of_ble_eq_true rfl) ?_
  intro p e s m args below meth c A ls hx hb hr hml hown hlk hnm hsz hP hD hA hE hts hS hl
  have hown : s.vm.findClass RX5 = some m.cls := hown
  have hl : lv_has ls 4 [(0, .ref a0), (1, .int x0), (2, .int x1), (3, .int x2)] := hl
  refine lv_aload_n hx hb dX5_append_0 rfl (lv_at hl 0 rfl) ?_
  refine ca_i (isC := [0]) (isR := [1, 2, 3]) (wr := [(a1, .inl (cy 1, 10, .inl f0)), (a2, .inl (cy 1, 10, .inl f1)), (a3, .inl (cy 1, 10, .inl f2))]) (rn_V (ci := 10) (q0 := 0) (isC := [0]) (wc := [(a0, .inr (10, [.ref a1, .ref a2, .ref a3, .int 0]))]) (As := []) (rest := []) (n := 0) hx hb hml hown hts hE hS hP hD hA hl.1 (k521_X5_isFull l D cy g a0 (.ref a1) (.ref a2) (.ref a3) s.heap.size ) rfl rfl rfl rfl rfl ax_350 rfl rfl ax_351 ⟨Nat.le_of_ble_eq_true rfl, Nat.le_of_ble_eq_true rfl⟩ rfl rfl (Nat.le_of_ble_eq_true rfl) dX5_append_1 ⟨(Nat.le_of_ble_eq_true rfl), (Nat.le_of_ble_eq_true rfl)⟩) hP hD hS hA rfl rfl rfl (by decide) (fun ad1 H locs hP hD hS => ?_)
  have hP : va_P D vwCl [(a1, .inl (cy 1, 10, .inl f0)), (a2, .inl (cy 1, 10, .inl f1)), (a3, .inl (cy 1, 10, .inl f2)), (a0, .inr (10, [.ref a1, .ref a2, .ref a3, .int 0]))] H := hP
  have hD : va_D A [(a1, .inl (cy 1, 10, .inl f0)), (a2, .inl (cy 1, 10, .inl f1)), (a3, .inl (cy 1, 10, .inl f2)), (a0, .inr (10, [.ref a1, .ref a2, .ref a3, .int 0]))] := hD
  refine lv_if_ne (tgt := 47) hx hb dX5_append_4 (by decide) (fun z => absurd (by decide) z) (fun _ => ?_)
  refine lv_aload_n hx hb dX5_append_7 rfl (lv_at hl 0 rfl) ?_
  refine va_get (D := D) (ci := 10) (v := .ref a1) (C := RX5) (T := TX5) (N := 4) hx hb hts ax_12 hown hE.1 hP 3 rfl rfl 0 (by decide) (hts _ tw_129) (fun _ h9 => h9) rfl dX5_append_8 ?_
  refine lv_aload_n hx hb dX5_append_11 rfl (lv_at hl 0 rfl) ?_
  refine va_get (D := D) (ci := 10) (v := .int 0) (C := RX5) (T := TX5) (N := 4) hx hb hts ax_12 hown hE.1 hP 3 rfl rfl 3 (by decide) (hts _ tw_132) (fun _ h9 => h9) rfl dX5_append_12 ?_
  refine lv_iload_n hx hb dX5_append_15 rfl (lv_at hl 1 rfl) ?_
  refine va_iast hx hb hE.1 hP hD hS 0 1 rfl rfl (by unfold vp_in; decide) dX5_append_16 (fun H locs hP hD hS => ?_)
  have hP : va_P D vwCl [(a1, .inl (cy 1, 10, .inl (upd f0 (0 : Int32).toNatClampNeg x0))), (a2, .inl (cy 1, 10, .inl f1)), (a3, .inl (cy 1, 10, .inl f2)), (a0, .inr (10, [.ref a1, .ref a2, .ref a3, .int 0]))] H := hP
  have hD : va_D A [(a1, .inl (cy 1, 10, .inl (upd f0 (0 : Int32).toNatClampNeg x0))), (a2, .inl (cy 1, 10, .inl f1)), (a3, .inl (cy 1, 10, .inl f2)), (a0, .inr (10, [.ref a1, .ref a2, .ref a3, .int 0]))] := hD
  refine lv_aload_n hx hb dX5_append_17 rfl (lv_at hl 0 rfl) ?_
  refine va_get (D := D) (ci := 10) (v := .ref a2) (C := RX5) (T := TX5) (N := 4) hx hb hts ax_12 hown hE.1 hP 3 rfl rfl 1 (by decide) (hts _ tw_130) (fun _ h9 => h9) rfl dX5_append_18 ?_
  refine lv_aload_n hx hb dX5_append_21 rfl (lv_at hl 0 rfl) ?_
  refine va_get (D := D) (ci := 10) (v := .int 0) (C := RX5) (T := TX5) (N := 4) hx hb hts ax_12 hown hE.1 hP 3 rfl rfl 3 (by decide) (hts _ tw_132) (fun _ h9 => h9) rfl dX5_append_22 ?_
  refine lv_iload_n hx hb dX5_append_25 rfl (lv_at hl 2 rfl) ?_
  refine va_iast hx hb hE.1 hP hD hS 1 1 rfl rfl (by unfold vp_in; decide) dX5_append_26 (fun H locs hP hD hS => ?_)
  have hP : va_P D vwCl [(a1, .inl (cy 1, 10, .inl (upd f0 (0 : Int32).toNatClampNeg x0))), (a2, .inl (cy 1, 10, .inl (upd f1 (0 : Int32).toNatClampNeg x1))), (a3, .inl (cy 1, 10, .inl f2)), (a0, .inr (10, [.ref a1, .ref a2, .ref a3, .int 0]))] H := hP
  have hD : va_D A [(a1, .inl (cy 1, 10, .inl (upd f0 (0 : Int32).toNatClampNeg x0))), (a2, .inl (cy 1, 10, .inl (upd f1 (0 : Int32).toNatClampNeg x1))), (a3, .inl (cy 1, 10, .inl f2)), (a0, .inr (10, [.ref a1, .ref a2, .ref a3, .int 0]))] := hD
  refine lv_aload_n hx hb dX5_append_27 rfl (lv_at hl 0 rfl) ?_
  refine va_get (D := D) (ci := 10) (v := .ref a3) (C := RX5) (T := TX5) (N := 4) hx hb hts ax_12 hown hE.1 hP 3 rfl rfl 2 (by decide) (hts _ tw_131) (fun _ h9 => h9) rfl dX5_append_28 ?_
  refine lv_aload_n hx hb dX5_append_31 rfl (lv_at hl 0 rfl) ?_
  refine va_get (D := D) (ci := 10) (v := .int 0) (C := RX5) (T := TX5) (N := 4) hx hb hts ax_12 hown hE.1 hP 3 rfl rfl 3 (by decide) (hts _ tw_132) (fun _ h9 => h9) rfl dX5_append_32 ?_
  refine lv_iload_n hx hb dX5_append_35 rfl (lv_at hl 3 rfl) ?_
  refine va_iast hx hb hE.1 hP hD hS 2 1 rfl rfl (by unfold vp_in; decide) dX5_append_36 (fun H locs hP hD hS => ?_)
  have hP : va_P D vwCl [(a1, .inl (cy 1, 10, .inl (upd f0 (0 : Int32).toNatClampNeg x0))), (a2, .inl (cy 1, 10, .inl (upd f1 (0 : Int32).toNatClampNeg x1))), (a3, .inl (cy 1, 10, .inl (upd f2 (0 : Int32).toNatClampNeg x2))), (a0, .inr (10, [.ref a1, .ref a2, .ref a3, .int 0]))] H := hP
  have hD : va_D A [(a1, .inl (cy 1, 10, .inl (upd f0 (0 : Int32).toNatClampNeg x0))), (a2, .inl (cy 1, 10, .inl (upd f1 (0 : Int32).toNatClampNeg x1))), (a3, .inl (cy 1, 10, .inl (upd f2 (0 : Int32).toNatClampNeg x2))), (a0, .inr (10, [.ref a1, .ref a2, .ref a3, .int 0]))] := hD
  refine lv_aload_n hx hb dX5_append_37 rfl (lv_at hl 0 rfl) ?_
  refine lv_dup hx hb dX5_append_38 rfl ?_
  refine va_get (D := D) (ci := 10) (v := .int 0) (C := RX5) (T := TX5) (N := 4) hx hb hts ax_12 hown hE.1 hP 3 rfl rfl 3 (by decide) (hts _ tw_132) (fun _ h9 => h9) rfl dX5_append_39 ?_
  refine lv_iconst (v := 1) hx hb dX5_append_42 (by decide) ?_
  refine lv_iadd hx hb dX5_append_43 ?_
  refine tp_i 1 (by decide) ?_
  refine va_put (D := D) (ci := 10) (v := .int 1) (ty := .int) (C := RX5) (T := TX5) (N := 4) hx hb hts ax_12 tyX5 tyX5_ok nmX5 hown hE.1 hP hD hS 3 rfl rfl 3 (by decide) (hts _ tw_132) (fun _ h9 => h9) rfl (by decide +kernel) rfl rfl (Nat.le_of_ble_eq_true rfl) dX5_append_44 (fun H locs hP hD hS => ?_)
  have hP : va_P D vwCl [(a1, .inl (cy 1, 10, .inl (upd f0 (0 : Int32).toNatClampNeg x0))), (a2, .inl (cy 1, 10, .inl (upd f1 (0 : Int32).toNatClampNeg x1))), (a3, .inl (cy 1, 10, .inl (upd f2 (0 : Int32).toNatClampNeg x2))), (a0, .inr (10, [.ref a1, .ref a2, .ref a3, .int 1]))] H := hP
  have hD : va_D A [(a1, .inl (cy 1, 10, .inl (upd f0 (0 : Int32).toNatClampNeg x0))), (a2, .inl (cy 1, 10, .inl (upd f1 (0 : Int32).toNatClampNeg x1))), (a3, .inl (cy 1, 10, .inl (upd f2 (0 : Int32).toNatClampNeg x2))), (a0, .inr (10, [.ref a1, .ref a2, .ref a3, .int 1]))] := hD
  refine lv_aload_n hx hb dX5_append_47 rfl (lv_at hl 0 rfl) ?_
  refine va_get (D := D) (ci := 10) (v := .int 1) (C := RX5) (T := TX5) (N := 4) hx hb hts ax_12 hown hE.1 hP 3 rfl rfl 3 (by decide) (hts _ tw_132) (fun _ h9 => h9) rfl dX5_append_48 ?_
  exact en_z hx hb hr hlk hP hD hS rfl (fun _ => 0) (is := [3, 0, 1, 2]) rfl rfl (Nat.le_of_ble_eq_true rfl) (Nat.le_of_ble_eq_true rfl) dX5_append_51
set_option maxHeartbeats 4000000 in
set_option maxRecDepth 100000 in
theorem k523_X9_addStream (l : Launch) (D : va_G) (cy : Nat → ClassId) (g : Nat → Nat) (x0 : Int32) (x1 : Int32) (x2 : Int32) (a0 : Nat) (a1 : Nat) (a2 : Nat) (a3 : Nat) (a4 : Nat) (v0 : Value) (v1 : Value) (v2 : Value) (v3 : Value) (v4 : Value) (v5 : Value) (f0 : Nat → Int32) (f1 : Nat → Int32) (f2 : Nat → Int32) (sz : Nat) (h0 : ¬ x0 < 50) (h1 : ¬ (999 : Int32) < x0) (h2 : ¬ x1 < 50) (h3 : ¬ (999 : Int32) < x1) (h4 : ¬ x2 < 1) (h5 : ¬ (50 : Int32) < x2) (h6 : ¬ x0 = x1) : Met l yX9_addStream [.code yX9_addStream cX9_addStream 4 (some .int)] ({ frames := 2, cells := 0, slots := 0, locals := 43 }) (PC D cy g [(a0, .inr (14, [v0, v1, v2, v3, .ref a1, v4, v5])), (a1, .inr (10, [.ref a2, .ref a3, .ref a4, .int 0])), (a2, .inl (cy 1, 10, .inl f0)), (a3, .inl (cy 1, 10, .inl f1)), (a4, .inl (cy 1, 10, .inl f2))] sz [.ref a0, .int x0, .int x1, .int x2]) (QI D 1 (fun ad => [(a0, .inr (14, [v0, v1, v2, v3, .ref a1, v4, v5])), (a1, .inr (10, [.ref a2, .ref a3, .ref a4, .int 1])), (a2, .inl (cy 1, 10, .inl (upd f0 (0 : Int32).toNatClampNeg x0))), (a3, .inl (cy 1, 10, .inl (upd f1 (0 : Int32).toNatClampNeg x1))), (a4, .inl (cy 1, 10, .inl (upd f2 (0 : Int32).toNatClampNeg x2)))]) (va_A [(a0, .inr (14, [v0, v1, v2, v3, .ref a1, v4, v5])), (a1, .inr (10, [.ref a2, .ref a3, .ref a4, .int 0])), (a2, .inl (cy 1, 10, .inl f0)), (a3, .inl (cy 1, 10, .inl f1)), (a4, .inl (cy 1, 10, .inl f2))] sz)) 0 0 (va_A [(a0, .inr (14, [v0, v1, v2, v3, .ref a1, v4, v5])), (a1, .inr (10, [.ref a2, .ref a3, .ref a4, .int 0])), (a2, .inl (cy 1, 10, .inl f0)), (a3, .inl (cy 1, 10, .inl f1)), (a4, .inl (cy 1, 10, .inl f2))] sz) := by
  refine st_I (by decide) (Nat.le_of_ble_eq_true rfl) ?_
  intro p e s m args below meth c A ls hx hb hr hml hown hlk hnm hsz hP hD hA hE hts hS hl
  have hown : s.vm.findClass RX9 = some m.cls := hown
  have hl : lv_has ls 4 [(0, .ref a0), (1, .int x0), (2, .int x1), (3, .int x2)] := hl
  refine lv_iload_n hx hb dX9_addStream_0 rfl (lv_at hl 1 rfl) ?_
  refine lv_bipush (v := 50) hx hb dX9_addStream_1 (by decide) ?_
  refine lv_sipush (v := 999) hx hb dX9_addStream_3 (by decide) ?_
  refine ca_i (isC := []) (isR := [0, 1, 2, 3, 4]) (wr := [(a0, .inr (14, [v0, v1, v2, v3, .ref a1, v4, v5])), (a1, .inr (10, [.ref a2, .ref a3, .ref a4, .int 0])), (a2, .inl (cy 1, 10, .inl f0)), (a3, .inl (cy 1, 10, .inl f1)), (a4, .inl (cy 1, 10, .inl f2))]) (rn_S (isC := []) (wc := []) (As := [.int x0, .int 50, .int 999]) (rest := []) (n := 3) hx hb hml hown hts hE hS hP hD hA hl.1 (k30_X9_isOutside l D cy g x0 50 999 s.heap.size h0 h1) rfl rfl ax_30 rfl rfl ax_31 ⟨Nat.le_of_ble_eq_true rfl, Nat.le_of_ble_eq_true rfl⟩ rfl rfl (Nat.le_of_ble_eq_true rfl) dX9_addStream_6 ⟨(Nat.le_of_ble_eq_true rfl), (Nat.le_of_ble_eq_true rfl)⟩) hP hD hS hA rfl rfl rfl (by decide) (fun ad6 H locs hP hD hS => ?_)
  have hP : va_P D vwCl [(a0, .inr (14, [v0, v1, v2, v3, .ref a1, v4, v5])), (a1, .inr (10, [.ref a2, .ref a3, .ref a4, .int 0])), (a2, .inl (cy 1, 10, .inl f0)), (a3, .inl (cy 1, 10, .inl f1)), (a4, .inl (cy 1, 10, .inl f2))] H := hP
  have hD : va_D A [(a0, .inr (14, [v0, v1, v2, v3, .ref a1, v4, v5])), (a1, .inr (10, [.ref a2, .ref a3, .ref a4, .int 0])), (a2, .inl (cy 1, 10, .inl f0)), (a3, .inl (cy 1, 10, .inl f1)), (a4, .inl (cy 1, 10, .inl f2))] := hD
  refine lv_if_ne (tgt := 39) hx hb dX9_addStream_9 (by decide) (fun z => absurd (by decide) z) (fun _ => ?_)
  refine lv_iload_n hx hb dX9_addStream_12 rfl (lv_at hl 2 rfl) ?_
  refine lv_bipush (v := 50) hx hb dX9_addStream_13 (by decide) ?_
  refine lv_sipush (v := 999) hx hb dX9_addStream_15 (by decide) ?_
  refine ca_i (isC := []) (isR := [0, 1, 2, 3, 4]) (wr := [(a0, .inr (14, [v0, v1, v2, v3, .ref a1, v4, v5])), (a1, .inr (10, [.ref a2, .ref a3, .ref a4, .int 0])), (a2, .inl (cy 1, 10, .inl f0)), (a3, .inl (cy 1, 10, .inl f1)), (a4, .inl (cy 1, 10, .inl f2))]) (rn_S (isC := []) (wc := []) (As := [.int x1, .int 50, .int 999]) (rest := []) (n := 3) hx hb hml hown hts hE hS hP hD hA hl.1 (k30_X9_isOutside l D cy g x1 50 999 H.size h2 h3) rfl rfl ax_30 rfl rfl ax_31 ⟨Nat.le_of_ble_eq_true rfl, Nat.le_of_ble_eq_true rfl⟩ rfl rfl (Nat.le_of_ble_eq_true rfl) dX9_addStream_18 ⟨(Nat.le_of_ble_eq_true rfl), (Nat.le_of_ble_eq_true rfl)⟩) hP hD hS hA rfl rfl rfl (by decide) (fun ad18 H locs hP hD hS => ?_)
  have hP : va_P D vwCl [(a0, .inr (14, [v0, v1, v2, v3, .ref a1, v4, v5])), (a1, .inr (10, [.ref a2, .ref a3, .ref a4, .int 0])), (a2, .inl (cy 1, 10, .inl f0)), (a3, .inl (cy 1, 10, .inl f1)), (a4, .inl (cy 1, 10, .inl f2))] H := hP
  have hD : va_D A [(a0, .inr (14, [v0, v1, v2, v3, .ref a1, v4, v5])), (a1, .inr (10, [.ref a2, .ref a3, .ref a4, .int 0])), (a2, .inl (cy 1, 10, .inl f0)), (a3, .inl (cy 1, 10, .inl f1)), (a4, .inl (cy 1, 10, .inl f2))] := hD
  refine lv_if_ne (tgt := 39) hx hb dX9_addStream_21 (by decide) (fun z => absurd (by decide) z) (fun _ => ?_)
  refine lv_iload_n hx hb dX9_addStream_24 rfl (lv_at hl 3 rfl) ?_
  refine lv_iconst (v := 1) hx hb dX9_addStream_25 (by decide) ?_
  refine lv_bipush (v := 50) hx hb dX9_addStream_26 (by decide) ?_
  refine ca_i (isC := []) (isR := [0, 1, 2, 3, 4]) (wr := [(a0, .inr (14, [v0, v1, v2, v3, .ref a1, v4, v5])), (a1, .inr (10, [.ref a2, .ref a3, .ref a4, .int 0])), (a2, .inl (cy 1, 10, .inl f0)), (a3, .inl (cy 1, 10, .inl f1)), (a4, .inl (cy 1, 10, .inl f2))]) (rn_S (isC := []) (wc := []) (As := [.int x2, .int 1, .int 50]) (rest := []) (n := 3) hx hb hml hown hts hE hS hP hD hA hl.1 (k30_X9_isOutside l D cy g x2 1 50 H.size h4 h5) rfl rfl ax_30 rfl rfl ax_31 ⟨Nat.le_of_ble_eq_true rfl, Nat.le_of_ble_eq_true rfl⟩ rfl rfl (Nat.le_of_ble_eq_true rfl) dX9_addStream_28 ⟨(Nat.le_of_ble_eq_true rfl), (Nat.le_of_ble_eq_true rfl)⟩) hP hD hS hA rfl rfl rfl (by decide) (fun ad28 H locs hP hD hS => ?_)
  have hP : va_P D vwCl [(a0, .inr (14, [v0, v1, v2, v3, .ref a1, v4, v5])), (a1, .inr (10, [.ref a2, .ref a3, .ref a4, .int 0])), (a2, .inl (cy 1, 10, .inl f0)), (a3, .inl (cy 1, 10, .inl f1)), (a4, .inl (cy 1, 10, .inl f2))] H := hP
  have hD : va_D A [(a0, .inr (14, [v0, v1, v2, v3, .ref a1, v4, v5])), (a1, .inr (10, [.ref a2, .ref a3, .ref a4, .int 0])), (a2, .inl (cy 1, 10, .inl f0)), (a3, .inl (cy 1, 10, .inl f1)), (a4, .inl (cy 1, 10, .inl f2))] := hD
  refine lv_if_ne (tgt := 39) hx hb dX9_addStream_31 (by decide) (fun z => absurd (by decide) z) (fun _ => ?_)
  refine lv_iload_n hx hb dX9_addStream_34 rfl (lv_at hl 1 rfl) ?_
  refine lv_iload_n hx hb dX9_addStream_35 rfl (lv_at hl 2 rfl) ?_
  refine lv_icmp_ne (tgt := 49) hx hb dX9_addStream_36 (by decide) (fun _ => ?_) (fun z => absurd z h6)
  refine lv_aload_n hx hb dX9_addStream_49 rfl (lv_at hl 0 rfl) ?_
  refine va_get (D := D) (ci := 14) (v := .ref a1) (C := RX9) (T := TX9) (N := 7) hx hb hts ax_16 hown hE.1 hP 0 rfl rfl 4 (by decide) (hts _ tw_206) (fun _ h9 => h9) rfl dX9_addStream_50 ?_
  refine ca_i (isC := [1]) (isR := [0, 2, 3, 4]) (wr := [(a0, .inr (14, [v0, v1, v2, v3, .ref a1, v4, v5])), (a2, .inl (cy 1, 10, .inl f0)), (a3, .inl (cy 1, 10, .inl f1)), (a4, .inl (cy 1, 10, .inl f2))]) (rn_V (ci := 10) (q0 := 1) (isC := [1]) (wc := [(a1, .inr (10, [.ref a2, .ref a3, .ref a4, .int 0]))]) (As := []) (rest := []) (n := 0) hx hb hml hown hts hE hS hP hD hA hl.1 (k521_X5_isFull l D cy g a1 (.ref a2) (.ref a3) (.ref a4) H.size ) rfl rfl rfl rfl rfl ax_352 rfl rfl ax_351 ⟨Nat.le_of_ble_eq_true rfl, Nat.le_of_ble_eq_true rfl⟩ rfl rfl (Nat.le_of_ble_eq_true rfl) dX9_addStream_53 ⟨(Nat.le_of_ble_eq_true rfl), (Nat.le_of_ble_eq_true rfl)⟩) hP hD hS hA rfl rfl rfl (by decide) (fun ad53 H locs hP hD hS => ?_)
  have hP : va_P D vwCl [(a0, .inr (14, [v0, v1, v2, v3, .ref a1, v4, v5])), (a2, .inl (cy 1, 10, .inl f0)), (a3, .inl (cy 1, 10, .inl f1)), (a4, .inl (cy 1, 10, .inl f2)), (a1, .inr (10, [.ref a2, .ref a3, .ref a4, .int 0]))] H := hP
  have hD : va_D A [(a0, .inr (14, [v0, v1, v2, v3, .ref a1, v4, v5])), (a2, .inl (cy 1, 10, .inl f0)), (a3, .inl (cy 1, 10, .inl f1)), (a4, .inl (cy 1, 10, .inl f2)), (a1, .inr (10, [.ref a2, .ref a3, .ref a4, .int 0]))] := hD
  refine lv_if_eq (tgt := 70) hx hb dX9_addStream_56 (by decide) (fun _ => ?_) (fun z => absurd (by decide) z)
  refine lv_aload_n hx hb dX9_addStream_70 rfl (lv_at hl 0 rfl) ?_
  refine va_get (D := D) (ci := 14) (v := .ref a1) (C := RX9) (T := TX9) (N := 7) hx hb hts ax_16 hown hE.1 hP 0 rfl rfl 4 (by decide) (hts _ tw_206) (fun _ h9 => h9) rfl dX9_addStream_71 ?_
  refine lv_iload_n hx hb dX9_addStream_74 rfl (lv_at hl 1 rfl) ?_
  refine lv_iload_n hx hb dX9_addStream_75 rfl (lv_at hl 2 rfl) ?_
  refine lv_iload_n hx hb dX9_addStream_76 rfl (lv_at hl 3 rfl) ?_
  refine ca_i (isC := [4, 1, 2, 3]) (isR := [0]) (wr := [(a0, .inr (14, [v0, v1, v2, v3, .ref a1, v4, v5]))]) (rn_V (ci := 10) (q0 := 4) (isC := [4, 1, 2, 3]) (wc := [(a1, .inr (10, [.ref a2, .ref a3, .ref a4, .int 0])), (a2, .inl (cy 1, 10, .inl f0)), (a3, .inl (cy 1, 10, .inl f1)), (a4, .inl (cy 1, 10, .inl f2))]) (As := [.int x0, .int x1, .int x2]) (rest := []) (n := 3) hx hb hml hown hts hE hS hP hD hA hl.1 (k522_X5_append l D cy g x0 x1 x2 a1 a2 a3 a4 f0 f1 f2 H.size ) rfl rfl rfl rfl rfl ax_353 rfl rfl ax_354 ⟨Nat.le_of_ble_eq_true rfl, Nat.le_of_ble_eq_true rfl⟩ rfl rfl (Nat.le_of_ble_eq_true rfl) dX9_addStream_77 ⟨(Nat.le_of_ble_eq_true rfl), (Nat.le_of_ble_eq_true rfl)⟩) hP hD hS hA rfl rfl rfl (by decide) (fun ad77 H locs hP hD hS => ?_)
  have hP : va_P D vwCl [(a0, .inr (14, [v0, v1, v2, v3, .ref a1, v4, v5])), (a1, .inr (10, [.ref a2, .ref a3, .ref a4, .int 1])), (a2, .inl (cy 1, 10, .inl (upd f0 (0 : Int32).toNatClampNeg x0))), (a3, .inl (cy 1, 10, .inl (upd f1 (0 : Int32).toNatClampNeg x1))), (a4, .inl (cy 1, 10, .inl (upd f2 (0 : Int32).toNatClampNeg x2)))] H := hP
  have hD : va_D A [(a0, .inr (14, [v0, v1, v2, v3, .ref a1, v4, v5])), (a1, .inr (10, [.ref a2, .ref a3, .ref a4, .int 1])), (a2, .inl (cy 1, 10, .inl (upd f0 (0 : Int32).toNatClampNeg x0))), (a3, .inl (cy 1, 10, .inl (upd f1 (0 : Int32).toNatClampNeg x1))), (a4, .inl (cy 1, 10, .inl (upd f2 (0 : Int32).toNatClampNeg x2)))] := hD
  exact en_z hx hb hr hlk hP hD hS rfl (fun _ => 0) (is := [0, 1, 2, 3, 4]) rfl rfl (Nat.le_of_ble_eq_true rfl) (Nat.le_of_ble_eq_true rfl) dX9_addStream_80
set_option maxHeartbeats 4000000 in
set_option maxRecDepth 100000 in
theorem k524_L_addStream (l : Launch) (D : va_G) (cy : Nat → ClassId) (g : Nat → Nat) (x0 : Int32) (x1 : Int32) (x2 : Int32) (a0 : Nat) (a1 : Nat) (a2 : Nat) (a3 : Nat) (a4 : Nat) (a5 : Nat) (v0 : Value) (v1 : Value) (v2 : Value) (v3 : Value) (v4 : Value) (v5 : Value) (f0 : Nat → Int32) (f1 : Nat → Int32) (f2 : Nat → Int32) (f3 : Nat → Int64) (sz : Nat) (h0 : ¬ x0 < 50) (h1 : ¬ (999 : Int32) < x0) (h2 : ¬ x1 < 50) (h3 : ¬ (999 : Int32) < x1) (h4 : ¬ x2 < 1) (h5 : ¬ (50 : Int32) < x2) (h6 : ¬ x0 = x1) : Met l yL_addStream [.codeWith yL_addStream cL_addStream 6 (some .int) [(0, 12, 15, 13), (0, 12, 19, 15)]] ({ frames := 3, cells := 0, slots := 0, locals := 66 }) (PC D cy g [(a0, .inr (14, [v0, v1, v2, v3, .ref a1, v4, v5])), (a1, .inr (10, [.ref a2, .ref a3, .ref a4, .int 0])), (a2, .inl (cy 1, 10, .inl f0)), (a3, .inl (cy 1, 10, .inl f1)), (a4, .inl (cy 1, 10, .inl f2)), (a5, .inl (cy 2, 1, .inr (.inl f3)))] sz [.ref a0, .int x0, .int x1, .int x2, .ref a5]) (QI D 0 (fun ad => [(a5, .inl (cy 2, 1, .inr (.inl (vp_updL f3 (0 : Int32).toNatClampNeg 1))))]) (va_A [(a0, .inr (14, [v0, v1, v2, v3, .ref a1, v4, v5])), (a1, .inr (10, [.ref a2, .ref a3, .ref a4, .int 0])), (a2, .inl (cy 1, 10, .inl f0)), (a3, .inl (cy 1, 10, .inl f1)), (a4, .inl (cy 1, 10, .inl f2)), (a5, .inl (cy 2, 1, .inr (.inl f3)))] sz)) 0 0 (va_A [(a0, .inr (14, [v0, v1, v2, v3, .ref a1, v4, v5])), (a1, .inr (10, [.ref a2, .ref a3, .ref a4, .int 0])), (a2, .inl (cy 1, 10, .inl f0)), (a3, .inl (cy 1, 10, .inl f1)), (a4, .inl (cy 1, 10, .inl f2)), (a5, .inl (cy 2, 1, .inr (.inl f3)))] sz) := by
  refine sh_I (by decide) (Nat.le_of_ble_eq_true rfl) ?_
  intro p e s m args below meth c A ls hx hb hr hml hown hlk hnm hsz hP hD hA hE hts hS hl htb
  have hown : s.vm.findClass RL = some m.cls := hown
  have hl : lv_has ls 6 [(0, .ref a0), (1, .int x0), (2, .int x1), (3, .int x2), (4, .ref a5)] := hl
  refine lv_aload hx hb dL_addStream_0 (lv_at hl 4 rfl) ?_
  refine lv_iconst (v := 0) hx hb dL_addStream_2 (by decide) ?_
  refine lv_aload_n hx hb dL_addStream_3 rfl (lv_at hl 0 rfl) ?_
  refine lv_iload_n hx hb dL_addStream_4 rfl (lv_at hl 1 rfl) ?_
  refine lv_iload_n hx hb dL_addStream_5 rfl (lv_at hl 2 rfl) ?_
  refine lv_iload_n hx hb dL_addStream_6 rfl (lv_at hl 3 rfl) ?_
  refine ca_i (isC := [0, 1, 2, 3, 4]) (isR := [5]) (wr := [(a5, .inl (cy 2, 1, .inr (.inl f3)))]) (rn_V (ci := 14) (q0 := 0) (isC := [0, 1, 2, 3, 4]) (wc := [(a0, .inr (14, [v0, v1, v2, v3, .ref a1, v4, v5])), (a1, .inr (10, [.ref a2, .ref a3, .ref a4, .int 0])), (a2, .inl (cy 1, 10, .inl f0)), (a3, .inl (cy 1, 10, .inl f1)), (a4, .inl (cy 1, 10, .inl f2))]) (As := [.int x0, .int x1, .int x2]) (rest := [.int 0, .ref a5]) (n := 3) hx hb hml hown hts hE hS hP hD hA hl.1 (k523_X9_addStream l D cy g x0 x1 x2 a0 a1 a2 a3 a4 (v0) (v1) (v2) (v3) (v4) (v5) f0 f1 f2 s.heap.size h0 h1 h2 h3 h4 h5 h6) rfl rfl rfl rfl rfl ax_344 rfl rfl ax_345 ⟨Nat.le_of_ble_eq_true rfl, Nat.le_of_ble_eq_true rfl⟩ rfl rfl (Nat.le_of_ble_eq_true rfl) dL_addStream_7 ⟨(Nat.le_of_ble_eq_true rfl), (Nat.le_of_ble_eq_true rfl)⟩) hP hD hS hA rfl rfl rfl (by decide) (fun ad7 H locs hP hD hS => ?_)
  have hP : va_P D vwCl [(a5, .inl (cy 2, 1, .inr (.inl f3))), (a0, .inr (14, [v0, v1, v2, v3, .ref a1, v4, v5])), (a1, .inr (10, [.ref a2, .ref a3, .ref a4, .int 1])), (a2, .inl (cy 1, 10, .inl (upd f0 (0 : Int32).toNatClampNeg x0))), (a3, .inl (cy 1, 10, .inl (upd f1 (0 : Int32).toNatClampNeg x1))), (a4, .inl (cy 1, 10, .inl (upd f2 (0 : Int32).toNatClampNeg x2)))] H := hP
  have hD : va_D A [(a5, .inl (cy 2, 1, .inr (.inl f3))), (a0, .inr (14, [v0, v1, v2, v3, .ref a1, v4, v5])), (a1, .inr (10, [.ref a2, .ref a3, .ref a4, .int 1])), (a2, .inl (cy 1, 10, .inl (upd f0 (0 : Int32).toNatClampNeg x0))), (a3, .inl (cy 1, 10, .inl (upd f1 (0 : Int32).toNatClampNeg x1))), (a4, .inl (cy 1, 10, .inl (upd f2 (0 : Int32).toNatClampNeg x2)))] := hD
  refine lv_i2l (v := 1) hx hb dL_addStream_10 (by decide) ?_
  refine va_last hx hb hE.1 hP hD hS 0 2 rfl rfl (by unfold vp_in; decide) dL_addStream_11 (fun H locs hP hD hS => ?_)
  have hP : va_P D vwCl [(a5, .inl (cy 2, 1, .inr (.inl (vp_updL f3 (0 : Int32).toNatClampNeg 1)))), (a0, .inr (14, [v0, v1, v2, v3, .ref a1, v4, v5])), (a1, .inr (10, [.ref a2, .ref a3, .ref a4, .int 1])), (a2, .inl (cy 1, 10, .inl (upd f0 (0 : Int32).toNatClampNeg x0))), (a3, .inl (cy 1, 10, .inl (upd f1 (0 : Int32).toNatClampNeg x1))), (a4, .inl (cy 1, 10, .inl (upd f2 (0 : Int32).toNatClampNeg x2)))] H := hP
  have hD : va_D A [(a5, .inl (cy 2, 1, .inr (.inl (vp_updL f3 (0 : Int32).toNatClampNeg 1)))), (a0, .inr (14, [v0, v1, v2, v3, .ref a1, v4, v5])), (a1, .inr (10, [.ref a2, .ref a3, .ref a4, .int 1])), (a2, .inl (cy 1, 10, .inl (upd f0 (0 : Int32).toNatClampNeg x0))), (a3, .inl (cy 1, 10, .inl (upd f1 (0 : Int32).toNatClampNeg x1))), (a4, .inl (cy 1, 10, .inl (upd f2 (0 : Int32).toNatClampNeg x2)))] := hD
  refine lv_goto (tgt := 23) hx hb dL_addStream_12 (by decide) ?_
  refine lv_iconst (v := 0) hx hb dL_addStream_23 (by decide) ?_
  exact en_z hx hb hr hlk hP hD hS rfl (fun _ => 0) (is := [0]) rfl rfl (Nat.le_of_ble_eq_true rfl) (Nat.le_of_ble_eq_true rfl) dL_addStream_24
set_option maxHeartbeats 4000000 in
set_option maxRecDepth 100000 in
theorem k525_X10_addStream (l : Launch) (D : va_G) (cy : Nat → ClassId) (g : Nat → Nat) (x0 : Int32) (x1 : Int32) (x2 : Int32) (a0 : Nat) (a1 : Nat) (v0 : Value) (v1 : Value) (v2 : Value) (v3 : Value) (v4 : Value) (v5 : Value) (v6 : Value) (v7 : Value) (v8 : Value) (v9 : Value) (v10 : Value) (v11 : Value) (v12 : Value) (v13 : Value) (v14 : Value) (v15 : Value) (v16 : Value) (v17 : Value) (v18 : Value) (v19 : Value) (v20 : Value) (v21 : Value) (v22 : Value) (v23 : Value) (v24 : Value) (v25 : Value) (v26 : Value) (sz : Nat) (h0 : ¬ x0 < 50) (h1 : ¬ (999 : Int32) < x0) (h2 : ¬ x1 < 50) (h3 : ¬ (999 : Int32) < x1) (h4 : ¬ x2 < 1) (h5 : ¬ (50 : Int32) < x2) (h6 : ¬ x0 = x1) : Met l yX10_addStream [.code yX10_addStream cX10_addStream 4 (some .int)] ({ frames := 5, cells := 2, slots := 13, locals := 101 }) (PC D cy g [(a0, .inr (15, [v0, v1, v2, v3, v4, v5, v6, v7, v8, v9, v10, v11, v12, v13, v14, v15, v16, .ref a1, v17, v18, v19, v20, v21, v22, v23, v24, v25, v26])), (a1, .inr (4, [.int 0, .ref (g 0), .int 0]))] sz [.ref a0, .int x0, .int x1, .int x2]) (QI D 1 (fun ad => [(a0, .inr (15, [.int 0, v1, v2, v3, v4, v5, v6, v7, v8, v9, v10, v11, v12, v13, v14, v15, v16, .ref a1, v17, v18, v19, v20, v21, v22, v23, v24, v25, v26]))]) (va_A [(a0, .inr (15, [v0, v1, v2, v3, v4, v5, v6, v7, v8, v9, v10, v11, v12, v13, v14, v15, v16, .ref a1, v17, v18, v19, v20, v21, v22, v23, v24, v25, v26])), (a1, .inr (4, [.int 0, .ref (g 0), .int 0]))] sz)) 2 13 (va_A [(a0, .inr (15, [v0, v1, v2, v3, v4, v5, v6, v7, v8, v9, v10, v11, v12, v13, v14, v15, v16, .ref a1, v17, v18, v19, v20, v21, v22, v23, v24, v25, v26])), (a1, .inr (4, [.int 0, .ref (g 0), .int 0]))] sz) := by
  refine st_I (by decide) (Nat.le_of_ble_eq_true rfl) ?_
  intro p e s m args below meth c A ls hx hb hr hml hown hlk hnm hsz hP hD hA hE hts hS hl
  have hown : s.vm.findClass RX10 = some m.cls := hown
  have hl : lv_has ls 4 [(0, .ref a0), (1, .int x0), (2, .int x1), (3, .int x2)] := hl
  refine lv_aload_n hx hb dX10_addStream_0 rfl (lv_at hl 0 rfl) ?_
  refine ca_v (isC := [0]) (isR := [1]) (wr := [(a1, .inr (4, [.int 0, .ref (g 0), .int 0]))]) (rn_V (ci := 15) (q0 := 0) (isC := [0]) (wc := [(a0, .inr (15, [v0, v1, v2, v3, v4, v5, v6, v7, v8, v9, v10, v11, v12, v13, v14, v15, v16, .ref a1, v17, v18, v19, v20, v21, v22, v23, v24, v25, v26]))]) (As := []) (rest := []) (n := 0) hx hb hml hown hts hE hS hP hD hA hl.1 (k20_X10_begins l D cy g a0 (v0) (v1) (v2) (v3) (v4) (v5) (v6) (v7) (v8) (v9) (v10) (v11) (v12) (v13) (v14) (v15) (v16) (.ref a1) (v17) (v18) (v19) (v20) (v21) (v22) (v23) (v24) (v25) (v26) s.heap.size ) rfl rfl rfl rfl rfl ax_37 rfl rfl ax_38 ⟨Nat.le_of_ble_eq_true rfl, Nat.le_of_ble_eq_true rfl⟩ rfl rfl (Nat.le_of_ble_eq_true rfl) dX10_addStream_1 ⟨(Nat.le_of_ble_eq_true rfl), (Nat.le_of_ble_eq_true rfl)⟩) hP hD hS hA rfl rfl rfl (by decide) (fun ad1 H locs hP hD hS => ?_)
  have hP : va_P D vwCl [(a1, .inr (4, [.int 0, .ref (g 0), .int 0])), (a0, .inr (15, [.int 0, v1, v2, v3, v4, v5, v6, v7, v8, v9, v10, v11, v12, v13, v14, v15, v16, .ref a1, v17, v18, v19, v20, v21, v22, v23, v24, v25, v26]))] H := hP
  have hD : va_D A [(a1, .inr (4, [.int 0, .ref (g 0), .int 0])), (a0, .inr (15, [.int 0, v1, v2, v3, v4, v5, v6, v7, v8, v9, v10, v11, v12, v13, v14, v15, v16, .ref a1, v17, v18, v19, v20, v21, v22, v23, v24, v25, v26]))] := hD
  refine lv_aload_n hx hb dX10_addStream_4 rfl (lv_at hl 0 rfl) ?_
  refine lv_iload_n hx hb dX10_addStream_5 rfl (lv_at hl 1 rfl) ?_
  refine lv_i2l (v := x0.toInt64) hx hb dX10_addStream_6 rfl ?_
  refine lv_ldc2 (v := 50) hx hb hown (hts _ tw_314) dX10_addStream_7 ?_
  refine lv_ldc2 (v := 999) hx hb hown (hts _ tw_493) dX10_addStream_10 ?_
  refine ca_i (isC := []) (isR := [0, 1]) (wr := [(a1, .inr (4, [.int 0, .ref (g 0), .int 0])), (a0, .inr (15, [.int 0, v1, v2, v3, v4, v5, v6, v7, v8, v9, v10, v11, v12, v13, v14, v15, v16, .ref a1, v17, v18, v19, v20, v21, v22, v23, v24, v25, v26]))]) (rn_S (isC := []) (wc := []) (As := [.long x0.toInt64, .long 50, .long 999]) (rest := [.ref a0]) (n := 3) hx hb hml hown hts hE hS hP hD hA hl.1 (k33_X10_in l D cy g x0.toInt64 50 999 H.size (wl_nlt rfl (by decide) h0) (wl_nlt (by decide) rfl h1)) rfl rfl ax_39 rfl rfl ax_40 ⟨Nat.le_of_ble_eq_true rfl, Nat.le_of_ble_eq_true rfl⟩ rfl rfl (Nat.le_of_ble_eq_true rfl) dX10_addStream_13 ⟨(Nat.le_of_ble_eq_true rfl), (Nat.le_of_ble_eq_true rfl)⟩) hP hD hS hA rfl rfl rfl (by decide) (fun ad13 H locs hP hD hS => ?_)
  have hP : va_P D vwCl [(a1, .inr (4, [.int 0, .ref (g 0), .int 0])), (a0, .inr (15, [.int 0, v1, v2, v3, v4, v5, v6, v7, v8, v9, v10, v11, v12, v13, v14, v15, v16, .ref a1, v17, v18, v19, v20, v21, v22, v23, v24, v25, v26]))] H := hP
  have hD : va_D A [(a1, .inr (4, [.int 0, .ref (g 0), .int 0])), (a0, .inr (15, [.int 0, v1, v2, v3, v4, v5, v6, v7, v8, v9, v10, v11, v12, v13, v14, v15, v16, .ref a1, v17, v18, v19, v20, v21, v22, v23, v24, v25, v26]))] := hD
  refine lv_if_eq (tgt := 50) hx hb dX10_addStream_16 (by decide) (fun z => absurd z (by decide)) (fun _ => ?_)
  refine lv_iload_n hx hb dX10_addStream_19 rfl (lv_at hl 2 rfl) ?_
  refine lv_i2l (v := x1.toInt64) hx hb dX10_addStream_20 rfl ?_
  refine lv_ldc2 (v := 50) hx hb hown (hts _ tw_314) dX10_addStream_21 ?_
  refine lv_ldc2 (v := 999) hx hb hown (hts _ tw_493) dX10_addStream_24 ?_
  refine ca_i (isC := []) (isR := [0, 1]) (wr := [(a1, .inr (4, [.int 0, .ref (g 0), .int 0])), (a0, .inr (15, [.int 0, v1, v2, v3, v4, v5, v6, v7, v8, v9, v10, v11, v12, v13, v14, v15, v16, .ref a1, v17, v18, v19, v20, v21, v22, v23, v24, v25, v26]))]) (rn_S (isC := []) (wc := []) (As := [.long x1.toInt64, .long 50, .long 999]) (rest := [.ref a0]) (n := 3) hx hb hml hown hts hE hS hP hD hA hl.1 (k33_X10_in l D cy g x1.toInt64 50 999 H.size (wl_nlt rfl (by decide) h2) (wl_nlt (by decide) rfl h3)) rfl rfl ax_39 rfl rfl ax_40 ⟨Nat.le_of_ble_eq_true rfl, Nat.le_of_ble_eq_true rfl⟩ rfl rfl (Nat.le_of_ble_eq_true rfl) dX10_addStream_27 ⟨(Nat.le_of_ble_eq_true rfl), (Nat.le_of_ble_eq_true rfl)⟩) hP hD hS hA rfl rfl rfl (by decide) (fun ad27 H locs hP hD hS => ?_)
  have hP : va_P D vwCl [(a1, .inr (4, [.int 0, .ref (g 0), .int 0])), (a0, .inr (15, [.int 0, v1, v2, v3, v4, v5, v6, v7, v8, v9, v10, v11, v12, v13, v14, v15, v16, .ref a1, v17, v18, v19, v20, v21, v22, v23, v24, v25, v26]))] H := hP
  have hD : va_D A [(a1, .inr (4, [.int 0, .ref (g 0), .int 0])), (a0, .inr (15, [.int 0, v1, v2, v3, v4, v5, v6, v7, v8, v9, v10, v11, v12, v13, v14, v15, v16, .ref a1, v17, v18, v19, v20, v21, v22, v23, v24, v25, v26]))] := hD
  refine lv_if_eq (tgt := 50) hx hb dX10_addStream_30 (by decide) (fun z => absurd z (by decide)) (fun _ => ?_)
  refine lv_iload_n hx hb dX10_addStream_33 rfl (lv_at hl 3 rfl) ?_
  refine lv_i2l (v := x2.toInt64) hx hb dX10_addStream_34 rfl ?_
  refine lv_lconst (v := 1) hx hb dX10_addStream_35 (by decide) ?_
  refine lv_ldc2 (v := 50) hx hb hown (hts _ tw_314) dX10_addStream_36 ?_
  refine ca_i (isC := []) (isR := [0, 1]) (wr := [(a1, .inr (4, [.int 0, .ref (g 0), .int 0])), (a0, .inr (15, [.int 0, v1, v2, v3, v4, v5, v6, v7, v8, v9, v10, v11, v12, v13, v14, v15, v16, .ref a1, v17, v18, v19, v20, v21, v22, v23, v24, v25, v26]))]) (rn_S (isC := []) (wc := []) (As := [.long x2.toInt64, .long 1, .long 50]) (rest := [.ref a0]) (n := 3) hx hb hml hown hts hE hS hP hD hA hl.1 (k33_X10_in l D cy g x2.toInt64 1 50 H.size (wl_nlt rfl (by decide) h4) (wl_nlt (by decide) rfl h5)) rfl rfl ax_39 rfl rfl ax_40 ⟨Nat.le_of_ble_eq_true rfl, Nat.le_of_ble_eq_true rfl⟩ rfl rfl (Nat.le_of_ble_eq_true rfl) dX10_addStream_39 ⟨(Nat.le_of_ble_eq_true rfl), (Nat.le_of_ble_eq_true rfl)⟩) hP hD hS hA rfl rfl rfl (by decide) (fun ad39 H locs hP hD hS => ?_)
  have hP : va_P D vwCl [(a1, .inr (4, [.int 0, .ref (g 0), .int 0])), (a0, .inr (15, [.int 0, v1, v2, v3, v4, v5, v6, v7, v8, v9, v10, v11, v12, v13, v14, v15, v16, .ref a1, v17, v18, v19, v20, v21, v22, v23, v24, v25, v26]))] H := hP
  have hD : va_D A [(a1, .inr (4, [.int 0, .ref (g 0), .int 0])), (a0, .inr (15, [.int 0, v1, v2, v3, v4, v5, v6, v7, v8, v9, v10, v11, v12, v13, v14, v15, v16, .ref a1, v17, v18, v19, v20, v21, v22, v23, v24, v25, v26]))] := hD
  refine lv_if_eq (tgt := 50) hx hb dX10_addStream_42 (by decide) (fun z => absurd z (by decide)) (fun _ => ?_)
  refine lv_iload_n hx hb dX10_addStream_45 rfl (lv_at hl 1 rfl) ?_
  refine lv_iload_n hx hb dX10_addStream_46 rfl (lv_at hl 2 rfl) ?_
  refine lv_icmp_ne (tgt := 54) hx hb dX10_addStream_47 (by decide) (fun _ => ?_) (fun z => absurd z h6)
  refine lv_iconst (v := 0) hx hb dX10_addStream_54 (by decide) ?_
  refine lv_iconst (v := 1) hx hb dX10_addStream_55 (by decide) ?_
  refine ca_i (isC := [1]) (isR := [0]) (wr := [(a1, .inr (4, [.int 0, .ref (g 0), .int 0]))]) (rn_V (ci := 15) (q0 := 1) (isC := [1]) (wc := [(a0, .inr (15, [.int 0, v1, v2, v3, v4, v5, v6, v7, v8, v9, v10, v11, v12, v13, v14, v15, v16, .ref a1, v17, v18, v19, v20, v21, v22, v23, v24, v25, v26]))]) (As := [.int 0, .int 1]) (rest := []) (n := 2) hx hb hml hown hts hE hS hP hD hA hl.1 (k43_X10_fails l D cy g a0 (v1) (v2) (v3) (v4) (v5) (v6) (v7) (v8) (v9) (v10) (v11) (v12) (v13) (v14) (v15) (v16) (.ref a1) (v17) (v18) (v19) (v20) (v21) (v22) (v23) (v24) (v25) (v26) H.size ) rfl rfl rfl rfl rfl ax_41 rfl rfl ax_42 ⟨Nat.le_of_ble_eq_true rfl, Nat.le_of_ble_eq_true rfl⟩ rfl rfl (Nat.le_of_ble_eq_true rfl) dX10_addStream_56 ⟨(Nat.le_of_ble_eq_true rfl), (Nat.le_of_ble_eq_true rfl)⟩) hP hD hS hA rfl rfl rfl (by decide) (fun ad56 H locs hP hD hS => ?_)
  have hP : va_P D vwCl [(a1, .inr (4, [.int 0, .ref (g 0), .int 0])), (a0, .inr (15, [.int 0, v1, v2, v3, v4, v5, v6, v7, v8, v9, v10, v11, v12, v13, v14, v15, v16, .ref a1, v17, v18, v19, v20, v21, v22, v23, v24, v25, v26]))] H := hP
  have hD : va_D A [(a1, .inr (4, [.int 0, .ref (g 0), .int 0])), (a0, .inr (15, [.int 0, v1, v2, v3, v4, v5, v6, v7, v8, v9, v10, v11, v12, v13, v14, v15, v16, .ref a1, v17, v18, v19, v20, v21, v22, v23, v24, v25, v26]))] := hD
  refine lv_if_ne (tgt := 89) hx hb dX10_addStream_59 (by decide) (fun z => absurd (by decide) z) (fun _ => ?_)
  refine lv_aload_n hx hb dX10_addStream_62 rfl (lv_at hl 0 rfl) ?_
  refine lv_aload_n hx hb dX10_addStream_63 rfl (lv_at hl 0 rfl) ?_
  refine va_get (D := D) (ci := 15) (v := .ref a1) (C := RX10) (T := TX10) (N := 28) hx hb hts ax_29 hown hE.1 hP 1 rfl rfl 17 (by decide) (hts _ tw_285) (fun _ h9 => h9) rfl dX10_addStream_64 ?_
  refine ca_Fi (isC := [0]) (isR := [1]) (wr := [(a0, .inr (15, [.int 0, v1, v2, v3, v4, v5, v6, v7, v8, v9, v10, v11, v12, v13, v14, v15, v16, .ref a1, v17, v18, v19, v20, v21, v22, v23, v24, v25, v26]))]) (rn_F (ci := 4) (q0 := 0) (isC := [0]) (wc := [(a1, .inr (4, [.int 0, .ref (g 0), .int 0]))]) (As := []) (rest := [.ref a0]) (n := 0) hx hb hml hown hts hE hS hP hD hA hl.1 (k44_Jx4a65c_size_8abf5 l D cy g a1 (.int 0) (.ref (g 0)) H.size ) rfl rfl rfl rfl rfl ax_59 tw_367 tw_368 tw_369 tw_370 tw_371 rfl rfl ax_60 ⟨Nat.le_of_ble_eq_true rfl, Nat.le_of_ble_eq_true rfl⟩ rfl rfl (Nat.le_of_ble_eq_true rfl) dX10_addStream_67 ⟨(Nat.le_of_ble_eq_true rfl), (Nat.le_of_ble_eq_true rfl)⟩) hP hD hS hA rfl rfl rfl (by decide) (fun ad67 H locs hP hD hS => ?_)
  have hP : va_P D vwCl [(a0, .inr (15, [.int 0, v1, v2, v3, v4, v5, v6, v7, v8, v9, v10, v11, v12, v13, v14, v15, v16, .ref a1, v17, v18, v19, v20, v21, v22, v23, v24, v25, v26])), (a1, .inr (4, [.int 0, .ref (g 0), .int 0]))] H := hP
  have hD : va_D A [(a0, .inr (15, [.int 0, v1, v2, v3, v4, v5, v6, v7, v8, v9, v10, v11, v12, v13, v14, v15, v16, .ref a1, v17, v18, v19, v20, v21, v22, v23, v24, v25, v26])), (a1, .inr (4, [.int 0, .ref (g 0), .int 0]))] := hD
  refine lv_bipush (v := 10) hx hb dX10_addStream_72 (by decide) ?_
  refine lv_icmp_ne (tgt := 81) hx hb dX10_addStream_74 (by decide) (fun _ => ?_) (fun z => absurd z (by decide))
  refine lv_iconst (v := 0) hx hb dX10_addStream_81 (by decide) ?_
  refine lv_iconst (v := 2) hx hb dX10_addStream_82 (by decide) ?_
  refine ca_i (isC := [0]) (isR := [1]) (wr := [(a1, .inr (4, [.int 0, .ref (g 0), .int 0]))]) (rn_V (ci := 15) (q0 := 0) (isC := [0]) (wc := [(a0, .inr (15, [.int 0, v1, v2, v3, v4, v5, v6, v7, v8, v9, v10, v11, v12, v13, v14, v15, v16, .ref a1, v17, v18, v19, v20, v21, v22, v23, v24, v25, v26]))]) (As := [.int 0, .int 2]) (rest := []) (n := 2) hx hb hml hown hts hE hS hP hD hA hl.1 (k45_X10_fails l D cy g a0 (v1) (v2) (v3) (v4) (v5) (v6) (v7) (v8) (v9) (v10) (v11) (v12) (v13) (v14) (v15) (v16) (.ref a1) (v17) (v18) (v19) (v20) (v21) (v22) (v23) (v24) (v25) (v26) H.size ) rfl rfl rfl rfl rfl ax_41 rfl rfl ax_42 ⟨Nat.le_of_ble_eq_true rfl, Nat.le_of_ble_eq_true rfl⟩ rfl rfl (Nat.le_of_ble_eq_true rfl) dX10_addStream_83 ⟨(Nat.le_of_ble_eq_true rfl), (Nat.le_of_ble_eq_true rfl)⟩) hP hD hS hA rfl rfl rfl (by decide) (fun ad83 H locs hP hD hS => ?_)
  have hP : va_P D vwCl [(a1, .inr (4, [.int 0, .ref (g 0), .int 0])), (a0, .inr (15, [.int 0, v1, v2, v3, v4, v5, v6, v7, v8, v9, v10, v11, v12, v13, v14, v15, v16, .ref a1, v17, v18, v19, v20, v21, v22, v23, v24, v25, v26]))] H := hP
  have hD : va_D A [(a1, .inr (4, [.int 0, .ref (g 0), .int 0])), (a0, .inr (15, [.int 0, v1, v2, v3, v4, v5, v6, v7, v8, v9, v10, v11, v12, v13, v14, v15, v16, .ref a1, v17, v18, v19, v20, v21, v22, v23, v24, v25, v26]))] := hD
  refine lv_if_eq (tgt := 91) hx hb dX10_addStream_86 (by decide) (fun _ => ?_) (fun z => absurd (by decide) z)
  refine lv_aload_n hx hb dX10_addStream_91 rfl (lv_at hl 0 rfl) ?_
  refine va_get (D := D) (ci := 15) (v := .ref a1) (C := RX10) (T := TX10) (N := 28) hx hb hts ax_29 hown hE.1 hP 1 rfl rfl 17 (by decide) (hts _ tw_285) (fun _ h9 => h9) rfl dX10_addStream_92 ?_
  refine lv_iconst (v := 3) hx hb dX10_addStream_95 (by decide) ?_
  refine nw_p (atype := .int) (ty := .int) (cA := cy 1) (a0 := (3, .inl (fun _ => 0))) (N' := 3) 1 hx hb rfl hts tw_11 hE rfl hP hD hS hA (fun _ => rfl) (by decide) (by decide) (by decide) (Nat.le_of_ble_eq_true rfl) (Nat.le_of_ble_eq_true rfl) dX10_addStream_96 (fun q1 H hP hD hS => ?_)
  have hP : va_P D vwCl [(a1, .inr (4, [.int 0, .ref (g 0), .int 0])), (a0, .inr (15, [.int 0, v1, v2, v3, v4, v5, v6, v7, v8, v9, v10, v11, v12, v13, v14, v15, v16, .ref a1, v17, v18, v19, v20, v21, v22, v23, v24, v25, v26])), (q1, .inl (cy 1, 3, .inl (fun _ => 0)))] H := hP
  have hD : va_D A [(a1, .inr (4, [.int 0, .ref (g 0), .int 0])), (a0, .inr (15, [.int 0, v1, v2, v3, v4, v5, v6, v7, v8, v9, v10, v11, v12, v13, v14, v15, v16, .ref a1, v17, v18, v19, v20, v21, v22, v23, v24, v25, v26])), (q1, .inl (cy 1, 3, .inl (fun _ => 0)))] := hD
  refine lv_dup hx hb dX10_addStream_98 rfl ?_
  refine lv_iconst (v := 0) hx hb dX10_addStream_99 (by decide) ?_
  refine lv_iload_n hx hb dX10_addStream_100 rfl (lv_at hl 1 rfl) ?_
  refine va_iast hx hb hE.1 hP hD hS 2 1 rfl rfl (by unfold vp_in; decide) dX10_addStream_101 (fun H locs hP hD hS => ?_)
  have hP : va_P D vwCl [(a1, .inr (4, [.int 0, .ref (g 0), .int 0])), (a0, .inr (15, [.int 0, v1, v2, v3, v4, v5, v6, v7, v8, v9, v10, v11, v12, v13, v14, v15, v16, .ref a1, v17, v18, v19, v20, v21, v22, v23, v24, v25, v26])), (q1, .inl (cy 1, 3, .inl (upd (fun _ => 0) (0 : Int32).toNatClampNeg x0)))] H := hP
  have hD : va_D A [(a1, .inr (4, [.int 0, .ref (g 0), .int 0])), (a0, .inr (15, [.int 0, v1, v2, v3, v4, v5, v6, v7, v8, v9, v10, v11, v12, v13, v14, v15, v16, .ref a1, v17, v18, v19, v20, v21, v22, v23, v24, v25, v26])), (q1, .inl (cy 1, 3, .inl (upd (fun _ => 0) (0 : Int32).toNatClampNeg x0)))] := hD
  refine lv_dup hx hb dX10_addStream_102 rfl ?_
  refine lv_iconst (v := 1) hx hb dX10_addStream_103 (by decide) ?_
  refine lv_iload_n hx hb dX10_addStream_104 rfl (lv_at hl 2 rfl) ?_
  refine va_iast hx hb hE.1 hP hD hS 2 1 rfl rfl (by unfold vp_in; decide) dX10_addStream_105 (fun H locs hP hD hS => ?_)
  have hP : va_P D vwCl [(a1, .inr (4, [.int 0, .ref (g 0), .int 0])), (a0, .inr (15, [.int 0, v1, v2, v3, v4, v5, v6, v7, v8, v9, v10, v11, v12, v13, v14, v15, v16, .ref a1, v17, v18, v19, v20, v21, v22, v23, v24, v25, v26])), (q1, .inl (cy 1, 3, .inl (upd (upd (fun _ => 0) (0 : Int32).toNatClampNeg x0) (1 : Int32).toNatClampNeg x1)))] H := hP
  have hD : va_D A [(a1, .inr (4, [.int 0, .ref (g 0), .int 0])), (a0, .inr (15, [.int 0, v1, v2, v3, v4, v5, v6, v7, v8, v9, v10, v11, v12, v13, v14, v15, v16, .ref a1, v17, v18, v19, v20, v21, v22, v23, v24, v25, v26])), (q1, .inl (cy 1, 3, .inl (upd (upd (fun _ => 0) (0 : Int32).toNatClampNeg x0) (1 : Int32).toNatClampNeg x1)))] := hD
  refine lv_dup hx hb dX10_addStream_106 rfl ?_
  refine lv_iconst (v := 2) hx hb dX10_addStream_107 (by decide) ?_
  refine lv_iload_n hx hb dX10_addStream_108 rfl (lv_at hl 3 rfl) ?_
  refine va_iast hx hb hE.1 hP hD hS 2 1 rfl rfl (by unfold vp_in; decide) dX10_addStream_109 (fun H locs hP hD hS => ?_)
  have hP : va_P D vwCl [(a1, .inr (4, [.int 0, .ref (g 0), .int 0])), (a0, .inr (15, [.int 0, v1, v2, v3, v4, v5, v6, v7, v8, v9, v10, v11, v12, v13, v14, v15, v16, .ref a1, v17, v18, v19, v20, v21, v22, v23, v24, v25, v26])), (q1, .inl (cy 1, 3, .inl (upd (upd (upd (fun _ => 0) (0 : Int32).toNatClampNeg x0) (1 : Int32).toNatClampNeg x1) (2 : Int32).toNatClampNeg x2)))] H := hP
  have hD : va_D A [(a1, .inr (4, [.int 0, .ref (g 0), .int 0])), (a0, .inr (15, [.int 0, v1, v2, v3, v4, v5, v6, v7, v8, v9, v10, v11, v12, v13, v14, v15, v16, .ref a1, v17, v18, v19, v20, v21, v22, v23, v24, v25, v26])), (q1, .inl (cy 1, 3, .inl (upd (upd (upd (fun _ => 0) (0 : Int32).toNatClampNeg x0) (1 : Int32).toNatClampNeg x1) (2 : Int32).toNatClampNeg x2)))] := hD
  refine ca_Fi (isC := [0, 2]) (isR := [1]) (wr := [(a0, .inr (15, [.int 0, v1, v2, v3, v4, v5, v6, v7, v8, v9, v10, v11, v12, v13, v14, v15, v16, .ref a1, v17, v18, v19, v20, v21, v22, v23, v24, v25, v26]))]) (rn_F (ci := 4) (q0 := 0) (isC := [0, 2]) (wc := [(a1, .inr (4, [.int 0, .ref (g 0), .int 0])), (q1, .inl (cy 1, 3, .inl (upd (upd (upd (fun _ => 0) (0 : Int32).toNatClampNeg x0) (1 : Int32).toNatClampNeg x1) (2 : Int32).toNatClampNeg x2)))]) (As := [.ref q1]) (rest := []) (n := 1) hx hb hml hown hts hE hS hP hD hA hl.1 (k222_Jx4a65c_add_9ea2d l D cy g a1 q1 (upd (upd (upd (fun _ => 0) (0 : Int32).toNatClampNeg x0) (1 : Int32).toNatClampNeg x1) (2 : Int32).toNatClampNeg x2) H.size ) rfl rfl rfl rfl rfl ax_61 tw_376 tw_377 tw_378 tw_379 tw_371 rfl rfl ax_62 ⟨Nat.le_of_ble_eq_true rfl, Nat.le_of_ble_eq_true rfl⟩ rfl rfl (Nat.le_of_ble_eq_true rfl) dX10_addStream_110 ⟨(Nat.le_of_ble_eq_true rfl), (Nat.le_of_ble_eq_true rfl)⟩) hP hD hS hA rfl rfl rfl (by decide) (fun ad110 H locs hP hD hS => ?_)
  have hP : va_P D vwCl [(a0, .inr (15, [.int 0, v1, v2, v3, v4, v5, v6, v7, v8, v9, v10, v11, v12, v13, v14, v15, v16, .ref a1, v17, v18, v19, v20, v21, v22, v23, v24, v25, v26])), (a1, .inr (4, [.int 1, .ref (ad110 0), .int 1])), (q1, .inl (cy 1, 3, .inl (upd (upd (upd (fun _ => 0) (0 : Int32).toNatClampNeg x0) (1 : Int32).toNatClampNeg x1) (2 : Int32).toNatClampNeg x2))), ((ad110 0), .inl (cy 5, 10, .inr (.inr (.inr (.inr (va_up (fun _ => none) (0 : Int32).toNatClampNeg (some q1)))))))] H := hP
  have hD : va_D A [(a0, .inr (15, [.int 0, v1, v2, v3, v4, v5, v6, v7, v8, v9, v10, v11, v12, v13, v14, v15, v16, .ref a1, v17, v18, v19, v20, v21, v22, v23, v24, v25, v26])), (a1, .inr (4, [.int 1, .ref (ad110 0), .int 1])), (q1, .inl (cy 1, 3, .inl (upd (upd (upd (fun _ => 0) (0 : Int32).toNatClampNeg x0) (1 : Int32).toNatClampNeg x1) (2 : Int32).toNatClampNeg x2))), ((ad110 0), .inl (cy 5, 10, .inr (.inr (.inr (.inr (va_up (fun _ => none) (0 : Int32).toNatClampNeg (some q1)))))))] := hD
  refine lv_pop hx hb dX10_addStream_115 rfl ?_
  refine lv_aload_n hx hb dX10_addStream_116 rfl (lv_at hl 0 rfl) ?_
  refine va_get (D := D) (ci := 15) (v := .ref a1) (C := RX10) (T := TX10) (N := 28) hx hb hts ax_29 hown hE.1 hP 0 rfl rfl 17 (by decide) (hts _ tw_285) (fun _ h9 => h9) rfl dX10_addStream_117 ?_
  refine ca_Fi (isC := [1]) (isR := [0, 2, 3]) (wr := [(a0, .inr (15, [.int 0, v1, v2, v3, v4, v5, v6, v7, v8, v9, v10, v11, v12, v13, v14, v15, v16, .ref a1, v17, v18, v19, v20, v21, v22, v23, v24, v25, v26])), (q1, .inl (cy 1, 3, .inl (upd (upd (upd (fun _ => 0) (0 : Int32).toNatClampNeg x0) (1 : Int32).toNatClampNeg x1) (2 : Int32).toNatClampNeg x2))), ((ad110 0), .inl (cy 5, 10, .inr (.inr (.inr (.inr (va_up (fun _ => none) (0 : Int32).toNatClampNeg (some q1)))))))]) (rn_F (ci := 4) (q0 := 1) (isC := [1]) (wc := [(a1, .inr (4, [.int 1, .ref (ad110 0), .int 1]))]) (As := []) (rest := []) (n := 0) hx hb hml hown hts hE hS hP hD hA hl.1 (k50_Jx4a65c_size_8abf5 l D cy g a1 (.int 1) (.ref (ad110 0)) H.size ) rfl rfl rfl rfl rfl ax_59 tw_367 tw_368 tw_369 tw_370 tw_371 rfl rfl ax_60 ⟨Nat.le_of_ble_eq_true rfl, Nat.le_of_ble_eq_true rfl⟩ rfl rfl (Nat.le_of_ble_eq_true rfl) dX10_addStream_120 ⟨(Nat.le_of_ble_eq_true rfl), (Nat.le_of_ble_eq_true rfl)⟩) hP hD hS hA rfl rfl rfl (by decide) (fun ad120 H locs hP hD hS => ?_)
  have hP : va_P D vwCl [(a0, .inr (15, [.int 0, v1, v2, v3, v4, v5, v6, v7, v8, v9, v10, v11, v12, v13, v14, v15, v16, .ref a1, v17, v18, v19, v20, v21, v22, v23, v24, v25, v26])), (q1, .inl (cy 1, 3, .inl (upd (upd (upd (fun _ => 0) (0 : Int32).toNatClampNeg x0) (1 : Int32).toNatClampNeg x1) (2 : Int32).toNatClampNeg x2))), ((ad110 0), .inl (cy 5, 10, .inr (.inr (.inr (.inr (va_up (fun _ => none) (0 : Int32).toNatClampNeg (some q1))))))), (a1, .inr (4, [.int 1, .ref (ad110 0), .int 1]))] H := hP
  have hD : va_D A [(a0, .inr (15, [.int 0, v1, v2, v3, v4, v5, v6, v7, v8, v9, v10, v11, v12, v13, v14, v15, v16, .ref a1, v17, v18, v19, v20, v21, v22, v23, v24, v25, v26])), (q1, .inl (cy 1, 3, .inl (upd (upd (upd (fun _ => 0) (0 : Int32).toNatClampNeg x0) (1 : Int32).toNatClampNeg x1) (2 : Int32).toNatClampNeg x2))), ((ad110 0), .inl (cy 5, 10, .inr (.inr (.inr (.inr (va_up (fun _ => none) (0 : Int32).toNatClampNeg (some q1))))))), (a1, .inr (4, [.int 1, .ref (ad110 0), .int 1]))] := hD
  exact en_z hx hb hr hlk hP hD hS rfl (fun _ => 0) (is := [0]) rfl rfl (Nat.le_of_ble_eq_true rfl) (Nat.le_of_ble_eq_true rfl) dX10_addStream_125
set_option maxHeartbeats 4000000 in
set_option maxRecDepth 100000 in
theorem k526_X5_removeAll (l : Launch) (D : va_G) (cy : Nat → ClassId) (g : Nat → Nat) (a0 : Nat) (v0 : Value) (v1 : Value) (v2 : Value) (sz : Nat)  : Met l yX5_removeAll [.code yX5_removeAll cX5_removeAll 2 (some .int)] ({ frames := 0, cells := 0, slots := 0, locals := 0 }) (PC D cy g [(a0, .inr (10, [v0, v1, v2, .int 0]))] sz [.ref a0]) (QI D 0 (fun ad => [(a0, .inr (10, [v0, v1, v2, .int 0]))]) (va_A [(a0, .inr (10, [v0, v1, v2, .int 0]))] sz)) 0 0 (va_A [(a0, .inr (10, [v0, v1, v2, .int 0]))] sz) := by
  refine st_I (by decide) (Nat.le_of_ble_eq_true rfl) ?_
  intro p e s m args below meth c A ls hx hb hr hml hown hlk hnm hsz hP hD hA hE hts hS hl
  have hown : s.vm.findClass RX5 = some m.cls := hown
  have hl : lv_has ls 2 [(0, .ref a0)] := hl
  refine lv_aload_n hx hb dX5_removeAll_0 rfl (lv_at hl 0 rfl) ?_
  refine va_get (D := D) (ci := 10) (v := .int 0) (C := RX5) (T := TX5) (N := 4) hx hb hts ax_12 hown hE.1 hP 0 rfl rfl 3 (by decide) (hts _ tw_132) (fun _ h9 => h9) rfl dX5_removeAll_1 ?_
  refine lv_istore_n (lv' := [(1, .int 0), (0, .ref a0)]) hx hb dX5_removeAll_4 rfl hl (Nat.le_of_ble_eq_true rfl) rfl (fun ls hl => ?_)
  refine lv_aload_n hx hb dX5_removeAll_5 rfl (lv_at hl 1 rfl) ?_
  refine lv_iconst (v := 0) hx hb dX5_removeAll_6 (by decide) ?_
  refine va_put (D := D) (ci := 10) (v := .int 0) (ty := .int) (C := RX5) (T := TX5) (N := 4) hx hb hts ax_12 tyX5 tyX5_ok nmX5 hown hE.1 hP hD hS 0 rfl rfl 3 (by decide) (hts _ tw_132) (fun _ h9 => h9) rfl (by decide +kernel) rfl rfl (Nat.le_of_ble_eq_true rfl) dX5_removeAll_7 (fun H locs hP hD hS => ?_)
  have hP : va_P D vwCl [(a0, .inr (10, [v0, v1, v2, .int 0]))] H := hP
  have hD : va_D A [(a0, .inr (10, [v0, v1, v2, .int 0]))] := hD
  refine lv_iload_n hx hb dX5_removeAll_10 rfl (lv_at hl 0 rfl) ?_
  exact en_z hx hb hr hlk hP hD hS rfl (fun _ => 0) (is := [0]) rfl rfl (Nat.le_of_ble_eq_true rfl) (Nat.le_of_ble_eq_true rfl) dX5_removeAll_11
set_option maxHeartbeats 4000000 in
set_option maxRecDepth 100000 in
theorem k527_X9_clearStreams (l : Launch) (D : va_G) (cy : Nat → ClassId) (g : Nat → Nat) (a0 : Nat) (a1 : Nat) (v0 : Value) (v1 : Value) (v2 : Value) (v3 : Value) (v4 : Value) (v5 : Value) (v6 : Value) (v7 : Value) (v8 : Value) (sz : Nat)  : Met l yX9_clearStreams [.code yX9_clearStreams cX9_clearStreams 1 (some .int)] ({ frames := 1, cells := 0, slots := 0, locals := 21 }) (PC D cy g [(a0, .inr (14, [v0, v1, v2, v3, .ref a1, v4, v5])), (a1, .inr (10, [v6, v7, v8, .int 0]))] sz [.ref a0]) (QI D 0 (fun ad => []) (va_A [(a0, .inr (14, [v0, v1, v2, v3, .ref a1, v4, v5])), (a1, .inr (10, [v6, v7, v8, .int 0]))] sz)) 0 0 (va_A [(a0, .inr (14, [v0, v1, v2, v3, .ref a1, v4, v5])), (a1, .inr (10, [v6, v7, v8, .int 0]))] sz) := by
  refine st_I (by decide) (Nat.le_of_ble_eq_true rfl) ?_
  intro p e s m args below meth c A ls hx hb hr hml hown hlk hnm hsz hP hD hA hE hts hS hl
  have hown : s.vm.findClass RX9 = some m.cls := hown
  have hl : lv_has ls 1 [(0, .ref a0)] := hl
  refine lv_aload_n hx hb dX9_clearStreams_0 rfl (lv_at hl 0 rfl) ?_
  refine va_get (D := D) (ci := 14) (v := .ref a1) (C := RX9) (T := TX9) (N := 7) hx hb hts ax_16 hown hE.1 hP 0 rfl rfl 4 (by decide) (hts _ tw_206) (fun _ h9 => h9) rfl dX9_clearStreams_1 ?_
  refine ca_i (isC := [1]) (isR := [0]) (wr := [(a0, .inr (14, [v0, v1, v2, v3, .ref a1, v4, v5]))]) (rn_V (ci := 10) (q0 := 1) (isC := [1]) (wc := [(a1, .inr (10, [v6, v7, v8, .int 0]))]) (As := []) (rest := []) (n := 0) hx hb hml hown hts hE hS hP hD hA hl.1 (k526_X5_removeAll l D cy g a1 (v6) (v7) (v8) s.heap.size ) rfl rfl rfl rfl rfl ax_355 rfl rfl ax_356 ⟨Nat.le_of_ble_eq_true rfl, Nat.le_of_ble_eq_true rfl⟩ rfl rfl (Nat.le_of_ble_eq_true rfl) dX9_clearStreams_4 ⟨(Nat.le_of_ble_eq_true rfl), (Nat.le_of_ble_eq_true rfl)⟩) hP hD hS hA rfl rfl rfl (by decide) (fun ad4 H locs hP hD hS => ?_)
  have hP : va_P D vwCl [(a0, .inr (14, [v0, v1, v2, v3, .ref a1, v4, v5])), (a1, .inr (10, [v6, v7, v8, .int 0]))] H := hP
  have hD : va_D A [(a0, .inr (14, [v0, v1, v2, v3, .ref a1, v4, v5])), (a1, .inr (10, [v6, v7, v8, .int 0]))] := hD
  exact en_z hx hb hr hlk hP hD hS rfl (fun _ => 0) (is := []) rfl rfl (Nat.le_of_ble_eq_true rfl) (Nat.le_of_ble_eq_true rfl) dX9_clearStreams_7
set_option maxHeartbeats 4000000 in
set_option maxRecDepth 100000 in
theorem k528_X10_clearStreams (l : Launch) (D : va_G) (cy : Nat → ClassId) (g : Nat → Nat) (a0 : Nat) (a1 : Nat) (v0 : Value) (v1 : Value) (v2 : Value) (v3 : Value) (v4 : Value) (v5 : Value) (v6 : Value) (v7 : Value) (v8 : Value) (v9 : Value) (v10 : Value) (v11 : Value) (v12 : Value) (v13 : Value) (v14 : Value) (v15 : Value) (v16 : Value) (v17 : Value) (v18 : Value) (v19 : Value) (v20 : Value) (v21 : Value) (v22 : Value) (v23 : Value) (v24 : Value) (v25 : Value) (v26 : Value) (sz : Nat)  : Met l yX10_clearStreams [.code yX10_clearStreams cX10_clearStreams 2 (some .int)] ({ frames := 1, cells := 0, slots := 0, locals := 23 }) (PC D cy g [(a0, .inr (15, [v0, v1, v2, v3, v4, v5, v6, v7, v8, v9, v10, v11, v12, v13, v14, v15, v16, .ref a1, v17, v18, v19, v20, v21, v22, v23, v24, v25, v26])), (a1, .inr (4, [.int 0, .ref (g 0), .int 0]))] sz [.ref a0]) (QI D 0 (fun ad => [(a0, .inr (15, [.int 0, v1, v2, v3, v4, v5, v6, v7, v8, v9, v10, v11, v12, v13, v14, v15, v16, .ref a1, v17, v18, v19, v20, v21, v22, v23, v24, v25, v26]))]) (va_A [(a0, .inr (15, [v0, v1, v2, v3, v4, v5, v6, v7, v8, v9, v10, v11, v12, v13, v14, v15, v16, .ref a1, v17, v18, v19, v20, v21, v22, v23, v24, v25, v26])), (a1, .inr (4, [.int 0, .ref (g 0), .int 0]))] sz)) 0 0 (va_A [(a0, .inr (15, [v0, v1, v2, v3, v4, v5, v6, v7, v8, v9, v10, v11, v12, v13, v14, v15, v16, .ref a1, v17, v18, v19, v20, v21, v22, v23, v24, v25, v26])), (a1, .inr (4, [.int 0, .ref (g 0), .int 0]))] sz) := by
  refine st_I (by decide) (Nat.le_of_ble_eq_true rfl) ?_
  intro p e s m args below meth c A ls hx hb hr hml hown hlk hnm hsz hP hD hA hE hts hS hl
  have hown : s.vm.findClass RX10 = some m.cls := hown
  have hl : lv_has ls 2 [(0, .ref a0)] := hl
  refine lv_aload_n hx hb dX10_clearStreams_0 rfl (lv_at hl 0 rfl) ?_
  refine ca_v (isC := [0]) (isR := [1]) (wr := [(a1, .inr (4, [.int 0, .ref (g 0), .int 0]))]) (rn_V (ci := 15) (q0 := 0) (isC := [0]) (wc := [(a0, .inr (15, [v0, v1, v2, v3, v4, v5, v6, v7, v8, v9, v10, v11, v12, v13, v14, v15, v16, .ref a1, v17, v18, v19, v20, v21, v22, v23, v24, v25, v26]))]) (As := []) (rest := []) (n := 0) hx hb hml hown hts hE hS hP hD hA hl.1 (k20_X10_begins l D cy g a0 (v0) (v1) (v2) (v3) (v4) (v5) (v6) (v7) (v8) (v9) (v10) (v11) (v12) (v13) (v14) (v15) (v16) (.ref a1) (v17) (v18) (v19) (v20) (v21) (v22) (v23) (v24) (v25) (v26) s.heap.size ) rfl rfl rfl rfl rfl ax_37 rfl rfl ax_38 ⟨Nat.le_of_ble_eq_true rfl, Nat.le_of_ble_eq_true rfl⟩ rfl rfl (Nat.le_of_ble_eq_true rfl) dX10_clearStreams_1 ⟨(Nat.le_of_ble_eq_true rfl), (Nat.le_of_ble_eq_true rfl)⟩) hP hD hS hA rfl rfl rfl (by decide) (fun ad1 H locs hP hD hS => ?_)
  have hP : va_P D vwCl [(a1, .inr (4, [.int 0, .ref (g 0), .int 0])), (a0, .inr (15, [.int 0, v1, v2, v3, v4, v5, v6, v7, v8, v9, v10, v11, v12, v13, v14, v15, v16, .ref a1, v17, v18, v19, v20, v21, v22, v23, v24, v25, v26]))] H := hP
  have hD : va_D A [(a1, .inr (4, [.int 0, .ref (g 0), .int 0])), (a0, .inr (15, [.int 0, v1, v2, v3, v4, v5, v6, v7, v8, v9, v10, v11, v12, v13, v14, v15, v16, .ref a1, v17, v18, v19, v20, v21, v22, v23, v24, v25, v26]))] := hD
  refine lv_aload_n hx hb dX10_clearStreams_4 rfl (lv_at hl 0 rfl) ?_
  refine va_get (D := D) (ci := 15) (v := .ref a1) (C := RX10) (T := TX10) (N := 28) hx hb hts ax_29 hown hE.1 hP 1 rfl rfl 17 (by decide) (hts _ tw_285) (fun _ h9 => h9) rfl dX10_clearStreams_5 ?_
  refine ca_Fi (isC := [0]) (isR := [1]) (wr := [(a0, .inr (15, [.int 0, v1, v2, v3, v4, v5, v6, v7, v8, v9, v10, v11, v12, v13, v14, v15, v16, .ref a1, v17, v18, v19, v20, v21, v22, v23, v24, v25, v26]))]) (rn_F (ci := 4) (q0 := 0) (isC := [0]) (wc := [(a1, .inr (4, [.int 0, .ref (g 0), .int 0]))]) (As := []) (rest := []) (n := 0) hx hb hml hown hts hE hS hP hD hA hl.1 (k44_Jx4a65c_size_8abf5 l D cy g a1 (.int 0) (.ref (g 0)) H.size ) rfl rfl rfl rfl rfl ax_59 tw_367 tw_368 tw_369 tw_370 tw_371 rfl rfl ax_60 ⟨Nat.le_of_ble_eq_true rfl, Nat.le_of_ble_eq_true rfl⟩ rfl rfl (Nat.le_of_ble_eq_true rfl) dX10_clearStreams_8 ⟨(Nat.le_of_ble_eq_true rfl), (Nat.le_of_ble_eq_true rfl)⟩) hP hD hS hA rfl rfl rfl (by decide) (fun ad8 H locs hP hD hS => ?_)
  have hP : va_P D vwCl [(a0, .inr (15, [.int 0, v1, v2, v3, v4, v5, v6, v7, v8, v9, v10, v11, v12, v13, v14, v15, v16, .ref a1, v17, v18, v19, v20, v21, v22, v23, v24, v25, v26])), (a1, .inr (4, [.int 0, .ref (g 0), .int 0]))] H := hP
  have hD : va_D A [(a0, .inr (15, [.int 0, v1, v2, v3, v4, v5, v6, v7, v8, v9, v10, v11, v12, v13, v14, v15, v16, .ref a1, v17, v18, v19, v20, v21, v22, v23, v24, v25, v26])), (a1, .inr (4, [.int 0, .ref (g 0), .int 0]))] := hD
  refine lv_istore_n (lv' := [(1, .int 0), (0, .ref a0)]) hx hb dX10_clearStreams_13 rfl hl (Nat.le_of_ble_eq_true rfl) rfl (fun ls hl => ?_)
  refine lv_aload_n hx hb dX10_clearStreams_14 rfl (lv_at hl 1 rfl) ?_
  refine va_get (D := D) (ci := 15) (v := .ref a1) (C := RX10) (T := TX10) (N := 28) hx hb hts ax_29 hown hE.1 hP 0 rfl rfl 17 (by decide) (hts _ tw_285) (fun _ h9 => h9) rfl dX10_clearStreams_15 ?_
  refine ca_Fv (isC := [1]) (isR := [0]) (wr := [(a0, .inr (15, [.int 0, v1, v2, v3, v4, v5, v6, v7, v8, v9, v10, v11, v12, v13, v14, v15, v16, .ref a1, v17, v18, v19, v20, v21, v22, v23, v24, v25, v26]))]) (rn_F (ci := 4) (q0 := 1) (isC := [1]) (wc := [(a1, .inr (4, [.int 0, .ref (g 0), .int 0]))]) (As := []) (rest := []) (n := 0) hx hb hml hown hts hE hS hP hD hA hl.1 (k317_Jx4a65c_clear_da8c8 l D cy g a1 H.size ) rfl rfl rfl rfl rfl ax_213 tw_694 tw_695 tw_696 tw_697 tw_371 rfl rfl ax_214 ⟨Nat.le_of_ble_eq_true rfl, Nat.le_of_ble_eq_true rfl⟩ rfl rfl (Nat.le_of_ble_eq_true rfl) dX10_clearStreams_18 ⟨(Nat.le_of_ble_eq_true rfl), (Nat.le_of_ble_eq_true rfl)⟩) hP hD hS hA rfl rfl rfl (by decide) (fun ad18 H locs hP hD hS => ?_)
  have hP : va_P D vwCl [(a0, .inr (15, [.int 0, v1, v2, v3, v4, v5, v6, v7, v8, v9, v10, v11, v12, v13, v14, v15, v16, .ref a1, v17, v18, v19, v20, v21, v22, v23, v24, v25, v26])), (a1, .inr (4, [.int 1, .ref (g 0), .int 0]))] H := hP
  have hD : va_D A [(a0, .inr (15, [.int 0, v1, v2, v3, v4, v5, v6, v7, v8, v9, v10, v11, v12, v13, v14, v15, v16, .ref a1, v17, v18, v19, v20, v21, v22, v23, v24, v25, v26])), (a1, .inr (4, [.int 1, .ref (g 0), .int 0]))] := hD
  refine lv_iload_n hx hb dX10_clearStreams_23 rfl (lv_at hl 0 rfl) ?_
  exact en_z hx hb hr hlk hP hD hS rfl (fun _ => 0) (is := [0]) rfl rfl (Nat.le_of_ble_eq_true rfl) (Nat.le_of_ble_eq_true rfl) dX10_clearStreams_24
set_option maxHeartbeats 4000000 in
set_option maxRecDepth 100000 in
theorem k529_X9_requireApproach (l : Launch) (hst : l.stackTraces = false) (D : va_G) (cy : Nat → ClassId) (g : Nat → Nat) (x0 : Int32) (b0 : Nat) (sz : Nat) (h0 : x0 < 0) : vx_Met l yX9_requireApproach [.code yX9_requireApproach cX9_requireApproach 2 none] ({ frames := 6, cells := 1, slots := 6, locals := 82 }) (PC D cy g [] sz [.ref b0, .int x0]) QN (XE "java/lang/IllegalArgumentException" (va_A [] sz)) 1 6 (va_A [] sz) := by
  refine st_X (by decide) (Nat.le_of_ble_eq_true rfl) ?_
  intro p e s m args below meth c A ls hx hb hr hml hown hlk hnm hsz hP hD hA hE hts hS hl hout
  have hown : s.vm.findClass RX9 = some m.cls := hown
  have hl : lv_has ls 2 [(0, .ref b0), (1, .int x0)] := hl
  refine lv_iload_n hx hb dX9_requireApproach_0 rfl (lv_at hl 1 rfl) ?_
  refine lv_iconst (v := 0) hx hb dX9_requireApproach_1 (by decide) ?_
  refine lv_bipush (v := 100) hx hb dX9_requireApproach_2 (by decide) ?_
  refine ca_i (isC := []) (isR := []) (wr := []) (rn_S (isC := []) (wc := []) (As := [.int x0, .int 0, .int 100]) (rest := []) (n := 3) hx hb hml hown hts hE hS hP hD hA hl.1 (k17_X9_isOutside l D cy g x0 0 100 s.heap.size h0) rfl rfl ax_30 rfl rfl ax_31 ⟨Nat.le_of_ble_eq_true rfl, Nat.le_of_ble_eq_true rfl⟩ rfl rfl (Nat.le_of_ble_eq_true rfl) dX9_requireApproach_4 ⟨(Nat.le_of_ble_eq_true rfl), (Nat.le_of_ble_eq_true rfl)⟩) hP hD hS hA rfl rfl rfl (by decide) (fun ad4 H locs hP hD hS => ?_)
  have hP : va_P D vwCl [] H := hP
  have hD : va_D A [] := hD
  refine lv_if_eq (tgt := 21) hx hb dX9_requireApproach_7 (by decide) (fun z => absurd z (by decide)) (fun _ => ?_)
  exact th_SW (text := "the approach is out of range") hx hb hst hown hts hE hS (hl.1.trans hml.symm) hout hlk (by decide +kernel) tw_296 tw_297 ax_32 (by decide +kernel) dX9_requireApproach_10 dX9_requireApproach_13 dX9_requireApproach_14 dX9_requireApproach_17 dX9_requireApproach_20 ⟨Nat.le_of_ble_eq_true rfl, Nat.le_of_ble_eq_true rfl, Nat.le_of_ble_eq_true rfl, Nat.le_of_ble_eq_true rfl⟩ (Nat.le_of_ble_eq_true rfl) (Nat.le_of_ble_eq_true rfl)
set_option maxHeartbeats 4000000 in
set_option maxRecDepth 100000 in
theorem k530_X9_heatNeeded (l : Launch) (hst : l.stackTraces = false) (D : va_G) (cy : Nat → ClassId) (g : Nat → Nat) (x0 : Int32) (a0 : Nat) (v0 : Value) (v1 : Value) (v2 : Value) (v3 : Value) (v4 : Value) (v5 : Value) (v6 : Value) (sz : Nat) (h0 : x0 < 0) : vx_Met l yX9_heatNeeded [.code yX9_heatNeeded cX9_heatNeeded 2 (some .int)] ({ frames := 7, cells := 1, slots := 6, locals := 103 }) (PC D cy g [(a0, .inr (14, [v0, v1, v2, v3, v4, v5, v6]))] sz [.ref a0, .int x0]) QN (XE "java/lang/IllegalArgumentException" (va_A [(a0, .inr (14, [v0, v1, v2, v3, v4, v5, v6]))] sz)) 1 6 (va_A [(a0, .inr (14, [v0, v1, v2, v3, v4, v5, v6]))] sz) := by
  refine st_X (by decide) (Nat.le_of_ble_eq_true rfl) ?_
  intro p e s m args below meth c A ls hx hb hr hml hown hlk hnm hsz hP hD hA hE hts hS hl hout
  have hown : s.vm.findClass RX9 = some m.cls := hown
  have hl : lv_has ls 2 [(0, .ref a0), (1, .int x0)] := hl
  refine lv_aload_n hx hb dX9_heatNeeded_0 rfl (lv_at hl 0 rfl) ?_
  refine lv_iload_n hx hb dX9_heatNeeded_1 rfl (lv_at hl 1 rfl) ?_
  exact cx_out (isC := []) (rx_V (ci := 14) (q0 := 0) (isC := []) (wc := []) (As := [.int x0]) (rest := []) (n := 1) hx hb hml hown hts hE hS hP hD hA hl.1 (k529_X9_requireApproach l hst D cy g x0 a0 s.heap.size h0) rfl rfl rfl rfl rfl ax_361 rfl rfl ax_362 ⟨Nat.le_of_ble_eq_true rfl, Nat.le_of_ble_eq_true rfl⟩ rfl rfl (Nat.le_of_ble_eq_true rfl) dX9_heatNeeded_2 ⟨(Nat.le_of_ble_eq_true rfl), (Nat.le_of_ble_eq_true rfl)⟩) hD hS hA rfl hout hlk (Nat.le_of_ble_eq_true rfl) (Nat.le_of_ble_eq_true rfl)
set_option maxHeartbeats 4000000 in
set_option maxRecDepth 100000 in
theorem k531_L_heatNeeded (l : Launch) (hst : l.stackTraces = false) (D : va_G) (cy : Nat → ClassId) (g : Nat → Nat) (x0 : Int32) (a0 : Nat) (b0 : Nat) (v0 : Value) (v1 : Value) (v2 : Value) (v3 : Value) (v4 : Value) (v5 : Value) (v6 : Value) (sz : Nat) (h0 : x0 < 0) : Met l yL_heatNeeded [.codeWith yL_heatNeeded cL_heatNeeded 4 (some .int) [(0, 9, 12, 13)]] ({ frames := 8, cells := 1, slots := 6, locals := 124 }) (PC D cy g [(a0, .inr (14, [v0, v1, v2, v3, v4, v5, v6]))] sz [.ref a0, .int x0, .ref b0]) (QI D 1 (fun ad => []) (va_A [(a0, .inr (14, [v0, v1, v2, v3, v4, v5, v6]))] sz)) 1 6 (va_A [(a0, .inr (14, [v0, v1, v2, v3, v4, v5, v6]))] sz) := by
  refine sh_I (by decide) (Nat.le_of_ble_eq_true rfl) ?_
  intro p e s m args below meth c A ls hx hb hr hml hown hlk hnm hsz hP hD hA hE hts hS hl htb
  have hown : s.vm.findClass RL = some m.cls := hown
  have hl : lv_has ls 4 [(0, .ref a0), (1, .int x0), (2, .ref b0)] := hl
  refine lv_aload_n hx hb dL_heatNeeded_0 rfl (lv_at hl 2 rfl) ?_
  refine lv_iconst (v := 0) hx hb dL_heatNeeded_1 (by decide) ?_
  refine lv_aload_n hx hb dL_heatNeeded_2 rfl (lv_at hl 0 rfl) ?_
  refine lv_iload_n hx hb dL_heatNeeded_3 rfl (lv_at hl 1 rfl) ?_
  refine cx_catch (isC := [0]) (isR := []) (wr := []) (hp := []) (z := (0, 9, 12, 13)) (hq := []) (name := "java/lang/IllegalArgumentException") (own := RL) (rx_V (ci := 14) (q0 := 0) (isC := [0]) (wc := [(a0, .inr (14, [v0, v1, v2, v3, v4, v5, v6]))]) (As := [.int x0]) (rest := [.int 0, .ref b0]) (n := 1) hx hb hml hown hts hE hS hP hD hA hl.1 (k530_X9_heatNeeded l hst D cy g x0 a0 (v0) (v1) (v2) (v3) (v4) (v5) (v6) s.heap.size h0) rfl rfl rfl rfl rfl ax_363 rfl rfl ax_364 ⟨Nat.le_of_ble_eq_true rfl, Nat.le_of_ble_eq_true rfl⟩ rfl rfl (Nat.le_of_ble_eq_true rfl) dL_heatNeeded_4 ⟨(Nat.le_of_ble_eq_true rfl), (Nat.le_of_ble_eq_true rfl)⟩) hP hD hS hA hown hts hE htb rfl rfl rfl rfl (by decide) (fun z hz => by cases hz) (by decide) (by decide) tw_302 tw_303 (fun qx H locs hP hD hS => ?_)
  have hP : va_P D vwCl [] H := hP
  have hD : va_D A [] := hD
  refine lv_astore_n (lv' := [(3, .ref qx), (0, .ref a0), (1, .int x0), (2, .ref b0)]) hx hb dL_heatNeeded_12 rfl hl (Nat.le_of_ble_eq_true rfl) rfl (fun ls hl => ?_)
  refine lv_iconst (v := 1) hx hb dL_heatNeeded_13 (by decide) ?_
  exact en_z hx hb hr hlk hP hD hS rfl (fun _ => 0) (is := []) rfl rfl (Nat.le_of_ble_eq_true rfl) (Nat.le_of_ble_eq_true rfl) dL_heatNeeded_14
set_option maxHeartbeats 4000000 in
set_option maxRecDepth 100000 in
theorem k532_X10_noApproach (l : Launch) (D : va_G) (cy : Nat → ClassId) (g : Nat → Nat) (x0 : Int32) (a0 : Nat) (v0 : Value) (v1 : Value) (v2 : Value) (v3 : Value) (v4 : Value) (v5 : Value) (v6 : Value) (v7 : Value) (v8 : Value) (v9 : Value) (v10 : Value) (v11 : Value) (v12 : Value) (v13 : Value) (v14 : Value) (v15 : Value) (v16 : Value) (v17 : Value) (v18 : Value) (v19 : Value) (v20 : Value) (v21 : Value) (v22 : Value) (v23 : Value) (v24 : Value) (v25 : Value) (v26 : Value) (sz : Nat) (h0 : x0 < 0) : Met l yX10_noApproach [.code yX10_noApproach cX10_noApproach 2 (some .boolean)] ({ frames := 1, cells := 0, slots := 0, locals := 25 }) (PC D cy g [(a0, .inr (15, [.int 0, v0, v1, v2, v3, v4, v5, v6, v7, v8, v9, v10, v11, v12, v13, v14, v15, v16, v17, v18, v19, v20, v21, v22, v23, v24, v25, v26]))] sz [.ref a0, .int x0]) (QI D 1 (fun ad => [(a0, .inr (15, [.int 1, v0, v1, v2, v3, v4, v5, v6, v7, v8, v9, v10, v11, v12, v13, v14, v15, v16, v17, v18, v19, v20, v21, v22, v23, v24, v25, v26]))]) (va_A [(a0, .inr (15, [.int 0, v0, v1, v2, v3, v4, v5, v6, v7, v8, v9, v10, v11, v12, v13, v14, v15, v16, v17, v18, v19, v20, v21, v22, v23, v24, v25, v26]))] sz)) 0 0 (va_A [(a0, .inr (15, [.int 0, v0, v1, v2, v3, v4, v5, v6, v7, v8, v9, v10, v11, v12, v13, v14, v15, v16, v17, v18, v19, v20, v21, v22, v23, v24, v25, v26]))] sz) := by
  refine st_I (by decide) (Nat.le_of_ble_eq_true rfl) ?_
  intro p e s m args below meth c A ls hx hb hr hml hown hlk hnm hsz hP hD hA hE hts hS hl
  have hown : s.vm.findClass RX10 = some m.cls := hown
  have hl : lv_has ls 2 [(0, .ref a0), (1, .int x0)] := hl
  refine lv_aload_n hx hb dX10_noApproach_0 rfl (lv_at hl 0 rfl) ?_
  refine lv_iload_n hx hb dX10_noApproach_1 rfl (lv_at hl 1 rfl) ?_
  refine lv_i2l (v := x0.toInt64) hx hb dX10_noApproach_2 rfl ?_
  refine lv_lconst (v := 0) hx hb dX10_noApproach_3 (by decide) ?_
  refine lv_ldc2 (v := 100) hx hb hown (hts _ tw_681) dX10_noApproach_4 ?_
  refine ca_i (isC := []) (isR := [0]) (wr := [(a0, .inr (15, [.int 0, v0, v1, v2, v3, v4, v5, v6, v7, v8, v9, v10, v11, v12, v13, v14, v15, v16, v17, v18, v19, v20, v21, v22, v23, v24, v25, v26]))]) (rn_S (isC := []) (wc := []) (As := [.long x0.toInt64, .long 0, .long 100]) (rest := [.ref a0]) (n := 3) hx hb hml hown hts hE hS hP hD hA hl.1 (k21_X10_in l D cy g x0.toInt64 0 100 s.heap.size (wl_lt rfl (by decide) h0)) rfl rfl ax_39 rfl rfl ax_40 ⟨Nat.le_of_ble_eq_true rfl, Nat.le_of_ble_eq_true rfl⟩ rfl rfl (Nat.le_of_ble_eq_true rfl) dX10_noApproach_7 ⟨(Nat.le_of_ble_eq_true rfl), (Nat.le_of_ble_eq_true rfl)⟩) hP hD hS hA rfl rfl rfl (by decide) (fun ad7 H locs hP hD hS => ?_)
  have hP : va_P D vwCl [(a0, .inr (15, [.int 0, v0, v1, v2, v3, v4, v5, v6, v7, v8, v9, v10, v11, v12, v13, v14, v15, v16, v17, v18, v19, v20, v21, v22, v23, v24, v25, v26]))] H := hP
  have hD : va_D A [(a0, .inr (15, [.int 0, v0, v1, v2, v3, v4, v5, v6, v7, v8, v9, v10, v11, v12, v13, v14, v15, v16, v17, v18, v19, v20, v21, v22, v23, v24, v25, v26]))] := hD
  refine lv_if_ne (tgt := 17) hx hb dX10_noApproach_10 (by decide) (fun z => absurd (by decide) z) (fun _ => ?_)
  refine lv_iconst (v := 1) hx hb dX10_noApproach_13 (by decide) ?_
  refine lv_goto (tgt := 18) hx hb dX10_noApproach_14 (by decide) ?_
  refine lv_iconst (v := 1) hx hb dX10_noApproach_18 (by decide) ?_
  refine ca_i (isC := [0]) (isR := []) (wr := []) (rn_V (ci := 15) (q0 := 0) (isC := [0]) (wc := [(a0, .inr (15, [.int 0, v0, v1, v2, v3, v4, v5, v6, v7, v8, v9, v10, v11, v12, v13, v14, v15, v16, v17, v18, v19, v20, v21, v22, v23, v24, v25, v26]))]) (As := [.int 1, .int 1]) (rest := []) (n := 2) hx hb hml hown hts hE hS hP hD hA hl.1 (k22_X10_fails l D cy g a0 (v0) (v1) (v2) (v3) (v4) (v5) (v6) (v7) (v8) (v9) (v10) (v11) (v12) (v13) (v14) (v15) (v16) (v17) (v18) (v19) (v20) (v21) (v22) (v23) (v24) (v25) (v26) H.size ) rfl rfl rfl rfl rfl ax_41 rfl rfl ax_42 ⟨Nat.le_of_ble_eq_true rfl, Nat.le_of_ble_eq_true rfl⟩ rfl rfl (Nat.le_of_ble_eq_true rfl) dX10_noApproach_19 ⟨(Nat.le_of_ble_eq_true rfl), (Nat.le_of_ble_eq_true rfl)⟩) hP hD hS hA rfl rfl rfl (by decide) (fun ad19 H locs hP hD hS => ?_)
  have hP : va_P D vwCl [(a0, .inr (15, [.int 1, v0, v1, v2, v3, v4, v5, v6, v7, v8, v9, v10, v11, v12, v13, v14, v15, v16, v17, v18, v19, v20, v21, v22, v23, v24, v25, v26]))] H := hP
  have hD : va_D A [(a0, .inr (15, [.int 1, v0, v1, v2, v3, v4, v5, v6, v7, v8, v9, v10, v11, v12, v13, v14, v15, v16, v17, v18, v19, v20, v21, v22, v23, v24, v25, v26]))] := hD
  exact en_z hx hb hr hlk hP hD hS rfl (fun _ => 0) (is := [0]) rfl rfl (Nat.le_of_ble_eq_true rfl) (Nat.le_of_ble_eq_true rfl) dX10_noApproach_22
set_option maxHeartbeats 4000000 in
set_option maxRecDepth 100000 in
theorem k533_X10_heatNeeded (l : Launch) (D : va_G) (cy : Nat → ClassId) (g : Nat → Nat) (x0 : Int32) (a0 : Nat) (v0 : Value) (v1 : Value) (v2 : Value) (v3 : Value) (v4 : Value) (v5 : Value) (v6 : Value) (v7 : Value) (v8 : Value) (v9 : Value) (v10 : Value) (v11 : Value) (v12 : Value) (v13 : Value) (v14 : Value) (v15 : Value) (v16 : Value) (v17 : Value) (v18 : Value) (v19 : Value) (v20 : Value) (v21 : Value) (v22 : Value) (v23 : Value) (v24 : Value) (v25 : Value) (v26 : Value) (v27 : Value) (sz : Nat) (h0 : x0 < 0) : Met l yX10_heatNeeded [.code yX10_heatNeeded cX10_heatNeeded 2 (some .int)] ({ frames := 2, cells := 0, slots := 0, locals := 46 }) (PC D cy g [(a0, .inr (15, [v0, v1, v2, v3, v4, v5, v6, v7, v8, v9, v10, v11, v12, v13, v14, v15, v16, v17, v18, v19, v20, v21, v22, v23, v24, v25, v26, v27]))] sz [.ref a0, .int x0]) (QI D (-1) (fun ad => [(a0, .inr (15, [.int 1, v1, v2, v3, v4, v5, v6, v7, v8, v9, v10, v11, v12, v13, v14, v15, v16, v17, v18, v19, v20, v21, v22, v23, v24, v25, v26, v27]))]) (va_A [(a0, .inr (15, [v0, v1, v2, v3, v4, v5, v6, v7, v8, v9, v10, v11, v12, v13, v14, v15, v16, v17, v18, v19, v20, v21, v22, v23, v24, v25, v26, v27]))] sz)) 0 0 (va_A [(a0, .inr (15, [v0, v1, v2, v3, v4, v5, v6, v7, v8, v9, v10, v11, v12, v13, v14, v15, v16, v17, v18, v19, v20, v21, v22, v23, v24, v25, v26, v27]))] sz) := by
  refine st_I (by decide) (Nat.le_of_ble_eq_true rfl) ?_
  intro p e s m args below meth c A ls hx hb hr hml hown hlk hnm hsz hP hD hA hE hts hS hl
  have hown : s.vm.findClass RX10 = some m.cls := hown
  have hl : lv_has ls 2 [(0, .ref a0), (1, .int x0)] := hl
  refine lv_aload_n hx hb dX10_heatNeeded_0 rfl (lv_at hl 0 rfl) ?_
  refine ca_v (isC := [0]) (isR := []) (wr := []) (rn_V (ci := 15) (q0 := 0) (isC := [0]) (wc := [(a0, .inr (15, [v0, v1, v2, v3, v4, v5, v6, v7, v8, v9, v10, v11, v12, v13, v14, v15, v16, v17, v18, v19, v20, v21, v22, v23, v24, v25, v26, v27]))]) (As := []) (rest := []) (n := 0) hx hb hml hown hts hE hS hP hD hA hl.1 (k20_X10_begins l D cy g a0 (v0) (v1) (v2) (v3) (v4) (v5) (v6) (v7) (v8) (v9) (v10) (v11) (v12) (v13) (v14) (v15) (v16) (v17) (v18) (v19) (v20) (v21) (v22) (v23) (v24) (v25) (v26) (v27) s.heap.size ) rfl rfl rfl rfl rfl ax_37 rfl rfl ax_38 ⟨Nat.le_of_ble_eq_true rfl, Nat.le_of_ble_eq_true rfl⟩ rfl rfl (Nat.le_of_ble_eq_true rfl) dX10_heatNeeded_1 ⟨(Nat.le_of_ble_eq_true rfl), (Nat.le_of_ble_eq_true rfl)⟩) hP hD hS hA rfl rfl rfl (by decide) (fun ad1 H locs hP hD hS => ?_)
  have hP : va_P D vwCl [(a0, .inr (15, [.int 0, v1, v2, v3, v4, v5, v6, v7, v8, v9, v10, v11, v12, v13, v14, v15, v16, v17, v18, v19, v20, v21, v22, v23, v24, v25, v26, v27]))] H := hP
  have hD : va_D A [(a0, .inr (15, [.int 0, v1, v2, v3, v4, v5, v6, v7, v8, v9, v10, v11, v12, v13, v14, v15, v16, v17, v18, v19, v20, v21, v22, v23, v24, v25, v26, v27]))] := hD
  refine lv_aload_n hx hb dX10_heatNeeded_4 rfl (lv_at hl 0 rfl) ?_
  refine lv_iload_n hx hb dX10_heatNeeded_5 rfl (lv_at hl 1 rfl) ?_
  refine ca_i (isC := [0]) (isR := []) (wr := []) (rn_V (ci := 15) (q0 := 0) (isC := [0]) (wc := [(a0, .inr (15, [.int 0, v1, v2, v3, v4, v5, v6, v7, v8, v9, v10, v11, v12, v13, v14, v15, v16, v17, v18, v19, v20, v21, v22, v23, v24, v25, v26, v27]))]) (As := [.int x0]) (rest := []) (n := 1) hx hb hml hown hts hE hS hP hD hA hl.1 (k532_X10_noApproach l D cy g x0 a0 (v1) (v2) (v3) (v4) (v5) (v6) (v7) (v8) (v9) (v10) (v11) (v12) (v13) (v14) (v15) (v16) (v17) (v18) (v19) (v20) (v21) (v22) (v23) (v24) (v25) (v26) (v27) H.size h0) rfl rfl rfl rfl rfl ax_367 rfl rfl ax_368 ⟨Nat.le_of_ble_eq_true rfl, Nat.le_of_ble_eq_true rfl⟩ rfl rfl (Nat.le_of_ble_eq_true rfl) dX10_heatNeeded_6 ⟨(Nat.le_of_ble_eq_true rfl), (Nat.le_of_ble_eq_true rfl)⟩) hP hD hS hA rfl rfl rfl (by decide) (fun ad6 H locs hP hD hS => ?_)
  have hP : va_P D vwCl [(a0, .inr (15, [.int 1, v1, v2, v3, v4, v5, v6, v7, v8, v9, v10, v11, v12, v13, v14, v15, v16, v17, v18, v19, v20, v21, v22, v23, v24, v25, v26, v27]))] H := hP
  have hD : va_D A [(a0, .inr (15, [.int 1, v1, v2, v3, v4, v5, v6, v7, v8, v9, v10, v11, v12, v13, v14, v15, v16, v17, v18, v19, v20, v21, v22, v23, v24, v25, v26, v27]))] := hD
  refine lv_if_eq (tgt := 16) hx hb dX10_heatNeeded_9 (by decide) (fun z => absurd z (by decide)) (fun _ => ?_)
  refine lv_iconst (v := (-1)) hx hb dX10_heatNeeded_12 (by decide) ?_
  refine lv_goto (tgt := 23) hx hb dX10_heatNeeded_13 (by decide) ?_
  exact en_z hx hb hr hlk hP hD hS rfl (fun _ => 0) (is := [0]) rfl rfl (Nat.le_of_ble_eq_true rfl) (Nat.le_of_ble_eq_true rfl) dX10_heatNeeded_23
set_option maxHeartbeats 4000000 in
set_option maxRecDepth 100000 in
theorem k534_X9_requireApproach (l : Launch) (hst : l.stackTraces = false) (D : va_G) (cy : Nat → ClassId) (g : Nat → Nat) (x0 : Int32) (b0 : Nat) (sz : Nat) (h0 : ¬ x0 < 0) (h1 : (100 : Int32) < x0) : vx_Met l yX9_requireApproach [.code yX9_requireApproach cX9_requireApproach 2 none] ({ frames := 6, cells := 1, slots := 6, locals := 82 }) (PC D cy g [] sz [.ref b0, .int x0]) QN (XE "java/lang/IllegalArgumentException" (va_A [] sz)) 1 6 (va_A [] sz) := by
  refine st_X (by decide) (Nat.le_of_ble_eq_true rfl) ?_
  intro p e s m args below meth c A ls hx hb hr hml hown hlk hnm hsz hP hD hA hE hts hS hl hout
  have hown : s.vm.findClass RX9 = some m.cls := hown
  have hl : lv_has ls 2 [(0, .ref b0), (1, .int x0)] := hl
  refine lv_iload_n hx hb dX9_requireApproach_0 rfl (lv_at hl 1 rfl) ?_
  refine lv_iconst (v := 0) hx hb dX9_requireApproach_1 (by decide) ?_
  refine lv_bipush (v := 100) hx hb dX9_requireApproach_2 (by decide) ?_
  refine ca_i (isC := []) (isR := []) (wr := []) (rn_S (isC := []) (wc := []) (As := [.int x0, .int 0, .int 100]) (rest := []) (n := 3) hx hb hml hown hts hE hS hP hD hA hl.1 (k25_X9_isOutside l D cy g x0 0 100 s.heap.size h0 h1) rfl rfl ax_30 rfl rfl ax_31 ⟨Nat.le_of_ble_eq_true rfl, Nat.le_of_ble_eq_true rfl⟩ rfl rfl (Nat.le_of_ble_eq_true rfl) dX9_requireApproach_4 ⟨(Nat.le_of_ble_eq_true rfl), (Nat.le_of_ble_eq_true rfl)⟩) hP hD hS hA rfl rfl rfl (by decide) (fun ad4 H locs hP hD hS => ?_)
  have hP : va_P D vwCl [] H := hP
  have hD : va_D A [] := hD
  refine lv_if_eq (tgt := 21) hx hb dX9_requireApproach_7 (by decide) (fun z => absurd z (by decide)) (fun _ => ?_)
  exact th_SW (text := "the approach is out of range") hx hb hst hown hts hE hS (hl.1.trans hml.symm) hout hlk (by decide +kernel) tw_296 tw_297 ax_32 (by decide +kernel) dX9_requireApproach_10 dX9_requireApproach_13 dX9_requireApproach_14 dX9_requireApproach_17 dX9_requireApproach_20 ⟨Nat.le_of_ble_eq_true rfl, Nat.le_of_ble_eq_true rfl, Nat.le_of_ble_eq_true rfl, Nat.le_of_ble_eq_true rfl⟩ (Nat.le_of_ble_eq_true rfl) (Nat.le_of_ble_eq_true rfl)
set_option maxHeartbeats 4000000 in
set_option maxRecDepth 100000 in
theorem k535_X9_heatNeeded (l : Launch) (hst : l.stackTraces = false) (D : va_G) (cy : Nat → ClassId) (g : Nat → Nat) (x0 : Int32) (a0 : Nat) (v0 : Value) (v1 : Value) (v2 : Value) (v3 : Value) (v4 : Value) (v5 : Value) (v6 : Value) (sz : Nat) (h0 : ¬ x0 < 0) (h1 : (100 : Int32) < x0) : vx_Met l yX9_heatNeeded [.code yX9_heatNeeded cX9_heatNeeded 2 (some .int)] ({ frames := 7, cells := 1, slots := 6, locals := 103 }) (PC D cy g [(a0, .inr (14, [v0, v1, v2, v3, v4, v5, v6]))] sz [.ref a0, .int x0]) QN (XE "java/lang/IllegalArgumentException" (va_A [(a0, .inr (14, [v0, v1, v2, v3, v4, v5, v6]))] sz)) 1 6 (va_A [(a0, .inr (14, [v0, v1, v2, v3, v4, v5, v6]))] sz) := by
  refine st_X (by decide) (Nat.le_of_ble_eq_true rfl) ?_
  intro p e s m args below meth c A ls hx hb hr hml hown hlk hnm hsz hP hD hA hE hts hS hl hout
  have hown : s.vm.findClass RX9 = some m.cls := hown
  have hl : lv_has ls 2 [(0, .ref a0), (1, .int x0)] := hl
  refine lv_aload_n hx hb dX9_heatNeeded_0 rfl (lv_at hl 0 rfl) ?_
  refine lv_iload_n hx hb dX9_heatNeeded_1 rfl (lv_at hl 1 rfl) ?_
  exact cx_out (isC := []) (rx_V (ci := 14) (q0 := 0) (isC := []) (wc := []) (As := [.int x0]) (rest := []) (n := 1) hx hb hml hown hts hE hS hP hD hA hl.1 (k534_X9_requireApproach l hst D cy g x0 a0 s.heap.size h0 h1) rfl rfl rfl rfl rfl ax_361 rfl rfl ax_362 ⟨Nat.le_of_ble_eq_true rfl, Nat.le_of_ble_eq_true rfl⟩ rfl rfl (Nat.le_of_ble_eq_true rfl) dX9_heatNeeded_2 ⟨(Nat.le_of_ble_eq_true rfl), (Nat.le_of_ble_eq_true rfl)⟩) hD hS hA rfl hout hlk (Nat.le_of_ble_eq_true rfl) (Nat.le_of_ble_eq_true rfl)
set_option maxHeartbeats 4000000 in
set_option maxRecDepth 100000 in
theorem k536_L_heatNeeded (l : Launch) (hst : l.stackTraces = false) (D : va_G) (cy : Nat → ClassId) (g : Nat → Nat) (x0 : Int32) (a0 : Nat) (b0 : Nat) (v0 : Value) (v1 : Value) (v2 : Value) (v3 : Value) (v4 : Value) (v5 : Value) (v6 : Value) (sz : Nat) (h0 : ¬ x0 < 0) (h1 : (100 : Int32) < x0) : Met l yL_heatNeeded [.codeWith yL_heatNeeded cL_heatNeeded 4 (some .int) [(0, 9, 12, 13)]] ({ frames := 8, cells := 1, slots := 6, locals := 124 }) (PC D cy g [(a0, .inr (14, [v0, v1, v2, v3, v4, v5, v6]))] sz [.ref a0, .int x0, .ref b0]) (QI D 1 (fun ad => []) (va_A [(a0, .inr (14, [v0, v1, v2, v3, v4, v5, v6]))] sz)) 1 6 (va_A [(a0, .inr (14, [v0, v1, v2, v3, v4, v5, v6]))] sz) := by
  refine sh_I (by decide) (Nat.le_of_ble_eq_true rfl) ?_
  intro p e s m args below meth c A ls hx hb hr hml hown hlk hnm hsz hP hD hA hE hts hS hl htb
  have hown : s.vm.findClass RL = some m.cls := hown
  have hl : lv_has ls 4 [(0, .ref a0), (1, .int x0), (2, .ref b0)] := hl
  refine lv_aload_n hx hb dL_heatNeeded_0 rfl (lv_at hl 2 rfl) ?_
  refine lv_iconst (v := 0) hx hb dL_heatNeeded_1 (by decide) ?_
  refine lv_aload_n hx hb dL_heatNeeded_2 rfl (lv_at hl 0 rfl) ?_
  refine lv_iload_n hx hb dL_heatNeeded_3 rfl (lv_at hl 1 rfl) ?_
  refine cx_catch (isC := [0]) (isR := []) (wr := []) (hp := []) (z := (0, 9, 12, 13)) (hq := []) (name := "java/lang/IllegalArgumentException") (own := RL) (rx_V (ci := 14) (q0 := 0) (isC := [0]) (wc := [(a0, .inr (14, [v0, v1, v2, v3, v4, v5, v6]))]) (As := [.int x0]) (rest := [.int 0, .ref b0]) (n := 1) hx hb hml hown hts hE hS hP hD hA hl.1 (k535_X9_heatNeeded l hst D cy g x0 a0 (v0) (v1) (v2) (v3) (v4) (v5) (v6) s.heap.size h0 h1) rfl rfl rfl rfl rfl ax_363 rfl rfl ax_364 ⟨Nat.le_of_ble_eq_true rfl, Nat.le_of_ble_eq_true rfl⟩ rfl rfl (Nat.le_of_ble_eq_true rfl) dL_heatNeeded_4 ⟨(Nat.le_of_ble_eq_true rfl), (Nat.le_of_ble_eq_true rfl)⟩) hP hD hS hA hown hts hE htb rfl rfl rfl rfl (by decide) (fun z hz => by cases hz) (by decide) (by decide) tw_302 tw_303 (fun qx H locs hP hD hS => ?_)
  have hP : va_P D vwCl [] H := hP
  have hD : va_D A [] := hD
  refine lv_astore_n (lv' := [(3, .ref qx), (0, .ref a0), (1, .int x0), (2, .ref b0)]) hx hb dL_heatNeeded_12 rfl hl (Nat.le_of_ble_eq_true rfl) rfl (fun ls hl => ?_)
  refine lv_iconst (v := 1) hx hb dL_heatNeeded_13 (by decide) ?_
  exact en_z hx hb hr hlk hP hD hS rfl (fun _ => 0) (is := []) rfl rfl (Nat.le_of_ble_eq_true rfl) (Nat.le_of_ble_eq_true rfl) dL_heatNeeded_14
set_option maxHeartbeats 4000000 in
set_option maxRecDepth 100000 in
theorem k537_X10_noApproach (l : Launch) (D : va_G) (cy : Nat → ClassId) (g : Nat → Nat) (x0 : Int32) (a0 : Nat) (v0 : Value) (v1 : Value) (v2 : Value) (v3 : Value) (v4 : Value) (v5 : Value) (v6 : Value) (v7 : Value) (v8 : Value) (v9 : Value) (v10 : Value) (v11 : Value) (v12 : Value) (v13 : Value) (v14 : Value) (v15 : Value) (v16 : Value) (v17 : Value) (v18 : Value) (v19 : Value) (v20 : Value) (v21 : Value) (v22 : Value) (v23 : Value) (v24 : Value) (v25 : Value) (v26 : Value) (sz : Nat) (h0 : ¬ x0 < 0) (h1 : (100 : Int32) < x0) : Met l yX10_noApproach [.code yX10_noApproach cX10_noApproach 2 (some .boolean)] ({ frames := 1, cells := 0, slots := 0, locals := 25 }) (PC D cy g [(a0, .inr (15, [.int 0, v0, v1, v2, v3, v4, v5, v6, v7, v8, v9, v10, v11, v12, v13, v14, v15, v16, v17, v18, v19, v20, v21, v22, v23, v24, v25, v26]))] sz [.ref a0, .int x0]) (QI D 1 (fun ad => [(a0, .inr (15, [.int 1, v0, v1, v2, v3, v4, v5, v6, v7, v8, v9, v10, v11, v12, v13, v14, v15, v16, v17, v18, v19, v20, v21, v22, v23, v24, v25, v26]))]) (va_A [(a0, .inr (15, [.int 0, v0, v1, v2, v3, v4, v5, v6, v7, v8, v9, v10, v11, v12, v13, v14, v15, v16, v17, v18, v19, v20, v21, v22, v23, v24, v25, v26]))] sz)) 0 0 (va_A [(a0, .inr (15, [.int 0, v0, v1, v2, v3, v4, v5, v6, v7, v8, v9, v10, v11, v12, v13, v14, v15, v16, v17, v18, v19, v20, v21, v22, v23, v24, v25, v26]))] sz) := by
  refine st_I (by decide) (Nat.le_of_ble_eq_true rfl) ?_
  intro p e s m args below meth c A ls hx hb hr hml hown hlk hnm hsz hP hD hA hE hts hS hl
  have hown : s.vm.findClass RX10 = some m.cls := hown
  have hl : lv_has ls 2 [(0, .ref a0), (1, .int x0)] := hl
  refine lv_aload_n hx hb dX10_noApproach_0 rfl (lv_at hl 0 rfl) ?_
  refine lv_iload_n hx hb dX10_noApproach_1 rfl (lv_at hl 1 rfl) ?_
  refine lv_i2l (v := x0.toInt64) hx hb dX10_noApproach_2 rfl ?_
  refine lv_lconst (v := 0) hx hb dX10_noApproach_3 (by decide) ?_
  refine lv_ldc2 (v := 100) hx hb hown (hts _ tw_681) dX10_noApproach_4 ?_
  refine ca_i (isC := []) (isR := [0]) (wr := [(a0, .inr (15, [.int 0, v0, v1, v2, v3, v4, v5, v6, v7, v8, v9, v10, v11, v12, v13, v14, v15, v16, v17, v18, v19, v20, v21, v22, v23, v24, v25, v26]))]) (rn_S (isC := []) (wc := []) (As := [.long x0.toInt64, .long 0, .long 100]) (rest := [.ref a0]) (n := 3) hx hb hml hown hts hE hS hP hD hA hl.1 (k28_X10_in l D cy g x0.toInt64 0 100 s.heap.size (wl_nlt rfl (by decide) h0) (wl_lt (by decide) rfl h1)) rfl rfl ax_39 rfl rfl ax_40 ⟨Nat.le_of_ble_eq_true rfl, Nat.le_of_ble_eq_true rfl⟩ rfl rfl (Nat.le_of_ble_eq_true rfl) dX10_noApproach_7 ⟨(Nat.le_of_ble_eq_true rfl), (Nat.le_of_ble_eq_true rfl)⟩) hP hD hS hA rfl rfl rfl (by decide) (fun ad7 H locs hP hD hS => ?_)
  have hP : va_P D vwCl [(a0, .inr (15, [.int 0, v0, v1, v2, v3, v4, v5, v6, v7, v8, v9, v10, v11, v12, v13, v14, v15, v16, v17, v18, v19, v20, v21, v22, v23, v24, v25, v26]))] H := hP
  have hD : va_D A [(a0, .inr (15, [.int 0, v0, v1, v2, v3, v4, v5, v6, v7, v8, v9, v10, v11, v12, v13, v14, v15, v16, v17, v18, v19, v20, v21, v22, v23, v24, v25, v26]))] := hD
  refine lv_if_ne (tgt := 17) hx hb dX10_noApproach_10 (by decide) (fun z => absurd (by decide) z) (fun _ => ?_)
  refine lv_iconst (v := 1) hx hb dX10_noApproach_13 (by decide) ?_
  refine lv_goto (tgt := 18) hx hb dX10_noApproach_14 (by decide) ?_
  refine lv_iconst (v := 1) hx hb dX10_noApproach_18 (by decide) ?_
  refine ca_i (isC := [0]) (isR := []) (wr := []) (rn_V (ci := 15) (q0 := 0) (isC := [0]) (wc := [(a0, .inr (15, [.int 0, v0, v1, v2, v3, v4, v5, v6, v7, v8, v9, v10, v11, v12, v13, v14, v15, v16, v17, v18, v19, v20, v21, v22, v23, v24, v25, v26]))]) (As := [.int 1, .int 1]) (rest := []) (n := 2) hx hb hml hown hts hE hS hP hD hA hl.1 (k22_X10_fails l D cy g a0 (v0) (v1) (v2) (v3) (v4) (v5) (v6) (v7) (v8) (v9) (v10) (v11) (v12) (v13) (v14) (v15) (v16) (v17) (v18) (v19) (v20) (v21) (v22) (v23) (v24) (v25) (v26) H.size ) rfl rfl rfl rfl rfl ax_41 rfl rfl ax_42 ⟨Nat.le_of_ble_eq_true rfl, Nat.le_of_ble_eq_true rfl⟩ rfl rfl (Nat.le_of_ble_eq_true rfl) dX10_noApproach_19 ⟨(Nat.le_of_ble_eq_true rfl), (Nat.le_of_ble_eq_true rfl)⟩) hP hD hS hA rfl rfl rfl (by decide) (fun ad19 H locs hP hD hS => ?_)
  have hP : va_P D vwCl [(a0, .inr (15, [.int 1, v0, v1, v2, v3, v4, v5, v6, v7, v8, v9, v10, v11, v12, v13, v14, v15, v16, v17, v18, v19, v20, v21, v22, v23, v24, v25, v26]))] H := hP
  have hD : va_D A [(a0, .inr (15, [.int 1, v0, v1, v2, v3, v4, v5, v6, v7, v8, v9, v10, v11, v12, v13, v14, v15, v16, v17, v18, v19, v20, v21, v22, v23, v24, v25, v26]))] := hD
  exact en_z hx hb hr hlk hP hD hS rfl (fun _ => 0) (is := [0]) rfl rfl (Nat.le_of_ble_eq_true rfl) (Nat.le_of_ble_eq_true rfl) dX10_noApproach_22
set_option maxHeartbeats 4000000 in
set_option maxRecDepth 100000 in
theorem k538_X10_heatNeeded (l : Launch) (D : va_G) (cy : Nat → ClassId) (g : Nat → Nat) (x0 : Int32) (a0 : Nat) (v0 : Value) (v1 : Value) (v2 : Value) (v3 : Value) (v4 : Value) (v5 : Value) (v6 : Value) (v7 : Value) (v8 : Value) (v9 : Value) (v10 : Value) (v11 : Value) (v12 : Value) (v13 : Value) (v14 : Value) (v15 : Value) (v16 : Value) (v17 : Value) (v18 : Value) (v19 : Value) (v20 : Value) (v21 : Value) (v22 : Value) (v23 : Value) (v24 : Value) (v25 : Value) (v26 : Value) (v27 : Value) (sz : Nat) (h0 : ¬ x0 < 0) (h1 : (100 : Int32) < x0) : Met l yX10_heatNeeded [.code yX10_heatNeeded cX10_heatNeeded 2 (some .int)] ({ frames := 2, cells := 0, slots := 0, locals := 46 }) (PC D cy g [(a0, .inr (15, [v0, v1, v2, v3, v4, v5, v6, v7, v8, v9, v10, v11, v12, v13, v14, v15, v16, v17, v18, v19, v20, v21, v22, v23, v24, v25, v26, v27]))] sz [.ref a0, .int x0]) (QI D (-1) (fun ad => [(a0, .inr (15, [.int 1, v1, v2, v3, v4, v5, v6, v7, v8, v9, v10, v11, v12, v13, v14, v15, v16, v17, v18, v19, v20, v21, v22, v23, v24, v25, v26, v27]))]) (va_A [(a0, .inr (15, [v0, v1, v2, v3, v4, v5, v6, v7, v8, v9, v10, v11, v12, v13, v14, v15, v16, v17, v18, v19, v20, v21, v22, v23, v24, v25, v26, v27]))] sz)) 0 0 (va_A [(a0, .inr (15, [v0, v1, v2, v3, v4, v5, v6, v7, v8, v9, v10, v11, v12, v13, v14, v15, v16, v17, v18, v19, v20, v21, v22, v23, v24, v25, v26, v27]))] sz) := by
  refine st_I (by decide) (Nat.le_of_ble_eq_true rfl) ?_
  intro p e s m args below meth c A ls hx hb hr hml hown hlk hnm hsz hP hD hA hE hts hS hl
  have hown : s.vm.findClass RX10 = some m.cls := hown
  have hl : lv_has ls 2 [(0, .ref a0), (1, .int x0)] := hl
  refine lv_aload_n hx hb dX10_heatNeeded_0 rfl (lv_at hl 0 rfl) ?_
  refine ca_v (isC := [0]) (isR := []) (wr := []) (rn_V (ci := 15) (q0 := 0) (isC := [0]) (wc := [(a0, .inr (15, [v0, v1, v2, v3, v4, v5, v6, v7, v8, v9, v10, v11, v12, v13, v14, v15, v16, v17, v18, v19, v20, v21, v22, v23, v24, v25, v26, v27]))]) (As := []) (rest := []) (n := 0) hx hb hml hown hts hE hS hP hD hA hl.1 (k20_X10_begins l D cy g a0 (v0) (v1) (v2) (v3) (v4) (v5) (v6) (v7) (v8) (v9) (v10) (v11) (v12) (v13) (v14) (v15) (v16) (v17) (v18) (v19) (v20) (v21) (v22) (v23) (v24) (v25) (v26) (v27) s.heap.size ) rfl rfl rfl rfl rfl ax_37 rfl rfl ax_38 ⟨Nat.le_of_ble_eq_true rfl, Nat.le_of_ble_eq_true rfl⟩ rfl rfl (Nat.le_of_ble_eq_true rfl) dX10_heatNeeded_1 ⟨(Nat.le_of_ble_eq_true rfl), (Nat.le_of_ble_eq_true rfl)⟩) hP hD hS hA rfl rfl rfl (by decide) (fun ad1 H locs hP hD hS => ?_)
  have hP : va_P D vwCl [(a0, .inr (15, [.int 0, v1, v2, v3, v4, v5, v6, v7, v8, v9, v10, v11, v12, v13, v14, v15, v16, v17, v18, v19, v20, v21, v22, v23, v24, v25, v26, v27]))] H := hP
  have hD : va_D A [(a0, .inr (15, [.int 0, v1, v2, v3, v4, v5, v6, v7, v8, v9, v10, v11, v12, v13, v14, v15, v16, v17, v18, v19, v20, v21, v22, v23, v24, v25, v26, v27]))] := hD
  refine lv_aload_n hx hb dX10_heatNeeded_4 rfl (lv_at hl 0 rfl) ?_
  refine lv_iload_n hx hb dX10_heatNeeded_5 rfl (lv_at hl 1 rfl) ?_
  refine ca_i (isC := [0]) (isR := []) (wr := []) (rn_V (ci := 15) (q0 := 0) (isC := [0]) (wc := [(a0, .inr (15, [.int 0, v1, v2, v3, v4, v5, v6, v7, v8, v9, v10, v11, v12, v13, v14, v15, v16, v17, v18, v19, v20, v21, v22, v23, v24, v25, v26, v27]))]) (As := [.int x0]) (rest := []) (n := 1) hx hb hml hown hts hE hS hP hD hA hl.1 (k537_X10_noApproach l D cy g x0 a0 (v1) (v2) (v3) (v4) (v5) (v6) (v7) (v8) (v9) (v10) (v11) (v12) (v13) (v14) (v15) (v16) (v17) (v18) (v19) (v20) (v21) (v22) (v23) (v24) (v25) (v26) (v27) H.size h0 h1) rfl rfl rfl rfl rfl ax_367 rfl rfl ax_368 ⟨Nat.le_of_ble_eq_true rfl, Nat.le_of_ble_eq_true rfl⟩ rfl rfl (Nat.le_of_ble_eq_true rfl) dX10_heatNeeded_6 ⟨(Nat.le_of_ble_eq_true rfl), (Nat.le_of_ble_eq_true rfl)⟩) hP hD hS hA rfl rfl rfl (by decide) (fun ad6 H locs hP hD hS => ?_)
  have hP : va_P D vwCl [(a0, .inr (15, [.int 1, v1, v2, v3, v4, v5, v6, v7, v8, v9, v10, v11, v12, v13, v14, v15, v16, v17, v18, v19, v20, v21, v22, v23, v24, v25, v26, v27]))] H := hP
  have hD : va_D A [(a0, .inr (15, [.int 1, v1, v2, v3, v4, v5, v6, v7, v8, v9, v10, v11, v12, v13, v14, v15, v16, v17, v18, v19, v20, v21, v22, v23, v24, v25, v26, v27]))] := hD
  refine lv_if_eq (tgt := 16) hx hb dX10_heatNeeded_9 (by decide) (fun z => absurd z (by decide)) (fun _ => ?_)
  refine lv_iconst (v := (-1)) hx hb dX10_heatNeeded_12 (by decide) ?_
  refine lv_goto (tgt := 23) hx hb dX10_heatNeeded_13 (by decide) ?_
  exact en_z hx hb hr hlk hP hD hS rfl (fun _ => 0) (is := [0]) rfl rfl (Nat.le_of_ble_eq_true rfl) (Nat.le_of_ble_eq_true rfl) dX10_heatNeeded_23
set_option maxHeartbeats 4000000 in
set_option maxRecDepth 100000 in
theorem k539_X9_requireApproach (l : Launch) (D : va_G) (cy : Nat → ClassId) (g : Nat → Nat) (x0 : Int32) (b0 : Nat) (sz : Nat) (h0 : ¬ x0 < 0) (h1 : ¬ (100 : Int32) < x0) : Met l yX9_requireApproach [.code yX9_requireApproach cX9_requireApproach 2 none] ({ frames := 1, cells := 0, slots := 0, locals := 22 }) (PC D cy g [] sz [.ref b0, .int x0]) (QV D (fun ad => []) (va_A [] sz)) 0 0 (va_A [] sz) := by
  refine st_V (by decide) (Nat.le_of_ble_eq_true rfl) ?_
  intro p e s m args below meth c A ls hx hb hr hml hown hlk hnm hsz hP hD hA hE hts hS hl
  have hown : s.vm.findClass RX9 = some m.cls := hown
  have hl : lv_has ls 2 [(0, .ref b0), (1, .int x0)] := hl
  refine lv_iload_n hx hb dX9_requireApproach_0 rfl (lv_at hl 1 rfl) ?_
  refine lv_iconst (v := 0) hx hb dX9_requireApproach_1 (by decide) ?_
  refine lv_bipush (v := 100) hx hb dX9_requireApproach_2 (by decide) ?_
  refine ca_i (isC := []) (isR := []) (wr := []) (rn_S (isC := []) (wc := []) (As := [.int x0, .int 0, .int 100]) (rest := []) (n := 3) hx hb hml hown hts hE hS hP hD hA hl.1 (k30_X9_isOutside l D cy g x0 0 100 s.heap.size h0 h1) rfl rfl ax_30 rfl rfl ax_31 ⟨Nat.le_of_ble_eq_true rfl, Nat.le_of_ble_eq_true rfl⟩ rfl rfl (Nat.le_of_ble_eq_true rfl) dX9_requireApproach_4 ⟨(Nat.le_of_ble_eq_true rfl), (Nat.le_of_ble_eq_true rfl)⟩) hP hD hS hA rfl rfl rfl (by decide) (fun ad4 H locs hP hD hS => ?_)
  have hP : va_P D vwCl [] H := hP
  have hD : va_D A [] := hD
  refine lv_if_eq (tgt := 21) hx hb dX9_requireApproach_7 (by decide) (fun _ => ?_) (fun z => absurd (by decide) z)
  exact en_v hx hb hr hlk hP hD hS (fun _ => 0) (is := []) rfl rfl (Nat.le_of_ble_eq_true rfl) (Nat.le_of_ble_eq_true rfl) dX9_requireApproach_21

set_option maxHeartbeats 4000000 in
set_option maxRecDepth 100000 in
theorem k120_L_addRow (l : Launch) (hst : l.stackTraces = false) (D : va_G) (cy : Nat → ClassId) (g : Nat → Nat) (x0 : Int32) (x1 : Int32) (x2 : Int32) (x3 : Int32) (a0 : Nat) (b0 : Nat) (v0 : Value) (v1 : Value) (v2 : Value) (v3 : Value) (v4 : Value) (v5 : Value) (v6 : Value) (sz : Nat) (h0 : ¬ x0 < 1) (h1 : ¬ (1000 : Int32) < x0) (h2 : ¬ x1 < 50) (h3 : (999 : Int32) < x1) : Met l yL_addRow [.codeWith yL_addRow cL_addRow 7 (some .int) [(0, 14, 17, 13), (0, 14, 21, 30), (0, 14, 25, 15)]] ({ frames := 7, cells := 1, slots := 6, locals := 106 }) (PC D cy g [(a0, .inr (14, [v0, v1, v2, v3, v4, v5, v6]))] sz [.ref a0, .int x0, .int x1, .int x2, .int x3, .ref b0]) (QI D 1 (fun ad => []) (va_A [(a0, .inr (14, [v0, v1, v2, v3, v4, v5, v6]))] sz)) 1 6 (va_A [(a0, .inr (14, [v0, v1, v2, v3, v4, v5, v6]))] sz) := by
  refine sh_I (by decide) (Nat.le_of_ble_eq_true rfl) ?_
  intro p e s m args below meth c A ls hx hb hr hml hown hlk hnm hsz hP hD hA hE hts hS hl htb
  have hown : s.vm.findClass RL = some m.cls := hown
  have hl : lv_has ls 7 [(0, .ref a0), (1, .int x0), (2, .int x1), (3, .int x2), (4, .int x3), (5, .ref b0)] := hl
  refine lv_aload hx hb dL_addRow_0 (lv_at hl 5 rfl) ?_
  refine lv_iconst (v := 0) hx hb dL_addRow_2 (by decide) ?_
  refine lv_aload_n hx hb dL_addRow_3 rfl (lv_at hl 0 rfl) ?_
  refine lv_iload_n hx hb dL_addRow_4 rfl (lv_at hl 1 rfl) ?_
  refine lv_iload_n hx hb dL_addRow_5 rfl (lv_at hl 2 rfl) ?_
  refine lv_iload_n hx hb dL_addRow_6 rfl (lv_at hl 3 rfl) ?_
  refine lv_iload hx hb dL_addRow_7 (lv_at hl 4 rfl) ?_
  refine cx_catch (isC := []) (isR := [0]) (wr := [(a0, .inr (14, [v0, v1, v2, v3, v4, v5, v6]))]) (hp := []) (z := (0, 14, 17, 13)) (hq := [(0, 14, 21, 30), (0, 14, 25, 15)]) (name := "java/lang/IllegalArgumentException") (own := RL) (rx_V (ci := 14) (q0 := 0) (isC := []) (wc := []) (As := [.int x0, .int x1, .int x2, .int x3]) (rest := [.int 0, .ref b0]) (n := 4) hx hb hml hown hts hE hS hP hD hA hl.1 (k119_X9_addRow l hst D cy g x0 x1 x2 x3 a0 s.heap.size h0 h1 h2 h3) rfl rfl rfl rfl rfl ax_114 rfl rfl ax_115 ⟨Nat.le_of_ble_eq_true rfl, Nat.le_of_ble_eq_true rfl⟩ rfl rfl (Nat.le_of_ble_eq_true rfl) dL_addRow_9 ⟨(Nat.le_of_ble_eq_true rfl), (Nat.le_of_ble_eq_true rfl)⟩) hP hD hS hA hown hts hE htb rfl rfl rfl rfl (by decide) (fun z hz => by cases hz) (by decide) (by decide) tw_302 tw_303 (fun qx H locs hP hD hS => ?_)
  have hP : va_P D vwCl [(a0, .inr (14, [v0, v1, v2, v3, v4, v5, v6]))] H := hP
  have hD : va_D A [(a0, .inr (14, [v0, v1, v2, v3, v4, v5, v6]))] := hD
  refine lv_astore (lv' := [(6, .ref qx), (0, .ref a0), (1, .int x0), (2, .int x1), (3, .int x2), (4, .int x3), (5, .ref b0)]) hx hb dL_addRow_17 hl (Nat.le_of_ble_eq_true rfl) rfl (fun ls hl => ?_)
  refine lv_iconst (v := 1) hx hb dL_addRow_19 (by decide) ?_
  exact en_z hx hb hr hlk hP hD hS rfl (fun _ => 0) (is := []) rfl rfl (Nat.le_of_ble_eq_true rfl) (Nat.le_of_ble_eq_true rfl) dL_addRow_20
set_option maxHeartbeats 4000000 in
set_option maxRecDepth 100000 in
theorem k121_X10_addRow (l : Launch) (D : va_G) (cy : Nat → ClassId) (g : Nat → Nat) (x0 : Int32) (x1 : Int32) (x2 : Int32) (x3 : Int32) (a0 : Nat) (v0 : Value) (v1 : Value) (v2 : Value) (v3 : Value) (v4 : Value) (v5 : Value) (v6 : Value) (v7 : Value) (v8 : Value) (v9 : Value) (v10 : Value) (v11 : Value) (v12 : Value) (v13 : Value) (v14 : Value) (v15 : Value) (v16 : Value) (v17 : Value) (v18 : Value) (v19 : Value) (v20 : Value) (v21 : Value) (v22 : Value) (v23 : Value) (v24 : Value) (v25 : Value) (v26 : Value) (v27 : Value) (sz : Nat) (h0 : ¬ x0 < 1) (h1 : ¬ (1000 : Int32) < x0) (h2 : ¬ x1 < 50) (h3 : (999 : Int32) < x1) : Met l yX10_addRow [.code yX10_addRow cX10_addRow 7 (some .int)] ({ frames := 1, cells := 0, slots := 0, locals := 25 }) (PC D cy g [(a0, .inr (15, [v0, v1, v2, v3, v4, v5, v6, v7, v8, v9, v10, v11, v12, v13, v14, v15, v16, v17, v18, v19, v20, v21, v22, v23, v24, v25, v26, v27]))] sz [.ref a0, .int x0, .int x1, .int x2, .int x3]) (QI D (-1) (fun ad => [(a0, .inr (15, [.int 1, v1, v2, v3, v4, v5, v6, v7, v8, v9, v10, v11, v12, v13, v14, v15, v16, v17, v18, v19, v20, v21, v22, v23, v24, v25, v26, v27]))]) (va_A [(a0, .inr (15, [v0, v1, v2, v3, v4, v5, v6, v7, v8, v9, v10, v11, v12, v13, v14, v15, v16, v17, v18, v19, v20, v21, v22, v23, v24, v25, v26, v27]))] sz)) 0 0 (va_A [(a0, .inr (15, [v0, v1, v2, v3, v4, v5, v6, v7, v8, v9, v10, v11, v12, v13, v14, v15, v16, v17, v18, v19, v20, v21, v22, v23, v24, v25, v26, v27]))] sz) := by
  refine st_I (by decide) (Nat.le_of_ble_eq_true rfl) ?_
  intro p e s m args below meth c A ls hx hb hr hml hown hlk hnm hsz hP hD hA hE hts hS hl
  have hown : s.vm.findClass RX10 = some m.cls := hown
  have hl : lv_has ls 7 [(0, .ref a0), (1, .int x0), (2, .int x1), (3, .int x2), (4, .int x3)] := hl
  refine lv_aload_n hx hb dX10_addRow_0 rfl (lv_at hl 0 rfl) ?_
  refine ca_v (isC := [0]) (isR := []) (wr := []) (rn_V (ci := 15) (q0 := 0) (isC := [0]) (wc := [(a0, .inr (15, [v0, v1, v2, v3, v4, v5, v6, v7, v8, v9, v10, v11, v12, v13, v14, v15, v16, v17, v18, v19, v20, v21, v22, v23, v24, v25, v26, v27]))]) (As := []) (rest := []) (n := 0) hx hb hml hown hts hE hS hP hD hA hl.1 (k20_X10_begins l D cy g a0 (v0) (v1) (v2) (v3) (v4) (v5) (v6) (v7) (v8) (v9) (v10) (v11) (v12) (v13) (v14) (v15) (v16) (v17) (v18) (v19) (v20) (v21) (v22) (v23) (v24) (v25) (v26) (v27) s.heap.size ) rfl rfl rfl rfl rfl ax_37 rfl rfl ax_38 ⟨Nat.le_of_ble_eq_true rfl, Nat.le_of_ble_eq_true rfl⟩ rfl rfl (Nat.le_of_ble_eq_true rfl) dX10_addRow_1 ⟨(Nat.le_of_ble_eq_true rfl), (Nat.le_of_ble_eq_true rfl)⟩) hP hD hS hA rfl rfl rfl (by decide) (fun ad1 H locs hP hD hS => ?_)
  have hP : va_P D vwCl [(a0, .inr (15, [.int 0, v1, v2, v3, v4, v5, v6, v7, v8, v9, v10, v11, v12, v13, v14, v15, v16, v17, v18, v19, v20, v21, v22, v23, v24, v25, v26, v27]))] H := hP
  have hD : va_D A [(a0, .inr (15, [.int 0, v1, v2, v3, v4, v5, v6, v7, v8, v9, v10, v11, v12, v13, v14, v15, v16, v17, v18, v19, v20, v21, v22, v23, v24, v25, v26, v27]))] := hD
  refine lv_aload_n hx hb dX10_addRow_4 rfl (lv_at hl 0 rfl) ?_
  refine lv_iload_n hx hb dX10_addRow_5 rfl (lv_at hl 1 rfl) ?_
  refine lv_i2l (v := x0.toInt64) hx hb dX10_addRow_6 rfl ?_
  refine lv_lconst (v := 1) hx hb dX10_addRow_7 (by decide) ?_
  refine lv_ldc2 (v := 1000) hx hb hown (hts _ tw_331) dX10_addRow_8 ?_
  refine ca_i (isC := []) (isR := [0]) (wr := [(a0, .inr (15, [.int 0, v1, v2, v3, v4, v5, v6, v7, v8, v9, v10, v11, v12, v13, v14, v15, v16, v17, v18, v19, v20, v21, v22, v23, v24, v25, v26, v27]))]) (rn_S (isC := []) (wc := []) (As := [.long x0.toInt64, .long 1, .long 1000]) (rest := [.ref a0]) (n := 3) hx hb hml hown hts hE hS hP hD hA hl.1 (k33_X10_in l D cy g x0.toInt64 1 1000 H.size (wl_nlt rfl (by decide) h0) (wl_nlt (by decide) rfl h1)) rfl rfl ax_39 rfl rfl ax_40 ⟨Nat.le_of_ble_eq_true rfl, Nat.le_of_ble_eq_true rfl⟩ rfl rfl (Nat.le_of_ble_eq_true rfl) dX10_addRow_11 ⟨(Nat.le_of_ble_eq_true rfl), (Nat.le_of_ble_eq_true rfl)⟩) hP hD hS hA rfl rfl rfl (by decide) (fun ad11 H locs hP hD hS => ?_)
  have hP : va_P D vwCl [(a0, .inr (15, [.int 0, v1, v2, v3, v4, v5, v6, v7, v8, v9, v10, v11, v12, v13, v14, v15, v16, v17, v18, v19, v20, v21, v22, v23, v24, v25, v26, v27]))] H := hP
  have hD : va_D A [(a0, .inr (15, [.int 0, v1, v2, v3, v4, v5, v6, v7, v8, v9, v10, v11, v12, v13, v14, v15, v16, v17, v18, v19, v20, v21, v22, v23, v24, v25, v26, v27]))] := hD
  refine lv_if_eq (tgt := 56) hx hb dX10_addRow_14 (by decide) (fun z => absurd z (by decide)) (fun _ => ?_)
  refine lv_iload_n hx hb dX10_addRow_17 rfl (lv_at hl 2 rfl) ?_
  refine lv_i2l (v := x1.toInt64) hx hb dX10_addRow_18 rfl ?_
  refine lv_ldc2 (v := 50) hx hb hown (hts _ tw_314) dX10_addRow_19 ?_
  refine lv_ldc2 (v := 999) hx hb hown (hts _ tw_493) dX10_addRow_22 ?_
  refine ca_i (isC := []) (isR := [0]) (wr := [(a0, .inr (15, [.int 0, v1, v2, v3, v4, v5, v6, v7, v8, v9, v10, v11, v12, v13, v14, v15, v16, v17, v18, v19, v20, v21, v22, v23, v24, v25, v26, v27]))]) (rn_S (isC := []) (wc := []) (As := [.long x1.toInt64, .long 50, .long 999]) (rest := [.ref a0]) (n := 3) hx hb hml hown hts hE hS hP hD hA hl.1 (k28_X10_in l D cy g x1.toInt64 50 999 H.size (wl_nlt rfl (by decide) h2) (wl_lt (by decide) rfl h3)) rfl rfl ax_39 rfl rfl ax_40 ⟨Nat.le_of_ble_eq_true rfl, Nat.le_of_ble_eq_true rfl⟩ rfl rfl (Nat.le_of_ble_eq_true rfl) dX10_addRow_25 ⟨(Nat.le_of_ble_eq_true rfl), (Nat.le_of_ble_eq_true rfl)⟩) hP hD hS hA rfl rfl rfl (by decide) (fun ad25 H locs hP hD hS => ?_)
  have hP : va_P D vwCl [(a0, .inr (15, [.int 0, v1, v2, v3, v4, v5, v6, v7, v8, v9, v10, v11, v12, v13, v14, v15, v16, v17, v18, v19, v20, v21, v22, v23, v24, v25, v26, v27]))] H := hP
  have hD : va_D A [(a0, .inr (15, [.int 0, v1, v2, v3, v4, v5, v6, v7, v8, v9, v10, v11, v12, v13, v14, v15, v16, v17, v18, v19, v20, v21, v22, v23, v24, v25, v26, v27]))] := hD
  refine lv_if_eq (tgt := 56) hx hb dX10_addRow_28 (by decide) (fun _ => ?_) (fun z => absurd (by decide) z)
  refine lv_iconst (v := 1) hx hb dX10_addRow_56 (by decide) ?_
  refine lv_goto (tgt := 61) hx hb dX10_addRow_57 (by decide) ?_
  refine lv_iconst (v := 1) hx hb dX10_addRow_61 (by decide) ?_
  refine ca_i (isC := [0]) (isR := []) (wr := []) (rn_V (ci := 15) (q0 := 0) (isC := [0]) (wc := [(a0, .inr (15, [.int 0, v1, v2, v3, v4, v5, v6, v7, v8, v9, v10, v11, v12, v13, v14, v15, v16, v17, v18, v19, v20, v21, v22, v23, v24, v25, v26, v27]))]) (As := [.int 1, .int 1]) (rest := []) (n := 2) hx hb hml hown hts hE hS hP hD hA hl.1 (k22_X10_fails l D cy g a0 (v1) (v2) (v3) (v4) (v5) (v6) (v7) (v8) (v9) (v10) (v11) (v12) (v13) (v14) (v15) (v16) (v17) (v18) (v19) (v20) (v21) (v22) (v23) (v24) (v25) (v26) (v27) H.size ) rfl rfl rfl rfl rfl ax_41 rfl rfl ax_42 ⟨Nat.le_of_ble_eq_true rfl, Nat.le_of_ble_eq_true rfl⟩ rfl rfl (Nat.le_of_ble_eq_true rfl) dX10_addRow_62 ⟨(Nat.le_of_ble_eq_true rfl), (Nat.le_of_ble_eq_true rfl)⟩) hP hD hS hA rfl rfl rfl (by decide) (fun ad62 H locs hP hD hS => ?_)
  have hP : va_P D vwCl [(a0, .inr (15, [.int 1, v1, v2, v3, v4, v5, v6, v7, v8, v9, v10, v11, v12, v13, v14, v15, v16, v17, v18, v19, v20, v21, v22, v23, v24, v25, v26, v27]))] H := hP
  have hD : va_D A [(a0, .inr (15, [.int 1, v1, v2, v3, v4, v5, v6, v7, v8, v9, v10, v11, v12, v13, v14, v15, v16, v17, v18, v19, v20, v21, v22, v23, v24, v25, v26, v27]))] := hD
  refine lv_if_eq (tgt := 70) hx hb dX10_addRow_65 (by decide) (fun z => absurd z (by decide)) (fun _ => ?_)
  refine lv_iconst (v := (-1)) hx hb dX10_addRow_68 (by decide) ?_
  exact en_z hx hb hr hlk hP hD hS rfl (fun _ => 0) (is := [0]) rfl rfl (Nat.le_of_ble_eq_true rfl) (Nat.le_of_ble_eq_true rfl) dX10_addRow_69
set_option maxHeartbeats 4000000 in
set_option maxRecDepth 100000 in
theorem k122_X9_addRow (l : Launch) (hst : l.stackTraces = false) (D : va_G) (cy : Nat → ClassId) (g : Nat → Nat) (x0 : Int32) (x1 : Int32) (x2 : Int32) (x3 : Int32) (b0 : Nat) (sz : Nat) (h0 : ¬ x0 < 1) (h1 : ¬ (1000 : Int32) < x0) (h2 : ¬ x1 < 50) (h3 : ¬ (999 : Int32) < x1) (h4 : x2 < 0) : vx_Met l yX9_addRow [.code yX9_addRow cX9_addRow 5 (some .int)] ({ frames := 6, cells := 1, slots := 6, locals := 82 }) (PC D cy g [] sz [.ref b0, .int x0, .int x1, .int x2, .int x3]) QN (XE "java/lang/IllegalArgumentException" (va_A [] sz)) 1 6 (va_A [] sz) := by
  refine st_X (by decide) (Nat.le_of_ble_eq_true rfl) ?_
  intro p e s m args below meth c A ls hx hb hr hml hown hlk hnm hsz hP hD hA hE hts hS hl hout
  have hown : s.vm.findClass RX9 = some m.cls := hown
  have hl : lv_has ls 5 [(0, .ref b0), (1, .int x0), (2, .int x1), (3, .int x2), (4, .int x3)] := hl
  refine lv_iload_n hx hb dX9_addRow_0 rfl (lv_at hl 1 rfl) ?_
  refine lv_iconst (v := 1) hx hb dX9_addRow_1 (by decide) ?_
  refine lv_sipush (v := 1000) hx hb dX9_addRow_2 (by decide) ?_
  refine ca_i (isC := []) (isR := []) (wr := []) (rn_S (isC := []) (wc := []) (As := [.int x0, .int 1, .int 1000]) (rest := []) (n := 3) hx hb hml hown hts hE hS hP hD hA hl.1 (k30_X9_isOutside l D cy g x0 1 1000 s.heap.size h0 h1) rfl rfl ax_30 rfl rfl ax_31 ⟨Nat.le_of_ble_eq_true rfl, Nat.le_of_ble_eq_true rfl⟩ rfl rfl (Nat.le_of_ble_eq_true rfl) dX9_addRow_5 ⟨(Nat.le_of_ble_eq_true rfl), (Nat.le_of_ble_eq_true rfl)⟩) hP hD hS hA rfl rfl rfl (by decide) (fun ad5 H locs hP hD hS => ?_)
  have hP : va_P D vwCl [] H := hP
  have hD : va_D A [] := hD
  refine lv_if_ne (tgt := 46) hx hb dX9_addRow_8 (by decide) (fun z => absurd (by decide) z) (fun _ => ?_)
  refine lv_iload_n hx hb dX9_addRow_11 rfl (lv_at hl 2 rfl) ?_
  refine lv_bipush (v := 50) hx hb dX9_addRow_12 (by decide) ?_
  refine lv_sipush (v := 999) hx hb dX9_addRow_14 (by decide) ?_
  refine ca_i (isC := []) (isR := []) (wr := []) (rn_S (isC := []) (wc := []) (As := [.int x1, .int 50, .int 999]) (rest := []) (n := 3) hx hb hml hown hts hE hS hP hD hA hl.1 (k30_X9_isOutside l D cy g x1 50 999 H.size h2 h3) rfl rfl ax_30 rfl rfl ax_31 ⟨Nat.le_of_ble_eq_true rfl, Nat.le_of_ble_eq_true rfl⟩ rfl rfl (Nat.le_of_ble_eq_true rfl) dX9_addRow_17 ⟨(Nat.le_of_ble_eq_true rfl), (Nat.le_of_ble_eq_true rfl)⟩) hP hD hS hA rfl rfl rfl (by decide) (fun ad17 H locs hP hD hS => ?_)
  have hP : va_P D vwCl [] H := hP
  have hD : va_D A [] := hD
  refine lv_if_ne (tgt := 46) hx hb dX9_addRow_20 (by decide) (fun z => absurd (by decide) z) (fun _ => ?_)
  refine lv_iload_n hx hb dX9_addRow_23 rfl (lv_at hl 3 rfl) ?_
  refine lv_iconst (v := 0) hx hb dX9_addRow_24 (by decide) ?_
  refine lv_sipush (v := 9999) hx hb dX9_addRow_25 (by decide) ?_
  refine ca_i (isC := []) (isR := []) (wr := []) (rn_S (isC := []) (wc := []) (As := [.int x2, .int 0, .int 9999]) (rest := []) (n := 3) hx hb hml hown hts hE hS hP hD hA hl.1 (k17_X9_isOutside l D cy g x2 0 9999 H.size h4) rfl rfl ax_30 rfl rfl ax_31 ⟨Nat.le_of_ble_eq_true rfl, Nat.le_of_ble_eq_true rfl⟩ rfl rfl (Nat.le_of_ble_eq_true rfl) dX9_addRow_28 ⟨(Nat.le_of_ble_eq_true rfl), (Nat.le_of_ble_eq_true rfl)⟩) hP hD hS hA rfl rfl rfl (by decide) (fun ad28 H locs hP hD hS => ?_)
  have hP : va_P D vwCl [] H := hP
  have hD : va_D A [] := hD
  refine lv_if_ne (tgt := 46) hx hb dX9_addRow_31 (by decide) (fun _ => ?_) (fun z => absurd z (by decide))
  exact th_S (text := "a number is out of range") hx hb hst hown hts hE hS (hl.1.trans hml.symm) hout hlk (by decide +kernel) tw_296 tw_297 ax_32 (by decide +kernel) dX9_addRow_46 dX9_addRow_49 dX9_addRow_50 dX9_addRow_52 dX9_addRow_55 ⟨Nat.le_of_ble_eq_true rfl, Nat.le_of_ble_eq_true rfl, Nat.le_of_ble_eq_true rfl, Nat.le_of_ble_eq_true rfl⟩ (Nat.le_of_ble_eq_true rfl) (Nat.le_of_ble_eq_true rfl)
set_option maxHeartbeats 4000000 in
set_option maxRecDepth 100000 in
theorem k123_L_addRow (l : Launch) (hst : l.stackTraces = false) (D : va_G) (cy : Nat → ClassId) (g : Nat → Nat) (x0 : Int32) (x1 : Int32) (x2 : Int32) (x3 : Int32) (a0 : Nat) (b0 : Nat) (v0 : Value) (v1 : Value) (v2 : Value) (v3 : Value) (v4 : Value) (v5 : Value) (v6 : Value) (sz : Nat) (h0 : ¬ x0 < 1) (h1 : ¬ (1000 : Int32) < x0) (h2 : ¬ x1 < 50) (h3 : ¬ (999 : Int32) < x1) (h4 : x2 < 0) : Met l yL_addRow [.codeWith yL_addRow cL_addRow 7 (some .int) [(0, 14, 17, 13), (0, 14, 21, 30), (0, 14, 25, 15)]] ({ frames := 7, cells := 1, slots := 6, locals := 106 }) (PC D cy g [(a0, .inr (14, [v0, v1, v2, v3, v4, v5, v6]))] sz [.ref a0, .int x0, .int x1, .int x2, .int x3, .ref b0]) (QI D 1 (fun ad => []) (va_A [(a0, .inr (14, [v0, v1, v2, v3, v4, v5, v6]))] sz)) 1 6 (va_A [(a0, .inr (14, [v0, v1, v2, v3, v4, v5, v6]))] sz) := by
  refine sh_I (by decide) (Nat.le_of_ble_eq_true rfl) ?_
  intro p e s m args below meth c A ls hx hb hr hml hown hlk hnm hsz hP hD hA hE hts hS hl htb
  have hown : s.vm.findClass RL = some m.cls := hown
  have hl : lv_has ls 7 [(0, .ref a0), (1, .int x0), (2, .int x1), (3, .int x2), (4, .int x3), (5, .ref b0)] := hl
  refine lv_aload hx hb dL_addRow_0 (lv_at hl 5 rfl) ?_
  refine lv_iconst (v := 0) hx hb dL_addRow_2 (by decide) ?_
  refine lv_aload_n hx hb dL_addRow_3 rfl (lv_at hl 0 rfl) ?_
  refine lv_iload_n hx hb dL_addRow_4 rfl (lv_at hl 1 rfl) ?_
  refine lv_iload_n hx hb dL_addRow_5 rfl (lv_at hl 2 rfl) ?_
  refine lv_iload_n hx hb dL_addRow_6 rfl (lv_at hl 3 rfl) ?_
  refine lv_iload hx hb dL_addRow_7 (lv_at hl 4 rfl) ?_
  refine cx_catch (isC := []) (isR := [0]) (wr := [(a0, .inr (14, [v0, v1, v2, v3, v4, v5, v6]))]) (hp := []) (z := (0, 14, 17, 13)) (hq := [(0, 14, 21, 30), (0, 14, 25, 15)]) (name := "java/lang/IllegalArgumentException") (own := RL) (rx_V (ci := 14) (q0 := 0) (isC := []) (wc := []) (As := [.int x0, .int x1, .int x2, .int x3]) (rest := [.int 0, .ref b0]) (n := 4) hx hb hml hown hts hE hS hP hD hA hl.1 (k122_X9_addRow l hst D cy g x0 x1 x2 x3 a0 s.heap.size h0 h1 h2 h3 h4) rfl rfl rfl rfl rfl ax_114 rfl rfl ax_115 ⟨Nat.le_of_ble_eq_true rfl, Nat.le_of_ble_eq_true rfl⟩ rfl rfl (Nat.le_of_ble_eq_true rfl) dL_addRow_9 ⟨(Nat.le_of_ble_eq_true rfl), (Nat.le_of_ble_eq_true rfl)⟩) hP hD hS hA hown hts hE htb rfl rfl rfl rfl (by decide) (fun z hz => by cases hz) (by decide) (by decide) tw_302 tw_303 (fun qx H locs hP hD hS => ?_)
  have hP : va_P D vwCl [(a0, .inr (14, [v0, v1, v2, v3, v4, v5, v6]))] H := hP
  have hD : va_D A [(a0, .inr (14, [v0, v1, v2, v3, v4, v5, v6]))] := hD
  refine lv_astore (lv' := [(6, .ref qx), (0, .ref a0), (1, .int x0), (2, .int x1), (3, .int x2), (4, .int x3), (5, .ref b0)]) hx hb dL_addRow_17 hl (Nat.le_of_ble_eq_true rfl) rfl (fun ls hl => ?_)
  refine lv_iconst (v := 1) hx hb dL_addRow_19 (by decide) ?_
  exact en_z hx hb hr hlk hP hD hS rfl (fun _ => 0) (is := []) rfl rfl (Nat.le_of_ble_eq_true rfl) (Nat.le_of_ble_eq_true rfl) dL_addRow_20
set_option maxHeartbeats 4000000 in
set_option maxRecDepth 100000 in
theorem k124_X10_addRow (l : Launch) (D : va_G) (cy : Nat → ClassId) (g : Nat → Nat) (x0 : Int32) (x1 : Int32) (x2 : Int32) (x3 : Int32) (a0 : Nat) (v0 : Value) (v1 : Value) (v2 : Value) (v3 : Value) (v4 : Value) (v5 : Value) (v6 : Value) (v7 : Value) (v8 : Value) (v9 : Value) (v10 : Value) (v11 : Value) (v12 : Value) (v13 : Value) (v14 : Value) (v15 : Value) (v16 : Value) (v17 : Value) (v18 : Value) (v19 : Value) (v20 : Value) (v21 : Value) (v22 : Value) (v23 : Value) (v24 : Value) (v25 : Value) (v26 : Value) (v27 : Value) (sz : Nat) (h0 : ¬ x0 < 1) (h1 : ¬ (1000 : Int32) < x0) (h2 : ¬ x1 < 50) (h3 : ¬ (999 : Int32) < x1) (h4 : x2 < 0) : Met l yX10_addRow [.code yX10_addRow cX10_addRow 7 (some .int)] ({ frames := 1, cells := 0, slots := 0, locals := 25 }) (PC D cy g [(a0, .inr (15, [v0, v1, v2, v3, v4, v5, v6, v7, v8, v9, v10, v11, v12, v13, v14, v15, v16, v17, v18, v19, v20, v21, v22, v23, v24, v25, v26, v27]))] sz [.ref a0, .int x0, .int x1, .int x2, .int x3]) (QI D (-1) (fun ad => [(a0, .inr (15, [.int 1, v1, v2, v3, v4, v5, v6, v7, v8, v9, v10, v11, v12, v13, v14, v15, v16, v17, v18, v19, v20, v21, v22, v23, v24, v25, v26, v27]))]) (va_A [(a0, .inr (15, [v0, v1, v2, v3, v4, v5, v6, v7, v8, v9, v10, v11, v12, v13, v14, v15, v16, v17, v18, v19, v20, v21, v22, v23, v24, v25, v26, v27]))] sz)) 0 0 (va_A [(a0, .inr (15, [v0, v1, v2, v3, v4, v5, v6, v7, v8, v9, v10, v11, v12, v13, v14, v15, v16, v17, v18, v19, v20, v21, v22, v23, v24, v25, v26, v27]))] sz) := by
  refine st_I (by decide) (Nat.le_of_ble_eq_true rfl) ?_
  intro p e s m args below meth c A ls hx hb hr hml hown hlk hnm hsz hP hD hA hE hts hS hl
  have hown : s.vm.findClass RX10 = some m.cls := hown
  have hl : lv_has ls 7 [(0, .ref a0), (1, .int x0), (2, .int x1), (3, .int x2), (4, .int x3)] := hl
  refine lv_aload_n hx hb dX10_addRow_0 rfl (lv_at hl 0 rfl) ?_
  refine ca_v (isC := [0]) (isR := []) (wr := []) (rn_V (ci := 15) (q0 := 0) (isC := [0]) (wc := [(a0, .inr (15, [v0, v1, v2, v3, v4, v5, v6, v7, v8, v9, v10, v11, v12, v13, v14, v15, v16, v17, v18, v19, v20, v21, v22, v23, v24, v25, v26, v27]))]) (As := []) (rest := []) (n := 0) hx hb hml hown hts hE hS hP hD hA hl.1 (k20_X10_begins l D cy g a0 (v0) (v1) (v2) (v3) (v4) (v5) (v6) (v7) (v8) (v9) (v10) (v11) (v12) (v13) (v14) (v15) (v16) (v17) (v18) (v19) (v20) (v21) (v22) (v23) (v24) (v25) (v26) (v27) s.heap.size ) rfl rfl rfl rfl rfl ax_37 rfl rfl ax_38 ⟨Nat.le_of_ble_eq_true rfl, Nat.le_of_ble_eq_true rfl⟩ rfl rfl (Nat.le_of_ble_eq_true rfl) dX10_addRow_1 ⟨(Nat.le_of_ble_eq_true rfl), (Nat.le_of_ble_eq_true rfl)⟩) hP hD hS hA rfl rfl rfl (by decide) (fun ad1 H locs hP hD hS => ?_)
  have hP : va_P D vwCl [(a0, .inr (15, [.int 0, v1, v2, v3, v4, v5, v6, v7, v8, v9, v10, v11, v12, v13, v14, v15, v16, v17, v18, v19, v20, v21, v22, v23, v24, v25, v26, v27]))] H := hP
  have hD : va_D A [(a0, .inr (15, [.int 0, v1, v2, v3, v4, v5, v6, v7, v8, v9, v10, v11, v12, v13, v14, v15, v16, v17, v18, v19, v20, v21, v22, v23, v24, v25, v26, v27]))] := hD
  refine lv_aload_n hx hb dX10_addRow_4 rfl (lv_at hl 0 rfl) ?_
  refine lv_iload_n hx hb dX10_addRow_5 rfl (lv_at hl 1 rfl) ?_
  refine lv_i2l (v := x0.toInt64) hx hb dX10_addRow_6 rfl ?_
  refine lv_lconst (v := 1) hx hb dX10_addRow_7 (by decide) ?_
  refine lv_ldc2 (v := 1000) hx hb hown (hts _ tw_331) dX10_addRow_8 ?_
  refine ca_i (isC := []) (isR := [0]) (wr := [(a0, .inr (15, [.int 0, v1, v2, v3, v4, v5, v6, v7, v8, v9, v10, v11, v12, v13, v14, v15, v16, v17, v18, v19, v20, v21, v22, v23, v24, v25, v26, v27]))]) (rn_S (isC := []) (wc := []) (As := [.long x0.toInt64, .long 1, .long 1000]) (rest := [.ref a0]) (n := 3) hx hb hml hown hts hE hS hP hD hA hl.1 (k33_X10_in l D cy g x0.toInt64 1 1000 H.size (wl_nlt rfl (by decide) h0) (wl_nlt (by decide) rfl h1)) rfl rfl ax_39 rfl rfl ax_40 ⟨Nat.le_of_ble_eq_true rfl, Nat.le_of_ble_eq_true rfl⟩ rfl rfl (Nat.le_of_ble_eq_true rfl) dX10_addRow_11 ⟨(Nat.le_of_ble_eq_true rfl), (Nat.le_of_ble_eq_true rfl)⟩) hP hD hS hA rfl rfl rfl (by decide) (fun ad11 H locs hP hD hS => ?_)
  have hP : va_P D vwCl [(a0, .inr (15, [.int 0, v1, v2, v3, v4, v5, v6, v7, v8, v9, v10, v11, v12, v13, v14, v15, v16, v17, v18, v19, v20, v21, v22, v23, v24, v25, v26, v27]))] H := hP
  have hD : va_D A [(a0, .inr (15, [.int 0, v1, v2, v3, v4, v5, v6, v7, v8, v9, v10, v11, v12, v13, v14, v15, v16, v17, v18, v19, v20, v21, v22, v23, v24, v25, v26, v27]))] := hD
  refine lv_if_eq (tgt := 56) hx hb dX10_addRow_14 (by decide) (fun z => absurd z (by decide)) (fun _ => ?_)
  refine lv_iload_n hx hb dX10_addRow_17 rfl (lv_at hl 2 rfl) ?_
  refine lv_i2l (v := x1.toInt64) hx hb dX10_addRow_18 rfl ?_
  refine lv_ldc2 (v := 50) hx hb hown (hts _ tw_314) dX10_addRow_19 ?_
  refine lv_ldc2 (v := 999) hx hb hown (hts _ tw_493) dX10_addRow_22 ?_
  refine ca_i (isC := []) (isR := [0]) (wr := [(a0, .inr (15, [.int 0, v1, v2, v3, v4, v5, v6, v7, v8, v9, v10, v11, v12, v13, v14, v15, v16, v17, v18, v19, v20, v21, v22, v23, v24, v25, v26, v27]))]) (rn_S (isC := []) (wc := []) (As := [.long x1.toInt64, .long 50, .long 999]) (rest := [.ref a0]) (n := 3) hx hb hml hown hts hE hS hP hD hA hl.1 (k33_X10_in l D cy g x1.toInt64 50 999 H.size (wl_nlt rfl (by decide) h2) (wl_nlt (by decide) rfl h3)) rfl rfl ax_39 rfl rfl ax_40 ⟨Nat.le_of_ble_eq_true rfl, Nat.le_of_ble_eq_true rfl⟩ rfl rfl (Nat.le_of_ble_eq_true rfl) dX10_addRow_25 ⟨(Nat.le_of_ble_eq_true rfl), (Nat.le_of_ble_eq_true rfl)⟩) hP hD hS hA rfl rfl rfl (by decide) (fun ad25 H locs hP hD hS => ?_)
  have hP : va_P D vwCl [(a0, .inr (15, [.int 0, v1, v2, v3, v4, v5, v6, v7, v8, v9, v10, v11, v12, v13, v14, v15, v16, v17, v18, v19, v20, v21, v22, v23, v24, v25, v26, v27]))] H := hP
  have hD : va_D A [(a0, .inr (15, [.int 0, v1, v2, v3, v4, v5, v6, v7, v8, v9, v10, v11, v12, v13, v14, v15, v16, v17, v18, v19, v20, v21, v22, v23, v24, v25, v26, v27]))] := hD
  refine lv_if_eq (tgt := 56) hx hb dX10_addRow_28 (by decide) (fun z => absurd z (by decide)) (fun _ => ?_)
  refine lv_iload_n hx hb dX10_addRow_31 rfl (lv_at hl 3 rfl) ?_
  refine lv_i2l (v := x2.toInt64) hx hb dX10_addRow_32 rfl ?_
  refine lv_lconst (v := 0) hx hb dX10_addRow_33 (by decide) ?_
  refine lv_ldc2 (v := 9999) hx hb hown (hts _ tw_494) dX10_addRow_34 ?_
  refine ca_i (isC := []) (isR := [0]) (wr := [(a0, .inr (15, [.int 0, v1, v2, v3, v4, v5, v6, v7, v8, v9, v10, v11, v12, v13, v14, v15, v16, v17, v18, v19, v20, v21, v22, v23, v24, v25, v26, v27]))]) (rn_S (isC := []) (wc := []) (As := [.long x2.toInt64, .long 0, .long 9999]) (rest := [.ref a0]) (n := 3) hx hb hml hown hts hE hS hP hD hA hl.1 (k21_X10_in l D cy g x2.toInt64 0 9999 H.size (wl_lt rfl (by decide) h4)) rfl rfl ax_39 rfl rfl ax_40 ⟨Nat.le_of_ble_eq_true rfl, Nat.le_of_ble_eq_true rfl⟩ rfl rfl (Nat.le_of_ble_eq_true rfl) dX10_addRow_37 ⟨(Nat.le_of_ble_eq_true rfl), (Nat.le_of_ble_eq_true rfl)⟩) hP hD hS hA rfl rfl rfl (by decide) (fun ad37 H locs hP hD hS => ?_)
  have hP : va_P D vwCl [(a0, .inr (15, [.int 0, v1, v2, v3, v4, v5, v6, v7, v8, v9, v10, v11, v12, v13, v14, v15, v16, v17, v18, v19, v20, v21, v22, v23, v24, v25, v26, v27]))] H := hP
  have hD : va_D A [(a0, .inr (15, [.int 0, v1, v2, v3, v4, v5, v6, v7, v8, v9, v10, v11, v12, v13, v14, v15, v16, v17, v18, v19, v20, v21, v22, v23, v24, v25, v26, v27]))] := hD
  refine lv_if_eq (tgt := 56) hx hb dX10_addRow_40 (by decide) (fun _ => ?_) (fun z => absurd (by decide) z)
  refine lv_iconst (v := 1) hx hb dX10_addRow_56 (by decide) ?_
  refine lv_goto (tgt := 61) hx hb dX10_addRow_57 (by decide) ?_
  refine lv_iconst (v := 1) hx hb dX10_addRow_61 (by decide) ?_
  refine ca_i (isC := [0]) (isR := []) (wr := []) (rn_V (ci := 15) (q0 := 0) (isC := [0]) (wc := [(a0, .inr (15, [.int 0, v1, v2, v3, v4, v5, v6, v7, v8, v9, v10, v11, v12, v13, v14, v15, v16, v17, v18, v19, v20, v21, v22, v23, v24, v25, v26, v27]))]) (As := [.int 1, .int 1]) (rest := []) (n := 2) hx hb hml hown hts hE hS hP hD hA hl.1 (k22_X10_fails l D cy g a0 (v1) (v2) (v3) (v4) (v5) (v6) (v7) (v8) (v9) (v10) (v11) (v12) (v13) (v14) (v15) (v16) (v17) (v18) (v19) (v20) (v21) (v22) (v23) (v24) (v25) (v26) (v27) H.size ) rfl rfl rfl rfl rfl ax_41 rfl rfl ax_42 ⟨Nat.le_of_ble_eq_true rfl, Nat.le_of_ble_eq_true rfl⟩ rfl rfl (Nat.le_of_ble_eq_true rfl) dX10_addRow_62 ⟨(Nat.le_of_ble_eq_true rfl), (Nat.le_of_ble_eq_true rfl)⟩) hP hD hS hA rfl rfl rfl (by decide) (fun ad62 H locs hP hD hS => ?_)
  have hP : va_P D vwCl [(a0, .inr (15, [.int 1, v1, v2, v3, v4, v5, v6, v7, v8, v9, v10, v11, v12, v13, v14, v15, v16, v17, v18, v19, v20, v21, v22, v23, v24, v25, v26, v27]))] H := hP
  have hD : va_D A [(a0, .inr (15, [.int 1, v1, v2, v3, v4, v5, v6, v7, v8, v9, v10, v11, v12, v13, v14, v15, v16, v17, v18, v19, v20, v21, v22, v23, v24, v25, v26, v27]))] := hD
  refine lv_if_eq (tgt := 70) hx hb dX10_addRow_65 (by decide) (fun z => absurd z (by decide)) (fun _ => ?_)
  refine lv_iconst (v := (-1)) hx hb dX10_addRow_68 (by decide) ?_
  exact en_z hx hb hr hlk hP hD hS rfl (fun _ => 0) (is := [0]) rfl rfl (Nat.le_of_ble_eq_true rfl) (Nat.le_of_ble_eq_true rfl) dX10_addRow_69
set_option maxHeartbeats 4000000 in
set_option maxRecDepth 100000 in
theorem k125_X9_addRow (l : Launch) (hst : l.stackTraces = false) (D : va_G) (cy : Nat → ClassId) (g : Nat → Nat) (x0 : Int32) (x1 : Int32) (x2 : Int32) (x3 : Int32) (b0 : Nat) (sz : Nat) (h0 : ¬ x0 < 1) (h1 : ¬ (1000 : Int32) < x0) (h2 : ¬ x1 < 50) (h3 : ¬ (999 : Int32) < x1) (h4 : ¬ x2 < 0) (h5 : (9999 : Int32) < x2) : vx_Met l yX9_addRow [.code yX9_addRow cX9_addRow 5 (some .int)] ({ frames := 6, cells := 1, slots := 6, locals := 82 }) (PC D cy g [] sz [.ref b0, .int x0, .int x1, .int x2, .int x3]) QN (XE "java/lang/IllegalArgumentException" (va_A [] sz)) 1 6 (va_A [] sz) := by
  refine st_X (by decide) (Nat.le_of_ble_eq_true rfl) ?_
  intro p e s m args below meth c A ls hx hb hr hml hown hlk hnm hsz hP hD hA hE hts hS hl hout
  have hown : s.vm.findClass RX9 = some m.cls := hown
  have hl : lv_has ls 5 [(0, .ref b0), (1, .int x0), (2, .int x1), (3, .int x2), (4, .int x3)] := hl
  refine lv_iload_n hx hb dX9_addRow_0 rfl (lv_at hl 1 rfl) ?_
  refine lv_iconst (v := 1) hx hb dX9_addRow_1 (by decide) ?_
  refine lv_sipush (v := 1000) hx hb dX9_addRow_2 (by decide) ?_
  refine ca_i (isC := []) (isR := []) (wr := []) (rn_S (isC := []) (wc := []) (As := [.int x0, .int 1, .int 1000]) (rest := []) (n := 3) hx hb hml hown hts hE hS hP hD hA hl.1 (k30_X9_isOutside l D cy g x0 1 1000 s.heap.size h0 h1) rfl rfl ax_30 rfl rfl ax_31 ⟨Nat.le_of_ble_eq_true rfl, Nat.le_of_ble_eq_true rfl⟩ rfl rfl (Nat.le_of_ble_eq_true rfl) dX9_addRow_5 ⟨(Nat.le_of_ble_eq_true rfl), (Nat.le_of_ble_eq_true rfl)⟩) hP hD hS hA rfl rfl rfl (by decide) (fun ad5 H locs hP hD hS => ?_)
  have hP : va_P D vwCl [] H := hP
  have hD : va_D A [] := hD
  refine lv_if_ne (tgt := 46) hx hb dX9_addRow_8 (by decide) (fun z => absurd (by decide) z) (fun _ => ?_)
  refine lv_iload_n hx hb dX9_addRow_11 rfl (lv_at hl 2 rfl) ?_
  refine lv_bipush (v := 50) hx hb dX9_addRow_12 (by decide) ?_
  refine lv_sipush (v := 999) hx hb dX9_addRow_14 (by decide) ?_
  refine ca_i (isC := []) (isR := []) (wr := []) (rn_S (isC := []) (wc := []) (As := [.int x1, .int 50, .int 999]) (rest := []) (n := 3) hx hb hml hown hts hE hS hP hD hA hl.1 (k30_X9_isOutside l D cy g x1 50 999 H.size h2 h3) rfl rfl ax_30 rfl rfl ax_31 ⟨Nat.le_of_ble_eq_true rfl, Nat.le_of_ble_eq_true rfl⟩ rfl rfl (Nat.le_of_ble_eq_true rfl) dX9_addRow_17 ⟨(Nat.le_of_ble_eq_true rfl), (Nat.le_of_ble_eq_true rfl)⟩) hP hD hS hA rfl rfl rfl (by decide) (fun ad17 H locs hP hD hS => ?_)
  have hP : va_P D vwCl [] H := hP
  have hD : va_D A [] := hD
  refine lv_if_ne (tgt := 46) hx hb dX9_addRow_20 (by decide) (fun z => absurd (by decide) z) (fun _ => ?_)
  refine lv_iload_n hx hb dX9_addRow_23 rfl (lv_at hl 3 rfl) ?_
  refine lv_iconst (v := 0) hx hb dX9_addRow_24 (by decide) ?_
  refine lv_sipush (v := 9999) hx hb dX9_addRow_25 (by decide) ?_
  refine ca_i (isC := []) (isR := []) (wr := []) (rn_S (isC := []) (wc := []) (As := [.int x2, .int 0, .int 9999]) (rest := []) (n := 3) hx hb hml hown hts hE hS hP hD hA hl.1 (k25_X9_isOutside l D cy g x2 0 9999 H.size h4 h5) rfl rfl ax_30 rfl rfl ax_31 ⟨Nat.le_of_ble_eq_true rfl, Nat.le_of_ble_eq_true rfl⟩ rfl rfl (Nat.le_of_ble_eq_true rfl) dX9_addRow_28 ⟨(Nat.le_of_ble_eq_true rfl), (Nat.le_of_ble_eq_true rfl)⟩) hP hD hS hA rfl rfl rfl (by decide) (fun ad28 H locs hP hD hS => ?_)
  have hP : va_P D vwCl [] H := hP
  have hD : va_D A [] := hD
  refine lv_if_ne (tgt := 46) hx hb dX9_addRow_31 (by decide) (fun _ => ?_) (fun z => absurd z (by decide))
  exact th_S (text := "a number is out of range") hx hb hst hown hts hE hS (hl.1.trans hml.symm) hout hlk (by decide +kernel) tw_296 tw_297 ax_32 (by decide +kernel) dX9_addRow_46 dX9_addRow_49 dX9_addRow_50 dX9_addRow_52 dX9_addRow_55 ⟨Nat.le_of_ble_eq_true rfl, Nat.le_of_ble_eq_true rfl, Nat.le_of_ble_eq_true rfl, Nat.le_of_ble_eq_true rfl⟩ (Nat.le_of_ble_eq_true rfl) (Nat.le_of_ble_eq_true rfl)
set_option maxHeartbeats 4000000 in
set_option maxRecDepth 100000 in
theorem k126_L_addRow (l : Launch) (hst : l.stackTraces = false) (D : va_G) (cy : Nat → ClassId) (g : Nat → Nat) (x0 : Int32) (x1 : Int32) (x2 : Int32) (x3 : Int32) (a0 : Nat) (b0 : Nat) (v0 : Value) (v1 : Value) (v2 : Value) (v3 : Value) (v4 : Value) (v5 : Value) (v6 : Value) (sz : Nat) (h0 : ¬ x0 < 1) (h1 : ¬ (1000 : Int32) < x0) (h2 : ¬ x1 < 50) (h3 : ¬ (999 : Int32) < x1) (h4 : ¬ x2 < 0) (h5 : (9999 : Int32) < x2) : Met l yL_addRow [.codeWith yL_addRow cL_addRow 7 (some .int) [(0, 14, 17, 13), (0, 14, 21, 30), (0, 14, 25, 15)]] ({ frames := 7, cells := 1, slots := 6, locals := 106 }) (PC D cy g [(a0, .inr (14, [v0, v1, v2, v3, v4, v5, v6]))] sz [.ref a0, .int x0, .int x1, .int x2, .int x3, .ref b0]) (QI D 1 (fun ad => []) (va_A [(a0, .inr (14, [v0, v1, v2, v3, v4, v5, v6]))] sz)) 1 6 (va_A [(a0, .inr (14, [v0, v1, v2, v3, v4, v5, v6]))] sz) := by
  refine sh_I (by decide) (Nat.le_of_ble_eq_true rfl) ?_
  intro p e s m args below meth c A ls hx hb hr hml hown hlk hnm hsz hP hD hA hE hts hS hl htb
  have hown : s.vm.findClass RL = some m.cls := hown
  have hl : lv_has ls 7 [(0, .ref a0), (1, .int x0), (2, .int x1), (3, .int x2), (4, .int x3), (5, .ref b0)] := hl
  refine lv_aload hx hb dL_addRow_0 (lv_at hl 5 rfl) ?_
  refine lv_iconst (v := 0) hx hb dL_addRow_2 (by decide) ?_
  refine lv_aload_n hx hb dL_addRow_3 rfl (lv_at hl 0 rfl) ?_
  refine lv_iload_n hx hb dL_addRow_4 rfl (lv_at hl 1 rfl) ?_
  refine lv_iload_n hx hb dL_addRow_5 rfl (lv_at hl 2 rfl) ?_
  refine lv_iload_n hx hb dL_addRow_6 rfl (lv_at hl 3 rfl) ?_
  refine lv_iload hx hb dL_addRow_7 (lv_at hl 4 rfl) ?_
  refine cx_catch (isC := []) (isR := [0]) (wr := [(a0, .inr (14, [v0, v1, v2, v3, v4, v5, v6]))]) (hp := []) (z := (0, 14, 17, 13)) (hq := [(0, 14, 21, 30), (0, 14, 25, 15)]) (name := "java/lang/IllegalArgumentException") (own := RL) (rx_V (ci := 14) (q0 := 0) (isC := []) (wc := []) (As := [.int x0, .int x1, .int x2, .int x3]) (rest := [.int 0, .ref b0]) (n := 4) hx hb hml hown hts hE hS hP hD hA hl.1 (k125_X9_addRow l hst D cy g x0 x1 x2 x3 a0 s.heap.size h0 h1 h2 h3 h4 h5) rfl rfl rfl rfl rfl ax_114 rfl rfl ax_115 ⟨Nat.le_of_ble_eq_true rfl, Nat.le_of_ble_eq_true rfl⟩ rfl rfl (Nat.le_of_ble_eq_true rfl) dL_addRow_9 ⟨(Nat.le_of_ble_eq_true rfl), (Nat.le_of_ble_eq_true rfl)⟩) hP hD hS hA hown hts hE htb rfl rfl rfl rfl (by decide) (fun z hz => by cases hz) (by decide) (by decide) tw_302 tw_303 (fun qx H locs hP hD hS => ?_)
  have hP : va_P D vwCl [(a0, .inr (14, [v0, v1, v2, v3, v4, v5, v6]))] H := hP
  have hD : va_D A [(a0, .inr (14, [v0, v1, v2, v3, v4, v5, v6]))] := hD
  refine lv_astore (lv' := [(6, .ref qx), (0, .ref a0), (1, .int x0), (2, .int x1), (3, .int x2), (4, .int x3), (5, .ref b0)]) hx hb dL_addRow_17 hl (Nat.le_of_ble_eq_true rfl) rfl (fun ls hl => ?_)
  refine lv_iconst (v := 1) hx hb dL_addRow_19 (by decide) ?_
  exact en_z hx hb hr hlk hP hD hS rfl (fun _ => 0) (is := []) rfl rfl (Nat.le_of_ble_eq_true rfl) (Nat.le_of_ble_eq_true rfl) dL_addRow_20
set_option maxHeartbeats 4000000 in
set_option maxRecDepth 100000 in
theorem k127_X10_addRow (l : Launch) (D : va_G) (cy : Nat → ClassId) (g : Nat → Nat) (x0 : Int32) (x1 : Int32) (x2 : Int32) (x3 : Int32) (a0 : Nat) (v0 : Value) (v1 : Value) (v2 : Value) (v3 : Value) (v4 : Value) (v5 : Value) (v6 : Value) (v7 : Value) (v8 : Value) (v9 : Value) (v10 : Value) (v11 : Value) (v12 : Value) (v13 : Value) (v14 : Value) (v15 : Value) (v16 : Value) (v17 : Value) (v18 : Value) (v19 : Value) (v20 : Value) (v21 : Value) (v22 : Value) (v23 : Value) (v24 : Value) (v25 : Value) (v26 : Value) (v27 : Value) (sz : Nat) (h0 : ¬ x0 < 1) (h1 : ¬ (1000 : Int32) < x0) (h2 : ¬ x1 < 50) (h3 : ¬ (999 : Int32) < x1) (h4 : ¬ x2 < 0) (h5 : (9999 : Int32) < x2) : Met l yX10_addRow [.code yX10_addRow cX10_addRow 7 (some .int)] ({ frames := 1, cells := 0, slots := 0, locals := 25 }) (PC D cy g [(a0, .inr (15, [v0, v1, v2, v3, v4, v5, v6, v7, v8, v9, v10, v11, v12, v13, v14, v15, v16, v17, v18, v19, v20, v21, v22, v23, v24, v25, v26, v27]))] sz [.ref a0, .int x0, .int x1, .int x2, .int x3]) (QI D (-1) (fun ad => [(a0, .inr (15, [.int 1, v1, v2, v3, v4, v5, v6, v7, v8, v9, v10, v11, v12, v13, v14, v15, v16, v17, v18, v19, v20, v21, v22, v23, v24, v25, v26, v27]))]) (va_A [(a0, .inr (15, [v0, v1, v2, v3, v4, v5, v6, v7, v8, v9, v10, v11, v12, v13, v14, v15, v16, v17, v18, v19, v20, v21, v22, v23, v24, v25, v26, v27]))] sz)) 0 0 (va_A [(a0, .inr (15, [v0, v1, v2, v3, v4, v5, v6, v7, v8, v9, v10, v11, v12, v13, v14, v15, v16, v17, v18, v19, v20, v21, v22, v23, v24, v25, v26, v27]))] sz) := by
  refine st_I (by decide) (Nat.le_of_ble_eq_true rfl) ?_
  intro p e s m args below meth c A ls hx hb hr hml hown hlk hnm hsz hP hD hA hE hts hS hl
  have hown : s.vm.findClass RX10 = some m.cls := hown
  have hl : lv_has ls 7 [(0, .ref a0), (1, .int x0), (2, .int x1), (3, .int x2), (4, .int x3)] := hl
  refine lv_aload_n hx hb dX10_addRow_0 rfl (lv_at hl 0 rfl) ?_
  refine ca_v (isC := [0]) (isR := []) (wr := []) (rn_V (ci := 15) (q0 := 0) (isC := [0]) (wc := [(a0, .inr (15, [v0, v1, v2, v3, v4, v5, v6, v7, v8, v9, v10, v11, v12, v13, v14, v15, v16, v17, v18, v19, v20, v21, v22, v23, v24, v25, v26, v27]))]) (As := []) (rest := []) (n := 0) hx hb hml hown hts hE hS hP hD hA hl.1 (k20_X10_begins l D cy g a0 (v0) (v1) (v2) (v3) (v4) (v5) (v6) (v7) (v8) (v9) (v10) (v11) (v12) (v13) (v14) (v15) (v16) (v17) (v18) (v19) (v20) (v21) (v22) (v23) (v24) (v25) (v26) (v27) s.heap.size ) rfl rfl rfl rfl rfl ax_37 rfl rfl ax_38 ⟨Nat.le_of_ble_eq_true rfl, Nat.le_of_ble_eq_true rfl⟩ rfl rfl (Nat.le_of_ble_eq_true rfl) dX10_addRow_1 ⟨(Nat.le_of_ble_eq_true rfl), (Nat.le_of_ble_eq_true rfl)⟩) hP hD hS hA rfl rfl rfl (by decide) (fun ad1 H locs hP hD hS => ?_)
  have hP : va_P D vwCl [(a0, .inr (15, [.int 0, v1, v2, v3, v4, v5, v6, v7, v8, v9, v10, v11, v12, v13, v14, v15, v16, v17, v18, v19, v20, v21, v22, v23, v24, v25, v26, v27]))] H := hP
  have hD : va_D A [(a0, .inr (15, [.int 0, v1, v2, v3, v4, v5, v6, v7, v8, v9, v10, v11, v12, v13, v14, v15, v16, v17, v18, v19, v20, v21, v22, v23, v24, v25, v26, v27]))] := hD
  refine lv_aload_n hx hb dX10_addRow_4 rfl (lv_at hl 0 rfl) ?_
  refine lv_iload_n hx hb dX10_addRow_5 rfl (lv_at hl 1 rfl) ?_
  refine lv_i2l (v := x0.toInt64) hx hb dX10_addRow_6 rfl ?_
  refine lv_lconst (v := 1) hx hb dX10_addRow_7 (by decide) ?_
  refine lv_ldc2 (v := 1000) hx hb hown (hts _ tw_331) dX10_addRow_8 ?_
  refine ca_i (isC := []) (isR := [0]) (wr := [(a0, .inr (15, [.int 0, v1, v2, v3, v4, v5, v6, v7, v8, v9, v10, v11, v12, v13, v14, v15, v16, v17, v18, v19, v20, v21, v22, v23, v24, v25, v26, v27]))]) (rn_S (isC := []) (wc := []) (As := [.long x0.toInt64, .long 1, .long 1000]) (rest := [.ref a0]) (n := 3) hx hb hml hown hts hE hS hP hD hA hl.1 (k33_X10_in l D cy g x0.toInt64 1 1000 H.size (wl_nlt rfl (by decide) h0) (wl_nlt (by decide) rfl h1)) rfl rfl ax_39 rfl rfl ax_40 ⟨Nat.le_of_ble_eq_true rfl, Nat.le_of_ble_eq_true rfl⟩ rfl rfl (Nat.le_of_ble_eq_true rfl) dX10_addRow_11 ⟨(Nat.le_of_ble_eq_true rfl), (Nat.le_of_ble_eq_true rfl)⟩) hP hD hS hA rfl rfl rfl (by decide) (fun ad11 H locs hP hD hS => ?_)
  have hP : va_P D vwCl [(a0, .inr (15, [.int 0, v1, v2, v3, v4, v5, v6, v7, v8, v9, v10, v11, v12, v13, v14, v15, v16, v17, v18, v19, v20, v21, v22, v23, v24, v25, v26, v27]))] H := hP
  have hD : va_D A [(a0, .inr (15, [.int 0, v1, v2, v3, v4, v5, v6, v7, v8, v9, v10, v11, v12, v13, v14, v15, v16, v17, v18, v19, v20, v21, v22, v23, v24, v25, v26, v27]))] := hD
  refine lv_if_eq (tgt := 56) hx hb dX10_addRow_14 (by decide) (fun z => absurd z (by decide)) (fun _ => ?_)
  refine lv_iload_n hx hb dX10_addRow_17 rfl (lv_at hl 2 rfl) ?_
  refine lv_i2l (v := x1.toInt64) hx hb dX10_addRow_18 rfl ?_
  refine lv_ldc2 (v := 50) hx hb hown (hts _ tw_314) dX10_addRow_19 ?_
  refine lv_ldc2 (v := 999) hx hb hown (hts _ tw_493) dX10_addRow_22 ?_
  refine ca_i (isC := []) (isR := [0]) (wr := [(a0, .inr (15, [.int 0, v1, v2, v3, v4, v5, v6, v7, v8, v9, v10, v11, v12, v13, v14, v15, v16, v17, v18, v19, v20, v21, v22, v23, v24, v25, v26, v27]))]) (rn_S (isC := []) (wc := []) (As := [.long x1.toInt64, .long 50, .long 999]) (rest := [.ref a0]) (n := 3) hx hb hml hown hts hE hS hP hD hA hl.1 (k33_X10_in l D cy g x1.toInt64 50 999 H.size (wl_nlt rfl (by decide) h2) (wl_nlt (by decide) rfl h3)) rfl rfl ax_39 rfl rfl ax_40 ⟨Nat.le_of_ble_eq_true rfl, Nat.le_of_ble_eq_true rfl⟩ rfl rfl (Nat.le_of_ble_eq_true rfl) dX10_addRow_25 ⟨(Nat.le_of_ble_eq_true rfl), (Nat.le_of_ble_eq_true rfl)⟩) hP hD hS hA rfl rfl rfl (by decide) (fun ad25 H locs hP hD hS => ?_)
  have hP : va_P D vwCl [(a0, .inr (15, [.int 0, v1, v2, v3, v4, v5, v6, v7, v8, v9, v10, v11, v12, v13, v14, v15, v16, v17, v18, v19, v20, v21, v22, v23, v24, v25, v26, v27]))] H := hP
  have hD : va_D A [(a0, .inr (15, [.int 0, v1, v2, v3, v4, v5, v6, v7, v8, v9, v10, v11, v12, v13, v14, v15, v16, v17, v18, v19, v20, v21, v22, v23, v24, v25, v26, v27]))] := hD
  refine lv_if_eq (tgt := 56) hx hb dX10_addRow_28 (by decide) (fun z => absurd z (by decide)) (fun _ => ?_)
  refine lv_iload_n hx hb dX10_addRow_31 rfl (lv_at hl 3 rfl) ?_
  refine lv_i2l (v := x2.toInt64) hx hb dX10_addRow_32 rfl ?_
  refine lv_lconst (v := 0) hx hb dX10_addRow_33 (by decide) ?_
  refine lv_ldc2 (v := 9999) hx hb hown (hts _ tw_494) dX10_addRow_34 ?_
  refine ca_i (isC := []) (isR := [0]) (wr := [(a0, .inr (15, [.int 0, v1, v2, v3, v4, v5, v6, v7, v8, v9, v10, v11, v12, v13, v14, v15, v16, v17, v18, v19, v20, v21, v22, v23, v24, v25, v26, v27]))]) (rn_S (isC := []) (wc := []) (As := [.long x2.toInt64, .long 0, .long 9999]) (rest := [.ref a0]) (n := 3) hx hb hml hown hts hE hS hP hD hA hl.1 (k28_X10_in l D cy g x2.toInt64 0 9999 H.size (wl_nlt rfl (by decide) h4) (wl_lt (by decide) rfl h5)) rfl rfl ax_39 rfl rfl ax_40 ⟨Nat.le_of_ble_eq_true rfl, Nat.le_of_ble_eq_true rfl⟩ rfl rfl (Nat.le_of_ble_eq_true rfl) dX10_addRow_37 ⟨(Nat.le_of_ble_eq_true rfl), (Nat.le_of_ble_eq_true rfl)⟩) hP hD hS hA rfl rfl rfl (by decide) (fun ad37 H locs hP hD hS => ?_)
  have hP : va_P D vwCl [(a0, .inr (15, [.int 0, v1, v2, v3, v4, v5, v6, v7, v8, v9, v10, v11, v12, v13, v14, v15, v16, v17, v18, v19, v20, v21, v22, v23, v24, v25, v26, v27]))] H := hP
  have hD : va_D A [(a0, .inr (15, [.int 0, v1, v2, v3, v4, v5, v6, v7, v8, v9, v10, v11, v12, v13, v14, v15, v16, v17, v18, v19, v20, v21, v22, v23, v24, v25, v26, v27]))] := hD
  refine lv_if_eq (tgt := 56) hx hb dX10_addRow_40 (by decide) (fun _ => ?_) (fun z => absurd (by decide) z)
  refine lv_iconst (v := 1) hx hb dX10_addRow_56 (by decide) ?_
  refine lv_goto (tgt := 61) hx hb dX10_addRow_57 (by decide) ?_
  refine lv_iconst (v := 1) hx hb dX10_addRow_61 (by decide) ?_
  refine ca_i (isC := [0]) (isR := []) (wr := []) (rn_V (ci := 15) (q0 := 0) (isC := [0]) (wc := [(a0, .inr (15, [.int 0, v1, v2, v3, v4, v5, v6, v7, v8, v9, v10, v11, v12, v13, v14, v15, v16, v17, v18, v19, v20, v21, v22, v23, v24, v25, v26, v27]))]) (As := [.int 1, .int 1]) (rest := []) (n := 2) hx hb hml hown hts hE hS hP hD hA hl.1 (k22_X10_fails l D cy g a0 (v1) (v2) (v3) (v4) (v5) (v6) (v7) (v8) (v9) (v10) (v11) (v12) (v13) (v14) (v15) (v16) (v17) (v18) (v19) (v20) (v21) (v22) (v23) (v24) (v25) (v26) (v27) H.size ) rfl rfl rfl rfl rfl ax_41 rfl rfl ax_42 ⟨Nat.le_of_ble_eq_true rfl, Nat.le_of_ble_eq_true rfl⟩ rfl rfl (Nat.le_of_ble_eq_true rfl) dX10_addRow_62 ⟨(Nat.le_of_ble_eq_true rfl), (Nat.le_of_ble_eq_true rfl)⟩) hP hD hS hA rfl rfl rfl (by decide) (fun ad62 H locs hP hD hS => ?_)
  have hP : va_P D vwCl [(a0, .inr (15, [.int 1, v1, v2, v3, v4, v5, v6, v7, v8, v9, v10, v11, v12, v13, v14, v15, v16, v17, v18, v19, v20, v21, v22, v23, v24, v25, v26, v27]))] H := hP
  have hD : va_D A [(a0, .inr (15, [.int 1, v1, v2, v3, v4, v5, v6, v7, v8, v9, v10, v11, v12, v13, v14, v15, v16, v17, v18, v19, v20, v21, v22, v23, v24, v25, v26, v27]))] := hD
  refine lv_if_eq (tgt := 70) hx hb dX10_addRow_65 (by decide) (fun z => absurd z (by decide)) (fun _ => ?_)
  refine lv_iconst (v := (-1)) hx hb dX10_addRow_68 (by decide) ?_
  exact en_z hx hb hr hlk hP hD hS rfl (fun _ => 0) (is := [0]) rfl rfl (Nat.le_of_ble_eq_true rfl) (Nat.le_of_ble_eq_true rfl) dX10_addRow_69
set_option maxHeartbeats 4000000 in
set_option maxRecDepth 100000 in
theorem k128_X9_addRow (l : Launch) (hst : l.stackTraces = false) (D : va_G) (cy : Nat → ClassId) (g : Nat → Nat) (x0 : Int32) (x1 : Int32) (x2 : Int32) (x3 : Int32) (b0 : Nat) (sz : Nat) (h0 : ¬ x0 < 1) (h1 : ¬ (1000 : Int32) < x0) (h2 : ¬ x1 < 50) (h3 : ¬ (999 : Int32) < x1) (h4 : ¬ x2 < 0) (h5 : ¬ (9999 : Int32) < x2) (h6 : x3 < 0) : vx_Met l yX9_addRow [.code yX9_addRow cX9_addRow 5 (some .int)] ({ frames := 6, cells := 1, slots := 6, locals := 82 }) (PC D cy g [] sz [.ref b0, .int x0, .int x1, .int x2, .int x3]) QN (XE "java/lang/IllegalArgumentException" (va_A [] sz)) 1 6 (va_A [] sz) := by
  refine st_X (by decide) (Nat.le_of_ble_eq_true rfl) ?_
  intro p e s m args below meth c A ls hx hb hr hml hown hlk hnm hsz hP hD hA hE hts hS hl hout
  have hown : s.vm.findClass RX9 = some m.cls := hown
  have hl : lv_has ls 5 [(0, .ref b0), (1, .int x0), (2, .int x1), (3, .int x2), (4, .int x3)] := hl
  refine lv_iload_n hx hb dX9_addRow_0 rfl (lv_at hl 1 rfl) ?_
  refine lv_iconst (v := 1) hx hb dX9_addRow_1 (by decide) ?_
  refine lv_sipush (v := 1000) hx hb dX9_addRow_2 (by decide) ?_
  refine ca_i (isC := []) (isR := []) (wr := []) (rn_S (isC := []) (wc := []) (As := [.int x0, .int 1, .int 1000]) (rest := []) (n := 3) hx hb hml hown hts hE hS hP hD hA hl.1 (k30_X9_isOutside l D cy g x0 1 1000 s.heap.size h0 h1) rfl rfl ax_30 rfl rfl ax_31 ⟨Nat.le_of_ble_eq_true rfl, Nat.le_of_ble_eq_true rfl⟩ rfl rfl (Nat.le_of_ble_eq_true rfl) dX9_addRow_5 ⟨(Nat.le_of_ble_eq_true rfl), (Nat.le_of_ble_eq_true rfl)⟩) hP hD hS hA rfl rfl rfl (by decide) (fun ad5 H locs hP hD hS => ?_)
  have hP : va_P D vwCl [] H := hP
  have hD : va_D A [] := hD
  refine lv_if_ne (tgt := 46) hx hb dX9_addRow_8 (by decide) (fun z => absurd (by decide) z) (fun _ => ?_)
  refine lv_iload_n hx hb dX9_addRow_11 rfl (lv_at hl 2 rfl) ?_
  refine lv_bipush (v := 50) hx hb dX9_addRow_12 (by decide) ?_
  refine lv_sipush (v := 999) hx hb dX9_addRow_14 (by decide) ?_
  refine ca_i (isC := []) (isR := []) (wr := []) (rn_S (isC := []) (wc := []) (As := [.int x1, .int 50, .int 999]) (rest := []) (n := 3) hx hb hml hown hts hE hS hP hD hA hl.1 (k30_X9_isOutside l D cy g x1 50 999 H.size h2 h3) rfl rfl ax_30 rfl rfl ax_31 ⟨Nat.le_of_ble_eq_true rfl, Nat.le_of_ble_eq_true rfl⟩ rfl rfl (Nat.le_of_ble_eq_true rfl) dX9_addRow_17 ⟨(Nat.le_of_ble_eq_true rfl), (Nat.le_of_ble_eq_true rfl)⟩) hP hD hS hA rfl rfl rfl (by decide) (fun ad17 H locs hP hD hS => ?_)
  have hP : va_P D vwCl [] H := hP
  have hD : va_D A [] := hD
  refine lv_if_ne (tgt := 46) hx hb dX9_addRow_20 (by decide) (fun z => absurd (by decide) z) (fun _ => ?_)
  refine lv_iload_n hx hb dX9_addRow_23 rfl (lv_at hl 3 rfl) ?_
  refine lv_iconst (v := 0) hx hb dX9_addRow_24 (by decide) ?_
  refine lv_sipush (v := 9999) hx hb dX9_addRow_25 (by decide) ?_
  refine ca_i (isC := []) (isR := []) (wr := []) (rn_S (isC := []) (wc := []) (As := [.int x2, .int 0, .int 9999]) (rest := []) (n := 3) hx hb hml hown hts hE hS hP hD hA hl.1 (k30_X9_isOutside l D cy g x2 0 9999 H.size h4 h5) rfl rfl ax_30 rfl rfl ax_31 ⟨Nat.le_of_ble_eq_true rfl, Nat.le_of_ble_eq_true rfl⟩ rfl rfl (Nat.le_of_ble_eq_true rfl) dX9_addRow_28 ⟨(Nat.le_of_ble_eq_true rfl), (Nat.le_of_ble_eq_true rfl)⟩) hP hD hS hA rfl rfl rfl (by decide) (fun ad28 H locs hP hD hS => ?_)
  have hP : va_P D vwCl [] H := hP
  have hD : va_D A [] := hD
  refine lv_if_ne (tgt := 46) hx hb dX9_addRow_31 (by decide) (fun z => absurd (by decide) z) (fun _ => ?_)
  refine lv_iload hx hb dX9_addRow_34 (lv_at hl 4 rfl) ?_
  refine lv_iconst (v := 0) hx hb dX9_addRow_36 (by decide) ?_
  refine lv_sipush (v := 9999) hx hb dX9_addRow_37 (by decide) ?_
  refine ca_i (isC := []) (isR := []) (wr := []) (rn_S (isC := []) (wc := []) (As := [.int x3, .int 0, .int 9999]) (rest := []) (n := 3) hx hb hml hown hts hE hS hP hD hA hl.1 (k17_X9_isOutside l D cy g x3 0 9999 H.size h6) rfl rfl ax_30 rfl rfl ax_31 ⟨Nat.le_of_ble_eq_true rfl, Nat.le_of_ble_eq_true rfl⟩ rfl rfl (Nat.le_of_ble_eq_true rfl) dX9_addRow_40 ⟨(Nat.le_of_ble_eq_true rfl), (Nat.le_of_ble_eq_true rfl)⟩) hP hD hS hA rfl rfl rfl (by decide) (fun ad40 H locs hP hD hS => ?_)
  have hP : va_P D vwCl [] H := hP
  have hD : va_D A [] := hD
  refine lv_if_eq (tgt := 56) hx hb dX9_addRow_43 (by decide) (fun z => absurd z (by decide)) (fun _ => ?_)
  exact th_S (text := "a number is out of range") hx hb hst hown hts hE hS (hl.1.trans hml.symm) hout hlk (by decide +kernel) tw_296 tw_297 ax_32 (by decide +kernel) dX9_addRow_46 dX9_addRow_49 dX9_addRow_50 dX9_addRow_52 dX9_addRow_55 ⟨Nat.le_of_ble_eq_true rfl, Nat.le_of_ble_eq_true rfl, Nat.le_of_ble_eq_true rfl, Nat.le_of_ble_eq_true rfl⟩ (Nat.le_of_ble_eq_true rfl) (Nat.le_of_ble_eq_true rfl)
set_option maxHeartbeats 4000000 in
set_option maxRecDepth 100000 in
theorem k129_L_addRow (l : Launch) (hst : l.stackTraces = false) (D : va_G) (cy : Nat → ClassId) (g : Nat → Nat) (x0 : Int32) (x1 : Int32) (x2 : Int32) (x3 : Int32) (a0 : Nat) (b0 : Nat) (v0 : Value) (v1 : Value) (v2 : Value) (v3 : Value) (v4 : Value) (v5 : Value) (v6 : Value) (sz : Nat) (h0 : ¬ x0 < 1) (h1 : ¬ (1000 : Int32) < x0) (h2 : ¬ x1 < 50) (h3 : ¬ (999 : Int32) < x1) (h4 : ¬ x2 < 0) (h5 : ¬ (9999 : Int32) < x2) (h6 : x3 < 0) : Met l yL_addRow [.codeWith yL_addRow cL_addRow 7 (some .int) [(0, 14, 17, 13), (0, 14, 21, 30), (0, 14, 25, 15)]] ({ frames := 7, cells := 1, slots := 6, locals := 106 }) (PC D cy g [(a0, .inr (14, [v0, v1, v2, v3, v4, v5, v6]))] sz [.ref a0, .int x0, .int x1, .int x2, .int x3, .ref b0]) (QI D 1 (fun ad => []) (va_A [(a0, .inr (14, [v0, v1, v2, v3, v4, v5, v6]))] sz)) 1 6 (va_A [(a0, .inr (14, [v0, v1, v2, v3, v4, v5, v6]))] sz) := by
  refine sh_I (by decide) (Nat.le_of_ble_eq_true rfl) ?_
  intro p e s m args below meth c A ls hx hb hr hml hown hlk hnm hsz hP hD hA hE hts hS hl htb
  have hown : s.vm.findClass RL = some m.cls := hown
  have hl : lv_has ls 7 [(0, .ref a0), (1, .int x0), (2, .int x1), (3, .int x2), (4, .int x3), (5, .ref b0)] := hl
  refine lv_aload hx hb dL_addRow_0 (lv_at hl 5 rfl) ?_
  refine lv_iconst (v := 0) hx hb dL_addRow_2 (by decide) ?_
  refine lv_aload_n hx hb dL_addRow_3 rfl (lv_at hl 0 rfl) ?_
  refine lv_iload_n hx hb dL_addRow_4 rfl (lv_at hl 1 rfl) ?_
  refine lv_iload_n hx hb dL_addRow_5 rfl (lv_at hl 2 rfl) ?_
  refine lv_iload_n hx hb dL_addRow_6 rfl (lv_at hl 3 rfl) ?_
  refine lv_iload hx hb dL_addRow_7 (lv_at hl 4 rfl) ?_
  refine cx_catch (isC := []) (isR := [0]) (wr := [(a0, .inr (14, [v0, v1, v2, v3, v4, v5, v6]))]) (hp := []) (z := (0, 14, 17, 13)) (hq := [(0, 14, 21, 30), (0, 14, 25, 15)]) (name := "java/lang/IllegalArgumentException") (own := RL) (rx_V (ci := 14) (q0 := 0) (isC := []) (wc := []) (As := [.int x0, .int x1, .int x2, .int x3]) (rest := [.int 0, .ref b0]) (n := 4) hx hb hml hown hts hE hS hP hD hA hl.1 (k128_X9_addRow l hst D cy g x0 x1 x2 x3 a0 s.heap.size h0 h1 h2 h3 h4 h5 h6) rfl rfl rfl rfl rfl ax_114 rfl rfl ax_115 ⟨Nat.le_of_ble_eq_true rfl, Nat.le_of_ble_eq_true rfl⟩ rfl rfl (Nat.le_of_ble_eq_true rfl) dL_addRow_9 ⟨(Nat.le_of_ble_eq_true rfl), (Nat.le_of_ble_eq_true rfl)⟩) hP hD hS hA hown hts hE htb rfl rfl rfl rfl (by decide) (fun z hz => by cases hz) (by decide) (by decide) tw_302 tw_303 (fun qx H locs hP hD hS => ?_)
  have hP : va_P D vwCl [(a0, .inr (14, [v0, v1, v2, v3, v4, v5, v6]))] H := hP
  have hD : va_D A [(a0, .inr (14, [v0, v1, v2, v3, v4, v5, v6]))] := hD
  refine lv_astore (lv' := [(6, .ref qx), (0, .ref a0), (1, .int x0), (2, .int x1), (3, .int x2), (4, .int x3), (5, .ref b0)]) hx hb dL_addRow_17 hl (Nat.le_of_ble_eq_true rfl) rfl (fun ls hl => ?_)
  refine lv_iconst (v := 1) hx hb dL_addRow_19 (by decide) ?_
  exact en_z hx hb hr hlk hP hD hS rfl (fun _ => 0) (is := []) rfl rfl (Nat.le_of_ble_eq_true rfl) (Nat.le_of_ble_eq_true rfl) dL_addRow_20
set_option maxHeartbeats 4000000 in
set_option maxRecDepth 100000 in
theorem k130_X10_addRow (l : Launch) (D : va_G) (cy : Nat → ClassId) (g : Nat → Nat) (x0 : Int32) (x1 : Int32) (x2 : Int32) (x3 : Int32) (a0 : Nat) (v0 : Value) (v1 : Value) (v2 : Value) (v3 : Value) (v4 : Value) (v5 : Value) (v6 : Value) (v7 : Value) (v8 : Value) (v9 : Value) (v10 : Value) (v11 : Value) (v12 : Value) (v13 : Value) (v14 : Value) (v15 : Value) (v16 : Value) (v17 : Value) (v18 : Value) (v19 : Value) (v20 : Value) (v21 : Value) (v22 : Value) (v23 : Value) (v24 : Value) (v25 : Value) (v26 : Value) (v27 : Value) (sz : Nat) (h0 : ¬ x0 < 1) (h1 : ¬ (1000 : Int32) < x0) (h2 : ¬ x1 < 50) (h3 : ¬ (999 : Int32) < x1) (h4 : ¬ x2 < 0) (h5 : ¬ (9999 : Int32) < x2) (h6 : x3 < 0) : Met l yX10_addRow [.code yX10_addRow cX10_addRow 7 (some .int)] ({ frames := 1, cells := 0, slots := 0, locals := 25 }) (PC D cy g [(a0, .inr (15, [v0, v1, v2, v3, v4, v5, v6, v7, v8, v9, v10, v11, v12, v13, v14, v15, v16, v17, v18, v19, v20, v21, v22, v23, v24, v25, v26, v27]))] sz [.ref a0, .int x0, .int x1, .int x2, .int x3]) (QI D (-1) (fun ad => [(a0, .inr (15, [.int 1, v1, v2, v3, v4, v5, v6, v7, v8, v9, v10, v11, v12, v13, v14, v15, v16, v17, v18, v19, v20, v21, v22, v23, v24, v25, v26, v27]))]) (va_A [(a0, .inr (15, [v0, v1, v2, v3, v4, v5, v6, v7, v8, v9, v10, v11, v12, v13, v14, v15, v16, v17, v18, v19, v20, v21, v22, v23, v24, v25, v26, v27]))] sz)) 0 0 (va_A [(a0, .inr (15, [v0, v1, v2, v3, v4, v5, v6, v7, v8, v9, v10, v11, v12, v13, v14, v15, v16, v17, v18, v19, v20, v21, v22, v23, v24, v25, v26, v27]))] sz) := by
  refine st_I (by decide) (Nat.le_of_ble_eq_true rfl) ?_
  intro p e s m args below meth c A ls hx hb hr hml hown hlk hnm hsz hP hD hA hE hts hS hl
  have hown : s.vm.findClass RX10 = some m.cls := hown
  have hl : lv_has ls 7 [(0, .ref a0), (1, .int x0), (2, .int x1), (3, .int x2), (4, .int x3)] := hl
  refine lv_aload_n hx hb dX10_addRow_0 rfl (lv_at hl 0 rfl) ?_
  refine ca_v (isC := [0]) (isR := []) (wr := []) (rn_V (ci := 15) (q0 := 0) (isC := [0]) (wc := [(a0, .inr (15, [v0, v1, v2, v3, v4, v5, v6, v7, v8, v9, v10, v11, v12, v13, v14, v15, v16, v17, v18, v19, v20, v21, v22, v23, v24, v25, v26, v27]))]) (As := []) (rest := []) (n := 0) hx hb hml hown hts hE hS hP hD hA hl.1 (k20_X10_begins l D cy g a0 (v0) (v1) (v2) (v3) (v4) (v5) (v6) (v7) (v8) (v9) (v10) (v11) (v12) (v13) (v14) (v15) (v16) (v17) (v18) (v19) (v20) (v21) (v22) (v23) (v24) (v25) (v26) (v27) s.heap.size ) rfl rfl rfl rfl rfl ax_37 rfl rfl ax_38 ⟨Nat.le_of_ble_eq_true rfl, Nat.le_of_ble_eq_true rfl⟩ rfl rfl (Nat.le_of_ble_eq_true rfl) dX10_addRow_1 ⟨(Nat.le_of_ble_eq_true rfl), (Nat.le_of_ble_eq_true rfl)⟩) hP hD hS hA rfl rfl rfl (by decide) (fun ad1 H locs hP hD hS => ?_)
  have hP : va_P D vwCl [(a0, .inr (15, [.int 0, v1, v2, v3, v4, v5, v6, v7, v8, v9, v10, v11, v12, v13, v14, v15, v16, v17, v18, v19, v20, v21, v22, v23, v24, v25, v26, v27]))] H := hP
  have hD : va_D A [(a0, .inr (15, [.int 0, v1, v2, v3, v4, v5, v6, v7, v8, v9, v10, v11, v12, v13, v14, v15, v16, v17, v18, v19, v20, v21, v22, v23, v24, v25, v26, v27]))] := hD
  refine lv_aload_n hx hb dX10_addRow_4 rfl (lv_at hl 0 rfl) ?_
  refine lv_iload_n hx hb dX10_addRow_5 rfl (lv_at hl 1 rfl) ?_
  refine lv_i2l (v := x0.toInt64) hx hb dX10_addRow_6 rfl ?_
  refine lv_lconst (v := 1) hx hb dX10_addRow_7 (by decide) ?_
  refine lv_ldc2 (v := 1000) hx hb hown (hts _ tw_331) dX10_addRow_8 ?_
  refine ca_i (isC := []) (isR := [0]) (wr := [(a0, .inr (15, [.int 0, v1, v2, v3, v4, v5, v6, v7, v8, v9, v10, v11, v12, v13, v14, v15, v16, v17, v18, v19, v20, v21, v22, v23, v24, v25, v26, v27]))]) (rn_S (isC := []) (wc := []) (As := [.long x0.toInt64, .long 1, .long 1000]) (rest := [.ref a0]) (n := 3) hx hb hml hown hts hE hS hP hD hA hl.1 (k33_X10_in l D cy g x0.toInt64 1 1000 H.size (wl_nlt rfl (by decide) h0) (wl_nlt (by decide) rfl h1)) rfl rfl ax_39 rfl rfl ax_40 ⟨Nat.le_of_ble_eq_true rfl, Nat.le_of_ble_eq_true rfl⟩ rfl rfl (Nat.le_of_ble_eq_true rfl) dX10_addRow_11 ⟨(Nat.le_of_ble_eq_true rfl), (Nat.le_of_ble_eq_true rfl)⟩) hP hD hS hA rfl rfl rfl (by decide) (fun ad11 H locs hP hD hS => ?_)
  have hP : va_P D vwCl [(a0, .inr (15, [.int 0, v1, v2, v3, v4, v5, v6, v7, v8, v9, v10, v11, v12, v13, v14, v15, v16, v17, v18, v19, v20, v21, v22, v23, v24, v25, v26, v27]))] H := hP
  have hD : va_D A [(a0, .inr (15, [.int 0, v1, v2, v3, v4, v5, v6, v7, v8, v9, v10, v11, v12, v13, v14, v15, v16, v17, v18, v19, v20, v21, v22, v23, v24, v25, v26, v27]))] := hD
  refine lv_if_eq (tgt := 56) hx hb dX10_addRow_14 (by decide) (fun z => absurd z (by decide)) (fun _ => ?_)
  refine lv_iload_n hx hb dX10_addRow_17 rfl (lv_at hl 2 rfl) ?_
  refine lv_i2l (v := x1.toInt64) hx hb dX10_addRow_18 rfl ?_
  refine lv_ldc2 (v := 50) hx hb hown (hts _ tw_314) dX10_addRow_19 ?_
  refine lv_ldc2 (v := 999) hx hb hown (hts _ tw_493) dX10_addRow_22 ?_
  refine ca_i (isC := []) (isR := [0]) (wr := [(a0, .inr (15, [.int 0, v1, v2, v3, v4, v5, v6, v7, v8, v9, v10, v11, v12, v13, v14, v15, v16, v17, v18, v19, v20, v21, v22, v23, v24, v25, v26, v27]))]) (rn_S (isC := []) (wc := []) (As := [.long x1.toInt64, .long 50, .long 999]) (rest := [.ref a0]) (n := 3) hx hb hml hown hts hE hS hP hD hA hl.1 (k33_X10_in l D cy g x1.toInt64 50 999 H.size (wl_nlt rfl (by decide) h2) (wl_nlt (by decide) rfl h3)) rfl rfl ax_39 rfl rfl ax_40 ⟨Nat.le_of_ble_eq_true rfl, Nat.le_of_ble_eq_true rfl⟩ rfl rfl (Nat.le_of_ble_eq_true rfl) dX10_addRow_25 ⟨(Nat.le_of_ble_eq_true rfl), (Nat.le_of_ble_eq_true rfl)⟩) hP hD hS hA rfl rfl rfl (by decide) (fun ad25 H locs hP hD hS => ?_)
  have hP : va_P D vwCl [(a0, .inr (15, [.int 0, v1, v2, v3, v4, v5, v6, v7, v8, v9, v10, v11, v12, v13, v14, v15, v16, v17, v18, v19, v20, v21, v22, v23, v24, v25, v26, v27]))] H := hP
  have hD : va_D A [(a0, .inr (15, [.int 0, v1, v2, v3, v4, v5, v6, v7, v8, v9, v10, v11, v12, v13, v14, v15, v16, v17, v18, v19, v20, v21, v22, v23, v24, v25, v26, v27]))] := hD
  refine lv_if_eq (tgt := 56) hx hb dX10_addRow_28 (by decide) (fun z => absurd z (by decide)) (fun _ => ?_)
  refine lv_iload_n hx hb dX10_addRow_31 rfl (lv_at hl 3 rfl) ?_
  refine lv_i2l (v := x2.toInt64) hx hb dX10_addRow_32 rfl ?_
  refine lv_lconst (v := 0) hx hb dX10_addRow_33 (by decide) ?_
  refine lv_ldc2 (v := 9999) hx hb hown (hts _ tw_494) dX10_addRow_34 ?_
  refine ca_i (isC := []) (isR := [0]) (wr := [(a0, .inr (15, [.int 0, v1, v2, v3, v4, v5, v6, v7, v8, v9, v10, v11, v12, v13, v14, v15, v16, v17, v18, v19, v20, v21, v22, v23, v24, v25, v26, v27]))]) (rn_S (isC := []) (wc := []) (As := [.long x2.toInt64, .long 0, .long 9999]) (rest := [.ref a0]) (n := 3) hx hb hml hown hts hE hS hP hD hA hl.1 (k33_X10_in l D cy g x2.toInt64 0 9999 H.size (wl_nlt rfl (by decide) h4) (wl_nlt (by decide) rfl h5)) rfl rfl ax_39 rfl rfl ax_40 ⟨Nat.le_of_ble_eq_true rfl, Nat.le_of_ble_eq_true rfl⟩ rfl rfl (Nat.le_of_ble_eq_true rfl) dX10_addRow_37 ⟨(Nat.le_of_ble_eq_true rfl), (Nat.le_of_ble_eq_true rfl)⟩) hP hD hS hA rfl rfl rfl (by decide) (fun ad37 H locs hP hD hS => ?_)
  have hP : va_P D vwCl [(a0, .inr (15, [.int 0, v1, v2, v3, v4, v5, v6, v7, v8, v9, v10, v11, v12, v13, v14, v15, v16, v17, v18, v19, v20, v21, v22, v23, v24, v25, v26, v27]))] H := hP
  have hD : va_D A [(a0, .inr (15, [.int 0, v1, v2, v3, v4, v5, v6, v7, v8, v9, v10, v11, v12, v13, v14, v15, v16, v17, v18, v19, v20, v21, v22, v23, v24, v25, v26, v27]))] := hD
  refine lv_if_eq (tgt := 56) hx hb dX10_addRow_40 (by decide) (fun z => absurd z (by decide)) (fun _ => ?_)
  refine lv_iload hx hb dX10_addRow_43 (lv_at hl 4 rfl) ?_
  refine lv_i2l (v := x3.toInt64) hx hb dX10_addRow_45 rfl ?_
  refine lv_lconst (v := 0) hx hb dX10_addRow_46 (by decide) ?_
  refine lv_ldc2 (v := 9999) hx hb hown (hts _ tw_494) dX10_addRow_47 ?_
  refine ca_i (isC := []) (isR := [0]) (wr := [(a0, .inr (15, [.int 0, v1, v2, v3, v4, v5, v6, v7, v8, v9, v10, v11, v12, v13, v14, v15, v16, v17, v18, v19, v20, v21, v22, v23, v24, v25, v26, v27]))]) (rn_S (isC := []) (wc := []) (As := [.long x3.toInt64, .long 0, .long 9999]) (rest := [.ref a0]) (n := 3) hx hb hml hown hts hE hS hP hD hA hl.1 (k21_X10_in l D cy g x3.toInt64 0 9999 H.size (wl_lt rfl (by decide) h6)) rfl rfl ax_39 rfl rfl ax_40 ⟨Nat.le_of_ble_eq_true rfl, Nat.le_of_ble_eq_true rfl⟩ rfl rfl (Nat.le_of_ble_eq_true rfl) dX10_addRow_50 ⟨(Nat.le_of_ble_eq_true rfl), (Nat.le_of_ble_eq_true rfl)⟩) hP hD hS hA rfl rfl rfl (by decide) (fun ad50 H locs hP hD hS => ?_)
  have hP : va_P D vwCl [(a0, .inr (15, [.int 0, v1, v2, v3, v4, v5, v6, v7, v8, v9, v10, v11, v12, v13, v14, v15, v16, v17, v18, v19, v20, v21, v22, v23, v24, v25, v26, v27]))] H := hP
  have hD : va_D A [(a0, .inr (15, [.int 0, v1, v2, v3, v4, v5, v6, v7, v8, v9, v10, v11, v12, v13, v14, v15, v16, v17, v18, v19, v20, v21, v22, v23, v24, v25, v26, v27]))] := hD
  refine lv_if_ne (tgt := 60) hx hb dX10_addRow_53 (by decide) (fun z => absurd (by decide) z) (fun _ => ?_)
  refine lv_iconst (v := 1) hx hb dX10_addRow_56 (by decide) ?_
  refine lv_goto (tgt := 61) hx hb dX10_addRow_57 (by decide) ?_
  refine lv_iconst (v := 1) hx hb dX10_addRow_61 (by decide) ?_
  refine ca_i (isC := [0]) (isR := []) (wr := []) (rn_V (ci := 15) (q0 := 0) (isC := [0]) (wc := [(a0, .inr (15, [.int 0, v1, v2, v3, v4, v5, v6, v7, v8, v9, v10, v11, v12, v13, v14, v15, v16, v17, v18, v19, v20, v21, v22, v23, v24, v25, v26, v27]))]) (As := [.int 1, .int 1]) (rest := []) (n := 2) hx hb hml hown hts hE hS hP hD hA hl.1 (k22_X10_fails l D cy g a0 (v1) (v2) (v3) (v4) (v5) (v6) (v7) (v8) (v9) (v10) (v11) (v12) (v13) (v14) (v15) (v16) (v17) (v18) (v19) (v20) (v21) (v22) (v23) (v24) (v25) (v26) (v27) H.size ) rfl rfl rfl rfl rfl ax_41 rfl rfl ax_42 ⟨Nat.le_of_ble_eq_true rfl, Nat.le_of_ble_eq_true rfl⟩ rfl rfl (Nat.le_of_ble_eq_true rfl) dX10_addRow_62 ⟨(Nat.le_of_ble_eq_true rfl), (Nat.le_of_ble_eq_true rfl)⟩) hP hD hS hA rfl rfl rfl (by decide) (fun ad62 H locs hP hD hS => ?_)
  have hP : va_P D vwCl [(a0, .inr (15, [.int 1, v1, v2, v3, v4, v5, v6, v7, v8, v9, v10, v11, v12, v13, v14, v15, v16, v17, v18, v19, v20, v21, v22, v23, v24, v25, v26, v27]))] H := hP
  have hD : va_D A [(a0, .inr (15, [.int 1, v1, v2, v3, v4, v5, v6, v7, v8, v9, v10, v11, v12, v13, v14, v15, v16, v17, v18, v19, v20, v21, v22, v23, v24, v25, v26, v27]))] := hD
  refine lv_if_eq (tgt := 70) hx hb dX10_addRow_65 (by decide) (fun z => absurd z (by decide)) (fun _ => ?_)
  refine lv_iconst (v := (-1)) hx hb dX10_addRow_68 (by decide) ?_
  exact en_z hx hb hr hlk hP hD hS rfl (fun _ => 0) (is := [0]) rfl rfl (Nat.le_of_ble_eq_true rfl) (Nat.le_of_ble_eq_true rfl) dX10_addRow_69
set_option maxHeartbeats 4000000 in
set_option maxRecDepth 100000 in
theorem k131_X9_addRow (l : Launch) (hst : l.stackTraces = false) (D : va_G) (cy : Nat → ClassId) (g : Nat → Nat) (x0 : Int32) (x1 : Int32) (x2 : Int32) (x3 : Int32) (b0 : Nat) (sz : Nat) (h0 : ¬ x0 < 1) (h1 : ¬ (1000 : Int32) < x0) (h2 : ¬ x1 < 50) (h3 : ¬ (999 : Int32) < x1) (h4 : ¬ x2 < 0) (h5 : ¬ (9999 : Int32) < x2) (h6 : ¬ x3 < 0) (h7 : (9999 : Int32) < x3) : vx_Met l yX9_addRow [.code yX9_addRow cX9_addRow 5 (some .int)] ({ frames := 6, cells := 1, slots := 6, locals := 82 }) (PC D cy g [] sz [.ref b0, .int x0, .int x1, .int x2, .int x3]) QN (XE "java/lang/IllegalArgumentException" (va_A [] sz)) 1 6 (va_A [] sz) := by
  refine st_X (by decide) (Nat.le_of_ble_eq_true rfl) ?_
  intro p e s m args below meth c A ls hx hb hr hml hown hlk hnm hsz hP hD hA hE hts hS hl hout
  have hown : s.vm.findClass RX9 = some m.cls := hown
  have hl : lv_has ls 5 [(0, .ref b0), (1, .int x0), (2, .int x1), (3, .int x2), (4, .int x3)] := hl
  refine lv_iload_n hx hb dX9_addRow_0 rfl (lv_at hl 1 rfl) ?_
  refine lv_iconst (v := 1) hx hb dX9_addRow_1 (by decide) ?_
  refine lv_sipush (v := 1000) hx hb dX9_addRow_2 (by decide) ?_
  refine ca_i (isC := []) (isR := []) (wr := []) (rn_S (isC := []) (wc := []) (As := [.int x0, .int 1, .int 1000]) (rest := []) (n := 3) hx hb hml hown hts hE hS hP hD hA hl.1 (k30_X9_isOutside l D cy g x0 1 1000 s.heap.size h0 h1) rfl rfl ax_30 rfl rfl ax_31 ⟨Nat.le_of_ble_eq_true rfl, Nat.le_of_ble_eq_true rfl⟩ rfl rfl (Nat.le_of_ble_eq_true rfl) dX9_addRow_5 ⟨(Nat.le_of_ble_eq_true rfl), (Nat.le_of_ble_eq_true rfl)⟩) hP hD hS hA rfl rfl rfl (by decide) (fun ad5 H locs hP hD hS => ?_)
  have hP : va_P D vwCl [] H := hP
  have hD : va_D A [] := hD
  refine lv_if_ne (tgt := 46) hx hb dX9_addRow_8 (by decide) (fun z => absurd (by decide) z) (fun _ => ?_)
  refine lv_iload_n hx hb dX9_addRow_11 rfl (lv_at hl 2 rfl) ?_
  refine lv_bipush (v := 50) hx hb dX9_addRow_12 (by decide) ?_
  refine lv_sipush (v := 999) hx hb dX9_addRow_14 (by decide) ?_
  refine ca_i (isC := []) (isR := []) (wr := []) (rn_S (isC := []) (wc := []) (As := [.int x1, .int 50, .int 999]) (rest := []) (n := 3) hx hb hml hown hts hE hS hP hD hA hl.1 (k30_X9_isOutside l D cy g x1 50 999 H.size h2 h3) rfl rfl ax_30 rfl rfl ax_31 ⟨Nat.le_of_ble_eq_true rfl, Nat.le_of_ble_eq_true rfl⟩ rfl rfl (Nat.le_of_ble_eq_true rfl) dX9_addRow_17 ⟨(Nat.le_of_ble_eq_true rfl), (Nat.le_of_ble_eq_true rfl)⟩) hP hD hS hA rfl rfl rfl (by decide) (fun ad17 H locs hP hD hS => ?_)
  have hP : va_P D vwCl [] H := hP
  have hD : va_D A [] := hD
  refine lv_if_ne (tgt := 46) hx hb dX9_addRow_20 (by decide) (fun z => absurd (by decide) z) (fun _ => ?_)
  refine lv_iload_n hx hb dX9_addRow_23 rfl (lv_at hl 3 rfl) ?_
  refine lv_iconst (v := 0) hx hb dX9_addRow_24 (by decide) ?_
  refine lv_sipush (v := 9999) hx hb dX9_addRow_25 (by decide) ?_
  refine ca_i (isC := []) (isR := []) (wr := []) (rn_S (isC := []) (wc := []) (As := [.int x2, .int 0, .int 9999]) (rest := []) (n := 3) hx hb hml hown hts hE hS hP hD hA hl.1 (k30_X9_isOutside l D cy g x2 0 9999 H.size h4 h5) rfl rfl ax_30 rfl rfl ax_31 ⟨Nat.le_of_ble_eq_true rfl, Nat.le_of_ble_eq_true rfl⟩ rfl rfl (Nat.le_of_ble_eq_true rfl) dX9_addRow_28 ⟨(Nat.le_of_ble_eq_true rfl), (Nat.le_of_ble_eq_true rfl)⟩) hP hD hS hA rfl rfl rfl (by decide) (fun ad28 H locs hP hD hS => ?_)
  have hP : va_P D vwCl [] H := hP
  have hD : va_D A [] := hD
  refine lv_if_ne (tgt := 46) hx hb dX9_addRow_31 (by decide) (fun z => absurd (by decide) z) (fun _ => ?_)
  refine lv_iload hx hb dX9_addRow_34 (lv_at hl 4 rfl) ?_
  refine lv_iconst (v := 0) hx hb dX9_addRow_36 (by decide) ?_
  refine lv_sipush (v := 9999) hx hb dX9_addRow_37 (by decide) ?_
  refine ca_i (isC := []) (isR := []) (wr := []) (rn_S (isC := []) (wc := []) (As := [.int x3, .int 0, .int 9999]) (rest := []) (n := 3) hx hb hml hown hts hE hS hP hD hA hl.1 (k25_X9_isOutside l D cy g x3 0 9999 H.size h6 h7) rfl rfl ax_30 rfl rfl ax_31 ⟨Nat.le_of_ble_eq_true rfl, Nat.le_of_ble_eq_true rfl⟩ rfl rfl (Nat.le_of_ble_eq_true rfl) dX9_addRow_40 ⟨(Nat.le_of_ble_eq_true rfl), (Nat.le_of_ble_eq_true rfl)⟩) hP hD hS hA rfl rfl rfl (by decide) (fun ad40 H locs hP hD hS => ?_)
  have hP : va_P D vwCl [] H := hP
  have hD : va_D A [] := hD
  refine lv_if_eq (tgt := 56) hx hb dX9_addRow_43 (by decide) (fun z => absurd z (by decide)) (fun _ => ?_)
  exact th_S (text := "a number is out of range") hx hb hst hown hts hE hS (hl.1.trans hml.symm) hout hlk (by decide +kernel) tw_296 tw_297 ax_32 (by decide +kernel) dX9_addRow_46 dX9_addRow_49 dX9_addRow_50 dX9_addRow_52 dX9_addRow_55 ⟨Nat.le_of_ble_eq_true rfl, Nat.le_of_ble_eq_true rfl, Nat.le_of_ble_eq_true rfl, Nat.le_of_ble_eq_true rfl⟩ (Nat.le_of_ble_eq_true rfl) (Nat.le_of_ble_eq_true rfl)
set_option maxHeartbeats 4000000 in
set_option maxRecDepth 100000 in
theorem k132_L_addRow (l : Launch) (hst : l.stackTraces = false) (D : va_G) (cy : Nat → ClassId) (g : Nat → Nat) (x0 : Int32) (x1 : Int32) (x2 : Int32) (x3 : Int32) (a0 : Nat) (b0 : Nat) (v0 : Value) (v1 : Value) (v2 : Value) (v3 : Value) (v4 : Value) (v5 : Value) (v6 : Value) (sz : Nat) (h0 : ¬ x0 < 1) (h1 : ¬ (1000 : Int32) < x0) (h2 : ¬ x1 < 50) (h3 : ¬ (999 : Int32) < x1) (h4 : ¬ x2 < 0) (h5 : ¬ (9999 : Int32) < x2) (h6 : ¬ x3 < 0) (h7 : (9999 : Int32) < x3) : Met l yL_addRow [.codeWith yL_addRow cL_addRow 7 (some .int) [(0, 14, 17, 13), (0, 14, 21, 30), (0, 14, 25, 15)]] ({ frames := 7, cells := 1, slots := 6, locals := 106 }) (PC D cy g [(a0, .inr (14, [v0, v1, v2, v3, v4, v5, v6]))] sz [.ref a0, .int x0, .int x1, .int x2, .int x3, .ref b0]) (QI D 1 (fun ad => []) (va_A [(a0, .inr (14, [v0, v1, v2, v3, v4, v5, v6]))] sz)) 1 6 (va_A [(a0, .inr (14, [v0, v1, v2, v3, v4, v5, v6]))] sz) := by
  refine sh_I (by decide) (Nat.le_of_ble_eq_true rfl) ?_
  intro p e s m args below meth c A ls hx hb hr hml hown hlk hnm hsz hP hD hA hE hts hS hl htb
  have hown : s.vm.findClass RL = some m.cls := hown
  have hl : lv_has ls 7 [(0, .ref a0), (1, .int x0), (2, .int x1), (3, .int x2), (4, .int x3), (5, .ref b0)] := hl
  refine lv_aload hx hb dL_addRow_0 (lv_at hl 5 rfl) ?_
  refine lv_iconst (v := 0) hx hb dL_addRow_2 (by decide) ?_
  refine lv_aload_n hx hb dL_addRow_3 rfl (lv_at hl 0 rfl) ?_
  refine lv_iload_n hx hb dL_addRow_4 rfl (lv_at hl 1 rfl) ?_
  refine lv_iload_n hx hb dL_addRow_5 rfl (lv_at hl 2 rfl) ?_
  refine lv_iload_n hx hb dL_addRow_6 rfl (lv_at hl 3 rfl) ?_
  refine lv_iload hx hb dL_addRow_7 (lv_at hl 4 rfl) ?_
  refine cx_catch (isC := []) (isR := [0]) (wr := [(a0, .inr (14, [v0, v1, v2, v3, v4, v5, v6]))]) (hp := []) (z := (0, 14, 17, 13)) (hq := [(0, 14, 21, 30), (0, 14, 25, 15)]) (name := "java/lang/IllegalArgumentException") (own := RL) (rx_V (ci := 14) (q0 := 0) (isC := []) (wc := []) (As := [.int x0, .int x1, .int x2, .int x3]) (rest := [.int 0, .ref b0]) (n := 4) hx hb hml hown hts hE hS hP hD hA hl.1 (k131_X9_addRow l hst D cy g x0 x1 x2 x3 a0 s.heap.size h0 h1 h2 h3 h4 h5 h6 h7) rfl rfl rfl rfl rfl ax_114 rfl rfl ax_115 ⟨Nat.le_of_ble_eq_true rfl, Nat.le_of_ble_eq_true rfl⟩ rfl rfl (Nat.le_of_ble_eq_true rfl) dL_addRow_9 ⟨(Nat.le_of_ble_eq_true rfl), (Nat.le_of_ble_eq_true rfl)⟩) hP hD hS hA hown hts hE htb rfl rfl rfl rfl (by decide) (fun z hz => by cases hz) (by decide) (by decide) tw_302 tw_303 (fun qx H locs hP hD hS => ?_)
  have hP : va_P D vwCl [(a0, .inr (14, [v0, v1, v2, v3, v4, v5, v6]))] H := hP
  have hD : va_D A [(a0, .inr (14, [v0, v1, v2, v3, v4, v5, v6]))] := hD
  refine lv_astore (lv' := [(6, .ref qx), (0, .ref a0), (1, .int x0), (2, .int x1), (3, .int x2), (4, .int x3), (5, .ref b0)]) hx hb dL_addRow_17 hl (Nat.le_of_ble_eq_true rfl) rfl (fun ls hl => ?_)
  refine lv_iconst (v := 1) hx hb dL_addRow_19 (by decide) ?_
  exact en_z hx hb hr hlk hP hD hS rfl (fun _ => 0) (is := []) rfl rfl (Nat.le_of_ble_eq_true rfl) (Nat.le_of_ble_eq_true rfl) dL_addRow_20
set_option maxHeartbeats 4000000 in
set_option maxRecDepth 100000 in
theorem k133_X10_addRow (l : Launch) (D : va_G) (cy : Nat → ClassId) (g : Nat → Nat) (x0 : Int32) (x1 : Int32) (x2 : Int32) (x3 : Int32) (a0 : Nat) (v0 : Value) (v1 : Value) (v2 : Value) (v3 : Value) (v4 : Value) (v5 : Value) (v6 : Value) (v7 : Value) (v8 : Value) (v9 : Value) (v10 : Value) (v11 : Value) (v12 : Value) (v13 : Value) (v14 : Value) (v15 : Value) (v16 : Value) (v17 : Value) (v18 : Value) (v19 : Value) (v20 : Value) (v21 : Value) (v22 : Value) (v23 : Value) (v24 : Value) (v25 : Value) (v26 : Value) (v27 : Value) (sz : Nat) (h0 : ¬ x0 < 1) (h1 : ¬ (1000 : Int32) < x0) (h2 : ¬ x1 < 50) (h3 : ¬ (999 : Int32) < x1) (h4 : ¬ x2 < 0) (h5 : ¬ (9999 : Int32) < x2) (h6 : ¬ x3 < 0) (h7 : (9999 : Int32) < x3) : Met l yX10_addRow [.code yX10_addRow cX10_addRow 7 (some .int)] ({ frames := 1, cells := 0, slots := 0, locals := 25 }) (PC D cy g [(a0, .inr (15, [v0, v1, v2, v3, v4, v5, v6, v7, v8, v9, v10, v11, v12, v13, v14, v15, v16, v17, v18, v19, v20, v21, v22, v23, v24, v25, v26, v27]))] sz [.ref a0, .int x0, .int x1, .int x2, .int x3]) (QI D (-1) (fun ad => [(a0, .inr (15, [.int 1, v1, v2, v3, v4, v5, v6, v7, v8, v9, v10, v11, v12, v13, v14, v15, v16, v17, v18, v19, v20, v21, v22, v23, v24, v25, v26, v27]))]) (va_A [(a0, .inr (15, [v0, v1, v2, v3, v4, v5, v6, v7, v8, v9, v10, v11, v12, v13, v14, v15, v16, v17, v18, v19, v20, v21, v22, v23, v24, v25, v26, v27]))] sz)) 0 0 (va_A [(a0, .inr (15, [v0, v1, v2, v3, v4, v5, v6, v7, v8, v9, v10, v11, v12, v13, v14, v15, v16, v17, v18, v19, v20, v21, v22, v23, v24, v25, v26, v27]))] sz) := by
  refine st_I (by decide) (Nat.le_of_ble_eq_true rfl) ?_
  intro p e s m args below meth c A ls hx hb hr hml hown hlk hnm hsz hP hD hA hE hts hS hl
  have hown : s.vm.findClass RX10 = some m.cls := hown
  have hl : lv_has ls 7 [(0, .ref a0), (1, .int x0), (2, .int x1), (3, .int x2), (4, .int x3)] := hl
  refine lv_aload_n hx hb dX10_addRow_0 rfl (lv_at hl 0 rfl) ?_
  refine ca_v (isC := [0]) (isR := []) (wr := []) (rn_V (ci := 15) (q0 := 0) (isC := [0]) (wc := [(a0, .inr (15, [v0, v1, v2, v3, v4, v5, v6, v7, v8, v9, v10, v11, v12, v13, v14, v15, v16, v17, v18, v19, v20, v21, v22, v23, v24, v25, v26, v27]))]) (As := []) (rest := []) (n := 0) hx hb hml hown hts hE hS hP hD hA hl.1 (k20_X10_begins l D cy g a0 (v0) (v1) (v2) (v3) (v4) (v5) (v6) (v7) (v8) (v9) (v10) (v11) (v12) (v13) (v14) (v15) (v16) (v17) (v18) (v19) (v20) (v21) (v22) (v23) (v24) (v25) (v26) (v27) s.heap.size ) rfl rfl rfl rfl rfl ax_37 rfl rfl ax_38 ⟨Nat.le_of_ble_eq_true rfl, Nat.le_of_ble_eq_true rfl⟩ rfl rfl (Nat.le_of_ble_eq_true rfl) dX10_addRow_1 ⟨(Nat.le_of_ble_eq_true rfl), (Nat.le_of_ble_eq_true rfl)⟩) hP hD hS hA rfl rfl rfl (by decide) (fun ad1 H locs hP hD hS => ?_)
  have hP : va_P D vwCl [(a0, .inr (15, [.int 0, v1, v2, v3, v4, v5, v6, v7, v8, v9, v10, v11, v12, v13, v14, v15, v16, v17, v18, v19, v20, v21, v22, v23, v24, v25, v26, v27]))] H := hP
  have hD : va_D A [(a0, .inr (15, [.int 0, v1, v2, v3, v4, v5, v6, v7, v8, v9, v10, v11, v12, v13, v14, v15, v16, v17, v18, v19, v20, v21, v22, v23, v24, v25, v26, v27]))] := hD
  refine lv_aload_n hx hb dX10_addRow_4 rfl (lv_at hl 0 rfl) ?_
  refine lv_iload_n hx hb dX10_addRow_5 rfl (lv_at hl 1 rfl) ?_
  refine lv_i2l (v := x0.toInt64) hx hb dX10_addRow_6 rfl ?_
  refine lv_lconst (v := 1) hx hb dX10_addRow_7 (by decide) ?_
  refine lv_ldc2 (v := 1000) hx hb hown (hts _ tw_331) dX10_addRow_8 ?_
  refine ca_i (isC := []) (isR := [0]) (wr := [(a0, .inr (15, [.int 0, v1, v2, v3, v4, v5, v6, v7, v8, v9, v10, v11, v12, v13, v14, v15, v16, v17, v18, v19, v20, v21, v22, v23, v24, v25, v26, v27]))]) (rn_S (isC := []) (wc := []) (As := [.long x0.toInt64, .long 1, .long 1000]) (rest := [.ref a0]) (n := 3) hx hb hml hown hts hE hS hP hD hA hl.1 (k33_X10_in l D cy g x0.toInt64 1 1000 H.size (wl_nlt rfl (by decide) h0) (wl_nlt (by decide) rfl h1)) rfl rfl ax_39 rfl rfl ax_40 ⟨Nat.le_of_ble_eq_true rfl, Nat.le_of_ble_eq_true rfl⟩ rfl rfl (Nat.le_of_ble_eq_true rfl) dX10_addRow_11 ⟨(Nat.le_of_ble_eq_true rfl), (Nat.le_of_ble_eq_true rfl)⟩) hP hD hS hA rfl rfl rfl (by decide) (fun ad11 H locs hP hD hS => ?_)
  have hP : va_P D vwCl [(a0, .inr (15, [.int 0, v1, v2, v3, v4, v5, v6, v7, v8, v9, v10, v11, v12, v13, v14, v15, v16, v17, v18, v19, v20, v21, v22, v23, v24, v25, v26, v27]))] H := hP
  have hD : va_D A [(a0, .inr (15, [.int 0, v1, v2, v3, v4, v5, v6, v7, v8, v9, v10, v11, v12, v13, v14, v15, v16, v17, v18, v19, v20, v21, v22, v23, v24, v25, v26, v27]))] := hD
  refine lv_if_eq (tgt := 56) hx hb dX10_addRow_14 (by decide) (fun z => absurd z (by decide)) (fun _ => ?_)
  refine lv_iload_n hx hb dX10_addRow_17 rfl (lv_at hl 2 rfl) ?_
  refine lv_i2l (v := x1.toInt64) hx hb dX10_addRow_18 rfl ?_
  refine lv_ldc2 (v := 50) hx hb hown (hts _ tw_314) dX10_addRow_19 ?_
  refine lv_ldc2 (v := 999) hx hb hown (hts _ tw_493) dX10_addRow_22 ?_
  refine ca_i (isC := []) (isR := [0]) (wr := [(a0, .inr (15, [.int 0, v1, v2, v3, v4, v5, v6, v7, v8, v9, v10, v11, v12, v13, v14, v15, v16, v17, v18, v19, v20, v21, v22, v23, v24, v25, v26, v27]))]) (rn_S (isC := []) (wc := []) (As := [.long x1.toInt64, .long 50, .long 999]) (rest := [.ref a0]) (n := 3) hx hb hml hown hts hE hS hP hD hA hl.1 (k33_X10_in l D cy g x1.toInt64 50 999 H.size (wl_nlt rfl (by decide) h2) (wl_nlt (by decide) rfl h3)) rfl rfl ax_39 rfl rfl ax_40 ⟨Nat.le_of_ble_eq_true rfl, Nat.le_of_ble_eq_true rfl⟩ rfl rfl (Nat.le_of_ble_eq_true rfl) dX10_addRow_25 ⟨(Nat.le_of_ble_eq_true rfl), (Nat.le_of_ble_eq_true rfl)⟩) hP hD hS hA rfl rfl rfl (by decide) (fun ad25 H locs hP hD hS => ?_)
  have hP : va_P D vwCl [(a0, .inr (15, [.int 0, v1, v2, v3, v4, v5, v6, v7, v8, v9, v10, v11, v12, v13, v14, v15, v16, v17, v18, v19, v20, v21, v22, v23, v24, v25, v26, v27]))] H := hP
  have hD : va_D A [(a0, .inr (15, [.int 0, v1, v2, v3, v4, v5, v6, v7, v8, v9, v10, v11, v12, v13, v14, v15, v16, v17, v18, v19, v20, v21, v22, v23, v24, v25, v26, v27]))] := hD
  refine lv_if_eq (tgt := 56) hx hb dX10_addRow_28 (by decide) (fun z => absurd z (by decide)) (fun _ => ?_)
  refine lv_iload_n hx hb dX10_addRow_31 rfl (lv_at hl 3 rfl) ?_
  refine lv_i2l (v := x2.toInt64) hx hb dX10_addRow_32 rfl ?_
  refine lv_lconst (v := 0) hx hb dX10_addRow_33 (by decide) ?_
  refine lv_ldc2 (v := 9999) hx hb hown (hts _ tw_494) dX10_addRow_34 ?_
  refine ca_i (isC := []) (isR := [0]) (wr := [(a0, .inr (15, [.int 0, v1, v2, v3, v4, v5, v6, v7, v8, v9, v10, v11, v12, v13, v14, v15, v16, v17, v18, v19, v20, v21, v22, v23, v24, v25, v26, v27]))]) (rn_S (isC := []) (wc := []) (As := [.long x2.toInt64, .long 0, .long 9999]) (rest := [.ref a0]) (n := 3) hx hb hml hown hts hE hS hP hD hA hl.1 (k33_X10_in l D cy g x2.toInt64 0 9999 H.size (wl_nlt rfl (by decide) h4) (wl_nlt (by decide) rfl h5)) rfl rfl ax_39 rfl rfl ax_40 ⟨Nat.le_of_ble_eq_true rfl, Nat.le_of_ble_eq_true rfl⟩ rfl rfl (Nat.le_of_ble_eq_true rfl) dX10_addRow_37 ⟨(Nat.le_of_ble_eq_true rfl), (Nat.le_of_ble_eq_true rfl)⟩) hP hD hS hA rfl rfl rfl (by decide) (fun ad37 H locs hP hD hS => ?_)
  have hP : va_P D vwCl [(a0, .inr (15, [.int 0, v1, v2, v3, v4, v5, v6, v7, v8, v9, v10, v11, v12, v13, v14, v15, v16, v17, v18, v19, v20, v21, v22, v23, v24, v25, v26, v27]))] H := hP
  have hD : va_D A [(a0, .inr (15, [.int 0, v1, v2, v3, v4, v5, v6, v7, v8, v9, v10, v11, v12, v13, v14, v15, v16, v17, v18, v19, v20, v21, v22, v23, v24, v25, v26, v27]))] := hD
  refine lv_if_eq (tgt := 56) hx hb dX10_addRow_40 (by decide) (fun z => absurd z (by decide)) (fun _ => ?_)
  refine lv_iload hx hb dX10_addRow_43 (lv_at hl 4 rfl) ?_
  refine lv_i2l (v := x3.toInt64) hx hb dX10_addRow_45 rfl ?_
  refine lv_lconst (v := 0) hx hb dX10_addRow_46 (by decide) ?_
  refine lv_ldc2 (v := 9999) hx hb hown (hts _ tw_494) dX10_addRow_47 ?_
  refine ca_i (isC := []) (isR := [0]) (wr := [(a0, .inr (15, [.int 0, v1, v2, v3, v4, v5, v6, v7, v8, v9, v10, v11, v12, v13, v14, v15, v16, v17, v18, v19, v20, v21, v22, v23, v24, v25, v26, v27]))]) (rn_S (isC := []) (wc := []) (As := [.long x3.toInt64, .long 0, .long 9999]) (rest := [.ref a0]) (n := 3) hx hb hml hown hts hE hS hP hD hA hl.1 (k28_X10_in l D cy g x3.toInt64 0 9999 H.size (wl_nlt rfl (by decide) h6) (wl_lt (by decide) rfl h7)) rfl rfl ax_39 rfl rfl ax_40 ⟨Nat.le_of_ble_eq_true rfl, Nat.le_of_ble_eq_true rfl⟩ rfl rfl (Nat.le_of_ble_eq_true rfl) dX10_addRow_50 ⟨(Nat.le_of_ble_eq_true rfl), (Nat.le_of_ble_eq_true rfl)⟩) hP hD hS hA rfl rfl rfl (by decide) (fun ad50 H locs hP hD hS => ?_)
  have hP : va_P D vwCl [(a0, .inr (15, [.int 0, v1, v2, v3, v4, v5, v6, v7, v8, v9, v10, v11, v12, v13, v14, v15, v16, v17, v18, v19, v20, v21, v22, v23, v24, v25, v26, v27]))] H := hP
  have hD : va_D A [(a0, .inr (15, [.int 0, v1, v2, v3, v4, v5, v6, v7, v8, v9, v10, v11, v12, v13, v14, v15, v16, v17, v18, v19, v20, v21, v22, v23, v24, v25, v26, v27]))] := hD
  refine lv_if_ne (tgt := 60) hx hb dX10_addRow_53 (by decide) (fun z => absurd (by decide) z) (fun _ => ?_)
  refine lv_iconst (v := 1) hx hb dX10_addRow_56 (by decide) ?_
  refine lv_goto (tgt := 61) hx hb dX10_addRow_57 (by decide) ?_
  refine lv_iconst (v := 1) hx hb dX10_addRow_61 (by decide) ?_
  refine ca_i (isC := [0]) (isR := []) (wr := []) (rn_V (ci := 15) (q0 := 0) (isC := [0]) (wc := [(a0, .inr (15, [.int 0, v1, v2, v3, v4, v5, v6, v7, v8, v9, v10, v11, v12, v13, v14, v15, v16, v17, v18, v19, v20, v21, v22, v23, v24, v25, v26, v27]))]) (As := [.int 1, .int 1]) (rest := []) (n := 2) hx hb hml hown hts hE hS hP hD hA hl.1 (k22_X10_fails l D cy g a0 (v1) (v2) (v3) (v4) (v5) (v6) (v7) (v8) (v9) (v10) (v11) (v12) (v13) (v14) (v15) (v16) (v17) (v18) (v19) (v20) (v21) (v22) (v23) (v24) (v25) (v26) (v27) H.size ) rfl rfl rfl rfl rfl ax_41 rfl rfl ax_42 ⟨Nat.le_of_ble_eq_true rfl, Nat.le_of_ble_eq_true rfl⟩ rfl rfl (Nat.le_of_ble_eq_true rfl) dX10_addRow_62 ⟨(Nat.le_of_ble_eq_true rfl), (Nat.le_of_ble_eq_true rfl)⟩) hP hD hS hA rfl rfl rfl (by decide) (fun ad62 H locs hP hD hS => ?_)
  have hP : va_P D vwCl [(a0, .inr (15, [.int 1, v1, v2, v3, v4, v5, v6, v7, v8, v9, v10, v11, v12, v13, v14, v15, v16, v17, v18, v19, v20, v21, v22, v23, v24, v25, v26, v27]))] H := hP
  have hD : va_D A [(a0, .inr (15, [.int 1, v1, v2, v3, v4, v5, v6, v7, v8, v9, v10, v11, v12, v13, v14, v15, v16, v17, v18, v19, v20, v21, v22, v23, v24, v25, v26, v27]))] := hD
  refine lv_if_eq (tgt := 70) hx hb dX10_addRow_65 (by decide) (fun z => absurd z (by decide)) (fun _ => ?_)
  refine lv_iconst (v := (-1)) hx hb dX10_addRow_68 (by decide) ?_
  exact en_z hx hb hr hlk hP hD hS rfl (fun _ => 0) (is := [0]) rfl rfl (Nat.le_of_ble_eq_true rfl) (Nat.le_of_ble_eq_true rfl) dX10_addRow_69
set_option maxHeartbeats 4000000 in
set_option maxRecDepth 100000 in
theorem k134_X7_isBelow (l : Launch) (D : va_G) (cy : Nat → ClassId) (g : Nat → Nat) (x0 : Int32) (x1 : Int32) (x2 : Int32) (a0 : Nat) (v0 : Value) (v1 : Value) (v2 : Value) (v3 : Value) (sz : Nat)  : Met l yX7_isBelow [.code yX7_isBelow cX7_isBelow 5 (some .boolean)] ({ frames := 0, cells := 0, slots := 0, locals := 0 }) (PC D cy g [(a0, .inr (12, [v0, v1, v2, v3, .int 0]))] sz [.ref a0, .int x0, .int x1, .int x2]) (QI D 1 (fun ad => [(a0, .inr (12, [v0, v1, v2, v3, .int 0]))]) (va_A [(a0, .inr (12, [v0, v1, v2, v3, .int 0]))] sz)) 0 0 (va_A [(a0, .inr (12, [v0, v1, v2, v3, .int 0]))] sz) := by
  refine st_I (by decide) (Nat.le_of_ble_eq_true rfl) ?_
  intro p e s m args below meth c A ls hx hb hr hml hown hlk hnm hsz hP hD hA hE hts hS hl
  have hown : s.vm.findClass RX7 = some m.cls := hown
  have hl : lv_has ls 5 [(0, .ref a0), (1, .int x0), (2, .int x1), (3, .int x2)] := hl
  refine lv_aload_n hx hb dX7_isBelow_0 rfl (lv_at hl 0 rfl) ?_
  refine va_get (D := D) (ci := 12) (v := .int 0) (C := RX7) (T := TX7) (N := 5) hx hb hts ax_3 hown hE.1 hP 0 rfl rfl 4 (by decide) (hts _ tw_44) (fun _ h9 => h9) rfl dX7_isBelow_1 ?_
  refine lv_iconst (v := 1) hx hb dX7_isBelow_4 (by decide) ?_
  refine lv_isub hx hb dX7_isBelow_5 ?_
  refine tp_i (-1) (by decide) ?_
  refine lv_istore (lv' := [(4, .int (-1)), (0, .ref a0), (1, .int x0), (2, .int x1), (3, .int x2)]) hx hb dX7_isBelow_6 hl (Nat.le_of_ble_eq_true rfl) rfl (fun ls hl => ?_)
  refine lv_iload hx hb dX7_isBelow_8 (lv_at hl 0 rfl) ?_
  refine lv_if_lt (tgt := 53) hx hb dX7_isBelow_10 (by decide) (fun _ => ?_) (fun z => absurd (by decide) z)
  refine lv_iconst (v := 1) hx hb dX7_isBelow_53 (by decide) ?_
  refine lv_goto (tgt := 58) hx hb dX7_isBelow_54 (by decide) ?_
  exact en_z hx hb hr hlk hP hD hS rfl (fun _ => 0) (is := [0]) rfl rfl (Nat.le_of_ble_eq_true rfl) (Nat.le_of_ble_eq_true rfl) dX7_isBelow_58
set_option maxHeartbeats 4000000 in
set_option maxRecDepth 100000 in
theorem k135_X7_isFull (l : Launch) (D : va_G) (cy : Nat → ClassId) (g : Nat → Nat) (a0 : Nat) (v0 : Value) (v1 : Value) (v2 : Value) (v3 : Value) (sz : Nat)  : Met l yX7_isFull [.code yX7_isFull cX7_isFull 1 (some .boolean)] ({ frames := 0, cells := 0, slots := 0, locals := 0 }) (PC D cy g [(a0, .inr (12, [v0, v1, v2, v3, .int 0]))] sz [.ref a0]) (QI D 0 (fun ad => [(a0, .inr (12, [v0, v1, v2, v3, .int 0]))]) (va_A [(a0, .inr (12, [v0, v1, v2, v3, .int 0]))] sz)) 0 0 (va_A [(a0, .inr (12, [v0, v1, v2, v3, .int 0]))] sz) := by
  refine st_I (by decide) (Nat.le_of_ble_eq_true rfl) ?_
  intro p e s m args below meth c A ls hx hb hr hml hown hlk hnm hsz hP hD hA hE hts hS hl
  have hown : s.vm.findClass RX7 = some m.cls := hown
  have hl : lv_has ls 1 [(0, .ref a0)] := hl
  refine lv_aload_n hx hb dX7_isFull_0 rfl (lv_at hl 0 rfl) ?_
  refine va_get (D := D) (ci := 12) (v := .int 0) (C := RX7) (T := TX7) (N := 5) hx hb hts ax_3 hown hE.1 hP 0 rfl rfl 4 (by decide) (hts _ tw_44) (fun _ h9 => h9) rfl dX7_isFull_1 ?_
  refine lv_bipush (v := 8) hx hb dX7_isFull_4 (by decide) ?_
  refine lv_icmp_lt (tgt := 13) hx hb dX7_isFull_6 (by decide) (fun _ => ?_) (fun z => absurd (by decide) z)
  refine lv_iconst (v := 0) hx hb dX7_isFull_13 (by decide) ?_
  exact en_z hx hb hr hlk hP hD hS rfl (fun _ => 0) (is := [0]) rfl rfl (Nat.le_of_ble_eq_true rfl) (Nat.le_of_ble_eq_true rfl) dX7_isFull_14
set_option maxHeartbeats 4000000 in
set_option maxRecDepth 100000 in
theorem k136_X7_append (l : Launch) (D : va_G) (cy : Nat → ClassId) (g : Nat → Nat) (x0 : Int32) (x1 : Int32) (x2 : Int32) (x3 : Int32) (a0 : Nat) (a1 : Nat) (a2 : Nat) (a3 : Nat) (a4 : Nat) (f0 : Nat → Int32) (f1 : Nat → Int32) (f2 : Nat → Int32) (f3 : Nat → Int32) (sz : Nat)  : Met l yX7_append [.code yX7_append cX7_append 5 (some .int)] ({ frames := 1, cells := 0, slots := 0, locals := 20 }) (PC D cy g [(a0, .inr (12, [.ref a1, .ref a2, .ref a3, .ref a4, .int 0])), (a1, .inl (cy 1, 8, .inl f0)), (a2, .inl (cy 1, 8, .inl f1)), (a3, .inl (cy 1, 8, .inl f2)), (a4, .inl (cy 1, 8, .inl f3))] sz [.ref a0, .int x0, .int x1, .int x2, .int x3]) (QI D 1 (fun ad => [(a0, .inr (12, [.ref a1, .ref a2, .ref a3, .ref a4, .int 1])), (a1, .inl (cy 1, 8, .inl (upd f0 (0 : Int32).toNatClampNeg x0))), (a2, .inl (cy 1, 8, .inl (upd f1 (0 : Int32).toNatClampNeg x1))), (a3, .inl (cy 1, 8, .inl (upd f2 (0 : Int32).toNatClampNeg x2))), (a4, .inl (cy 1, 8, .inl (upd f3 (0 : Int32).toNatClampNeg x3)))]) (va_A [(a0, .inr (12, [.ref a1, .ref a2, .ref a3, .ref a4, .int 0])), (a1, .inl (cy 1, 8, .inl f0)), (a2, .inl (cy 1, 8, .inl f1)), (a3, .inl (cy 1, 8, .inl f2)), (a4, .inl (cy 1, 8, .inl f3))] sz)) 0 0 (va_A [(a0, .inr (12, [.ref a1, .ref a2, .ref a3, .ref a4, .int 0])), (a1, .inl (cy 1, 8, .inl f0)), (a2, .inl (cy 1, 8, .inl f1)), (a3, .inl (cy 1, 8, .inl f2)), (a4, .inl (cy 1, 8, .inl f3))] sz) := by
  refine st_I (by decide) (Nat.le_of_ble_eq_true rfl) ?_
  intro p e s m args below meth c A ls hx hb hr hml hown hlk hnm hsz hP hD hA hE hts hS hl
  have hown : s.vm.findClass RX7 = some m.cls := hown
  have hl : lv_has ls 5 [(0, .ref a0), (1, .int x0), (2, .int x1), (3, .int x2), (4, .int x3)] := hl
  refine lv_aload_n hx hb dX7_append_0 rfl (lv_at hl 0 rfl) ?_
  refine ca_i (isC := [0]) (isR := [1, 2, 3, 4]) (wr := [(a1, .inl (cy 1, 8, .inl f0)), (a2, .inl (cy 1, 8, .inl f1)), (a3, .inl (cy 1, 8, .inl f2)), (a4, .inl (cy 1, 8, .inl f3))]) (rn_V (ci := 12) (q0 := 0) (isC := [0]) (wc := [(a0, .inr (12, [.ref a1, .ref a2, .ref a3, .ref a4, .int 0]))]) (As := []) (rest := []) (n := 0) hx hb hml hown hts hE hS hP hD hA hl.1 (k135_X7_isFull l D cy g a0 (.ref a1) (.ref a2) (.ref a3) (.ref a4) s.heap.size ) rfl rfl rfl rfl rfl ax_120 rfl rfl ax_121 ⟨Nat.le_of_ble_eq_true rfl, Nat.le_of_ble_eq_true rfl⟩ rfl rfl (Nat.le_of_ble_eq_true rfl) dX7_append_1 ⟨(Nat.le_of_ble_eq_true rfl), (Nat.le_of_ble_eq_true rfl)⟩) hP hD hS hA rfl rfl rfl (by decide) (fun ad1 H locs hP hD hS => ?_)
  have hP : va_P D vwCl [(a1, .inl (cy 1, 8, .inl f0)), (a2, .inl (cy 1, 8, .inl f1)), (a3, .inl (cy 1, 8, .inl f2)), (a4, .inl (cy 1, 8, .inl f3)), (a0, .inr (12, [.ref a1, .ref a2, .ref a3, .ref a4, .int 0]))] H := hP
  have hD : va_D A [(a1, .inl (cy 1, 8, .inl f0)), (a2, .inl (cy 1, 8, .inl f1)), (a3, .inl (cy 1, 8, .inl f2)), (a4, .inl (cy 1, 8, .inl f3)), (a0, .inr (12, [.ref a1, .ref a2, .ref a3, .ref a4, .int 0]))] := hD
  refine lv_if_ne (tgt := 58) hx hb dX7_append_4 (by decide) (fun z => absurd (by decide) z) (fun _ => ?_)
  refine lv_aload_n hx hb dX7_append_7 rfl (lv_at hl 0 rfl) ?_
  refine va_get (D := D) (ci := 12) (v := .ref a1) (C := RX7) (T := TX7) (N := 5) hx hb hts ax_3 hown hE.1 hP 4 rfl rfl 0 (by decide) (hts _ tw_40) (fun _ h9 => h9) rfl dX7_append_8 ?_
  refine lv_aload_n hx hb dX7_append_11 rfl (lv_at hl 0 rfl) ?_
  refine va_get (D := D) (ci := 12) (v := .int 0) (C := RX7) (T := TX7) (N := 5) hx hb hts ax_3 hown hE.1 hP 4 rfl rfl 4 (by decide) (hts _ tw_44) (fun _ h9 => h9) rfl dX7_append_12 ?_
  refine lv_iload_n hx hb dX7_append_15 rfl (lv_at hl 1 rfl) ?_
  refine va_iast hx hb hE.1 hP hD hS 0 1 rfl rfl (by unfold vp_in; decide) dX7_append_16 (fun H locs hP hD hS => ?_)
  have hP : va_P D vwCl [(a1, .inl (cy 1, 8, .inl (upd f0 (0 : Int32).toNatClampNeg x0))), (a2, .inl (cy 1, 8, .inl f1)), (a3, .inl (cy 1, 8, .inl f2)), (a4, .inl (cy 1, 8, .inl f3)), (a0, .inr (12, [.ref a1, .ref a2, .ref a3, .ref a4, .int 0]))] H := hP
  have hD : va_D A [(a1, .inl (cy 1, 8, .inl (upd f0 (0 : Int32).toNatClampNeg x0))), (a2, .inl (cy 1, 8, .inl f1)), (a3, .inl (cy 1, 8, .inl f2)), (a4, .inl (cy 1, 8, .inl f3)), (a0, .inr (12, [.ref a1, .ref a2, .ref a3, .ref a4, .int 0]))] := hD
  refine lv_aload_n hx hb dX7_append_17 rfl (lv_at hl 0 rfl) ?_
  refine va_get (D := D) (ci := 12) (v := .ref a2) (C := RX7) (T := TX7) (N := 5) hx hb hts ax_3 hown hE.1 hP 4 rfl rfl 1 (by decide) (hts _ tw_41) (fun _ h9 => h9) rfl dX7_append_18 ?_
  refine lv_aload_n hx hb dX7_append_21 rfl (lv_at hl 0 rfl) ?_
  refine va_get (D := D) (ci := 12) (v := .int 0) (C := RX7) (T := TX7) (N := 5) hx hb hts ax_3 hown hE.1 hP 4 rfl rfl 4 (by decide) (hts _ tw_44) (fun _ h9 => h9) rfl dX7_append_22 ?_
  refine lv_iload_n hx hb dX7_append_25 rfl (lv_at hl 2 rfl) ?_
  refine va_iast hx hb hE.1 hP hD hS 1 1 rfl rfl (by unfold vp_in; decide) dX7_append_26 (fun H locs hP hD hS => ?_)
  have hP : va_P D vwCl [(a1, .inl (cy 1, 8, .inl (upd f0 (0 : Int32).toNatClampNeg x0))), (a2, .inl (cy 1, 8, .inl (upd f1 (0 : Int32).toNatClampNeg x1))), (a3, .inl (cy 1, 8, .inl f2)), (a4, .inl (cy 1, 8, .inl f3)), (a0, .inr (12, [.ref a1, .ref a2, .ref a3, .ref a4, .int 0]))] H := hP
  have hD : va_D A [(a1, .inl (cy 1, 8, .inl (upd f0 (0 : Int32).toNatClampNeg x0))), (a2, .inl (cy 1, 8, .inl (upd f1 (0 : Int32).toNatClampNeg x1))), (a3, .inl (cy 1, 8, .inl f2)), (a4, .inl (cy 1, 8, .inl f3)), (a0, .inr (12, [.ref a1, .ref a2, .ref a3, .ref a4, .int 0]))] := hD
  refine lv_aload_n hx hb dX7_append_27 rfl (lv_at hl 0 rfl) ?_
  refine va_get (D := D) (ci := 12) (v := .ref a3) (C := RX7) (T := TX7) (N := 5) hx hb hts ax_3 hown hE.1 hP 4 rfl rfl 2 (by decide) (hts _ tw_42) (fun _ h9 => h9) rfl dX7_append_28 ?_
  refine lv_aload_n hx hb dX7_append_31 rfl (lv_at hl 0 rfl) ?_
  refine va_get (D := D) (ci := 12) (v := .int 0) (C := RX7) (T := TX7) (N := 5) hx hb hts ax_3 hown hE.1 hP 4 rfl rfl 4 (by decide) (hts _ tw_44) (fun _ h9 => h9) rfl dX7_append_32 ?_
  refine lv_iload_n hx hb dX7_append_35 rfl (lv_at hl 3 rfl) ?_
  refine va_iast hx hb hE.1 hP hD hS 2 1 rfl rfl (by unfold vp_in; decide) dX7_append_36 (fun H locs hP hD hS => ?_)
  have hP : va_P D vwCl [(a1, .inl (cy 1, 8, .inl (upd f0 (0 : Int32).toNatClampNeg x0))), (a2, .inl (cy 1, 8, .inl (upd f1 (0 : Int32).toNatClampNeg x1))), (a3, .inl (cy 1, 8, .inl (upd f2 (0 : Int32).toNatClampNeg x2))), (a4, .inl (cy 1, 8, .inl f3)), (a0, .inr (12, [.ref a1, .ref a2, .ref a3, .ref a4, .int 0]))] H := hP
  have hD : va_D A [(a1, .inl (cy 1, 8, .inl (upd f0 (0 : Int32).toNatClampNeg x0))), (a2, .inl (cy 1, 8, .inl (upd f1 (0 : Int32).toNatClampNeg x1))), (a3, .inl (cy 1, 8, .inl (upd f2 (0 : Int32).toNatClampNeg x2))), (a4, .inl (cy 1, 8, .inl f3)), (a0, .inr (12, [.ref a1, .ref a2, .ref a3, .ref a4, .int 0]))] := hD
  refine lv_aload_n hx hb dX7_append_37 rfl (lv_at hl 0 rfl) ?_
  refine va_get (D := D) (ci := 12) (v := .ref a4) (C := RX7) (T := TX7) (N := 5) hx hb hts ax_3 hown hE.1 hP 4 rfl rfl 3 (by decide) (hts _ tw_43) (fun _ h9 => h9) rfl dX7_append_38 ?_
  refine lv_aload_n hx hb dX7_append_41 rfl (lv_at hl 0 rfl) ?_
  refine va_get (D := D) (ci := 12) (v := .int 0) (C := RX7) (T := TX7) (N := 5) hx hb hts ax_3 hown hE.1 hP 4 rfl rfl 4 (by decide) (hts _ tw_44) (fun _ h9 => h9) rfl dX7_append_42 ?_
  refine lv_iload hx hb dX7_append_45 (lv_at hl 4 rfl) ?_
  refine va_iast hx hb hE.1 hP hD hS 3 1 rfl rfl (by unfold vp_in; decide) dX7_append_47 (fun H locs hP hD hS => ?_)
  have hP : va_P D vwCl [(a1, .inl (cy 1, 8, .inl (upd f0 (0 : Int32).toNatClampNeg x0))), (a2, .inl (cy 1, 8, .inl (upd f1 (0 : Int32).toNatClampNeg x1))), (a3, .inl (cy 1, 8, .inl (upd f2 (0 : Int32).toNatClampNeg x2))), (a4, .inl (cy 1, 8, .inl (upd f3 (0 : Int32).toNatClampNeg x3))), (a0, .inr (12, [.ref a1, .ref a2, .ref a3, .ref a4, .int 0]))] H := hP
  have hD : va_D A [(a1, .inl (cy 1, 8, .inl (upd f0 (0 : Int32).toNatClampNeg x0))), (a2, .inl (cy 1, 8, .inl (upd f1 (0 : Int32).toNatClampNeg x1))), (a3, .inl (cy 1, 8, .inl (upd f2 (0 : Int32).toNatClampNeg x2))), (a4, .inl (cy 1, 8, .inl (upd f3 (0 : Int32).toNatClampNeg x3))), (a0, .inr (12, [.ref a1, .ref a2, .ref a3, .ref a4, .int 0]))] := hD
  refine lv_aload_n hx hb dX7_append_48 rfl (lv_at hl 0 rfl) ?_
  refine lv_dup hx hb dX7_append_49 rfl ?_
  refine va_get (D := D) (ci := 12) (v := .int 0) (C := RX7) (T := TX7) (N := 5) hx hb hts ax_3 hown hE.1 hP 4 rfl rfl 4 (by decide) (hts _ tw_44) (fun _ h9 => h9) rfl dX7_append_50 ?_
  refine lv_iconst (v := 1) hx hb dX7_append_53 (by decide) ?_
  refine lv_iadd hx hb dX7_append_54 ?_
  refine tp_i 1 (by decide) ?_
  refine va_put (D := D) (ci := 12) (v := .int 1) (ty := .int) (C := RX7) (T := TX7) (N := 5) hx hb hts ax_3 tyX7 tyX7_ok nmX7 hown hE.1 hP hD hS 4 rfl rfl 4 (by decide) (hts _ tw_44) (fun _ h9 => h9) rfl (by decide +kernel) rfl rfl (Nat.le_of_ble_eq_true rfl) dX7_append_55 (fun H locs hP hD hS => ?_)
  have hP : va_P D vwCl [(a1, .inl (cy 1, 8, .inl (upd f0 (0 : Int32).toNatClampNeg x0))), (a2, .inl (cy 1, 8, .inl (upd f1 (0 : Int32).toNatClampNeg x1))), (a3, .inl (cy 1, 8, .inl (upd f2 (0 : Int32).toNatClampNeg x2))), (a4, .inl (cy 1, 8, .inl (upd f3 (0 : Int32).toNatClampNeg x3))), (a0, .inr (12, [.ref a1, .ref a2, .ref a3, .ref a4, .int 1]))] H := hP
  have hD : va_D A [(a1, .inl (cy 1, 8, .inl (upd f0 (0 : Int32).toNatClampNeg x0))), (a2, .inl (cy 1, 8, .inl (upd f1 (0 : Int32).toNatClampNeg x1))), (a3, .inl (cy 1, 8, .inl (upd f2 (0 : Int32).toNatClampNeg x2))), (a4, .inl (cy 1, 8, .inl (upd f3 (0 : Int32).toNatClampNeg x3))), (a0, .inr (12, [.ref a1, .ref a2, .ref a3, .ref a4, .int 1]))] := hD
  refine lv_aload_n hx hb dX7_append_58 rfl (lv_at hl 0 rfl) ?_
  refine va_get (D := D) (ci := 12) (v := .int 1) (C := RX7) (T := TX7) (N := 5) hx hb hts ax_3 hown hE.1 hP 4 rfl rfl 4 (by decide) (hts _ tw_44) (fun _ h9 => h9) rfl dX7_append_59 ?_
  exact en_z hx hb hr hlk hP hD hS rfl (fun _ => 0) (is := [4, 0, 1, 2, 3]) rfl rfl (Nat.le_of_ble_eq_true rfl) (Nat.le_of_ble_eq_true rfl) dX7_append_62
set_option maxHeartbeats 4000000 in
set_option maxRecDepth 100000 in
theorem k137_X9_addRow (l : Launch) (D : va_G) (cy : Nat → ClassId) (g : Nat → Nat) (x0 : Int32) (x1 : Int32) (x2 : Int32) (x3 : Int32) (a0 : Nat) (a1 : Nat) (a2 : Nat) (a3 : Nat) (a4 : Nat) (a5 : Nat) (v0 : Value) (v1 : Value) (v2 : Value) (v3 : Value) (v4 : Value) (v5 : Value) (f0 : Nat → Int32) (f1 : Nat → Int32) (f2 : Nat → Int32) (f3 : Nat → Int32) (sz : Nat) (h0 : ¬ x0 < 1) (h1 : ¬ (1000 : Int32) < x0) (h2 : ¬ x1 < 50) (h3 : ¬ (999 : Int32) < x1) (h4 : ¬ x2 < 0) (h5 : ¬ (9999 : Int32) < x2) (h6 : ¬ x3 < 0) (h7 : ¬ (9999 : Int32) < x3) (h8 : x2 < x3) : Met l yX9_addRow [.code yX9_addRow cX9_addRow 5 (some .int)] ({ frames := 2, cells := 0, slots := 0, locals := 44 }) (PC D cy g [(a0, .inr (14, [v0, .ref a1, v1, v2, v3, v4, v5])), (a1, .inr (12, [.ref a2, .ref a3, .ref a4, .ref a5, .int 0])), (a2, .inl (cy 1, 8, .inl f0)), (a3, .inl (cy 1, 8, .inl f1)), (a4, .inl (cy 1, 8, .inl f2)), (a5, .inl (cy 1, 8, .inl f3))] sz [.ref a0, .int x0, .int x1, .int x2, .int x3]) (QI D 1 (fun ad => [(a0, .inr (14, [v0, .ref a1, v1, v2, v3, v4, v5])), (a1, .inr (12, [.ref a2, .ref a3, .ref a4, .ref a5, .int 1])), (a2, .inl (cy 1, 8, .inl (upd f0 (0 : Int32).toNatClampNeg x0))), (a3, .inl (cy 1, 8, .inl (upd f1 (0 : Int32).toNatClampNeg x1))), (a4, .inl (cy 1, 8, .inl (upd f2 (0 : Int32).toNatClampNeg x2))), (a5, .inl (cy 1, 8, .inl (upd f3 (0 : Int32).toNatClampNeg x3)))]) (va_A [(a0, .inr (14, [v0, .ref a1, v1, v2, v3, v4, v5])), (a1, .inr (12, [.ref a2, .ref a3, .ref a4, .ref a5, .int 0])), (a2, .inl (cy 1, 8, .inl f0)), (a3, .inl (cy 1, 8, .inl f1)), (a4, .inl (cy 1, 8, .inl f2)), (a5, .inl (cy 1, 8, .inl f3))] sz)) 0 0 (va_A [(a0, .inr (14, [v0, .ref a1, v1, v2, v3, v4, v5])), (a1, .inr (12, [.ref a2, .ref a3, .ref a4, .ref a5, .int 0])), (a2, .inl (cy 1, 8, .inl f0)), (a3, .inl (cy 1, 8, .inl f1)), (a4, .inl (cy 1, 8, .inl f2)), (a5, .inl (cy 1, 8, .inl f3))] sz) := by
  refine st_I (by decide) (Nat.le_of_ble_eq_true rfl) ?_
  intro p e s m args below meth c A ls hx hb hr hml hown hlk hnm hsz hP hD hA hE hts hS hl
  have hown : s.vm.findClass RX9 = some m.cls := hown
  have hl : lv_has ls 5 [(0, .ref a0), (1, .int x0), (2, .int x1), (3, .int x2), (4, .int x3)] := hl
  refine lv_iload_n hx hb dX9_addRow_0 rfl (lv_at hl 1 rfl) ?_
  refine lv_iconst (v := 1) hx hb dX9_addRow_1 (by decide) ?_
  refine lv_sipush (v := 1000) hx hb dX9_addRow_2 (by decide) ?_
  refine ca_i (isC := []) (isR := [0, 1, 2, 3, 4, 5]) (wr := [(a0, .inr (14, [v0, .ref a1, v1, v2, v3, v4, v5])), (a1, .inr (12, [.ref a2, .ref a3, .ref a4, .ref a5, .int 0])), (a2, .inl (cy 1, 8, .inl f0)), (a3, .inl (cy 1, 8, .inl f1)), (a4, .inl (cy 1, 8, .inl f2)), (a5, .inl (cy 1, 8, .inl f3))]) (rn_S (isC := []) (wc := []) (As := [.int x0, .int 1, .int 1000]) (rest := []) (n := 3) hx hb hml hown hts hE hS hP hD hA hl.1 (k30_X9_isOutside l D cy g x0 1 1000 s.heap.size h0 h1) rfl rfl ax_30 rfl rfl ax_31 ⟨Nat.le_of_ble_eq_true rfl, Nat.le_of_ble_eq_true rfl⟩ rfl rfl (Nat.le_of_ble_eq_true rfl) dX9_addRow_5 ⟨(Nat.le_of_ble_eq_true rfl), (Nat.le_of_ble_eq_true rfl)⟩) hP hD hS hA rfl rfl rfl (by decide) (fun ad5 H locs hP hD hS => ?_)
  have hP : va_P D vwCl [(a0, .inr (14, [v0, .ref a1, v1, v2, v3, v4, v5])), (a1, .inr (12, [.ref a2, .ref a3, .ref a4, .ref a5, .int 0])), (a2, .inl (cy 1, 8, .inl f0)), (a3, .inl (cy 1, 8, .inl f1)), (a4, .inl (cy 1, 8, .inl f2)), (a5, .inl (cy 1, 8, .inl f3))] H := hP
  have hD : va_D A [(a0, .inr (14, [v0, .ref a1, v1, v2, v3, v4, v5])), (a1, .inr (12, [.ref a2, .ref a3, .ref a4, .ref a5, .int 0])), (a2, .inl (cy 1, 8, .inl f0)), (a3, .inl (cy 1, 8, .inl f1)), (a4, .inl (cy 1, 8, .inl f2)), (a5, .inl (cy 1, 8, .inl f3))] := hD
  refine lv_if_ne (tgt := 46) hx hb dX9_addRow_8 (by decide) (fun z => absurd (by decide) z) (fun _ => ?_)
  refine lv_iload_n hx hb dX9_addRow_11 rfl (lv_at hl 2 rfl) ?_
  refine lv_bipush (v := 50) hx hb dX9_addRow_12 (by decide) ?_
  refine lv_sipush (v := 999) hx hb dX9_addRow_14 (by decide) ?_
  refine ca_i (isC := []) (isR := [0, 1, 2, 3, 4, 5]) (wr := [(a0, .inr (14, [v0, .ref a1, v1, v2, v3, v4, v5])), (a1, .inr (12, [.ref a2, .ref a3, .ref a4, .ref a5, .int 0])), (a2, .inl (cy 1, 8, .inl f0)), (a3, .inl (cy 1, 8, .inl f1)), (a4, .inl (cy 1, 8, .inl f2)), (a5, .inl (cy 1, 8, .inl f3))]) (rn_S (isC := []) (wc := []) (As := [.int x1, .int 50, .int 999]) (rest := []) (n := 3) hx hb hml hown hts hE hS hP hD hA hl.1 (k30_X9_isOutside l D cy g x1 50 999 H.size h2 h3) rfl rfl ax_30 rfl rfl ax_31 ⟨Nat.le_of_ble_eq_true rfl, Nat.le_of_ble_eq_true rfl⟩ rfl rfl (Nat.le_of_ble_eq_true rfl) dX9_addRow_17 ⟨(Nat.le_of_ble_eq_true rfl), (Nat.le_of_ble_eq_true rfl)⟩) hP hD hS hA rfl rfl rfl (by decide) (fun ad17 H locs hP hD hS => ?_)
  have hP : va_P D vwCl [(a0, .inr (14, [v0, .ref a1, v1, v2, v3, v4, v5])), (a1, .inr (12, [.ref a2, .ref a3, .ref a4, .ref a5, .int 0])), (a2, .inl (cy 1, 8, .inl f0)), (a3, .inl (cy 1, 8, .inl f1)), (a4, .inl (cy 1, 8, .inl f2)), (a5, .inl (cy 1, 8, .inl f3))] H := hP
  have hD : va_D A [(a0, .inr (14, [v0, .ref a1, v1, v2, v3, v4, v5])), (a1, .inr (12, [.ref a2, .ref a3, .ref a4, .ref a5, .int 0])), (a2, .inl (cy 1, 8, .inl f0)), (a3, .inl (cy 1, 8, .inl f1)), (a4, .inl (cy 1, 8, .inl f2)), (a5, .inl (cy 1, 8, .inl f3))] := hD
  refine lv_if_ne (tgt := 46) hx hb dX9_addRow_20 (by decide) (fun z => absurd (by decide) z) (fun _ => ?_)
  refine lv_iload_n hx hb dX9_addRow_23 rfl (lv_at hl 3 rfl) ?_
  refine lv_iconst (v := 0) hx hb dX9_addRow_24 (by decide) ?_
  refine lv_sipush (v := 9999) hx hb dX9_addRow_25 (by decide) ?_
  refine ca_i (isC := []) (isR := [0, 1, 2, 3, 4, 5]) (wr := [(a0, .inr (14, [v0, .ref a1, v1, v2, v3, v4, v5])), (a1, .inr (12, [.ref a2, .ref a3, .ref a4, .ref a5, .int 0])), (a2, .inl (cy 1, 8, .inl f0)), (a3, .inl (cy 1, 8, .inl f1)), (a4, .inl (cy 1, 8, .inl f2)), (a5, .inl (cy 1, 8, .inl f3))]) (rn_S (isC := []) (wc := []) (As := [.int x2, .int 0, .int 9999]) (rest := []) (n := 3) hx hb hml hown hts hE hS hP hD hA hl.1 (k30_X9_isOutside l D cy g x2 0 9999 H.size h4 h5) rfl rfl ax_30 rfl rfl ax_31 ⟨Nat.le_of_ble_eq_true rfl, Nat.le_of_ble_eq_true rfl⟩ rfl rfl (Nat.le_of_ble_eq_true rfl) dX9_addRow_28 ⟨(Nat.le_of_ble_eq_true rfl), (Nat.le_of_ble_eq_true rfl)⟩) hP hD hS hA rfl rfl rfl (by decide) (fun ad28 H locs hP hD hS => ?_)
  have hP : va_P D vwCl [(a0, .inr (14, [v0, .ref a1, v1, v2, v3, v4, v5])), (a1, .inr (12, [.ref a2, .ref a3, .ref a4, .ref a5, .int 0])), (a2, .inl (cy 1, 8, .inl f0)), (a3, .inl (cy 1, 8, .inl f1)), (a4, .inl (cy 1, 8, .inl f2)), (a5, .inl (cy 1, 8, .inl f3))] H := hP
  have hD : va_D A [(a0, .inr (14, [v0, .ref a1, v1, v2, v3, v4, v5])), (a1, .inr (12, [.ref a2, .ref a3, .ref a4, .ref a5, .int 0])), (a2, .inl (cy 1, 8, .inl f0)), (a3, .inl (cy 1, 8, .inl f1)), (a4, .inl (cy 1, 8, .inl f2)), (a5, .inl (cy 1, 8, .inl f3))] := hD
  refine lv_if_ne (tgt := 46) hx hb dX9_addRow_31 (by decide) (fun z => absurd (by decide) z) (fun _ => ?_)
  refine lv_iload hx hb dX9_addRow_34 (lv_at hl 4 rfl) ?_
  refine lv_iconst (v := 0) hx hb dX9_addRow_36 (by decide) ?_
  refine lv_sipush (v := 9999) hx hb dX9_addRow_37 (by decide) ?_
  refine ca_i (isC := []) (isR := [0, 1, 2, 3, 4, 5]) (wr := [(a0, .inr (14, [v0, .ref a1, v1, v2, v3, v4, v5])), (a1, .inr (12, [.ref a2, .ref a3, .ref a4, .ref a5, .int 0])), (a2, .inl (cy 1, 8, .inl f0)), (a3, .inl (cy 1, 8, .inl f1)), (a4, .inl (cy 1, 8, .inl f2)), (a5, .inl (cy 1, 8, .inl f3))]) (rn_S (isC := []) (wc := []) (As := [.int x3, .int 0, .int 9999]) (rest := []) (n := 3) hx hb hml hown hts hE hS hP hD hA hl.1 (k30_X9_isOutside l D cy g x3 0 9999 H.size h6 h7) rfl rfl ax_30 rfl rfl ax_31 ⟨Nat.le_of_ble_eq_true rfl, Nat.le_of_ble_eq_true rfl⟩ rfl rfl (Nat.le_of_ble_eq_true rfl) dX9_addRow_40 ⟨(Nat.le_of_ble_eq_true rfl), (Nat.le_of_ble_eq_true rfl)⟩) hP hD hS hA rfl rfl rfl (by decide) (fun ad40 H locs hP hD hS => ?_)
  have hP : va_P D vwCl [(a0, .inr (14, [v0, .ref a1, v1, v2, v3, v4, v5])), (a1, .inr (12, [.ref a2, .ref a3, .ref a4, .ref a5, .int 0])), (a2, .inl (cy 1, 8, .inl f0)), (a3, .inl (cy 1, 8, .inl f1)), (a4, .inl (cy 1, 8, .inl f2)), (a5, .inl (cy 1, 8, .inl f3))] H := hP
  have hD : va_D A [(a0, .inr (14, [v0, .ref a1, v1, v2, v3, v4, v5])), (a1, .inr (12, [.ref a2, .ref a3, .ref a4, .ref a5, .int 0])), (a2, .inl (cy 1, 8, .inl f0)), (a3, .inl (cy 1, 8, .inl f1)), (a4, .inl (cy 1, 8, .inl f2)), (a5, .inl (cy 1, 8, .inl f3))] := hD
  refine lv_if_eq (tgt := 56) hx hb dX9_addRow_43 (by decide) (fun _ => ?_) (fun z => absurd (by decide) z)
  refine lv_iload hx hb dX9_addRow_56 (lv_at hl 4 rfl) ?_
  refine lv_iload_n hx hb dX9_addRow_58 rfl (lv_at hl 3 rfl) ?_
  refine lv_icmp_le (tgt := 75) hx hb dX9_addRow_59 (by decide) (fun z => absurd z (fa_of_lt h8).2.1) (fun _ => ?_)
  refine lv_aload_n hx hb dX9_addRow_62 rfl (lv_at hl 0 rfl) ?_
  refine va_get (D := D) (ci := 14) (v := .ref a1) (C := RX9) (T := TX9) (N := 7) hx hb hts ax_16 hown hE.1 hP 0 rfl rfl 1 (by decide) (hts _ tw_186) (fun _ h9 => h9) rfl dX9_addRow_63 ?_
  refine lv_iload_n hx hb dX9_addRow_66 rfl (lv_at hl 1 rfl) ?_
  refine lv_iload_n hx hb dX9_addRow_67 rfl (lv_at hl 2 rfl) ?_
  refine lv_iload_n hx hb dX9_addRow_68 rfl (lv_at hl 3 rfl) ?_
  refine ca_i (isC := [1]) (isR := [0, 2, 3, 4, 5]) (wr := [(a0, .inr (14, [v0, .ref a1, v1, v2, v3, v4, v5])), (a2, .inl (cy 1, 8, .inl f0)), (a3, .inl (cy 1, 8, .inl f1)), (a4, .inl (cy 1, 8, .inl f2)), (a5, .inl (cy 1, 8, .inl f3))]) (rn_V (ci := 12) (q0 := 1) (isC := [1]) (wc := [(a1, .inr (12, [.ref a2, .ref a3, .ref a4, .ref a5, .int 0]))]) (As := [.int x0, .int x1, .int x2]) (rest := []) (n := 3) hx hb hml hown hts hE hS hP hD hA hl.1 (k134_X7_isBelow l D cy g x0 x1 x2 a1 (.ref a2) (.ref a3) (.ref a4) (.ref a5) H.size ) rfl rfl rfl rfl rfl ax_122 rfl rfl ax_123 ⟨Nat.le_of_ble_eq_true rfl, Nat.le_of_ble_eq_true rfl⟩ rfl rfl (Nat.le_of_ble_eq_true rfl) dX9_addRow_69 ⟨(Nat.le_of_ble_eq_true rfl), (Nat.le_of_ble_eq_true rfl)⟩) hP hD hS hA rfl rfl rfl (by decide) (fun ad69 H locs hP hD hS => ?_)
  have hP : va_P D vwCl [(a0, .inr (14, [v0, .ref a1, v1, v2, v3, v4, v5])), (a2, .inl (cy 1, 8, .inl f0)), (a3, .inl (cy 1, 8, .inl f1)), (a4, .inl (cy 1, 8, .inl f2)), (a5, .inl (cy 1, 8, .inl f3)), (a1, .inr (12, [.ref a2, .ref a3, .ref a4, .ref a5, .int 0]))] H := hP
  have hD : va_D A [(a0, .inr (14, [v0, .ref a1, v1, v2, v3, v4, v5])), (a2, .inl (cy 1, 8, .inl f0)), (a3, .inl (cy 1, 8, .inl f1)), (a4, .inl (cy 1, 8, .inl f2)), (a5, .inl (cy 1, 8, .inl f3)), (a1, .inr (12, [.ref a2, .ref a3, .ref a4, .ref a5, .int 0]))] := hD
  refine lv_if_ne (tgt := 85) hx hb dX9_addRow_72 (by decide) (fun _ => ?_) (fun z => absurd z (by decide))
  refine lv_aload_n hx hb dX9_addRow_85 rfl (lv_at hl 0 rfl) ?_
  refine va_get (D := D) (ci := 14) (v := .ref a1) (C := RX9) (T := TX9) (N := 7) hx hb hts ax_16 hown hE.1 hP 0 rfl rfl 1 (by decide) (hts _ tw_186) (fun _ h9 => h9) rfl dX9_addRow_86 ?_
  refine ca_i (isC := [5]) (isR := [0, 1, 2, 3, 4]) (wr := [(a0, .inr (14, [v0, .ref a1, v1, v2, v3, v4, v5])), (a2, .inl (cy 1, 8, .inl f0)), (a3, .inl (cy 1, 8, .inl f1)), (a4, .inl (cy 1, 8, .inl f2)), (a5, .inl (cy 1, 8, .inl f3))]) (rn_V (ci := 12) (q0 := 5) (isC := [5]) (wc := [(a1, .inr (12, [.ref a2, .ref a3, .ref a4, .ref a5, .int 0]))]) (As := []) (rest := []) (n := 0) hx hb hml hown hts hE hS hP hD hA hl.1 (k135_X7_isFull l D cy g a1 (.ref a2) (.ref a3) (.ref a4) (.ref a5) H.size ) rfl rfl rfl rfl rfl ax_124 rfl rfl ax_121 ⟨Nat.le_of_ble_eq_true rfl, Nat.le_of_ble_eq_true rfl⟩ rfl rfl (Nat.le_of_ble_eq_true rfl) dX9_addRow_89 ⟨(Nat.le_of_ble_eq_true rfl), (Nat.le_of_ble_eq_true rfl)⟩) hP hD hS hA rfl rfl rfl (by decide) (fun ad89 H locs hP hD hS => ?_)
  have hP : va_P D vwCl [(a0, .inr (14, [v0, .ref a1, v1, v2, v3, v4, v5])), (a2, .inl (cy 1, 8, .inl f0)), (a3, .inl (cy 1, 8, .inl f1)), (a4, .inl (cy 1, 8, .inl f2)), (a5, .inl (cy 1, 8, .inl f3)), (a1, .inr (12, [.ref a2, .ref a3, .ref a4, .ref a5, .int 0]))] H := hP
  have hD : va_D A [(a0, .inr (14, [v0, .ref a1, v1, v2, v3, v4, v5])), (a2, .inl (cy 1, 8, .inl f0)), (a3, .inl (cy 1, 8, .inl f1)), (a4, .inl (cy 1, 8, .inl f2)), (a5, .inl (cy 1, 8, .inl f3)), (a1, .inr (12, [.ref a2, .ref a3, .ref a4, .ref a5, .int 0]))] := hD
  refine lv_if_eq (tgt := 105) hx hb dX9_addRow_92 (by decide) (fun _ => ?_) (fun z => absurd (by decide) z)
  refine lv_aload_n hx hb dX9_addRow_105 rfl (lv_at hl 0 rfl) ?_
  refine va_get (D := D) (ci := 14) (v := .ref a1) (C := RX9) (T := TX9) (N := 7) hx hb hts ax_16 hown hE.1 hP 0 rfl rfl 1 (by decide) (hts _ tw_186) (fun _ h9 => h9) rfl dX9_addRow_106 ?_
  refine lv_iload_n hx hb dX9_addRow_109 rfl (lv_at hl 1 rfl) ?_
  refine lv_iload_n hx hb dX9_addRow_110 rfl (lv_at hl 2 rfl) ?_
  refine lv_iload_n hx hb dX9_addRow_111 rfl (lv_at hl 3 rfl) ?_
  refine lv_iload hx hb dX9_addRow_112 (lv_at hl 4 rfl) ?_
  refine ca_i (isC := [5, 1, 2, 3, 4]) (isR := [0]) (wr := [(a0, .inr (14, [v0, .ref a1, v1, v2, v3, v4, v5]))]) (rn_V (ci := 12) (q0 := 5) (isC := [5, 1, 2, 3, 4]) (wc := [(a1, .inr (12, [.ref a2, .ref a3, .ref a4, .ref a5, .int 0])), (a2, .inl (cy 1, 8, .inl f0)), (a3, .inl (cy 1, 8, .inl f1)), (a4, .inl (cy 1, 8, .inl f2)), (a5, .inl (cy 1, 8, .inl f3))]) (As := [.int x0, .int x1, .int x2, .int x3]) (rest := []) (n := 4) hx hb hml hown hts hE hS hP hD hA hl.1 (k136_X7_append l D cy g x0 x1 x2 x3 a1 a2 a3 a4 a5 f0 f1 f2 f3 H.size ) rfl rfl rfl rfl rfl ax_125 rfl rfl ax_126 ⟨Nat.le_of_ble_eq_true rfl, Nat.le_of_ble_eq_true rfl⟩ rfl rfl (Nat.le_of_ble_eq_true rfl) dX9_addRow_114 ⟨(Nat.le_of_ble_eq_true rfl), (Nat.le_of_ble_eq_true rfl)⟩) hP hD hS hA rfl rfl rfl (by decide) (fun ad114 H locs hP hD hS => ?_)
  have hP : va_P D vwCl [(a0, .inr (14, [v0, .ref a1, v1, v2, v3, v4, v5])), (a1, .inr (12, [.ref a2, .ref a3, .ref a4, .ref a5, .int 1])), (a2, .inl (cy 1, 8, .inl (upd f0 (0 : Int32).toNatClampNeg x0))), (a3, .inl (cy 1, 8, .inl (upd f1 (0 : Int32).toNatClampNeg x1))), (a4, .inl (cy 1, 8, .inl (upd f2 (0 : Int32).toNatClampNeg x2))), (a5, .inl (cy 1, 8, .inl (upd f3 (0 : Int32).toNatClampNeg x3)))] H := hP
  have hD : va_D A [(a0, .inr (14, [v0, .ref a1, v1, v2, v3, v4, v5])), (a1, .inr (12, [.ref a2, .ref a3, .ref a4, .ref a5, .int 1])), (a2, .inl (cy 1, 8, .inl (upd f0 (0 : Int32).toNatClampNeg x0))), (a3, .inl (cy 1, 8, .inl (upd f1 (0 : Int32).toNatClampNeg x1))), (a4, .inl (cy 1, 8, .inl (upd f2 (0 : Int32).toNatClampNeg x2))), (a5, .inl (cy 1, 8, .inl (upd f3 (0 : Int32).toNatClampNeg x3)))] := hD
  exact en_z hx hb hr hlk hP hD hS rfl (fun _ => 0) (is := [0, 1, 2, 3, 4, 5]) rfl rfl (Nat.le_of_ble_eq_true rfl) (Nat.le_of_ble_eq_true rfl) dX9_addRow_117
set_option maxHeartbeats 4000000 in
set_option maxRecDepth 100000 in
theorem k138_L_addRow (l : Launch) (D : va_G) (cy : Nat → ClassId) (g : Nat → Nat) (x0 : Int32) (x1 : Int32) (x2 : Int32) (x3 : Int32) (a0 : Nat) (a1 : Nat) (a2 : Nat) (a3 : Nat) (a4 : Nat) (a5 : Nat) (a6 : Nat) (v0 : Value) (v1 : Value) (v2 : Value) (v3 : Value) (v4 : Value) (v5 : Value) (f0 : Nat → Int32) (f1 : Nat → Int32) (f2 : Nat → Int32) (f3 : Nat → Int32) (f4 : Nat → Int64) (sz : Nat) (h0 : ¬ x0 < 1) (h1 : ¬ (1000 : Int32) < x0) (h2 : ¬ x1 < 50) (h3 : ¬ (999 : Int32) < x1) (h4 : ¬ x2 < 0) (h5 : ¬ (9999 : Int32) < x2) (h6 : ¬ x3 < 0) (h7 : ¬ (9999 : Int32) < x3) (h8 : x2 < x3) : Met l yL_addRow [.codeWith yL_addRow cL_addRow 7 (some .int) [(0, 14, 17, 13), (0, 14, 21, 30), (0, 14, 25, 15)]] ({ frames := 3, cells := 0, slots := 0, locals := 68 }) (PC D cy g [(a0, .inr (14, [v0, .ref a1, v1, v2, v3, v4, v5])), (a1, .inr (12, [.ref a2, .ref a3, .ref a4, .ref a5, .int 0])), (a2, .inl (cy 1, 8, .inl f0)), (a3, .inl (cy 1, 8, .inl f1)), (a4, .inl (cy 1, 8, .inl f2)), (a5, .inl (cy 1, 8, .inl f3)), (a6, .inl (cy 2, 1, .inr (.inl f4)))] sz [.ref a0, .int x0, .int x1, .int x2, .int x3, .ref a6]) (QI D 0 (fun ad => [(a6, .inl (cy 2, 1, .inr (.inl (vp_updL f4 (0 : Int32).toNatClampNeg 1))))]) (va_A [(a0, .inr (14, [v0, .ref a1, v1, v2, v3, v4, v5])), (a1, .inr (12, [.ref a2, .ref a3, .ref a4, .ref a5, .int 0])), (a2, .inl (cy 1, 8, .inl f0)), (a3, .inl (cy 1, 8, .inl f1)), (a4, .inl (cy 1, 8, .inl f2)), (a5, .inl (cy 1, 8, .inl f3)), (a6, .inl (cy 2, 1, .inr (.inl f4)))] sz)) 0 0 (va_A [(a0, .inr (14, [v0, .ref a1, v1, v2, v3, v4, v5])), (a1, .inr (12, [.ref a2, .ref a3, .ref a4, .ref a5, .int 0])), (a2, .inl (cy 1, 8, .inl f0)), (a3, .inl (cy 1, 8, .inl f1)), (a4, .inl (cy 1, 8, .inl f2)), (a5, .inl (cy 1, 8, .inl f3)), (a6, .inl (cy 2, 1, .inr (.inl f4)))] sz) := by
  refine sh_I (by decide) (Nat.le_of_ble_eq_true rfl) ?_
  intro p e s m args below meth c A ls hx hb hr hml hown hlk hnm hsz hP hD hA hE hts hS hl htb
  have hown : s.vm.findClass RL = some m.cls := hown
  have hl : lv_has ls 7 [(0, .ref a0), (1, .int x0), (2, .int x1), (3, .int x2), (4, .int x3), (5, .ref a6)] := hl
  refine lv_aload hx hb dL_addRow_0 (lv_at hl 5 rfl) ?_
  refine lv_iconst (v := 0) hx hb dL_addRow_2 (by decide) ?_
  refine lv_aload_n hx hb dL_addRow_3 rfl (lv_at hl 0 rfl) ?_
  refine lv_iload_n hx hb dL_addRow_4 rfl (lv_at hl 1 rfl) ?_
  refine lv_iload_n hx hb dL_addRow_5 rfl (lv_at hl 2 rfl) ?_
  refine lv_iload_n hx hb dL_addRow_6 rfl (lv_at hl 3 rfl) ?_
  refine lv_iload hx hb dL_addRow_7 (lv_at hl 4 rfl) ?_
  refine ca_i (isC := [0, 1, 2, 3, 4, 5]) (isR := [6]) (wr := [(a6, .inl (cy 2, 1, .inr (.inl f4)))]) (rn_V (ci := 14) (q0 := 0) (isC := [0, 1, 2, 3, 4, 5]) (wc := [(a0, .inr (14, [v0, .ref a1, v1, v2, v3, v4, v5])), (a1, .inr (12, [.ref a2, .ref a3, .ref a4, .ref a5, .int 0])), (a2, .inl (cy 1, 8, .inl f0)), (a3, .inl (cy 1, 8, .inl f1)), (a4, .inl (cy 1, 8, .inl f2)), (a5, .inl (cy 1, 8, .inl f3))]) (As := [.int x0, .int x1, .int x2, .int x3]) (rest := [.int 0, .ref a6]) (n := 4) hx hb hml hown hts hE hS hP hD hA hl.1 (k137_X9_addRow l D cy g x0 x1 x2 x3 a0 a1 a2 a3 a4 a5 (v0) (v1) (v2) (v3) (v4) (v5) f0 f1 f2 f3 s.heap.size h0 h1 h2 h3 h4 h5 h6 h7 h8) rfl rfl rfl rfl rfl ax_114 rfl rfl ax_115 ⟨Nat.le_of_ble_eq_true rfl, Nat.le_of_ble_eq_true rfl⟩ rfl rfl (Nat.le_of_ble_eq_true rfl) dL_addRow_9 ⟨(Nat.le_of_ble_eq_true rfl), (Nat.le_of_ble_eq_true rfl)⟩) hP hD hS hA rfl rfl rfl (by decide) (fun ad9 H locs hP hD hS => ?_)
  have hP : va_P D vwCl [(a6, .inl (cy 2, 1, .inr (.inl f4))), (a0, .inr (14, [v0, .ref a1, v1, v2, v3, v4, v5])), (a1, .inr (12, [.ref a2, .ref a3, .ref a4, .ref a5, .int 1])), (a2, .inl (cy 1, 8, .inl (upd f0 (0 : Int32).toNatClampNeg x0))), (a3, .inl (cy 1, 8, .inl (upd f1 (0 : Int32).toNatClampNeg x1))), (a4, .inl (cy 1, 8, .inl (upd f2 (0 : Int32).toNatClampNeg x2))), (a5, .inl (cy 1, 8, .inl (upd f3 (0 : Int32).toNatClampNeg x3)))] H := hP
  have hD : va_D A [(a6, .inl (cy 2, 1, .inr (.inl f4))), (a0, .inr (14, [v0, .ref a1, v1, v2, v3, v4, v5])), (a1, .inr (12, [.ref a2, .ref a3, .ref a4, .ref a5, .int 1])), (a2, .inl (cy 1, 8, .inl (upd f0 (0 : Int32).toNatClampNeg x0))), (a3, .inl (cy 1, 8, .inl (upd f1 (0 : Int32).toNatClampNeg x1))), (a4, .inl (cy 1, 8, .inl (upd f2 (0 : Int32).toNatClampNeg x2))), (a5, .inl (cy 1, 8, .inl (upd f3 (0 : Int32).toNatClampNeg x3)))] := hD
  refine lv_i2l (v := 1) hx hb dL_addRow_12 (by decide) ?_
  refine va_last hx hb hE.1 hP hD hS 0 2 rfl rfl (by unfold vp_in; decide) dL_addRow_13 (fun H locs hP hD hS => ?_)
  have hP : va_P D vwCl [(a6, .inl (cy 2, 1, .inr (.inl (vp_updL f4 (0 : Int32).toNatClampNeg 1)))), (a0, .inr (14, [v0, .ref a1, v1, v2, v3, v4, v5])), (a1, .inr (12, [.ref a2, .ref a3, .ref a4, .ref a5, .int 1])), (a2, .inl (cy 1, 8, .inl (upd f0 (0 : Int32).toNatClampNeg x0))), (a3, .inl (cy 1, 8, .inl (upd f1 (0 : Int32).toNatClampNeg x1))), (a4, .inl (cy 1, 8, .inl (upd f2 (0 : Int32).toNatClampNeg x2))), (a5, .inl (cy 1, 8, .inl (upd f3 (0 : Int32).toNatClampNeg x3)))] H := hP
  have hD : va_D A [(a6, .inl (cy 2, 1, .inr (.inl (vp_updL f4 (0 : Int32).toNatClampNeg 1)))), (a0, .inr (14, [v0, .ref a1, v1, v2, v3, v4, v5])), (a1, .inr (12, [.ref a2, .ref a3, .ref a4, .ref a5, .int 1])), (a2, .inl (cy 1, 8, .inl (upd f0 (0 : Int32).toNatClampNeg x0))), (a3, .inl (cy 1, 8, .inl (upd f1 (0 : Int32).toNatClampNeg x1))), (a4, .inl (cy 1, 8, .inl (upd f2 (0 : Int32).toNatClampNeg x2))), (a5, .inl (cy 1, 8, .inl (upd f3 (0 : Int32).toNatClampNeg x3)))] := hD
  refine lv_goto (tgt := 29) hx hb dL_addRow_14 (by decide) ?_
  refine lv_iconst (v := 0) hx hb dL_addRow_29 (by decide) ?_
  exact en_z hx hb hr hlk hP hD hS rfl (fun _ => 0) (is := [0]) rfl rfl (Nat.le_of_ble_eq_true rfl) (Nat.le_of_ble_eq_true rfl) dL_addRow_30
set_option maxHeartbeats 4000000 in
set_option maxRecDepth 100000 in
theorem k139_Jx4a65c_isEmpty_aae02 (l : Launch) (D : va_G) (cy : Nat → ClassId) (g : Nat → Nat) (a0 : Nat) (v0 : Value) (v1 : Value) (sz : Nat)  : Met l yJx4a65c_isEmpty_aae02 [.code yJx4a65c_isEmpty_aae02 cJx4a65c_isEmpty_aae02 1 (some .boolean)] ({ frames := 0, cells := 0, slots := 0, locals := 0 }) (PC D cy g [(a0, .inr (4, [v0, v1, .int 0]))] sz [.ref a0]) (QI D 1 (fun ad => [(a0, .inr (4, [v0, v1, .int 0]))]) (va_A [(a0, .inr (4, [v0, v1, .int 0]))] sz)) 0 0 (va_A [(a0, .inr (4, [v0, v1, .int 0]))] sz) := by
  refine st_I (by decide) (Nat.le_of_ble_eq_true rfl) ?_
  intro p e s m args below meth c A ls hx hb hr hml hown hlk hnm hsz hP hD hA hE hts hS hl
  have hown : s.vm.findClass RJx4a65c = some m.cls := hown
  have hl : lv_has ls 1 [(0, .ref a0)] := hl
  refine lv_aload_n hx hb dJx4a65c_isEmpty_aae02_0 rfl (lv_at hl 0 rfl) ?_
  refine va_get (D := D) (ci := 4) (v := .int 0) (C := RJx4a65c) (T := TJx4a65c) (N := 3) hx hb hts ax_26 hown hE.1 hP 0 rfl rfl 2 (by decide) (hts _ tw_342) (fun _ h9 => h9) rfl dJx4a65c_isEmpty_aae02_1 ?_
  refine lv_if_ne (tgt := 11) hx hb dJx4a65c_isEmpty_aae02_4 (by decide) (fun z => absurd (by decide) z) (fun _ => ?_)
  refine lv_iconst (v := 1) hx hb dJx4a65c_isEmpty_aae02_7 (by decide) ?_
  refine lv_goto (tgt := 12) hx hb dJx4a65c_isEmpty_aae02_8 (by decide) ?_
  exact en_z hx hb hr hlk hP hD hS rfl (fun _ => 0) (is := [0]) rfl rfl (Nat.le_of_ble_eq_true rfl) (Nat.le_of_ble_eq_true rfl) dJx4a65c_isEmpty_aae02_12
set_option maxHeartbeats 4000000 in
set_option maxRecDepth 100000 in
theorem k140_X10_fails (l : Launch) (D : va_G) (cy : Nat → ClassId) (g : Nat → Nat) (a0 : Nat) (v0 : Value) (v1 : Value) (v2 : Value) (v3 : Value) (v4 : Value) (v5 : Value) (v6 : Value) (v7 : Value) (v8 : Value) (v9 : Value) (v10 : Value) (v11 : Value) (v12 : Value) (v13 : Value) (v14 : Value) (v15 : Value) (v16 : Value) (v17 : Value) (v18 : Value) (v19 : Value) (v20 : Value) (v21 : Value) (v22 : Value) (v23 : Value) (v24 : Value) (v25 : Value) (v26 : Value) (sz : Nat)  : Met l yX10_fails [.code yX10_fails cX10_fails 3 (some .boolean)] ({ frames := 0, cells := 0, slots := 0, locals := 0 }) (PC D cy g [(a0, .inr (15, [.int 0, v0, v1, v2, v3, v4, v5, v6, v7, v8, v9, v10, v11, v12, v13, v14, v15, v16, v17, v18, v19, v20, v21, v22, v23, v24, v25, v26]))] sz [.ref a0, .int 0, .int 3]) (QI D 0 (fun ad => [(a0, .inr (15, [.int 0, v0, v1, v2, v3, v4, v5, v6, v7, v8, v9, v10, v11, v12, v13, v14, v15, v16, v17, v18, v19, v20, v21, v22, v23, v24, v25, v26]))]) (va_A [(a0, .inr (15, [.int 0, v0, v1, v2, v3, v4, v5, v6, v7, v8, v9, v10, v11, v12, v13, v14, v15, v16, v17, v18, v19, v20, v21, v22, v23, v24, v25, v26]))] sz)) 0 0 (va_A [(a0, .inr (15, [.int 0, v0, v1, v2, v3, v4, v5, v6, v7, v8, v9, v10, v11, v12, v13, v14, v15, v16, v17, v18, v19, v20, v21, v22, v23, v24, v25, v26]))] sz) := by
  refine st_I (by decide) (Nat.le_of_ble_eq_true rfl) ?_
  intro p e s m args below meth c A ls hx hb hr hml hown hlk hnm hsz hP hD hA hE hts hS hl
  have hown : s.vm.findClass RX10 = some m.cls := hown
  have hl : lv_has ls 3 [(0, .ref a0), (1, .int 0), (2, .int 3)] := hl
  refine lv_aload_n hx hb dX10_fails_0 rfl (lv_at hl 0 rfl) ?_
  refine va_get (D := D) (ci := 15) (v := .int 0) (C := RX10) (T := TX10) (N := 28) hx hb hts ax_29 hown hE.1 hP 0 rfl rfl 0 (by decide) (hts _ tw_308) (fun _ h9 => h9) rfl dX10_fails_1 ?_
  refine lv_if_ne (tgt := 16) hx hb dX10_fails_4 (by decide) (fun z => absurd (by decide) z) (fun _ => ?_)
  refine lv_iload_n hx hb dX10_fails_7 rfl (lv_at hl 1 rfl) ?_
  refine lv_if_eq (tgt := 16) hx hb dX10_fails_8 (by decide) (fun _ => ?_) (fun z => absurd (by decide) z)
  refine lv_aload_n hx hb dX10_fails_16 rfl (lv_at hl 0 rfl) ?_
  refine va_get (D := D) (ci := 15) (v := .int 0) (C := RX10) (T := TX10) (N := 28) hx hb hts ax_29 hown hE.1 hP 0 rfl rfl 0 (by decide) (hts _ tw_308) (fun _ h9 => h9) rfl dX10_fails_17 ?_
  refine lv_if_le (tgt := 27) hx hb dX10_fails_20 (by decide) (fun _ => ?_) (fun z => absurd (by decide) z)
  refine lv_iconst (v := 0) hx hb dX10_fails_27 (by decide) ?_
  exact en_z hx hb hr hlk hP hD hS rfl (fun _ => 0) (is := [0]) rfl rfl (Nat.le_of_ble_eq_true rfl) (Nat.le_of_ble_eq_true rfl) dX10_fails_28
set_option maxHeartbeats 4000000 in
set_option maxRecDepth 100000 in
theorem k141_Jx4a65c_add_72be8 (l : Launch) (D : va_G) (cy : Nat → ClassId) (g : Nat → Nat) (a0 : Nat) (a1 : Nat) (v0 : Value) (f0 : Nat → Int32) (sz : Nat)  : Met l yJx4a65c_add_72be8 [.code yJx4a65c_add_72be8 cJx4a65c_add_72be8 4 none] ({ frames := 3, cells := 1, slots := 10, locals := 57 }) (PC D cy g [(a0, .inr (4, [v0, .ref (g 0), .int 0])), (a1, .inl (cy 1, 4, .inl f0))] sz [.ref a0, .ref a1, .ref (g 0), .int 0]) (QV D (fun ad => [(a0, .inr (4, [v0, .ref (ad 0), .int 1])), (a1, .inl (cy 1, 4, .inl f0)), ((ad 0), .inl (cy 5, 10, .inr (.inr (.inr (.inr (va_up (fun _ => none) (0 : Int32).toNatClampNeg (some a1)))))))]) (va_A [(a0, .inr (4, [v0, .ref (g 0), .int 0])), (a1, .inl (cy 1, 4, .inl f0))] sz)) 1 10 (va_A [(a0, .inr (4, [v0, .ref (g 0), .int 0])), (a1, .inl (cy 1, 4, .inl f0))] sz) := by
  refine st_V (by decide) (Nat.le_of_ble_eq_true rfl) ?_
  intro p e s m args below meth c A ls hx hb hr hml hown hlk hnm hsz hP hD hA hE hts hS hl
  have hown : s.vm.findClass RJx4a65c = some m.cls := hown
  have hl : lv_has ls 4 [(0, .ref a0), (1, .ref a1), (2, .ref (g 0)), (3, .int 0)] := hl
  refine lv_iload_n hx hb dJx4a65c_add_72be8_0 rfl (lv_at hl 3 rfl) ?_
  refine lv_aload_n hx hb dJx4a65c_add_72be8_1 rfl (lv_at hl 2 rfl) ?_
  refine va_tlen (v := 0) hx hb hE.2.2.2.2.2.2.2.2.1 hS (by decide) dJx4a65c_add_72be8_2 ?_
  refine lv_icmp_ne (tgt := 11) hx hb dJx4a65c_add_72be8_3 (by decide) (fun z => absurd (by decide) z) (fun _ => ?_)
  refine lv_aload_n hx hb dJx4a65c_add_72be8_6 rfl (lv_at hl 0 rfl) ?_
  refine ca_r (isC := [0]) (isR := [1]) (wr := [(a1, .inl (cy 1, 4, .inl f0))]) (rn_V (ci := 4) (q0 := 0) (isC := [0]) (wc := [(a0, .inr (4, [v0, .ref (g 0), .int 0]))]) (As := []) (rest := []) (n := 0) hx hb hml hown hts hE hS hP hD hA hl.1 (k47_Jx4a65c_grow_d5877 l D cy g a0 (v0) s.heap.size ) rfl rfl rfl rfl rfl ax_55 rfl rfl ax_56 ⟨Nat.le_of_ble_eq_true rfl, Nat.le_of_ble_eq_true rfl⟩ rfl rfl (Nat.le_of_ble_eq_true rfl) dJx4a65c_add_72be8_7 ⟨(Nat.le_of_ble_eq_true rfl), (Nat.le_of_ble_eq_true rfl)⟩) hP hD hS hA rfl rfl rfl (by decide) (fun ad7 H locs hP hD hS => ?_)
  have hP : va_P D vwCl [(a1, .inl (cy 1, 4, .inl f0)), (a0, .inr (4, [v0, .ref (ad7 0), .int 0])), ((ad7 0), .inl (cy 5, 10, .inr (.inr (.inr (.inr (fun _ => none))))))] H := hP
  have hD : va_D A [(a1, .inl (cy 1, 4, .inl f0)), (a0, .inr (4, [v0, .ref (ad7 0), .int 0])), ((ad7 0), .inl (cy 5, 10, .inr (.inr (.inr (.inr (fun _ => none))))))] := hD
  refine lv_astore_n (lv' := [(2, .ref (ad7 0)), (0, .ref a0), (1, .ref a1), (3, .int 0)]) hx hb dJx4a65c_add_72be8_10 rfl hl (Nat.le_of_ble_eq_true rfl) rfl (fun ls hl => ?_)
  refine lv_aload_n hx hb dJx4a65c_add_72be8_11 rfl (lv_at hl 0 rfl) ?_
  refine lv_iload_n hx hb dJx4a65c_add_72be8_12 rfl (lv_at hl 3 rfl) ?_
  refine lv_aload_n hx hb dJx4a65c_add_72be8_13 rfl (lv_at hl 2 rfl) ?_
  refine va_astqM hx hb hE.1 hP hD hS 2 5 rfl rfl (any_ia hE hP hts 0 rfl tw_356) (by unfold vp_in; decide) dJx4a65c_add_72be8_14 (fun H locs hP hD hS => ?_)
  have hP : va_P D vwCl [(a1, .inl (cy 1, 4, .inl f0)), (a0, .inr (4, [v0, .ref (ad7 0), .int 0])), ((ad7 0), .inl (cy 5, 10, .inr (.inr (.inr (.inr (va_up (fun _ => none) (0 : Int32).toNatClampNeg (some a1)))))))] H := hP
  have hD : va_D A [(a1, .inl (cy 1, 4, .inl f0)), (a0, .inr (4, [v0, .ref (ad7 0), .int 0])), ((ad7 0), .inl (cy 5, 10, .inr (.inr (.inr (.inr (va_up (fun _ => none) (0 : Int32).toNatClampNeg (some a1)))))))] := hD
  refine lv_aload_n hx hb dJx4a65c_add_72be8_15 rfl (lv_at hl 1 rfl) ?_
  refine lv_iload_n hx hb dJx4a65c_add_72be8_16 rfl (lv_at hl 3 rfl) ?_
  refine lv_iconst (v := 1) hx hb dJx4a65c_add_72be8_17 (by decide) ?_
  refine lv_iadd hx hb dJx4a65c_add_72be8_18 ?_
  refine tp_i 1 (by decide) ?_
  refine va_put (D := D) (ci := 4) (v := .int 1) (ty := .int) (C := RJx4a65c) (T := TJx4a65c) (N := 3) hx hb hts ax_26 tyJx4a65c tyJx4a65c_ok nmJx4a65c hown hE.1 hP hD hS 1 rfl rfl 2 (by decide) (hts _ tw_342) (fun _ h9 => h9) rfl (by decide +kernel) rfl rfl (Nat.le_of_ble_eq_true rfl) dJx4a65c_add_72be8_19 (fun H locs hP hD hS => ?_)
  have hP : va_P D vwCl [(a1, .inl (cy 1, 4, .inl f0)), (a0, .inr (4, [v0, .ref (ad7 0), .int 1])), ((ad7 0), .inl (cy 5, 10, .inr (.inr (.inr (.inr (va_up (fun _ => none) (0 : Int32).toNatClampNeg (some a1)))))))] H := hP
  have hD : va_D A [(a1, .inl (cy 1, 4, .inl f0)), (a0, .inr (4, [v0, .ref (ad7 0), .int 1])), ((ad7 0), .inl (cy 5, 10, .inr (.inr (.inr (.inr (va_up (fun _ => none) (0 : Int32).toNatClampNeg (some a1)))))))] := hD
  exact en_v hx hb hr hlk hP hD hS (fun k => [(ad7 0)].getD k 0) (is := [1, 0, 2]) rfl rfl (Nat.le_of_ble_eq_true rfl) (Nat.le_of_ble_eq_true rfl) dJx4a65c_add_72be8_22
set_option maxHeartbeats 4000000 in
set_option maxRecDepth 100000 in
theorem k142_Jx4a65c_add_9ea2d (l : Launch) (D : va_G) (cy : Nat → ClassId) (g : Nat → Nat) (a0 : Nat) (a1 : Nat) (f0 : Nat → Int32) (sz : Nat)  : Met l yJx4a65c_add_9ea2d [.code yJx4a65c_add_9ea2d cJx4a65c_add_9ea2d 2 (some .boolean)] ({ frames := 4, cells := 1, slots := 10, locals := 80 }) (PC D cy g [(a0, .inr (4, [.int 0, .ref (g 0), .int 0])), (a1, .inl (cy 1, 4, .inl f0))] sz [.ref a0, .ref a1]) (QI D 1 (fun ad => [(a0, .inr (4, [.int 1, .ref (ad 0), .int 1])), (a1, .inl (cy 1, 4, .inl f0)), ((ad 0), .inl (cy 5, 10, .inr (.inr (.inr (.inr (va_up (fun _ => none) (0 : Int32).toNatClampNeg (some a1)))))))]) (va_A [(a0, .inr (4, [.int 0, .ref (g 0), .int 0])), (a1, .inl (cy 1, 4, .inl f0))] sz)) 1 10 (va_A [(a0, .inr (4, [.int 0, .ref (g 0), .int 0])), (a1, .inl (cy 1, 4, .inl f0))] sz) := by
  refine st_I (by decide) (Nat.le_of_ble_eq_true rfl) ?_
  intro p e s m args below meth c A ls hx hb hr hml hown hlk hnm hsz hP hD hA hE hts hS hl
  have hown : s.vm.findClass RJx4a65c = some m.cls := hown
  have hl : lv_has ls 2 [(0, .ref a0), (1, .ref a1)] := hl
  refine lv_aload_n hx hb dJx4a65c_add_9ea2d_0 rfl (lv_at hl 0 rfl) ?_
  refine lv_dup hx hb dJx4a65c_add_9ea2d_1 rfl ?_
  refine va_get (D := D) (ci := 4) (v := .int 0) (C := RJx4a65c) (T := TJx4a65c) (N := 3) hx hb hts ax_26 hown hE.1 hP 0 rfl rfl 0 (by decide) (hts _ tw_357) (fun x9 h9 => u_same (hts _ tw_358) x9 h9) rfl dJx4a65c_add_9ea2d_2 ?_
  refine lv_iconst (v := 1) hx hb dJx4a65c_add_9ea2d_5 (by decide) ?_
  refine lv_iadd hx hb dJx4a65c_add_9ea2d_6 ?_
  refine tp_i 1 (by decide) ?_
  refine va_put (D := D) (ci := 4) (v := .int 1) (ty := .int) (C := RJx4a65c) (T := TJx4a65c) (N := 3) hx hb hts ax_26 tyJx4a65c tyJx4a65c_ok nmJx4a65c hown hE.1 hP hD hS 0 rfl rfl 0 (by decide) (hts _ tw_357) (fun x9 h9 => u_same (hts _ tw_358) x9 h9) rfl (by decide +kernel) rfl rfl (Nat.le_of_ble_eq_true rfl) dJx4a65c_add_9ea2d_7 (fun H locs hP hD hS => ?_)
  have hP : va_P D vwCl [(a0, .inr (4, [.int 1, .ref (g 0), .int 0])), (a1, .inl (cy 1, 4, .inl f0))] H := hP
  have hD : va_D A [(a0, .inr (4, [.int 1, .ref (g 0), .int 0])), (a1, .inl (cy 1, 4, .inl f0))] := hD
  refine lv_aload_n hx hb dJx4a65c_add_9ea2d_10 rfl (lv_at hl 0 rfl) ?_
  refine lv_aload_n hx hb dJx4a65c_add_9ea2d_11 rfl (lv_at hl 1 rfl) ?_
  refine lv_aload_n hx hb dJx4a65c_add_9ea2d_12 rfl (lv_at hl 0 rfl) ?_
  refine va_get (D := D) (ci := 4) (v := .ref (g 0)) (C := RJx4a65c) (T := TJx4a65c) (N := 3) hx hb hts ax_26 hown hE.1 hP 0 rfl rfl 1 (by decide) (hts _ tw_241) (fun _ h9 => h9) rfl dJx4a65c_add_9ea2d_13 ?_
  refine lv_aload_n hx hb dJx4a65c_add_9ea2d_16 rfl (lv_at hl 0 rfl) ?_
  refine va_get (D := D) (ci := 4) (v := .int 0) (C := RJx4a65c) (T := TJx4a65c) (N := 3) hx hb hts ax_26 hown hE.1 hP 0 rfl rfl 2 (by decide) (hts _ tw_342) (fun _ h9 => h9) rfl dJx4a65c_add_9ea2d_17 ?_
  refine ca_v (isC := [0, 1]) (isR := []) (wr := []) (rn_V (ci := 4) (q0 := 0) (isC := [0, 1]) (wc := [(a0, .inr (4, [.int 1, .ref (g 0), .int 0])), (a1, .inl (cy 1, 4, .inl f0))]) (As := [.ref a1, .ref (g 0), .int 0]) (rest := []) (n := 3) hx hb hml hown hts hE hS hP hD hA hl.1 (k141_Jx4a65c_add_72be8 l D cy g a0 a1 (.int 1) f0 H.size ) rfl rfl rfl rfl rfl ax_57 rfl rfl ax_58 ⟨Nat.le_of_ble_eq_true rfl, Nat.le_of_ble_eq_true rfl⟩ rfl rfl (Nat.le_of_ble_eq_true rfl) dJx4a65c_add_9ea2d_20 ⟨(Nat.le_of_ble_eq_true rfl), (Nat.le_of_ble_eq_true rfl)⟩) hP hD hS hA rfl rfl rfl (by decide) (fun ad20 H locs hP hD hS => ?_)
  have hP : va_P D vwCl [(a0, .inr (4, [.int 1, .ref (ad20 0), .int 1])), (a1, .inl (cy 1, 4, .inl f0)), ((ad20 0), .inl (cy 5, 10, .inr (.inr (.inr (.inr (va_up (fun _ => none) (0 : Int32).toNatClampNeg (some a1)))))))] H := hP
  have hD : va_D A [(a0, .inr (4, [.int 1, .ref (ad20 0), .int 1])), (a1, .inl (cy 1, 4, .inl f0)), ((ad20 0), .inl (cy 5, 10, .inr (.inr (.inr (.inr (va_up (fun _ => none) (0 : Int32).toNatClampNeg (some a1)))))))] := hD
  refine lv_iconst (v := 1) hx hb dJx4a65c_add_9ea2d_23 (by decide) ?_
  exact en_z hx hb hr hlk hP hD hS rfl (fun k => [(ad20 0)].getD k 0) (is := [0, 1, 2]) rfl rfl (Nat.le_of_ble_eq_true rfl) (Nat.le_of_ble_eq_true rfl) dJx4a65c_add_9ea2d_24
set_option maxHeartbeats 4000000 in
set_option maxRecDepth 100000 in
theorem k143_X10_addRow (l : Launch) (D : va_G) (cy : Nat → ClassId) (g : Nat → Nat) (x0 : Int32) (x1 : Int32) (x2 : Int32) (x3 : Int32) (a0 : Nat) (a1 : Nat) (v0 : Value) (v1 : Value) (v2 : Value) (v3 : Value) (v4 : Value) (v5 : Value) (v6 : Value) (v7 : Value) (v8 : Value) (v9 : Value) (v10 : Value) (v11 : Value) (v12 : Value) (v13 : Value) (v14 : Value) (v15 : Value) (v16 : Value) (v17 : Value) (v18 : Value) (v19 : Value) (v20 : Value) (v21 : Value) (v22 : Value) (v23 : Value) (v24 : Value) (v25 : Value) (v26 : Value) (sz : Nat) (h0 : ¬ x0 < 1) (h1 : ¬ (1000 : Int32) < x0) (h2 : ¬ x1 < 50) (h3 : ¬ (999 : Int32) < x1) (h4 : ¬ x2 < 0) (h5 : ¬ (9999 : Int32) < x2) (h6 : ¬ x3 < 0) (h7 : ¬ (9999 : Int32) < x3) (h8 : x2 < x3) : Met l yX10_addRow [.code yX10_addRow cX10_addRow 7 (some .int)] ({ frames := 5, cells := 2, slots := 14, locals := 101 }) (PC D cy g [(a0, .inr (15, [v0, v1, v2, v3, v4, v5, .ref a1, v6, v7, v8, v9, v10, v11, v12, v13, v14, v15, v16, v17, v18, v19, v20, v21, v22, v23, v24, v25, v26])), (a1, .inr (4, [.int 0, .ref (g 0), .int 0]))] sz [.ref a0, .int x0, .int x1, .int x2, .int x3]) (QI D 1 (fun ad => [(a0, .inr (15, [.int 0, v1, v2, v3, v4, v5, .ref a1, v6, v7, v8, v9, v10, v11, v12, v13, v14, v15, v16, v17, v18, v19, v20, v21, v22, v23, v24, v25, v26]))]) (va_A [(a0, .inr (15, [v0, v1, v2, v3, v4, v5, .ref a1, v6, v7, v8, v9, v10, v11, v12, v13, v14, v15, v16, v17, v18, v19, v20, v21, v22, v23, v24, v25, v26])), (a1, .inr (4, [.int 0, .ref (g 0), .int 0]))] sz)) 2 14 (va_A [(a0, .inr (15, [v0, v1, v2, v3, v4, v5, .ref a1, v6, v7, v8, v9, v10, v11, v12, v13, v14, v15, v16, v17, v18, v19, v20, v21, v22, v23, v24, v25, v26])), (a1, .inr (4, [.int 0, .ref (g 0), .int 0]))] sz) := by
  refine st_I (by decide) (Nat.le_of_ble_eq_true rfl) ?_
  intro p e s m args below meth c A ls hx hb hr hml hown hlk hnm hsz hP hD hA hE hts hS hl
  have hown : s.vm.findClass RX10 = some m.cls := hown
  have hl : lv_has ls 7 [(0, .ref a0), (1, .int x0), (2, .int x1), (3, .int x2), (4, .int x3)] := hl
  refine lv_aload_n hx hb dX10_addRow_0 rfl (lv_at hl 0 rfl) ?_
  refine ca_v (isC := [0]) (isR := [1]) (wr := [(a1, .inr (4, [.int 0, .ref (g 0), .int 0]))]) (rn_V (ci := 15) (q0 := 0) (isC := [0]) (wc := [(a0, .inr (15, [v0, v1, v2, v3, v4, v5, .ref a1, v6, v7, v8, v9, v10, v11, v12, v13, v14, v15, v16, v17, v18, v19, v20, v21, v22, v23, v24, v25, v26]))]) (As := []) (rest := []) (n := 0) hx hb hml hown hts hE hS hP hD hA hl.1 (k20_X10_begins l D cy g a0 (v0) (v1) (v2) (v3) (v4) (v5) (.ref a1) (v6) (v7) (v8) (v9) (v10) (v11) (v12) (v13) (v14) (v15) (v16) (v17) (v18) (v19) (v20) (v21) (v22) (v23) (v24) (v25) (v26) s.heap.size ) rfl rfl rfl rfl rfl ax_37 rfl rfl ax_38 ⟨Nat.le_of_ble_eq_true rfl, Nat.le_of_ble_eq_true rfl⟩ rfl rfl (Nat.le_of_ble_eq_true rfl) dX10_addRow_1 ⟨(Nat.le_of_ble_eq_true rfl), (Nat.le_of_ble_eq_true rfl)⟩) hP hD hS hA rfl rfl rfl (by decide) (fun ad1 H locs hP hD hS => ?_)
  have hP : va_P D vwCl [(a1, .inr (4, [.int 0, .ref (g 0), .int 0])), (a0, .inr (15, [.int 0, v1, v2, v3, v4, v5, .ref a1, v6, v7, v8, v9, v10, v11, v12, v13, v14, v15, v16, v17, v18, v19, v20, v21, v22, v23, v24, v25, v26]))] H := hP
  have hD : va_D A [(a1, .inr (4, [.int 0, .ref (g 0), .int 0])), (a0, .inr (15, [.int 0, v1, v2, v3, v4, v5, .ref a1, v6, v7, v8, v9, v10, v11, v12, v13, v14, v15, v16, v17, v18, v19, v20, v21, v22, v23, v24, v25, v26]))] := hD
  refine lv_aload_n hx hb dX10_addRow_4 rfl (lv_at hl 0 rfl) ?_
  refine lv_iload_n hx hb dX10_addRow_5 rfl (lv_at hl 1 rfl) ?_
  refine lv_i2l (v := x0.toInt64) hx hb dX10_addRow_6 rfl ?_
  refine lv_lconst (v := 1) hx hb dX10_addRow_7 (by decide) ?_
  refine lv_ldc2 (v := 1000) hx hb hown (hts _ tw_331) dX10_addRow_8 ?_
  refine ca_i (isC := []) (isR := [0, 1]) (wr := [(a1, .inr (4, [.int 0, .ref (g 0), .int 0])), (a0, .inr (15, [.int 0, v1, v2, v3, v4, v5, .ref a1, v6, v7, v8, v9, v10, v11, v12, v13, v14, v15, v16, v17, v18, v19, v20, v21, v22, v23, v24, v25, v26]))]) (rn_S (isC := []) (wc := []) (As := [.long x0.toInt64, .long 1, .long 1000]) (rest := [.ref a0]) (n := 3) hx hb hml hown hts hE hS hP hD hA hl.1 (k33_X10_in l D cy g x0.toInt64 1 1000 H.size (wl_nlt rfl (by decide) h0) (wl_nlt (by decide) rfl h1)) rfl rfl ax_39 rfl rfl ax_40 ⟨Nat.le_of_ble_eq_true rfl, Nat.le_of_ble_eq_true rfl⟩ rfl rfl (Nat.le_of_ble_eq_true rfl) dX10_addRow_11 ⟨(Nat.le_of_ble_eq_true rfl), (Nat.le_of_ble_eq_true rfl)⟩) hP hD hS hA rfl rfl rfl (by decide) (fun ad11 H locs hP hD hS => ?_)
  have hP : va_P D vwCl [(a1, .inr (4, [.int 0, .ref (g 0), .int 0])), (a0, .inr (15, [.int 0, v1, v2, v3, v4, v5, .ref a1, v6, v7, v8, v9, v10, v11, v12, v13, v14, v15, v16, v17, v18, v19, v20, v21, v22, v23, v24, v25, v26]))] H := hP
  have hD : va_D A [(a1, .inr (4, [.int 0, .ref (g 0), .int 0])), (a0, .inr (15, [.int 0, v1, v2, v3, v4, v5, .ref a1, v6, v7, v8, v9, v10, v11, v12, v13, v14, v15, v16, v17, v18, v19, v20, v21, v22, v23, v24, v25, v26]))] := hD
  refine lv_if_eq (tgt := 56) hx hb dX10_addRow_14 (by decide) (fun z => absurd z (by decide)) (fun _ => ?_)
  refine lv_iload_n hx hb dX10_addRow_17 rfl (lv_at hl 2 rfl) ?_
  refine lv_i2l (v := x1.toInt64) hx hb dX10_addRow_18 rfl ?_
  refine lv_ldc2 (v := 50) hx hb hown (hts _ tw_314) dX10_addRow_19 ?_
  refine lv_ldc2 (v := 999) hx hb hown (hts _ tw_493) dX10_addRow_22 ?_
  refine ca_i (isC := []) (isR := [0, 1]) (wr := [(a1, .inr (4, [.int 0, .ref (g 0), .int 0])), (a0, .inr (15, [.int 0, v1, v2, v3, v4, v5, .ref a1, v6, v7, v8, v9, v10, v11, v12, v13, v14, v15, v16, v17, v18, v19, v20, v21, v22, v23, v24, v25, v26]))]) (rn_S (isC := []) (wc := []) (As := [.long x1.toInt64, .long 50, .long 999]) (rest := [.ref a0]) (n := 3) hx hb hml hown hts hE hS hP hD hA hl.1 (k33_X10_in l D cy g x1.toInt64 50 999 H.size (wl_nlt rfl (by decide) h2) (wl_nlt (by decide) rfl h3)) rfl rfl ax_39 rfl rfl ax_40 ⟨Nat.le_of_ble_eq_true rfl, Nat.le_of_ble_eq_true rfl⟩ rfl rfl (Nat.le_of_ble_eq_true rfl) dX10_addRow_25 ⟨(Nat.le_of_ble_eq_true rfl), (Nat.le_of_ble_eq_true rfl)⟩) hP hD hS hA rfl rfl rfl (by decide) (fun ad25 H locs hP hD hS => ?_)
  have hP : va_P D vwCl [(a1, .inr (4, [.int 0, .ref (g 0), .int 0])), (a0, .inr (15, [.int 0, v1, v2, v3, v4, v5, .ref a1, v6, v7, v8, v9, v10, v11, v12, v13, v14, v15, v16, v17, v18, v19, v20, v21, v22, v23, v24, v25, v26]))] H := hP
  have hD : va_D A [(a1, .inr (4, [.int 0, .ref (g 0), .int 0])), (a0, .inr (15, [.int 0, v1, v2, v3, v4, v5, .ref a1, v6, v7, v8, v9, v10, v11, v12, v13, v14, v15, v16, v17, v18, v19, v20, v21, v22, v23, v24, v25, v26]))] := hD
  refine lv_if_eq (tgt := 56) hx hb dX10_addRow_28 (by decide) (fun z => absurd z (by decide)) (fun _ => ?_)
  refine lv_iload_n hx hb dX10_addRow_31 rfl (lv_at hl 3 rfl) ?_
  refine lv_i2l (v := x2.toInt64) hx hb dX10_addRow_32 rfl ?_
  refine lv_lconst (v := 0) hx hb dX10_addRow_33 (by decide) ?_
  refine lv_ldc2 (v := 9999) hx hb hown (hts _ tw_494) dX10_addRow_34 ?_
  refine ca_i (isC := []) (isR := [0, 1]) (wr := [(a1, .inr (4, [.int 0, .ref (g 0), .int 0])), (a0, .inr (15, [.int 0, v1, v2, v3, v4, v5, .ref a1, v6, v7, v8, v9, v10, v11, v12, v13, v14, v15, v16, v17, v18, v19, v20, v21, v22, v23, v24, v25, v26]))]) (rn_S (isC := []) (wc := []) (As := [.long x2.toInt64, .long 0, .long 9999]) (rest := [.ref a0]) (n := 3) hx hb hml hown hts hE hS hP hD hA hl.1 (k33_X10_in l D cy g x2.toInt64 0 9999 H.size (wl_nlt rfl (by decide) h4) (wl_nlt (by decide) rfl h5)) rfl rfl ax_39 rfl rfl ax_40 ⟨Nat.le_of_ble_eq_true rfl, Nat.le_of_ble_eq_true rfl⟩ rfl rfl (Nat.le_of_ble_eq_true rfl) dX10_addRow_37 ⟨(Nat.le_of_ble_eq_true rfl), (Nat.le_of_ble_eq_true rfl)⟩) hP hD hS hA rfl rfl rfl (by decide) (fun ad37 H locs hP hD hS => ?_)
  have hP : va_P D vwCl [(a1, .inr (4, [.int 0, .ref (g 0), .int 0])), (a0, .inr (15, [.int 0, v1, v2, v3, v4, v5, .ref a1, v6, v7, v8, v9, v10, v11, v12, v13, v14, v15, v16, v17, v18, v19, v20, v21, v22, v23, v24, v25, v26]))] H := hP
  have hD : va_D A [(a1, .inr (4, [.int 0, .ref (g 0), .int 0])), (a0, .inr (15, [.int 0, v1, v2, v3, v4, v5, .ref a1, v6, v7, v8, v9, v10, v11, v12, v13, v14, v15, v16, v17, v18, v19, v20, v21, v22, v23, v24, v25, v26]))] := hD
  refine lv_if_eq (tgt := 56) hx hb dX10_addRow_40 (by decide) (fun z => absurd z (by decide)) (fun _ => ?_)
  refine lv_iload hx hb dX10_addRow_43 (lv_at hl 4 rfl) ?_
  refine lv_i2l (v := x3.toInt64) hx hb dX10_addRow_45 rfl ?_
  refine lv_lconst (v := 0) hx hb dX10_addRow_46 (by decide) ?_
  refine lv_ldc2 (v := 9999) hx hb hown (hts _ tw_494) dX10_addRow_47 ?_
  refine ca_i (isC := []) (isR := [0, 1]) (wr := [(a1, .inr (4, [.int 0, .ref (g 0), .int 0])), (a0, .inr (15, [.int 0, v1, v2, v3, v4, v5, .ref a1, v6, v7, v8, v9, v10, v11, v12, v13, v14, v15, v16, v17, v18, v19, v20, v21, v22, v23, v24, v25, v26]))]) (rn_S (isC := []) (wc := []) (As := [.long x3.toInt64, .long 0, .long 9999]) (rest := [.ref a0]) (n := 3) hx hb hml hown hts hE hS hP hD hA hl.1 (k33_X10_in l D cy g x3.toInt64 0 9999 H.size (wl_nlt rfl (by decide) h6) (wl_nlt (by decide) rfl h7)) rfl rfl ax_39 rfl rfl ax_40 ⟨Nat.le_of_ble_eq_true rfl, Nat.le_of_ble_eq_true rfl⟩ rfl rfl (Nat.le_of_ble_eq_true rfl) dX10_addRow_50 ⟨(Nat.le_of_ble_eq_true rfl), (Nat.le_of_ble_eq_true rfl)⟩) hP hD hS hA rfl rfl rfl (by decide) (fun ad50 H locs hP hD hS => ?_)
  have hP : va_P D vwCl [(a1, .inr (4, [.int 0, .ref (g 0), .int 0])), (a0, .inr (15, [.int 0, v1, v2, v3, v4, v5, .ref a1, v6, v7, v8, v9, v10, v11, v12, v13, v14, v15, v16, v17, v18, v19, v20, v21, v22, v23, v24, v25, v26]))] H := hP
  have hD : va_D A [(a1, .inr (4, [.int 0, .ref (g 0), .int 0])), (a0, .inr (15, [.int 0, v1, v2, v3, v4, v5, .ref a1, v6, v7, v8, v9, v10, v11, v12, v13, v14, v15, v16, v17, v18, v19, v20, v21, v22, v23, v24, v25, v26]))] := hD
  refine lv_if_ne (tgt := 60) hx hb dX10_addRow_53 (by decide) (fun _ => ?_) (fun z => absurd z (by decide))
  refine lv_iconst (v := 0) hx hb dX10_addRow_60 (by decide) ?_
  refine lv_iconst (v := 1) hx hb dX10_addRow_61 (by decide) ?_
  refine ca_i (isC := [1]) (isR := [0]) (wr := [(a1, .inr (4, [.int 0, .ref (g 0), .int 0]))]) (rn_V (ci := 15) (q0 := 1) (isC := [1]) (wc := [(a0, .inr (15, [.int 0, v1, v2, v3, v4, v5, .ref a1, v6, v7, v8, v9, v10, v11, v12, v13, v14, v15, v16, v17, v18, v19, v20, v21, v22, v23, v24, v25, v26]))]) (As := [.int 0, .int 1]) (rest := []) (n := 2) hx hb hml hown hts hE hS hP hD hA hl.1 (k43_X10_fails l D cy g a0 (v1) (v2) (v3) (v4) (v5) (.ref a1) (v6) (v7) (v8) (v9) (v10) (v11) (v12) (v13) (v14) (v15) (v16) (v17) (v18) (v19) (v20) (v21) (v22) (v23) (v24) (v25) (v26) H.size ) rfl rfl rfl rfl rfl ax_41 rfl rfl ax_42 ⟨Nat.le_of_ble_eq_true rfl, Nat.le_of_ble_eq_true rfl⟩ rfl rfl (Nat.le_of_ble_eq_true rfl) dX10_addRow_62 ⟨(Nat.le_of_ble_eq_true rfl), (Nat.le_of_ble_eq_true rfl)⟩) hP hD hS hA rfl rfl rfl (by decide) (fun ad62 H locs hP hD hS => ?_)
  have hP : va_P D vwCl [(a1, .inr (4, [.int 0, .ref (g 0), .int 0])), (a0, .inr (15, [.int 0, v1, v2, v3, v4, v5, .ref a1, v6, v7, v8, v9, v10, v11, v12, v13, v14, v15, v16, v17, v18, v19, v20, v21, v22, v23, v24, v25, v26]))] H := hP
  have hD : va_D A [(a1, .inr (4, [.int 0, .ref (g 0), .int 0])), (a0, .inr (15, [.int 0, v1, v2, v3, v4, v5, .ref a1, v6, v7, v8, v9, v10, v11, v12, v13, v14, v15, v16, v17, v18, v19, v20, v21, v22, v23, v24, v25, v26]))] := hD
  refine lv_if_eq (tgt := 70) hx hb dX10_addRow_65 (by decide) (fun _ => ?_) (fun z => absurd (by decide) z)
  refine lv_iload hx hb dX10_addRow_70 (lv_at hl 4 rfl) ?_
  refine lv_iload_n hx hb dX10_addRow_72 rfl (lv_at hl 3 rfl) ?_
  refine lv_icmp_le (tgt := 80) hx hb dX10_addRow_73 (by decide) (fun z => absurd z (fa_of_lt h8).2.1) (fun _ => ?_)
  refine lv_iconst (v := 1) hx hb dX10_addRow_76 (by decide) ?_
  refine lv_goto (tgt := 81) hx hb dX10_addRow_77 (by decide) ?_
  refine lv_istore (lv' := [(5, .int 1), (0, .ref a0), (1, .int x0), (2, .int x1), (3, .int x2), (4, .int x3)]) hx hb dX10_addRow_81 hl (Nat.le_of_ble_eq_true rfl) rfl (fun ls hl => ?_)
  refine lv_aload_n hx hb dX10_addRow_83 rfl (lv_at hl 1 rfl) ?_
  refine va_get (D := D) (ci := 15) (v := .ref a1) (C := RX10) (T := TX10) (N := 28) hx hb hts ax_29 hown hE.1 hP 1 rfl rfl 6 (by decide) (hts _ tw_278) (fun _ h9 => h9) rfl dX10_addRow_84 ?_
  refine ca_Fi (isC := [0]) (isR := [1]) (wr := [(a0, .inr (15, [.int 0, v1, v2, v3, v4, v5, .ref a1, v6, v7, v8, v9, v10, v11, v12, v13, v14, v15, v16, v17, v18, v19, v20, v21, v22, v23, v24, v25, v26]))]) (rn_F (ci := 4) (q0 := 0) (isC := [0]) (wc := [(a1, .inr (4, [.int 0, .ref (g 0), .int 0]))]) (As := []) (rest := []) (n := 0) hx hb hml hown hts hE hS hP hD hA hl.1 (k139_Jx4a65c_isEmpty_aae02 l D cy g a1 (.int 0) (.ref (g 0)) H.size ) rfl rfl rfl rfl rfl ax_127 tw_512 tw_513 tw_514 tw_515 tw_371 rfl rfl ax_128 ⟨Nat.le_of_ble_eq_true rfl, Nat.le_of_ble_eq_true rfl⟩ rfl rfl (Nat.le_of_ble_eq_true rfl) dX10_addRow_87 ⟨(Nat.le_of_ble_eq_true rfl), (Nat.le_of_ble_eq_true rfl)⟩) hP hD hS hA rfl rfl rfl (by decide) (fun ad87 H locs hP hD hS => ?_)
  have hP : va_P D vwCl [(a0, .inr (15, [.int 0, v1, v2, v3, v4, v5, .ref a1, v6, v7, v8, v9, v10, v11, v12, v13, v14, v15, v16, v17, v18, v19, v20, v21, v22, v23, v24, v25, v26])), (a1, .inr (4, [.int 0, .ref (g 0), .int 0]))] H := hP
  have hD : va_D A [(a0, .inr (15, [.int 0, v1, v2, v3, v4, v5, .ref a1, v6, v7, v8, v9, v10, v11, v12, v13, v14, v15, v16, v17, v18, v19, v20, v21, v22, v23, v24, v25, v26])), (a1, .inr (4, [.int 0, .ref (g 0), .int 0]))] := hD
  refine lv_if_ne (tgt := 156) hx hb dX10_addRow_92 (by decide) (fun _ => ?_) (fun z => absurd z (by decide))
  refine lv_aload_n hx hb dX10_addRow_156 rfl (lv_at hl 1 rfl) ?_
  refine lv_iload hx hb dX10_addRow_157 (lv_at hl 0 rfl) ?_
  refine lv_if_ne (tgt := 166) hx hb dX10_addRow_159 (by decide) (fun _ => ?_) (fun z => absurd z (by decide))
  refine lv_iconst (v := 0) hx hb dX10_addRow_166 (by decide) ?_
  refine lv_iconst (v := 2) hx hb dX10_addRow_167 (by decide) ?_
  refine ca_i (isC := [0]) (isR := [1]) (wr := [(a1, .inr (4, [.int 0, .ref (g 0), .int 0]))]) (rn_V (ci := 15) (q0 := 0) (isC := [0]) (wc := [(a0, .inr (15, [.int 0, v1, v2, v3, v4, v5, .ref a1, v6, v7, v8, v9, v10, v11, v12, v13, v14, v15, v16, v17, v18, v19, v20, v21, v22, v23, v24, v25, v26]))]) (As := [.int 0, .int 2]) (rest := []) (n := 2) hx hb hml hown hts hE hS hP hD hA hl.1 (k45_X10_fails l D cy g a0 (v1) (v2) (v3) (v4) (v5) (.ref a1) (v6) (v7) (v8) (v9) (v10) (v11) (v12) (v13) (v14) (v15) (v16) (v17) (v18) (v19) (v20) (v21) (v22) (v23) (v24) (v25) (v26) H.size ) rfl rfl rfl rfl rfl ax_41 rfl rfl ax_42 ⟨Nat.le_of_ble_eq_true rfl, Nat.le_of_ble_eq_true rfl⟩ rfl rfl (Nat.le_of_ble_eq_true rfl) dX10_addRow_168 ⟨(Nat.le_of_ble_eq_true rfl), (Nat.le_of_ble_eq_true rfl)⟩) hP hD hS hA rfl rfl rfl (by decide) (fun ad168 H locs hP hD hS => ?_)
  have hP : va_P D vwCl [(a1, .inr (4, [.int 0, .ref (g 0), .int 0])), (a0, .inr (15, [.int 0, v1, v2, v3, v4, v5, .ref a1, v6, v7, v8, v9, v10, v11, v12, v13, v14, v15, v16, v17, v18, v19, v20, v21, v22, v23, v24, v25, v26]))] H := hP
  have hD : va_D A [(a1, .inr (4, [.int 0, .ref (g 0), .int 0])), (a0, .inr (15, [.int 0, v1, v2, v3, v4, v5, .ref a1, v6, v7, v8, v9, v10, v11, v12, v13, v14, v15, v16, v17, v18, v19, v20, v21, v22, v23, v24, v25, v26]))] := hD
  refine lv_if_ne (tgt := 201) hx hb dX10_addRow_171 (by decide) (fun z => absurd (by decide) z) (fun _ => ?_)
  refine lv_aload_n hx hb dX10_addRow_174 rfl (lv_at hl 1 rfl) ?_
  refine lv_aload_n hx hb dX10_addRow_175 rfl (lv_at hl 1 rfl) ?_
  refine va_get (D := D) (ci := 15) (v := .ref a1) (C := RX10) (T := TX10) (N := 28) hx hb hts ax_29 hown hE.1 hP 1 rfl rfl 6 (by decide) (hts _ tw_278) (fun _ h9 => h9) rfl dX10_addRow_176 ?_
  refine ca_Fi (isC := [0]) (isR := [1]) (wr := [(a0, .inr (15, [.int 0, v1, v2, v3, v4, v5, .ref a1, v6, v7, v8, v9, v10, v11, v12, v13, v14, v15, v16, v17, v18, v19, v20, v21, v22, v23, v24, v25, v26]))]) (rn_F (ci := 4) (q0 := 0) (isC := [0]) (wc := [(a1, .inr (4, [.int 0, .ref (g 0), .int 0]))]) (As := []) (rest := [.ref a0]) (n := 0) hx hb hml hown hts hE hS hP hD hA hl.1 (k44_Jx4a65c_size_8abf5 l D cy g a1 (.int 0) (.ref (g 0)) H.size ) rfl rfl rfl rfl rfl ax_59 tw_367 tw_368 tw_369 tw_370 tw_371 rfl rfl ax_60 ⟨Nat.le_of_ble_eq_true rfl, Nat.le_of_ble_eq_true rfl⟩ rfl rfl (Nat.le_of_ble_eq_true rfl) dX10_addRow_179 ⟨(Nat.le_of_ble_eq_true rfl), (Nat.le_of_ble_eq_true rfl)⟩) hP hD hS hA rfl rfl rfl (by decide) (fun ad179 H locs hP hD hS => ?_)
  have hP : va_P D vwCl [(a0, .inr (15, [.int 0, v1, v2, v3, v4, v5, .ref a1, v6, v7, v8, v9, v10, v11, v12, v13, v14, v15, v16, v17, v18, v19, v20, v21, v22, v23, v24, v25, v26])), (a1, .inr (4, [.int 0, .ref (g 0), .int 0]))] H := hP
  have hD : va_D A [(a0, .inr (15, [.int 0, v1, v2, v3, v4, v5, .ref a1, v6, v7, v8, v9, v10, v11, v12, v13, v14, v15, v16, v17, v18, v19, v20, v21, v22, v23, v24, v25, v26])), (a1, .inr (4, [.int 0, .ref (g 0), .int 0]))] := hD
  refine lv_bipush (v := 8) hx hb dX10_addRow_184 (by decide) ?_
  refine lv_icmp_ne (tgt := 193) hx hb dX10_addRow_186 (by decide) (fun _ => ?_) (fun z => absurd z (by decide))
  refine lv_iconst (v := 0) hx hb dX10_addRow_193 (by decide) ?_
  refine lv_iconst (v := 3) hx hb dX10_addRow_194 (by decide) ?_
  refine ca_i (isC := [0]) (isR := [1]) (wr := [(a1, .inr (4, [.int 0, .ref (g 0), .int 0]))]) (rn_V (ci := 15) (q0 := 0) (isC := [0]) (wc := [(a0, .inr (15, [.int 0, v1, v2, v3, v4, v5, .ref a1, v6, v7, v8, v9, v10, v11, v12, v13, v14, v15, v16, v17, v18, v19, v20, v21, v22, v23, v24, v25, v26]))]) (As := [.int 0, .int 3]) (rest := []) (n := 2) hx hb hml hown hts hE hS hP hD hA hl.1 (k140_X10_fails l D cy g a0 (v1) (v2) (v3) (v4) (v5) (.ref a1) (v6) (v7) (v8) (v9) (v10) (v11) (v12) (v13) (v14) (v15) (v16) (v17) (v18) (v19) (v20) (v21) (v22) (v23) (v24) (v25) (v26) H.size ) rfl rfl rfl rfl rfl ax_41 rfl rfl ax_42 ⟨Nat.le_of_ble_eq_true rfl, Nat.le_of_ble_eq_true rfl⟩ rfl rfl (Nat.le_of_ble_eq_true rfl) dX10_addRow_195 ⟨(Nat.le_of_ble_eq_true rfl), (Nat.le_of_ble_eq_true rfl)⟩) hP hD hS hA rfl rfl rfl (by decide) (fun ad195 H locs hP hD hS => ?_)
  have hP : va_P D vwCl [(a1, .inr (4, [.int 0, .ref (g 0), .int 0])), (a0, .inr (15, [.int 0, v1, v2, v3, v4, v5, .ref a1, v6, v7, v8, v9, v10, v11, v12, v13, v14, v15, v16, v17, v18, v19, v20, v21, v22, v23, v24, v25, v26]))] H := hP
  have hD : va_D A [(a1, .inr (4, [.int 0, .ref (g 0), .int 0])), (a0, .inr (15, [.int 0, v1, v2, v3, v4, v5, .ref a1, v6, v7, v8, v9, v10, v11, v12, v13, v14, v15, v16, v17, v18, v19, v20, v21, v22, v23, v24, v25, v26]))] := hD
  refine lv_if_eq (tgt := 203) hx hb dX10_addRow_198 (by decide) (fun _ => ?_) (fun z => absurd (by decide) z)
  refine lv_aload_n hx hb dX10_addRow_203 rfl (lv_at hl 1 rfl) ?_
  refine va_get (D := D) (ci := 15) (v := .ref a1) (C := RX10) (T := TX10) (N := 28) hx hb hts ax_29 hown hE.1 hP 1 rfl rfl 6 (by decide) (hts _ tw_278) (fun _ h9 => h9) rfl dX10_addRow_204 ?_
  refine lv_iconst (v := 4) hx hb dX10_addRow_207 (by decide) ?_
  refine nw_p (atype := .int) (ty := .int) (cA := cy 1) (a0 := (4, .inl (fun _ => 0))) (N' := 4) 1 hx hb rfl hts tw_11 hE rfl hP hD hS hA (fun _ => rfl) (by decide) (by decide) (by decide) (Nat.le_of_ble_eq_true rfl) (Nat.le_of_ble_eq_true rfl) dX10_addRow_208 (fun q1 H hP hD hS => ?_)
  have hP : va_P D vwCl [(a1, .inr (4, [.int 0, .ref (g 0), .int 0])), (a0, .inr (15, [.int 0, v1, v2, v3, v4, v5, .ref a1, v6, v7, v8, v9, v10, v11, v12, v13, v14, v15, v16, v17, v18, v19, v20, v21, v22, v23, v24, v25, v26])), (q1, .inl (cy 1, 4, .inl (fun _ => 0)))] H := hP
  have hD : va_D A [(a1, .inr (4, [.int 0, .ref (g 0), .int 0])), (a0, .inr (15, [.int 0, v1, v2, v3, v4, v5, .ref a1, v6, v7, v8, v9, v10, v11, v12, v13, v14, v15, v16, v17, v18, v19, v20, v21, v22, v23, v24, v25, v26])), (q1, .inl (cy 1, 4, .inl (fun _ => 0)))] := hD
  refine lv_dup hx hb dX10_addRow_210 rfl ?_
  refine lv_iconst (v := 0) hx hb dX10_addRow_211 (by decide) ?_
  refine lv_iload_n hx hb dX10_addRow_212 rfl (lv_at hl 2 rfl) ?_
  refine va_iast hx hb hE.1 hP hD hS 2 1 rfl rfl (by unfold vp_in; decide) dX10_addRow_213 (fun H locs hP hD hS => ?_)
  have hP : va_P D vwCl [(a1, .inr (4, [.int 0, .ref (g 0), .int 0])), (a0, .inr (15, [.int 0, v1, v2, v3, v4, v5, .ref a1, v6, v7, v8, v9, v10, v11, v12, v13, v14, v15, v16, v17, v18, v19, v20, v21, v22, v23, v24, v25, v26])), (q1, .inl (cy 1, 4, .inl (upd (fun _ => 0) (0 : Int32).toNatClampNeg x0)))] H := hP
  have hD : va_D A [(a1, .inr (4, [.int 0, .ref (g 0), .int 0])), (a0, .inr (15, [.int 0, v1, v2, v3, v4, v5, .ref a1, v6, v7, v8, v9, v10, v11, v12, v13, v14, v15, v16, v17, v18, v19, v20, v21, v22, v23, v24, v25, v26])), (q1, .inl (cy 1, 4, .inl (upd (fun _ => 0) (0 : Int32).toNatClampNeg x0)))] := hD
  refine lv_dup hx hb dX10_addRow_214 rfl ?_
  refine lv_iconst (v := 1) hx hb dX10_addRow_215 (by decide) ?_
  refine lv_iload_n hx hb dX10_addRow_216 rfl (lv_at hl 3 rfl) ?_
  refine va_iast hx hb hE.1 hP hD hS 2 1 rfl rfl (by unfold vp_in; decide) dX10_addRow_217 (fun H locs hP hD hS => ?_)
  have hP : va_P D vwCl [(a1, .inr (4, [.int 0, .ref (g 0), .int 0])), (a0, .inr (15, [.int 0, v1, v2, v3, v4, v5, .ref a1, v6, v7, v8, v9, v10, v11, v12, v13, v14, v15, v16, v17, v18, v19, v20, v21, v22, v23, v24, v25, v26])), (q1, .inl (cy 1, 4, .inl (upd (upd (fun _ => 0) (0 : Int32).toNatClampNeg x0) (1 : Int32).toNatClampNeg x1)))] H := hP
  have hD : va_D A [(a1, .inr (4, [.int 0, .ref (g 0), .int 0])), (a0, .inr (15, [.int 0, v1, v2, v3, v4, v5, .ref a1, v6, v7, v8, v9, v10, v11, v12, v13, v14, v15, v16, v17, v18, v19, v20, v21, v22, v23, v24, v25, v26])), (q1, .inl (cy 1, 4, .inl (upd (upd (fun _ => 0) (0 : Int32).toNatClampNeg x0) (1 : Int32).toNatClampNeg x1)))] := hD
  refine lv_dup hx hb dX10_addRow_218 rfl ?_
  refine lv_iconst (v := 2) hx hb dX10_addRow_219 (by decide) ?_
  refine lv_iload_n hx hb dX10_addRow_220 rfl (lv_at hl 4 rfl) ?_
  refine va_iast hx hb hE.1 hP hD hS 2 1 rfl rfl (by unfold vp_in; decide) dX10_addRow_221 (fun H locs hP hD hS => ?_)
  have hP : va_P D vwCl [(a1, .inr (4, [.int 0, .ref (g 0), .int 0])), (a0, .inr (15, [.int 0, v1, v2, v3, v4, v5, .ref a1, v6, v7, v8, v9, v10, v11, v12, v13, v14, v15, v16, v17, v18, v19, v20, v21, v22, v23, v24, v25, v26])), (q1, .inl (cy 1, 4, .inl (upd (upd (upd (fun _ => 0) (0 : Int32).toNatClampNeg x0) (1 : Int32).toNatClampNeg x1) (2 : Int32).toNatClampNeg x2)))] H := hP
  have hD : va_D A [(a1, .inr (4, [.int 0, .ref (g 0), .int 0])), (a0, .inr (15, [.int 0, v1, v2, v3, v4, v5, .ref a1, v6, v7, v8, v9, v10, v11, v12, v13, v14, v15, v16, v17, v18, v19, v20, v21, v22, v23, v24, v25, v26])), (q1, .inl (cy 1, 4, .inl (upd (upd (upd (fun _ => 0) (0 : Int32).toNatClampNeg x0) (1 : Int32).toNatClampNeg x1) (2 : Int32).toNatClampNeg x2)))] := hD
  refine lv_dup hx hb dX10_addRow_222 rfl ?_
  refine lv_iconst (v := 3) hx hb dX10_addRow_223 (by decide) ?_
  refine lv_iload hx hb dX10_addRow_224 (lv_at hl 5 rfl) ?_
  refine va_iast hx hb hE.1 hP hD hS 2 1 rfl rfl (by unfold vp_in; decide) dX10_addRow_226 (fun H locs hP hD hS => ?_)
  have hP : va_P D vwCl [(a1, .inr (4, [.int 0, .ref (g 0), .int 0])), (a0, .inr (15, [.int 0, v1, v2, v3, v4, v5, .ref a1, v6, v7, v8, v9, v10, v11, v12, v13, v14, v15, v16, v17, v18, v19, v20, v21, v22, v23, v24, v25, v26])), (q1, .inl (cy 1, 4, .inl (upd (upd (upd (upd (fun _ => 0) (0 : Int32).toNatClampNeg x0) (1 : Int32).toNatClampNeg x1) (2 : Int32).toNatClampNeg x2) (3 : Int32).toNatClampNeg x3)))] H := hP
  have hD : va_D A [(a1, .inr (4, [.int 0, .ref (g 0), .int 0])), (a0, .inr (15, [.int 0, v1, v2, v3, v4, v5, .ref a1, v6, v7, v8, v9, v10, v11, v12, v13, v14, v15, v16, v17, v18, v19, v20, v21, v22, v23, v24, v25, v26])), (q1, .inl (cy 1, 4, .inl (upd (upd (upd (upd (fun _ => 0) (0 : Int32).toNatClampNeg x0) (1 : Int32).toNatClampNeg x1) (2 : Int32).toNatClampNeg x2) (3 : Int32).toNatClampNeg x3)))] := hD
  refine ca_Fi (isC := [0, 2]) (isR := [1]) (wr := [(a0, .inr (15, [.int 0, v1, v2, v3, v4, v5, .ref a1, v6, v7, v8, v9, v10, v11, v12, v13, v14, v15, v16, v17, v18, v19, v20, v21, v22, v23, v24, v25, v26]))]) (rn_F (ci := 4) (q0 := 0) (isC := [0, 2]) (wc := [(a1, .inr (4, [.int 0, .ref (g 0), .int 0])), (q1, .inl (cy 1, 4, .inl (upd (upd (upd (upd (fun _ => 0) (0 : Int32).toNatClampNeg x0) (1 : Int32).toNatClampNeg x1) (2 : Int32).toNatClampNeg x2) (3 : Int32).toNatClampNeg x3)))]) (As := [.ref q1]) (rest := []) (n := 1) hx hb hml hown hts hE hS hP hD hA hl.1 (k142_Jx4a65c_add_9ea2d l D cy g a1 q1 (upd (upd (upd (upd (fun _ => 0) (0 : Int32).toNatClampNeg x0) (1 : Int32).toNatClampNeg x1) (2 : Int32).toNatClampNeg x2) (3 : Int32).toNatClampNeg x3) H.size ) rfl rfl rfl rfl rfl ax_61 tw_376 tw_377 tw_378 tw_379 tw_371 rfl rfl ax_62 ⟨Nat.le_of_ble_eq_true rfl, Nat.le_of_ble_eq_true rfl⟩ rfl rfl (Nat.le_of_ble_eq_true rfl) dX10_addRow_227 ⟨(Nat.le_of_ble_eq_true rfl), (Nat.le_of_ble_eq_true rfl)⟩) hP hD hS hA rfl rfl rfl (by decide) (fun ad227 H locs hP hD hS => ?_)
  have hP : va_P D vwCl [(a0, .inr (15, [.int 0, v1, v2, v3, v4, v5, .ref a1, v6, v7, v8, v9, v10, v11, v12, v13, v14, v15, v16, v17, v18, v19, v20, v21, v22, v23, v24, v25, v26])), (a1, .inr (4, [.int 1, .ref (ad227 0), .int 1])), (q1, .inl (cy 1, 4, .inl (upd (upd (upd (upd (fun _ => 0) (0 : Int32).toNatClampNeg x0) (1 : Int32).toNatClampNeg x1) (2 : Int32).toNatClampNeg x2) (3 : Int32).toNatClampNeg x3))), ((ad227 0), .inl (cy 5, 10, .inr (.inr (.inr (.inr (va_up (fun _ => none) (0 : Int32).toNatClampNeg (some q1)))))))] H := hP
  have hD : va_D A [(a0, .inr (15, [.int 0, v1, v2, v3, v4, v5, .ref a1, v6, v7, v8, v9, v10, v11, v12, v13, v14, v15, v16, v17, v18, v19, v20, v21, v22, v23, v24, v25, v26])), (a1, .inr (4, [.int 1, .ref (ad227 0), .int 1])), (q1, .inl (cy 1, 4, .inl (upd (upd (upd (upd (fun _ => 0) (0 : Int32).toNatClampNeg x0) (1 : Int32).toNatClampNeg x1) (2 : Int32).toNatClampNeg x2) (3 : Int32).toNatClampNeg x3))), ((ad227 0), .inl (cy 5, 10, .inr (.inr (.inr (.inr (va_up (fun _ => none) (0 : Int32).toNatClampNeg (some q1)))))))] := hD
  refine lv_pop hx hb dX10_addRow_232 rfl ?_
  refine lv_aload_n hx hb dX10_addRow_233 rfl (lv_at hl 1 rfl) ?_
  refine va_get (D := D) (ci := 15) (v := .ref a1) (C := RX10) (T := TX10) (N := 28) hx hb hts ax_29 hown hE.1 hP 0 rfl rfl 6 (by decide) (hts _ tw_278) (fun _ h9 => h9) rfl dX10_addRow_234 ?_
  refine ca_Fi (isC := [1]) (isR := [0, 2, 3]) (wr := [(a0, .inr (15, [.int 0, v1, v2, v3, v4, v5, .ref a1, v6, v7, v8, v9, v10, v11, v12, v13, v14, v15, v16, v17, v18, v19, v20, v21, v22, v23, v24, v25, v26])), (q1, .inl (cy 1, 4, .inl (upd (upd (upd (upd (fun _ => 0) (0 : Int32).toNatClampNeg x0) (1 : Int32).toNatClampNeg x1) (2 : Int32).toNatClampNeg x2) (3 : Int32).toNatClampNeg x3))), ((ad227 0), .inl (cy 5, 10, .inr (.inr (.inr (.inr (va_up (fun _ => none) (0 : Int32).toNatClampNeg (some q1)))))))]) (rn_F (ci := 4) (q0 := 1) (isC := [1]) (wc := [(a1, .inr (4, [.int 1, .ref (ad227 0), .int 1]))]) (As := []) (rest := []) (n := 0) hx hb hml hown hts hE hS hP hD hA hl.1 (k50_Jx4a65c_size_8abf5 l D cy g a1 (.int 1) (.ref (ad227 0)) H.size ) rfl rfl rfl rfl rfl ax_59 tw_367 tw_368 tw_369 tw_370 tw_371 rfl rfl ax_60 ⟨Nat.le_of_ble_eq_true rfl, Nat.le_of_ble_eq_true rfl⟩ rfl rfl (Nat.le_of_ble_eq_true rfl) dX10_addRow_237 ⟨(Nat.le_of_ble_eq_true rfl), (Nat.le_of_ble_eq_true rfl)⟩) hP hD hS hA rfl rfl rfl (by decide) (fun ad237 H locs hP hD hS => ?_)
  have hP : va_P D vwCl [(a0, .inr (15, [.int 0, v1, v2, v3, v4, v5, .ref a1, v6, v7, v8, v9, v10, v11, v12, v13, v14, v15, v16, v17, v18, v19, v20, v21, v22, v23, v24, v25, v26])), (q1, .inl (cy 1, 4, .inl (upd (upd (upd (upd (fun _ => 0) (0 : Int32).toNatClampNeg x0) (1 : Int32).toNatClampNeg x1) (2 : Int32).toNatClampNeg x2) (3 : Int32).toNatClampNeg x3))), ((ad227 0), .inl (cy 5, 10, .inr (.inr (.inr (.inr (va_up (fun _ => none) (0 : Int32).toNatClampNeg (some q1))))))), (a1, .inr (4, [.int 1, .ref (ad227 0), .int 1]))] H := hP
  have hD : va_D A [(a0, .inr (15, [.int 0, v1, v2, v3, v4, v5, .ref a1, v6, v7, v8, v9, v10, v11, v12, v13, v14, v15, v16, v17, v18, v19, v20, v21, v22, v23, v24, v25, v26])), (q1, .inl (cy 1, 4, .inl (upd (upd (upd (upd (fun _ => 0) (0 : Int32).toNatClampNeg x0) (1 : Int32).toNatClampNeg x1) (2 : Int32).toNatClampNeg x2) (3 : Int32).toNatClampNeg x3))), ((ad227 0), .inl (cy 5, 10, .inr (.inr (.inr (.inr (va_up (fun _ => none) (0 : Int32).toNatClampNeg (some q1))))))), (a1, .inr (4, [.int 1, .ref (ad227 0), .int 1]))] := hD
  exact en_z hx hb hr hlk hP hD hS rfl (fun _ => 0) (is := [0]) rfl rfl (Nat.le_of_ble_eq_true rfl) (Nat.le_of_ble_eq_true rfl) dX10_addRow_242
set_option maxHeartbeats 4000000 in
set_option maxRecDepth 100000 in
theorem k144_X9_addRow (l : Launch) (hst : l.stackTraces = false) (D : va_G) (cy : Nat → ClassId) (g : Nat → Nat) (x0 : Int32) (x1 : Int32) (x2 : Int32) (x3 : Int32) (b0 : Nat) (sz : Nat) (h0 : ¬ x0 < 1) (h1 : ¬ (1000 : Int32) < x0) (h2 : ¬ x1 < 50) (h3 : ¬ (999 : Int32) < x1) (h4 : ¬ x2 < 0) (h5 : ¬ (9999 : Int32) < x2) (h6 : ¬ x3 < 0) (h7 : ¬ (9999 : Int32) < x3) (h8 : ¬ x2 < x3) : vx_Met l yX9_addRow [.code yX9_addRow cX9_addRow 5 (some .int)] ({ frames := 6, cells := 1, slots := 6, locals := 82 }) (PC D cy g [] sz [.ref b0, .int x0, .int x1, .int x2, .int x3]) QN (XE "java/lang/UnsupportedOperationException" (va_A [] sz)) 1 6 (va_A [] sz) := by
  refine st_X (by decide) (Nat.le_of_ble_eq_true rfl) ?_
  intro p e s m args below meth c A ls hx hb hr hml hown hlk hnm hsz hP hD hA hE hts hS hl hout
  have hown : s.vm.findClass RX9 = some m.cls := hown
  have hl : lv_has ls 5 [(0, .ref b0), (1, .int x0), (2, .int x1), (3, .int x2), (4, .int x3)] := hl
  refine lv_iload_n hx hb dX9_addRow_0 rfl (lv_at hl 1 rfl) ?_
  refine lv_iconst (v := 1) hx hb dX9_addRow_1 (by decide) ?_
  refine lv_sipush (v := 1000) hx hb dX9_addRow_2 (by decide) ?_
  refine ca_i (isC := []) (isR := []) (wr := []) (rn_S (isC := []) (wc := []) (As := [.int x0, .int 1, .int 1000]) (rest := []) (n := 3) hx hb hml hown hts hE hS hP hD hA hl.1 (k30_X9_isOutside l D cy g x0 1 1000 s.heap.size h0 h1) rfl rfl ax_30 rfl rfl ax_31 ⟨Nat.le_of_ble_eq_true rfl, Nat.le_of_ble_eq_true rfl⟩ rfl rfl (Nat.le_of_ble_eq_true rfl) dX9_addRow_5 ⟨(Nat.le_of_ble_eq_true rfl), (Nat.le_of_ble_eq_true rfl)⟩) hP hD hS hA rfl rfl rfl (by decide) (fun ad5 H locs hP hD hS => ?_)
  have hP : va_P D vwCl [] H := hP
  have hD : va_D A [] := hD
  refine lv_if_ne (tgt := 46) hx hb dX9_addRow_8 (by decide) (fun z => absurd (by decide) z) (fun _ => ?_)
  refine lv_iload_n hx hb dX9_addRow_11 rfl (lv_at hl 2 rfl) ?_
  refine lv_bipush (v := 50) hx hb dX9_addRow_12 (by decide) ?_
  refine lv_sipush (v := 999) hx hb dX9_addRow_14 (by decide) ?_
  refine ca_i (isC := []) (isR := []) (wr := []) (rn_S (isC := []) (wc := []) (As := [.int x1, .int 50, .int 999]) (rest := []) (n := 3) hx hb hml hown hts hE hS hP hD hA hl.1 (k30_X9_isOutside l D cy g x1 50 999 H.size h2 h3) rfl rfl ax_30 rfl rfl ax_31 ⟨Nat.le_of_ble_eq_true rfl, Nat.le_of_ble_eq_true rfl⟩ rfl rfl (Nat.le_of_ble_eq_true rfl) dX9_addRow_17 ⟨(Nat.le_of_ble_eq_true rfl), (Nat.le_of_ble_eq_true rfl)⟩) hP hD hS hA rfl rfl rfl (by decide) (fun ad17 H locs hP hD hS => ?_)
  have hP : va_P D vwCl [] H := hP
  have hD : va_D A [] := hD
  refine lv_if_ne (tgt := 46) hx hb dX9_addRow_20 (by decide) (fun z => absurd (by decide) z) (fun _ => ?_)
  refine lv_iload_n hx hb dX9_addRow_23 rfl (lv_at hl 3 rfl) ?_
  refine lv_iconst (v := 0) hx hb dX9_addRow_24 (by decide) ?_
  refine lv_sipush (v := 9999) hx hb dX9_addRow_25 (by decide) ?_
  refine ca_i (isC := []) (isR := []) (wr := []) (rn_S (isC := []) (wc := []) (As := [.int x2, .int 0, .int 9999]) (rest := []) (n := 3) hx hb hml hown hts hE hS hP hD hA hl.1 (k30_X9_isOutside l D cy g x2 0 9999 H.size h4 h5) rfl rfl ax_30 rfl rfl ax_31 ⟨Nat.le_of_ble_eq_true rfl, Nat.le_of_ble_eq_true rfl⟩ rfl rfl (Nat.le_of_ble_eq_true rfl) dX9_addRow_28 ⟨(Nat.le_of_ble_eq_true rfl), (Nat.le_of_ble_eq_true rfl)⟩) hP hD hS hA rfl rfl rfl (by decide) (fun ad28 H locs hP hD hS => ?_)
  have hP : va_P D vwCl [] H := hP
  have hD : va_D A [] := hD
  refine lv_if_ne (tgt := 46) hx hb dX9_addRow_31 (by decide) (fun z => absurd (by decide) z) (fun _ => ?_)
  refine lv_iload hx hb dX9_addRow_34 (lv_at hl 4 rfl) ?_
  refine lv_iconst (v := 0) hx hb dX9_addRow_36 (by decide) ?_
  refine lv_sipush (v := 9999) hx hb dX9_addRow_37 (by decide) ?_
  refine ca_i (isC := []) (isR := []) (wr := []) (rn_S (isC := []) (wc := []) (As := [.int x3, .int 0, .int 9999]) (rest := []) (n := 3) hx hb hml hown hts hE hS hP hD hA hl.1 (k30_X9_isOutside l D cy g x3 0 9999 H.size h6 h7) rfl rfl ax_30 rfl rfl ax_31 ⟨Nat.le_of_ble_eq_true rfl, Nat.le_of_ble_eq_true rfl⟩ rfl rfl (Nat.le_of_ble_eq_true rfl) dX9_addRow_40 ⟨(Nat.le_of_ble_eq_true rfl), (Nat.le_of_ble_eq_true rfl)⟩) hP hD hS hA rfl rfl rfl (by decide) (fun ad40 H locs hP hD hS => ?_)
  have hP : va_P D vwCl [] H := hP
  have hD : va_D A [] := hD
  refine lv_if_eq (tgt := 56) hx hb dX9_addRow_43 (by decide) (fun _ => ?_) (fun z => absurd (by decide) z)
  refine lv_iload hx hb dX9_addRow_56 (lv_at hl 4 rfl) ?_
  refine lv_iload_n hx hb dX9_addRow_58 rfl (lv_at hl 3 rfl) ?_
  refine lv_icmp_le (tgt := 75) hx hb dX9_addRow_59 (by decide) (fun _ => ?_) (fun z => absurd (fa_of_nlt h8) z)
  exact th_S (text := "a number is not greater") hx hb hst hown hts hE hS (hl.1.trans hml.symm) hout hlk (by decide +kernel) tw_516 tw_517 ax_129 (by decide +kernel) dX9_addRow_75 dX9_addRow_78 dX9_addRow_79 dX9_addRow_81 dX9_addRow_84 ⟨Nat.le_of_ble_eq_true rfl, Nat.le_of_ble_eq_true rfl, Nat.le_of_ble_eq_true rfl, Nat.le_of_ble_eq_true rfl⟩ (Nat.le_of_ble_eq_true rfl) (Nat.le_of_ble_eq_true rfl)
set_option maxHeartbeats 4000000 in
set_option maxRecDepth 100000 in
theorem k145_L_addRow (l : Launch) (hst : l.stackTraces = false) (D : va_G) (cy : Nat → ClassId) (g : Nat → Nat) (x0 : Int32) (x1 : Int32) (x2 : Int32) (x3 : Int32) (a0 : Nat) (b0 : Nat) (v0 : Value) (v1 : Value) (v2 : Value) (v3 : Value) (v4 : Value) (v5 : Value) (v6 : Value) (sz : Nat) (h0 : ¬ x0 < 1) (h1 : ¬ (1000 : Int32) < x0) (h2 : ¬ x1 < 50) (h3 : ¬ (999 : Int32) < x1) (h4 : ¬ x2 < 0) (h5 : ¬ (9999 : Int32) < x2) (h6 : ¬ x3 < 0) (h7 : ¬ (9999 : Int32) < x3) (h8 : ¬ x2 < x3) : Met l yL_addRow [.codeWith yL_addRow cL_addRow 7 (some .int) [(0, 14, 17, 13), (0, 14, 21, 30), (0, 14, 25, 15)]] ({ frames := 7, cells := 1, slots := 6, locals := 106 }) (PC D cy g [(a0, .inr (14, [v0, v1, v2, v3, v4, v5, v6]))] sz [.ref a0, .int x0, .int x1, .int x2, .int x3, .ref b0]) (QI D 2 (fun ad => []) (va_A [(a0, .inr (14, [v0, v1, v2, v3, v4, v5, v6]))] sz)) 1 6 (va_A [(a0, .inr (14, [v0, v1, v2, v3, v4, v5, v6]))] sz) := by
  refine sh_I (by decide) (Nat.le_of_ble_eq_true rfl) ?_
  intro p e s m args below meth c A ls hx hb hr hml hown hlk hnm hsz hP hD hA hE hts hS hl htb
  have hown : s.vm.findClass RL = some m.cls := hown
  have hl : lv_has ls 7 [(0, .ref a0), (1, .int x0), (2, .int x1), (3, .int x2), (4, .int x3), (5, .ref b0)] := hl
  refine lv_aload hx hb dL_addRow_0 (lv_at hl 5 rfl) ?_
  refine lv_iconst (v := 0) hx hb dL_addRow_2 (by decide) ?_
  refine lv_aload_n hx hb dL_addRow_3 rfl (lv_at hl 0 rfl) ?_
  refine lv_iload_n hx hb dL_addRow_4 rfl (lv_at hl 1 rfl) ?_
  refine lv_iload_n hx hb dL_addRow_5 rfl (lv_at hl 2 rfl) ?_
  refine lv_iload_n hx hb dL_addRow_6 rfl (lv_at hl 3 rfl) ?_
  refine lv_iload hx hb dL_addRow_7 (lv_at hl 4 rfl) ?_
  refine cx_catch (isC := []) (isR := [0]) (wr := [(a0, .inr (14, [v0, v1, v2, v3, v4, v5, v6]))]) (hp := [(0, 14, 17, 13)]) (z := (0, 14, 21, 30)) (hq := [(0, 14, 25, 15)]) (name := "java/lang/UnsupportedOperationException") (own := RL) (rx_V (ci := 14) (q0 := 0) (isC := []) (wc := []) (As := [.int x0, .int x1, .int x2, .int x3]) (rest := [.int 0, .ref b0]) (n := 4) hx hb hml hown hts hE hS hP hD hA hl.1 (k144_X9_addRow l hst D cy g x0 x1 x2 x3 a0 s.heap.size h0 h1 h2 h3 h4 h5 h6 h7 h8) rfl rfl rfl rfl rfl ax_114 rfl rfl ax_115 ⟨Nat.le_of_ble_eq_true rfl, Nat.le_of_ble_eq_true rfl⟩ rfl rfl (Nat.le_of_ble_eq_true rfl) dL_addRow_9 ⟨(Nat.le_of_ble_eq_true rfl), (Nat.le_of_ble_eq_true rfl)⟩) hP hD hS hA hown hts hE htb rfl rfl rfl rfl (by decide) (fun z hz => by rcases List.mem_singleton.mp hz with rfl; exact ⟨by decide, "java/lang/IllegalArgumentException", tw_302, by decide +kernel⟩) (by decide) (by decide) tw_518 tw_519 (fun qx H locs hP hD hS => ?_)
  have hP : va_P D vwCl [(a0, .inr (14, [v0, v1, v2, v3, v4, v5, v6]))] H := hP
  have hD : va_D A [(a0, .inr (14, [v0, v1, v2, v3, v4, v5, v6]))] := hD
  refine lv_astore (lv' := [(6, .ref qx), (0, .ref a0), (1, .int x0), (2, .int x1), (3, .int x2), (4, .int x3), (5, .ref b0)]) hx hb dL_addRow_21 hl (Nat.le_of_ble_eq_true rfl) rfl (fun ls hl => ?_)
  refine lv_iconst (v := 2) hx hb dL_addRow_23 (by decide) ?_
  exact en_z hx hb hr hlk hP hD hS rfl (fun _ => 0) (is := []) rfl rfl (Nat.le_of_ble_eq_true rfl) (Nat.le_of_ble_eq_true rfl) dL_addRow_24
set_option maxHeartbeats 4000000 in
set_option maxRecDepth 100000 in
theorem k146_X10_fails (l : Launch) (D : va_G) (cy : Nat → ClassId) (g : Nat → Nat) (a0 : Nat) (v0 : Value) (v1 : Value) (v2 : Value) (v3 : Value) (v4 : Value) (v5 : Value) (v6 : Value) (v7 : Value) (v8 : Value) (v9 : Value) (v10 : Value) (v11 : Value) (v12 : Value) (v13 : Value) (v14 : Value) (v15 : Value) (v16 : Value) (v17 : Value) (v18 : Value) (v19 : Value) (v20 : Value) (v21 : Value) (v22 : Value) (v23 : Value) (v24 : Value) (v25 : Value) (v26 : Value) (sz : Nat)  : Met l yX10_fails [.code yX10_fails cX10_fails 3 (some .boolean)] ({ frames := 0, cells := 0, slots := 0, locals := 0 }) (PC D cy g [(a0, .inr (15, [.int 0, v0, v1, v2, v3, v4, v5, v6, v7, v8, v9, v10, v11, v12, v13, v14, v15, v16, v17, v18, v19, v20, v21, v22, v23, v24, v25, v26]))] sz [.ref a0, .int 1, .int 2]) (QI D 1 (fun ad => [(a0, .inr (15, [.int 2, v0, v1, v2, v3, v4, v5, v6, v7, v8, v9, v10, v11, v12, v13, v14, v15, v16, v17, v18, v19, v20, v21, v22, v23, v24, v25, v26]))]) (va_A [(a0, .inr (15, [.int 0, v0, v1, v2, v3, v4, v5, v6, v7, v8, v9, v10, v11, v12, v13, v14, v15, v16, v17, v18, v19, v20, v21, v22, v23, v24, v25, v26]))] sz)) 0 0 (va_A [(a0, .inr (15, [.int 0, v0, v1, v2, v3, v4, v5, v6, v7, v8, v9, v10, v11, v12, v13, v14, v15, v16, v17, v18, v19, v20, v21, v22, v23, v24, v25, v26]))] sz) := by
  refine st_I (by decide) (Nat.le_of_ble_eq_true rfl) ?_
  intro p e s m args below meth c A ls hx hb hr hml hown hlk hnm hsz hP hD hA hE hts hS hl
  have hown : s.vm.findClass RX10 = some m.cls := hown
  have hl : lv_has ls 3 [(0, .ref a0), (1, .int 1), (2, .int 2)] := hl
  refine lv_aload_n hx hb dX10_fails_0 rfl (lv_at hl 0 rfl) ?_
  refine va_get (D := D) (ci := 15) (v := .int 0) (C := RX10) (T := TX10) (N := 28) hx hb hts ax_29 hown hE.1 hP 0 rfl rfl 0 (by decide) (hts _ tw_308) (fun _ h9 => h9) rfl dX10_fails_1 ?_
  refine lv_if_ne (tgt := 16) hx hb dX10_fails_4 (by decide) (fun z => absurd (by decide) z) (fun _ => ?_)
  refine lv_iload_n hx hb dX10_fails_7 rfl (lv_at hl 1 rfl) ?_
  refine lv_if_eq (tgt := 16) hx hb dX10_fails_8 (by decide) (fun z => absurd z (by decide)) (fun _ => ?_)
  refine lv_aload_n hx hb dX10_fails_11 rfl (lv_at hl 0 rfl) ?_
  refine lv_iload_n hx hb dX10_fails_12 rfl (lv_at hl 2 rfl) ?_
  refine va_put (D := D) (ci := 15) (v := .int 2) (ty := .int) (C := RX10) (T := TX10) (N := 28) hx hb hts ax_29 tyX10 tyX10_ok nmX10 hown hE.1 hP hD hS 0 rfl rfl 0 (by decide) (hts _ tw_308) (fun _ h9 => h9) rfl (by decide +kernel) rfl rfl (Nat.le_of_ble_eq_true rfl) dX10_fails_13 (fun H locs hP hD hS => ?_)
  have hP : va_P D vwCl [(a0, .inr (15, [.int 2, v0, v1, v2, v3, v4, v5, v6, v7, v8, v9, v10, v11, v12, v13, v14, v15, v16, v17, v18, v19, v20, v21, v22, v23, v24, v25, v26]))] H := hP
  have hD : va_D A [(a0, .inr (15, [.int 2, v0, v1, v2, v3, v4, v5, v6, v7, v8, v9, v10, v11, v12, v13, v14, v15, v16, v17, v18, v19, v20, v21, v22, v23, v24, v25, v26]))] := hD
  refine lv_aload_n hx hb dX10_fails_16 rfl (lv_at hl 0 rfl) ?_
  refine va_get (D := D) (ci := 15) (v := .int 2) (C := RX10) (T := TX10) (N := 28) hx hb hts ax_29 hown hE.1 hP 0 rfl rfl 0 (by decide) (hts _ tw_308) (fun _ h9 => h9) rfl dX10_fails_17 ?_
  refine lv_if_le (tgt := 27) hx hb dX10_fails_20 (by decide) (fun z => absurd z (by decide)) (fun _ => ?_)
  refine lv_iconst (v := 1) hx hb dX10_fails_23 (by decide) ?_
  refine lv_goto (tgt := 28) hx hb dX10_fails_24 (by decide) ?_
  exact en_z hx hb hr hlk hP hD hS rfl (fun _ => 0) (is := [0]) rfl rfl (Nat.le_of_ble_eq_true rfl) (Nat.le_of_ble_eq_true rfl) dX10_fails_28
set_option maxHeartbeats 4000000 in
set_option maxRecDepth 100000 in
theorem k147_X10_addRow (l : Launch) (D : va_G) (cy : Nat → ClassId) (g : Nat → Nat) (x0 : Int32) (x1 : Int32) (x2 : Int32) (x3 : Int32) (a0 : Nat) (a1 : Nat) (v0 : Value) (v1 : Value) (v2 : Value) (v3 : Value) (v4 : Value) (v5 : Value) (v6 : Value) (v7 : Value) (v8 : Value) (v9 : Value) (v10 : Value) (v11 : Value) (v12 : Value) (v13 : Value) (v14 : Value) (v15 : Value) (v16 : Value) (v17 : Value) (v18 : Value) (v19 : Value) (v20 : Value) (v21 : Value) (v22 : Value) (v23 : Value) (v24 : Value) (v25 : Value) (v26 : Value) (v27 : Value) (v28 : Value) (sz : Nat) (h0 : ¬ x0 < 1) (h1 : ¬ (1000 : Int32) < x0) (h2 : ¬ x1 < 50) (h3 : ¬ (999 : Int32) < x1) (h4 : ¬ x2 < 0) (h5 : ¬ (9999 : Int32) < x2) (h6 : ¬ x3 < 0) (h7 : ¬ (9999 : Int32) < x3) (h8 : ¬ x2 < x3) : Met l yX10_addRow [.code yX10_addRow cX10_addRow 7 (some .int)] ({ frames := 1, cells := 0, slots := 0, locals := 25 }) (PC D cy g [(a0, .inr (15, [v0, v1, v2, v3, v4, v5, .ref a1, v6, v7, v8, v9, v10, v11, v12, v13, v14, v15, v16, v17, v18, v19, v20, v21, v22, v23, v24, v25, v26])), (a1, .inr (4, [v27, v28, .int 0]))] sz [.ref a0, .int x0, .int x1, .int x2, .int x3]) (QI D (-1) (fun ad => [(a0, .inr (15, [.int 2, v1, v2, v3, v4, v5, .ref a1, v6, v7, v8, v9, v10, v11, v12, v13, v14, v15, v16, v17, v18, v19, v20, v21, v22, v23, v24, v25, v26]))]) (va_A [(a0, .inr (15, [v0, v1, v2, v3, v4, v5, .ref a1, v6, v7, v8, v9, v10, v11, v12, v13, v14, v15, v16, v17, v18, v19, v20, v21, v22, v23, v24, v25, v26])), (a1, .inr (4, [v27, v28, .int 0]))] sz)) 0 0 (va_A [(a0, .inr (15, [v0, v1, v2, v3, v4, v5, .ref a1, v6, v7, v8, v9, v10, v11, v12, v13, v14, v15, v16, v17, v18, v19, v20, v21, v22, v23, v24, v25, v26])), (a1, .inr (4, [v27, v28, .int 0]))] sz) := by
  refine st_I (by decide) (Nat.le_of_ble_eq_true rfl) ?_
  intro p e s m args below meth c A ls hx hb hr hml hown hlk hnm hsz hP hD hA hE hts hS hl
  have hown : s.vm.findClass RX10 = some m.cls := hown
  have hl : lv_has ls 7 [(0, .ref a0), (1, .int x0), (2, .int x1), (3, .int x2), (4, .int x3)] := hl
  refine lv_aload_n hx hb dX10_addRow_0 rfl (lv_at hl 0 rfl) ?_
  refine ca_v (isC := [0]) (isR := [1]) (wr := [(a1, .inr (4, [v27, v28, .int 0]))]) (rn_V (ci := 15) (q0 := 0) (isC := [0]) (wc := [(a0, .inr (15, [v0, v1, v2, v3, v4, v5, .ref a1, v6, v7, v8, v9, v10, v11, v12, v13, v14, v15, v16, v17, v18, v19, v20, v21, v22, v23, v24, v25, v26]))]) (As := []) (rest := []) (n := 0) hx hb hml hown hts hE hS hP hD hA hl.1 (k20_X10_begins l D cy g a0 (v0) (v1) (v2) (v3) (v4) (v5) (.ref a1) (v6) (v7) (v8) (v9) (v10) (v11) (v12) (v13) (v14) (v15) (v16) (v17) (v18) (v19) (v20) (v21) (v22) (v23) (v24) (v25) (v26) s.heap.size ) rfl rfl rfl rfl rfl ax_37 rfl rfl ax_38 ⟨Nat.le_of_ble_eq_true rfl, Nat.le_of_ble_eq_true rfl⟩ rfl rfl (Nat.le_of_ble_eq_true rfl) dX10_addRow_1 ⟨(Nat.le_of_ble_eq_true rfl), (Nat.le_of_ble_eq_true rfl)⟩) hP hD hS hA rfl rfl rfl (by decide) (fun ad1 H locs hP hD hS => ?_)
  have hP : va_P D vwCl [(a1, .inr (4, [v27, v28, .int 0])), (a0, .inr (15, [.int 0, v1, v2, v3, v4, v5, .ref a1, v6, v7, v8, v9, v10, v11, v12, v13, v14, v15, v16, v17, v18, v19, v20, v21, v22, v23, v24, v25, v26]))] H := hP
  have hD : va_D A [(a1, .inr (4, [v27, v28, .int 0])), (a0, .inr (15, [.int 0, v1, v2, v3, v4, v5, .ref a1, v6, v7, v8, v9, v10, v11, v12, v13, v14, v15, v16, v17, v18, v19, v20, v21, v22, v23, v24, v25, v26]))] := hD
  refine lv_aload_n hx hb dX10_addRow_4 rfl (lv_at hl 0 rfl) ?_
  refine lv_iload_n hx hb dX10_addRow_5 rfl (lv_at hl 1 rfl) ?_
  refine lv_i2l (v := x0.toInt64) hx hb dX10_addRow_6 rfl ?_
  refine lv_lconst (v := 1) hx hb dX10_addRow_7 (by decide) ?_
  refine lv_ldc2 (v := 1000) hx hb hown (hts _ tw_331) dX10_addRow_8 ?_
  refine ca_i (isC := []) (isR := [0, 1]) (wr := [(a1, .inr (4, [v27, v28, .int 0])), (a0, .inr (15, [.int 0, v1, v2, v3, v4, v5, .ref a1, v6, v7, v8, v9, v10, v11, v12, v13, v14, v15, v16, v17, v18, v19, v20, v21, v22, v23, v24, v25, v26]))]) (rn_S (isC := []) (wc := []) (As := [.long x0.toInt64, .long 1, .long 1000]) (rest := [.ref a0]) (n := 3) hx hb hml hown hts hE hS hP hD hA hl.1 (k33_X10_in l D cy g x0.toInt64 1 1000 H.size (wl_nlt rfl (by decide) h0) (wl_nlt (by decide) rfl h1)) rfl rfl ax_39 rfl rfl ax_40 ⟨Nat.le_of_ble_eq_true rfl, Nat.le_of_ble_eq_true rfl⟩ rfl rfl (Nat.le_of_ble_eq_true rfl) dX10_addRow_11 ⟨(Nat.le_of_ble_eq_true rfl), (Nat.le_of_ble_eq_true rfl)⟩) hP hD hS hA rfl rfl rfl (by decide) (fun ad11 H locs hP hD hS => ?_)
  have hP : va_P D vwCl [(a1, .inr (4, [v27, v28, .int 0])), (a0, .inr (15, [.int 0, v1, v2, v3, v4, v5, .ref a1, v6, v7, v8, v9, v10, v11, v12, v13, v14, v15, v16, v17, v18, v19, v20, v21, v22, v23, v24, v25, v26]))] H := hP
  have hD : va_D A [(a1, .inr (4, [v27, v28, .int 0])), (a0, .inr (15, [.int 0, v1, v2, v3, v4, v5, .ref a1, v6, v7, v8, v9, v10, v11, v12, v13, v14, v15, v16, v17, v18, v19, v20, v21, v22, v23, v24, v25, v26]))] := hD
  refine lv_if_eq (tgt := 56) hx hb dX10_addRow_14 (by decide) (fun z => absurd z (by decide)) (fun _ => ?_)
  refine lv_iload_n hx hb dX10_addRow_17 rfl (lv_at hl 2 rfl) ?_
  refine lv_i2l (v := x1.toInt64) hx hb dX10_addRow_18 rfl ?_
  refine lv_ldc2 (v := 50) hx hb hown (hts _ tw_314) dX10_addRow_19 ?_
  refine lv_ldc2 (v := 999) hx hb hown (hts _ tw_493) dX10_addRow_22 ?_
  refine ca_i (isC := []) (isR := [0, 1]) (wr := [(a1, .inr (4, [v27, v28, .int 0])), (a0, .inr (15, [.int 0, v1, v2, v3, v4, v5, .ref a1, v6, v7, v8, v9, v10, v11, v12, v13, v14, v15, v16, v17, v18, v19, v20, v21, v22, v23, v24, v25, v26]))]) (rn_S (isC := []) (wc := []) (As := [.long x1.toInt64, .long 50, .long 999]) (rest := [.ref a0]) (n := 3) hx hb hml hown hts hE hS hP hD hA hl.1 (k33_X10_in l D cy g x1.toInt64 50 999 H.size (wl_nlt rfl (by decide) h2) (wl_nlt (by decide) rfl h3)) rfl rfl ax_39 rfl rfl ax_40 ⟨Nat.le_of_ble_eq_true rfl, Nat.le_of_ble_eq_true rfl⟩ rfl rfl (Nat.le_of_ble_eq_true rfl) dX10_addRow_25 ⟨(Nat.le_of_ble_eq_true rfl), (Nat.le_of_ble_eq_true rfl)⟩) hP hD hS hA rfl rfl rfl (by decide) (fun ad25 H locs hP hD hS => ?_)
  have hP : va_P D vwCl [(a1, .inr (4, [v27, v28, .int 0])), (a0, .inr (15, [.int 0, v1, v2, v3, v4, v5, .ref a1, v6, v7, v8, v9, v10, v11, v12, v13, v14, v15, v16, v17, v18, v19, v20, v21, v22, v23, v24, v25, v26]))] H := hP
  have hD : va_D A [(a1, .inr (4, [v27, v28, .int 0])), (a0, .inr (15, [.int 0, v1, v2, v3, v4, v5, .ref a1, v6, v7, v8, v9, v10, v11, v12, v13, v14, v15, v16, v17, v18, v19, v20, v21, v22, v23, v24, v25, v26]))] := hD
  refine lv_if_eq (tgt := 56) hx hb dX10_addRow_28 (by decide) (fun z => absurd z (by decide)) (fun _ => ?_)
  refine lv_iload_n hx hb dX10_addRow_31 rfl (lv_at hl 3 rfl) ?_
  refine lv_i2l (v := x2.toInt64) hx hb dX10_addRow_32 rfl ?_
  refine lv_lconst (v := 0) hx hb dX10_addRow_33 (by decide) ?_
  refine lv_ldc2 (v := 9999) hx hb hown (hts _ tw_494) dX10_addRow_34 ?_
  refine ca_i (isC := []) (isR := [0, 1]) (wr := [(a1, .inr (4, [v27, v28, .int 0])), (a0, .inr (15, [.int 0, v1, v2, v3, v4, v5, .ref a1, v6, v7, v8, v9, v10, v11, v12, v13, v14, v15, v16, v17, v18, v19, v20, v21, v22, v23, v24, v25, v26]))]) (rn_S (isC := []) (wc := []) (As := [.long x2.toInt64, .long 0, .long 9999]) (rest := [.ref a0]) (n := 3) hx hb hml hown hts hE hS hP hD hA hl.1 (k33_X10_in l D cy g x2.toInt64 0 9999 H.size (wl_nlt rfl (by decide) h4) (wl_nlt (by decide) rfl h5)) rfl rfl ax_39 rfl rfl ax_40 ⟨Nat.le_of_ble_eq_true rfl, Nat.le_of_ble_eq_true rfl⟩ rfl rfl (Nat.le_of_ble_eq_true rfl) dX10_addRow_37 ⟨(Nat.le_of_ble_eq_true rfl), (Nat.le_of_ble_eq_true rfl)⟩) hP hD hS hA rfl rfl rfl (by decide) (fun ad37 H locs hP hD hS => ?_)
  have hP : va_P D vwCl [(a1, .inr (4, [v27, v28, .int 0])), (a0, .inr (15, [.int 0, v1, v2, v3, v4, v5, .ref a1, v6, v7, v8, v9, v10, v11, v12, v13, v14, v15, v16, v17, v18, v19, v20, v21, v22, v23, v24, v25, v26]))] H := hP
  have hD : va_D A [(a1, .inr (4, [v27, v28, .int 0])), (a0, .inr (15, [.int 0, v1, v2, v3, v4, v5, .ref a1, v6, v7, v8, v9, v10, v11, v12, v13, v14, v15, v16, v17, v18, v19, v20, v21, v22, v23, v24, v25, v26]))] := hD
  refine lv_if_eq (tgt := 56) hx hb dX10_addRow_40 (by decide) (fun z => absurd z (by decide)) (fun _ => ?_)
  refine lv_iload hx hb dX10_addRow_43 (lv_at hl 4 rfl) ?_
  refine lv_i2l (v := x3.toInt64) hx hb dX10_addRow_45 rfl ?_
  refine lv_lconst (v := 0) hx hb dX10_addRow_46 (by decide) ?_
  refine lv_ldc2 (v := 9999) hx hb hown (hts _ tw_494) dX10_addRow_47 ?_
  refine ca_i (isC := []) (isR := [0, 1]) (wr := [(a1, .inr (4, [v27, v28, .int 0])), (a0, .inr (15, [.int 0, v1, v2, v3, v4, v5, .ref a1, v6, v7, v8, v9, v10, v11, v12, v13, v14, v15, v16, v17, v18, v19, v20, v21, v22, v23, v24, v25, v26]))]) (rn_S (isC := []) (wc := []) (As := [.long x3.toInt64, .long 0, .long 9999]) (rest := [.ref a0]) (n := 3) hx hb hml hown hts hE hS hP hD hA hl.1 (k33_X10_in l D cy g x3.toInt64 0 9999 H.size (wl_nlt rfl (by decide) h6) (wl_nlt (by decide) rfl h7)) rfl rfl ax_39 rfl rfl ax_40 ⟨Nat.le_of_ble_eq_true rfl, Nat.le_of_ble_eq_true rfl⟩ rfl rfl (Nat.le_of_ble_eq_true rfl) dX10_addRow_50 ⟨(Nat.le_of_ble_eq_true rfl), (Nat.le_of_ble_eq_true rfl)⟩) hP hD hS hA rfl rfl rfl (by decide) (fun ad50 H locs hP hD hS => ?_)
  have hP : va_P D vwCl [(a1, .inr (4, [v27, v28, .int 0])), (a0, .inr (15, [.int 0, v1, v2, v3, v4, v5, .ref a1, v6, v7, v8, v9, v10, v11, v12, v13, v14, v15, v16, v17, v18, v19, v20, v21, v22, v23, v24, v25, v26]))] H := hP
  have hD : va_D A [(a1, .inr (4, [v27, v28, .int 0])), (a0, .inr (15, [.int 0, v1, v2, v3, v4, v5, .ref a1, v6, v7, v8, v9, v10, v11, v12, v13, v14, v15, v16, v17, v18, v19, v20, v21, v22, v23, v24, v25, v26]))] := hD
  refine lv_if_ne (tgt := 60) hx hb dX10_addRow_53 (by decide) (fun _ => ?_) (fun z => absurd z (by decide))
  refine lv_iconst (v := 0) hx hb dX10_addRow_60 (by decide) ?_
  refine lv_iconst (v := 1) hx hb dX10_addRow_61 (by decide) ?_
  refine ca_i (isC := [1]) (isR := [0]) (wr := [(a1, .inr (4, [v27, v28, .int 0]))]) (rn_V (ci := 15) (q0 := 1) (isC := [1]) (wc := [(a0, .inr (15, [.int 0, v1, v2, v3, v4, v5, .ref a1, v6, v7, v8, v9, v10, v11, v12, v13, v14, v15, v16, v17, v18, v19, v20, v21, v22, v23, v24, v25, v26]))]) (As := [.int 0, .int 1]) (rest := []) (n := 2) hx hb hml hown hts hE hS hP hD hA hl.1 (k43_X10_fails l D cy g a0 (v1) (v2) (v3) (v4) (v5) (.ref a1) (v6) (v7) (v8) (v9) (v10) (v11) (v12) (v13) (v14) (v15) (v16) (v17) (v18) (v19) (v20) (v21) (v22) (v23) (v24) (v25) (v26) H.size ) rfl rfl rfl rfl rfl ax_41 rfl rfl ax_42 ⟨Nat.le_of_ble_eq_true rfl, Nat.le_of_ble_eq_true rfl⟩ rfl rfl (Nat.le_of_ble_eq_true rfl) dX10_addRow_62 ⟨(Nat.le_of_ble_eq_true rfl), (Nat.le_of_ble_eq_true rfl)⟩) hP hD hS hA rfl rfl rfl (by decide) (fun ad62 H locs hP hD hS => ?_)
  have hP : va_P D vwCl [(a1, .inr (4, [v27, v28, .int 0])), (a0, .inr (15, [.int 0, v1, v2, v3, v4, v5, .ref a1, v6, v7, v8, v9, v10, v11, v12, v13, v14, v15, v16, v17, v18, v19, v20, v21, v22, v23, v24, v25, v26]))] H := hP
  have hD : va_D A [(a1, .inr (4, [v27, v28, .int 0])), (a0, .inr (15, [.int 0, v1, v2, v3, v4, v5, .ref a1, v6, v7, v8, v9, v10, v11, v12, v13, v14, v15, v16, v17, v18, v19, v20, v21, v22, v23, v24, v25, v26]))] := hD
  refine lv_if_eq (tgt := 70) hx hb dX10_addRow_65 (by decide) (fun _ => ?_) (fun z => absurd (by decide) z)
  refine lv_iload hx hb dX10_addRow_70 (lv_at hl 4 rfl) ?_
  refine lv_iload_n hx hb dX10_addRow_72 rfl (lv_at hl 3 rfl) ?_
  refine lv_icmp_le (tgt := 80) hx hb dX10_addRow_73 (by decide) (fun _ => ?_) (fun z => absurd (fa_of_nlt h8) z)
  refine lv_iconst (v := 0) hx hb dX10_addRow_80 (by decide) ?_
  refine lv_istore (lv' := [(5, .int 0), (0, .ref a0), (1, .int x0), (2, .int x1), (3, .int x2), (4, .int x3)]) hx hb dX10_addRow_81 hl (Nat.le_of_ble_eq_true rfl) rfl (fun ls hl => ?_)
  refine lv_aload_n hx hb dX10_addRow_83 rfl (lv_at hl 1 rfl) ?_
  refine va_get (D := D) (ci := 15) (v := .ref a1) (C := RX10) (T := TX10) (N := 28) hx hb hts ax_29 hown hE.1 hP 1 rfl rfl 6 (by decide) (hts _ tw_278) (fun _ h9 => h9) rfl dX10_addRow_84 ?_
  refine ca_Fi (isC := [0]) (isR := [1]) (wr := [(a0, .inr (15, [.int 0, v1, v2, v3, v4, v5, .ref a1, v6, v7, v8, v9, v10, v11, v12, v13, v14, v15, v16, v17, v18, v19, v20, v21, v22, v23, v24, v25, v26]))]) (rn_F (ci := 4) (q0 := 0) (isC := [0]) (wc := [(a1, .inr (4, [v27, v28, .int 0]))]) (As := []) (rest := []) (n := 0) hx hb hml hown hts hE hS hP hD hA hl.1 (k139_Jx4a65c_isEmpty_aae02 l D cy g a1 (v27) (v28) H.size ) rfl rfl rfl rfl rfl ax_127 tw_512 tw_513 tw_514 tw_515 tw_371 rfl rfl ax_128 ⟨Nat.le_of_ble_eq_true rfl, Nat.le_of_ble_eq_true rfl⟩ rfl rfl (Nat.le_of_ble_eq_true rfl) dX10_addRow_87 ⟨(Nat.le_of_ble_eq_true rfl), (Nat.le_of_ble_eq_true rfl)⟩) hP hD hS hA rfl rfl rfl (by decide) (fun ad87 H locs hP hD hS => ?_)
  have hP : va_P D vwCl [(a0, .inr (15, [.int 0, v1, v2, v3, v4, v5, .ref a1, v6, v7, v8, v9, v10, v11, v12, v13, v14, v15, v16, v17, v18, v19, v20, v21, v22, v23, v24, v25, v26])), (a1, .inr (4, [v27, v28, .int 0]))] H := hP
  have hD : va_D A [(a0, .inr (15, [.int 0, v1, v2, v3, v4, v5, .ref a1, v6, v7, v8, v9, v10, v11, v12, v13, v14, v15, v16, v17, v18, v19, v20, v21, v22, v23, v24, v25, v26])), (a1, .inr (4, [v27, v28, .int 0]))] := hD
  refine lv_if_ne (tgt := 156) hx hb dX10_addRow_92 (by decide) (fun _ => ?_) (fun z => absurd z (by decide))
  refine lv_aload_n hx hb dX10_addRow_156 rfl (lv_at hl 1 rfl) ?_
  refine lv_iload hx hb dX10_addRow_157 (lv_at hl 0 rfl) ?_
  refine lv_if_ne (tgt := 166) hx hb dX10_addRow_159 (by decide) (fun z => absurd (by decide) z) (fun _ => ?_)
  refine lv_iconst (v := 1) hx hb dX10_addRow_162 (by decide) ?_
  refine lv_goto (tgt := 167) hx hb dX10_addRow_163 (by decide) ?_
  refine lv_iconst (v := 2) hx hb dX10_addRow_167 (by decide) ?_
  refine ca_i (isC := [0]) (isR := [1]) (wr := [(a1, .inr (4, [v27, v28, .int 0]))]) (rn_V (ci := 15) (q0 := 0) (isC := [0]) (wc := [(a0, .inr (15, [.int 0, v1, v2, v3, v4, v5, .ref a1, v6, v7, v8, v9, v10, v11, v12, v13, v14, v15, v16, v17, v18, v19, v20, v21, v22, v23, v24, v25, v26]))]) (As := [.int 1, .int 2]) (rest := []) (n := 2) hx hb hml hown hts hE hS hP hD hA hl.1 (k146_X10_fails l D cy g a0 (v1) (v2) (v3) (v4) (v5) (.ref a1) (v6) (v7) (v8) (v9) (v10) (v11) (v12) (v13) (v14) (v15) (v16) (v17) (v18) (v19) (v20) (v21) (v22) (v23) (v24) (v25) (v26) H.size ) rfl rfl rfl rfl rfl ax_41 rfl rfl ax_42 ⟨Nat.le_of_ble_eq_true rfl, Nat.le_of_ble_eq_true rfl⟩ rfl rfl (Nat.le_of_ble_eq_true rfl) dX10_addRow_168 ⟨(Nat.le_of_ble_eq_true rfl), (Nat.le_of_ble_eq_true rfl)⟩) hP hD hS hA rfl rfl rfl (by decide) (fun ad168 H locs hP hD hS => ?_)
  have hP : va_P D vwCl [(a1, .inr (4, [v27, v28, .int 0])), (a0, .inr (15, [.int 2, v1, v2, v3, v4, v5, .ref a1, v6, v7, v8, v9, v10, v11, v12, v13, v14, v15, v16, v17, v18, v19, v20, v21, v22, v23, v24, v25, v26]))] H := hP
  have hD : va_D A [(a1, .inr (4, [v27, v28, .int 0])), (a0, .inr (15, [.int 2, v1, v2, v3, v4, v5, .ref a1, v6, v7, v8, v9, v10, v11, v12, v13, v14, v15, v16, v17, v18, v19, v20, v21, v22, v23, v24, v25, v26]))] := hD
  refine lv_if_ne (tgt := 201) hx hb dX10_addRow_171 (by decide) (fun _ => ?_) (fun z => absurd z (by decide))
  refine lv_iconst (v := (-1)) hx hb dX10_addRow_201 (by decide) ?_
  exact en_z hx hb hr hlk hP hD hS rfl (fun _ => 0) (is := [1]) rfl rfl (Nat.le_of_ble_eq_true rfl) (Nat.le_of_ble_eq_true rfl) dX10_addRow_202
set_option maxHeartbeats 4000000 in
set_option maxRecDepth 100000 in
theorem k148_X10_thrown (l : Launch) (D : va_G) (cy : Nat → ClassId) (g : Nat → Nat) (a0 : Nat) (v0 : Value) (v1 : Value) (v2 : Value) (v3 : Value) (v4 : Value) (v5 : Value) (v6 : Value) (v7 : Value) (v8 : Value) (v9 : Value) (v10 : Value) (v11 : Value) (v12 : Value) (v13 : Value) (v14 : Value) (v15 : Value) (v16 : Value) (v17 : Value) (v18 : Value) (v19 : Value) (v20 : Value) (v21 : Value) (v22 : Value) (v23 : Value) (v24 : Value) (v25 : Value) (v26 : Value) (sz : Nat)  : Met l yX10_thrown [.code yX10_thrown cX10_thrown 1 (some .int)] ({ frames := 0, cells := 0, slots := 0, locals := 0 }) (PC D cy g [(a0, .inr (15, [.int 2, v0, v1, v2, v3, v4, v5, v6, v7, v8, v9, v10, v11, v12, v13, v14, v15, v16, v17, v18, v19, v20, v21, v22, v23, v24, v25, v26]))] sz [.ref a0]) (QI D 2 (fun ad => [(a0, .inr (15, [.int 2, v0, v1, v2, v3, v4, v5, v6, v7, v8, v9, v10, v11, v12, v13, v14, v15, v16, v17, v18, v19, v20, v21, v22, v23, v24, v25, v26]))]) (va_A [(a0, .inr (15, [.int 2, v0, v1, v2, v3, v4, v5, v6, v7, v8, v9, v10, v11, v12, v13, v14, v15, v16, v17, v18, v19, v20, v21, v22, v23, v24, v25, v26]))] sz)) 0 0 (va_A [(a0, .inr (15, [.int 2, v0, v1, v2, v3, v4, v5, v6, v7, v8, v9, v10, v11, v12, v13, v14, v15, v16, v17, v18, v19, v20, v21, v22, v23, v24, v25, v26]))] sz) := by
  refine st_I (by decide) (Nat.le_of_ble_eq_true rfl) ?_
  intro p e s m args below meth c A ls hx hb hr hml hown hlk hnm hsz hP hD hA hE hts hS hl
  have hown : s.vm.findClass RX10 = some m.cls := hown
  have hl : lv_has ls 1 [(0, .ref a0)] := hl
  refine lv_aload_n hx hb dX10_thrown_0 rfl (lv_at hl 0 rfl) ?_
  refine va_get (D := D) (ci := 15) (v := .int 2) (C := RX10) (T := TX10) (N := 28) hx hb hts ax_29 hown hE.1 hP 0 rfl rfl 0 (by decide) (hts _ tw_308) (fun _ h9 => h9) rfl dX10_thrown_1 ?_
  exact en_z hx hb hr hlk hP hD hS rfl (fun _ => 0) (is := [0]) rfl rfl (Nat.le_of_ble_eq_true rfl) (Nat.le_of_ble_eq_true rfl) dX10_thrown_4
set_option maxHeartbeats 4000000 in
set_option maxRecDepth 100000 in
theorem k149_X7_reaches (l : Launch) (D : va_G) (cy : Nat → ClassId) (g : Nat → Nat) (x0 : Int32) (a0 : Nat) (v0 : Value) (v1 : Value) (v2 : Value) (v3 : Value) (sz : Nat)  : Met l yX7_reaches [.code yX7_reaches cX7_reaches 2 (some .boolean)] ({ frames := 0, cells := 0, slots := 0, locals := 0 }) (PC D cy g [(a0, .inr (12, [v0, v1, v2, v3, .int 0]))] sz [.ref a0, .int x0]) (QI D 0 (fun ad => [(a0, .inr (12, [v0, v1, v2, v3, .int 0]))]) (va_A [(a0, .inr (12, [v0, v1, v2, v3, .int 0]))] sz)) 0 0 (va_A [(a0, .inr (12, [v0, v1, v2, v3, .int 0]))] sz) := by
  refine st_I (by decide) (Nat.le_of_ble_eq_true rfl) ?_
  intro p e s m args below meth c A ls hx hb hr hml hown hlk hnm hsz hP hD hA hE hts hS hl
  have hown : s.vm.findClass RX7 = some m.cls := hown
  have hl : lv_has ls 2 [(0, .ref a0), (1, .int x0)] := hl
  refine lv_aload_n hx hb dX7_reaches_0 rfl (lv_at hl 0 rfl) ?_
  refine va_get (D := D) (ci := 12) (v := .int 0) (C := RX7) (T := TX7) (N := 5) hx hb hts ax_3 hown hE.1 hP 0 rfl rfl 4 (by decide) (hts _ tw_44) (fun _ h9 => h9) rfl dX7_reaches_1 ?_
  refine lv_if_le (tgt := 45) hx hb dX7_reaches_4 (by decide) (fun _ => ?_) (fun z => absurd (by decide) z)
  refine lv_iconst (v := 0) hx hb dX7_reaches_45 (by decide) ?_
  exact en_z hx hb hr hlk hP hD hS rfl (fun _ => 0) (is := [0]) rfl rfl (Nat.le_of_ble_eq_true rfl) (Nat.le_of_ble_eq_true rfl) dX7_reaches_46
set_option maxHeartbeats 4000000 in
set_option maxRecDepth 100000 in
theorem k150_X9_requireRows (l : Launch) (hst : l.stackTraces = false) (D : va_G) (cy : Nat → ClassId) (g : Nat → Nat) (x0 : Int32) (a0 : Nat) (a1 : Nat) (v0 : Value) (v1 : Value) (v2 : Value) (v3 : Value) (v4 : Value) (v5 : Value) (v6 : Value) (v7 : Value) (v8 : Value) (v9 : Value) (sz : Nat)  : vx_Met l yX9_requireRows [.code yX9_requireRows cX9_requireRows 2 none] ({ frames := 6, cells := 1, slots := 6, locals := 82 }) (PC D cy g [(a0, .inr (14, [v0, .ref a1, v1, v2, v3, v4, v5])), (a1, .inr (12, [v6, v7, v8, v9, .int 0]))] sz [.ref a0, .int x0]) QN (XE "java/util/NoSuchElementException" (va_A [(a0, .inr (14, [v0, .ref a1, v1, v2, v3, v4, v5])), (a1, .inr (12, [v6, v7, v8, v9, .int 0]))] sz)) 1 6 (va_A [(a0, .inr (14, [v0, .ref a1, v1, v2, v3, v4, v5])), (a1, .inr (12, [v6, v7, v8, v9, .int 0]))] sz) := by
  refine st_X (by decide) (Nat.le_of_ble_eq_true rfl) ?_
  intro p e s m args below meth c A ls hx hb hr hml hown hlk hnm hsz hP hD hA hE hts hS hl hout
  have hown : s.vm.findClass RX9 = some m.cls := hown
  have hl : lv_has ls 2 [(0, .ref a0), (1, .int x0)] := hl
  refine lv_aload_n hx hb dX9_requireRows_0 rfl (lv_at hl 0 rfl) ?_
  refine va_get (D := D) (ci := 14) (v := .ref a1) (C := RX9) (T := TX9) (N := 7) hx hb hts ax_16 hown hE.1 hP 0 rfl rfl 1 (by decide) (hts _ tw_186) (fun _ h9 => h9) rfl dX9_requireRows_1 ?_
  refine lv_iload_n hx hb dX9_requireRows_4 rfl (lv_at hl 1 rfl) ?_
  refine ca_i (isC := [1]) (isR := [0]) (wr := [(a0, .inr (14, [v0, .ref a1, v1, v2, v3, v4, v5]))]) (rn_V (ci := 12) (q0 := 1) (isC := [1]) (wc := [(a1, .inr (12, [v6, v7, v8, v9, .int 0]))]) (As := [.int x0]) (rest := []) (n := 1) hx hb hml hown hts hE hS hP hD hA hl.1 (k149_X7_reaches l D cy g x0 a1 (v6) (v7) (v8) (v9) s.heap.size ) rfl rfl rfl rfl rfl ax_130 rfl rfl ax_131 ⟨Nat.le_of_ble_eq_true rfl, Nat.le_of_ble_eq_true rfl⟩ rfl rfl (Nat.le_of_ble_eq_true rfl) dX9_requireRows_5 ⟨(Nat.le_of_ble_eq_true rfl), (Nat.le_of_ble_eq_true rfl)⟩) hP hD hS hA rfl rfl rfl (by decide) (fun ad5 H locs hP hD hS => ?_)
  have hP : va_P D vwCl [(a0, .inr (14, [v0, .ref a1, v1, v2, v3, v4, v5])), (a1, .inr (12, [v6, v7, v8, v9, .int 0]))] H := hP
  have hD : va_D A [(a0, .inr (14, [v0, .ref a1, v1, v2, v3, v4, v5])), (a1, .inr (12, [v6, v7, v8, v9, .int 0]))] := hD
  refine lv_if_ne (tgt := 22) hx hb dX9_requireRows_8 (by decide) (fun z => absurd (by decide) z) (fun _ => ?_)
  exact th_NW (text := "the pressure is beyond the rows") hx hb hst hown hts hE hS (hl.1.trans hml.symm) hout hlk tw_524 tw_525 (by decide +kernel) dX9_requireRows_11 dX9_requireRows_14 dX9_requireRows_15 dX9_requireRows_18 dX9_requireRows_21 ⟨Nat.le_of_ble_eq_true rfl, Nat.le_of_ble_eq_true rfl, Nat.le_of_ble_eq_true rfl, Nat.le_of_ble_eq_true rfl⟩ (Nat.le_of_ble_eq_true rfl) (Nat.le_of_ble_eq_true rfl)
set_option maxHeartbeats 4000000 in
set_option maxRecDepth 100000 in
theorem k151_X9_getBoiling (l : Launch) (hst : l.stackTraces = false) (D : va_G) (cy : Nat → ClassId) (g : Nat → Nat) (x0 : Int32) (a0 : Nat) (a1 : Nat) (v0 : Value) (v1 : Value) (v2 : Value) (v3 : Value) (v4 : Value) (v5 : Value) (v6 : Value) (v7 : Value) (v8 : Value) (v9 : Value) (sz : Nat)  : vx_Met l yX9_getBoiling [.code yX9_getBoiling cX9_getBoiling 2 (some .int)] ({ frames := 7, cells := 1, slots := 6, locals := 103 }) (PC D cy g [(a0, .inr (14, [v0, .ref a1, v1, v2, v3, v4, v5])), (a1, .inr (12, [v6, v7, v8, v9, .int 0]))] sz [.ref a0, .int x0]) QN (XE "java/util/NoSuchElementException" (va_A [(a0, .inr (14, [v0, .ref a1, v1, v2, v3, v4, v5])), (a1, .inr (12, [v6, v7, v8, v9, .int 0]))] sz)) 1 6 (va_A [(a0, .inr (14, [v0, .ref a1, v1, v2, v3, v4, v5])), (a1, .inr (12, [v6, v7, v8, v9, .int 0]))] sz) := by
  refine st_X (by decide) (Nat.le_of_ble_eq_true rfl) ?_
  intro p e s m args below meth c A ls hx hb hr hml hown hlk hnm hsz hP hD hA hE hts hS hl hout
  have hown : s.vm.findClass RX9 = some m.cls := hown
  have hl : lv_has ls 2 [(0, .ref a0), (1, .int x0)] := hl
  refine lv_aload_n hx hb dX9_getBoiling_0 rfl (lv_at hl 0 rfl) ?_
  refine lv_iload_n hx hb dX9_getBoiling_1 rfl (lv_at hl 1 rfl) ?_
  exact cx_out (isC := [0, 1]) (rx_V (ci := 14) (q0 := 0) (isC := [0, 1]) (wc := [(a0, .inr (14, [v0, .ref a1, v1, v2, v3, v4, v5])), (a1, .inr (12, [v6, v7, v8, v9, .int 0]))]) (As := [.int x0]) (rest := []) (n := 1) hx hb hml hown hts hE hS hP hD hA hl.1 (k150_X9_requireRows l hst D cy g x0 a0 a1 (v0) (v1) (v2) (v3) (v4) (v5) (v6) (v7) (v8) (v9) s.heap.size ) rfl rfl rfl rfl rfl ax_132 rfl rfl ax_133 ⟨Nat.le_of_ble_eq_true rfl, Nat.le_of_ble_eq_true rfl⟩ rfl rfl (Nat.le_of_ble_eq_true rfl) dX9_getBoiling_2 ⟨(Nat.le_of_ble_eq_true rfl), (Nat.le_of_ble_eq_true rfl)⟩) hD hS hA rfl hout hlk (Nat.le_of_ble_eq_true rfl) (Nat.le_of_ble_eq_true rfl)
set_option maxHeartbeats 4000000 in
set_option maxRecDepth 100000 in
theorem k152_L_getBoiling (l : Launch) (hst : l.stackTraces = false) (D : va_G) (cy : Nat → ClassId) (g : Nat → Nat) (x0 : Int32) (a0 : Nat) (a1 : Nat) (b0 : Nat) (v0 : Value) (v1 : Value) (v2 : Value) (v3 : Value) (v4 : Value) (v5 : Value) (v6 : Value) (v7 : Value) (v8 : Value) (v9 : Value) (sz : Nat)  : Met l yL_getBoiling [.codeWith yL_getBoiling cL_getBoiling 4 (some .int) [(0, 9, 12, 45)]] ({ frames := 8, cells := 1, slots := 6, locals := 124 }) (PC D cy g [(a0, .inr (14, [v0, .ref a1, v1, v2, v3, v4, v5])), (a1, .inr (12, [v6, v7, v8, v9, .int 0]))] sz [.ref a0, .int x0, .ref b0]) (QI D 1 (fun ad => []) (va_A [(a0, .inr (14, [v0, .ref a1, v1, v2, v3, v4, v5])), (a1, .inr (12, [v6, v7, v8, v9, .int 0]))] sz)) 1 6 (va_A [(a0, .inr (14, [v0, .ref a1, v1, v2, v3, v4, v5])), (a1, .inr (12, [v6, v7, v8, v9, .int 0]))] sz) := by
  refine sh_I (by decide) (Nat.le_of_ble_eq_true rfl) ?_
  intro p e s m args below meth c A ls hx hb hr hml hown hlk hnm hsz hP hD hA hE hts hS hl htb
  have hown : s.vm.findClass RL = some m.cls := hown
  have hl : lv_has ls 4 [(0, .ref a0), (1, .int x0), (2, .ref b0)] := hl
  refine lv_aload_n hx hb dL_getBoiling_0 rfl (lv_at hl 2 rfl) ?_
  refine lv_iconst (v := 0) hx hb dL_getBoiling_1 (by decide) ?_
  refine lv_aload_n hx hb dL_getBoiling_2 rfl (lv_at hl 0 rfl) ?_
  refine lv_iload_n hx hb dL_getBoiling_3 rfl (lv_at hl 1 rfl) ?_
  refine cx_catch (isC := [0, 1]) (isR := []) (wr := []) (hp := []) (z := (0, 9, 12, 45)) (hq := []) (name := "java/util/NoSuchElementException") (own := RL) (rx_V (ci := 14) (q0 := 0) (isC := [0, 1]) (wc := [(a0, .inr (14, [v0, .ref a1, v1, v2, v3, v4, v5])), (a1, .inr (12, [v6, v7, v8, v9, .int 0]))]) (As := [.int x0]) (rest := [.int 0, .ref b0]) (n := 1) hx hb hml hown hts hE hS hP hD hA hl.1 (k151_X9_getBoiling l hst D cy g x0 a0 a1 (v0) (v1) (v2) (v3) (v4) (v5) (v6) (v7) (v8) (v9) s.heap.size ) rfl rfl rfl rfl rfl ax_134 rfl rfl ax_135 ⟨Nat.le_of_ble_eq_true rfl, Nat.le_of_ble_eq_true rfl⟩ rfl rfl (Nat.le_of_ble_eq_true rfl) dL_getBoiling_4 ⟨(Nat.le_of_ble_eq_true rfl), (Nat.le_of_ble_eq_true rfl)⟩) hP hD hS hA hown hts hE htb rfl rfl rfl rfl (by decide) (fun z hz => by cases hz) (by decide) (by decide) tw_534 tw_535 (fun qx H locs hP hD hS => ?_)
  have hP : va_P D vwCl [] H := hP
  have hD : va_D A [] := hD
  refine lv_astore_n (lv' := [(3, .ref qx), (0, .ref a0), (1, .int x0), (2, .ref b0)]) hx hb dL_getBoiling_12 rfl hl (Nat.le_of_ble_eq_true rfl) rfl (fun ls hl => ?_)
  refine lv_iconst (v := 1) hx hb dL_getBoiling_13 (by decide) ?_
  exact en_z hx hb hr hlk hP hD hS rfl (fun _ => 0) (is := []) rfl rfl (Nat.le_of_ble_eq_true rfl) (Nat.le_of_ble_eq_true rfl) dL_getBoiling_14
set_option maxHeartbeats 4000000 in
set_option maxRecDepth 100000 in
theorem k153_X10_isIn (l : Launch) (D : va_G) (cy : Nat → ClassId) (g : Nat → Nat) (x0 : Int32) (a0 : Nat) (a1 : Nat) (v0 : Value) (v1 : Value) (v2 : Value) (v3 : Value) (v4 : Value) (v5 : Value) (v6 : Value) (v7 : Value) (v8 : Value) (v9 : Value) (v10 : Value) (v11 : Value) (v12 : Value) (v13 : Value) (v14 : Value) (v15 : Value) (v16 : Value) (v17 : Value) (v18 : Value) (v19 : Value) (v20 : Value) (v21 : Value) (v22 : Value) (v23 : Value) (v24 : Value) (v25 : Value) (v26 : Value) (v27 : Value) (v28 : Value) (sz : Nat)  : Met l yX10_isIn [.code yX10_isIn cX10_isIn 2 (some .boolean)] ({ frames := 1, cells := 0, slots := 0, locals := 20 }) (PC D cy g [(a0, .inr (15, [v0, v1, v2, v3, v4, v5, .ref a1, v6, v7, v8, v9, v10, v11, v12, v13, v14, v15, v16, v17, v18, v19, v20, v21, v22, v23, v24, v25, v26])), (a1, .inr (4, [v27, v28, .int 0]))] sz [.ref a0, .int x0]) (QI D 0 (fun ad => [(a0, .inr (15, [v0, v1, v2, v3, v4, v5, .ref a1, v6, v7, v8, v9, v10, v11, v12, v13, v14, v15, v16, v17, v18, v19, v20, v21, v22, v23, v24, v25, v26])), (a1, .inr (4, [v27, v28, .int 0]))]) (va_A [(a0, .inr (15, [v0, v1, v2, v3, v4, v5, .ref a1, v6, v7, v8, v9, v10, v11, v12, v13, v14, v15, v16, v17, v18, v19, v20, v21, v22, v23, v24, v25, v26])), (a1, .inr (4, [v27, v28, .int 0]))] sz)) 0 0 (va_A [(a0, .inr (15, [v0, v1, v2, v3, v4, v5, .ref a1, v6, v7, v8, v9, v10, v11, v12, v13, v14, v15, v16, v17, v18, v19, v20, v21, v22, v23, v24, v25, v26])), (a1, .inr (4, [v27, v28, .int 0]))] sz) := by
  refine st_I (by decide) (Nat.le_of_ble_eq_true rfl) ?_
  intro p e s m args below meth c A ls hx hb hr hml hown hlk hnm hsz hP hD hA hE hts hS hl
  have hown : s.vm.findClass RX10 = some m.cls := hown
  have hl : lv_has ls 2 [(0, .ref a0), (1, .int x0)] := hl
  refine lv_aload_n hx hb dX10_isIn_0 rfl (lv_at hl 0 rfl) ?_
  refine va_get (D := D) (ci := 15) (v := .ref a1) (C := RX10) (T := TX10) (N := 28) hx hb hts ax_29 hown hE.1 hP 0 rfl rfl 6 (by decide) (hts _ tw_278) (fun _ h9 => h9) rfl dX10_isIn_1 ?_
  refine ca_Fi (isC := [1]) (isR := [0]) (wr := [(a0, .inr (15, [v0, v1, v2, v3, v4, v5, .ref a1, v6, v7, v8, v9, v10, v11, v12, v13, v14, v15, v16, v17, v18, v19, v20, v21, v22, v23, v24, v25, v26]))]) (rn_F (ci := 4) (q0 := 1) (isC := [1]) (wc := [(a1, .inr (4, [v27, v28, .int 0]))]) (As := []) (rest := []) (n := 0) hx hb hml hown hts hE hS hP hD hA hl.1 (k139_Jx4a65c_isEmpty_aae02 l D cy g a1 (v27) (v28) s.heap.size ) rfl rfl rfl rfl rfl ax_127 tw_512 tw_513 tw_514 tw_515 tw_371 rfl rfl ax_128 ⟨Nat.le_of_ble_eq_true rfl, Nat.le_of_ble_eq_true rfl⟩ rfl rfl (Nat.le_of_ble_eq_true rfl) dX10_isIn_4 ⟨(Nat.le_of_ble_eq_true rfl), (Nat.le_of_ble_eq_true rfl)⟩) hP hD hS hA rfl rfl rfl (by decide) (fun ad4 H locs hP hD hS => ?_)
  have hP : va_P D vwCl [(a0, .inr (15, [v0, v1, v2, v3, v4, v5, .ref a1, v6, v7, v8, v9, v10, v11, v12, v13, v14, v15, v16, v17, v18, v19, v20, v21, v22, v23, v24, v25, v26])), (a1, .inr (4, [v27, v28, .int 0]))] H := hP
  have hD : va_D A [(a0, .inr (15, [v0, v1, v2, v3, v4, v5, .ref a1, v6, v7, v8, v9, v10, v11, v12, v13, v14, v15, v16, v17, v18, v19, v20, v21, v22, v23, v24, v25, v26])), (a1, .inr (4, [v27, v28, .int 0]))] := hD
  refine lv_if_ne (tgt := 66) hx hb dX10_isIn_9 (by decide) (fun _ => ?_) (fun z => absurd z (by decide))
  refine lv_iconst (v := 0) hx hb dX10_isIn_66 (by decide) ?_
  exact en_z hx hb hr hlk hP hD hS rfl (fun _ => 0) (is := [0, 1]) rfl rfl (Nat.le_of_ble_eq_true rfl) (Nat.le_of_ble_eq_true rfl) dX10_isIn_67
set_option maxHeartbeats 4000000 in
set_option maxRecDepth 100000 in
theorem k154_X10_rowed (l : Launch) (D : va_G) (cy : Nat → ClassId) (g : Nat → Nat) (x0 : Int32) (a0 : Nat) (a1 : Nat) (v0 : Value) (v1 : Value) (v2 : Value) (v3 : Value) (v4 : Value) (v5 : Value) (v6 : Value) (v7 : Value) (v8 : Value) (v9 : Value) (v10 : Value) (v11 : Value) (v12 : Value) (v13 : Value) (v14 : Value) (v15 : Value) (v16 : Value) (v17 : Value) (v18 : Value) (v19 : Value) (v20 : Value) (v21 : Value) (v22 : Value) (v23 : Value) (v24 : Value) (v25 : Value) (v26 : Value) (v27 : Value) (sz : Nat)  : Met l yX10_rowed [.code yX10_rowed cX10_rowed 3 (some .int)] ({ frames := 2, cells := 0, slots := 0, locals := 41 }) (PC D cy g [(a0, .inr (15, [.int 0, v0, v1, v2, v3, v4, .ref a1, v5, v6, v7, v8, v9, v10, v11, v12, v13, v14, v15, v16, v17, v18, v19, v20, v21, v22, v23, v24, v25])), (a1, .inr (4, [v26, v27, .int 0]))] sz [.ref a0, .int x0, .int 1]) (QI D (-1) (fun ad => [(a0, .inr (15, [.int 1, v0, v1, v2, v3, v4, .ref a1, v5, v6, v7, v8, v9, v10, v11, v12, v13, v14, v15, v16, v17, v18, v19, v20, v21, v22, v23, v24, v25])), (a1, .inr (4, [v26, v27, .int 0]))]) (va_A [(a0, .inr (15, [.int 0, v0, v1, v2, v3, v4, .ref a1, v5, v6, v7, v8, v9, v10, v11, v12, v13, v14, v15, v16, v17, v18, v19, v20, v21, v22, v23, v24, v25])), (a1, .inr (4, [v26, v27, .int 0]))] sz)) 0 0 (va_A [(a0, .inr (15, [.int 0, v0, v1, v2, v3, v4, .ref a1, v5, v6, v7, v8, v9, v10, v11, v12, v13, v14, v15, v16, v17, v18, v19, v20, v21, v22, v23, v24, v25])), (a1, .inr (4, [v26, v27, .int 0]))] sz) := by
  refine st_I (by decide) (Nat.le_of_ble_eq_true rfl) ?_
  intro p e s m args below meth c A ls hx hb hr hml hown hlk hnm hsz hP hD hA hE hts hS hl
  have hown : s.vm.findClass RX10 = some m.cls := hown
  have hl : lv_has ls 3 [(0, .ref a0), (1, .int x0), (2, .int 1)] := hl
  refine lv_aload_n hx hb dX10_rowed_0 rfl (lv_at hl 0 rfl) ?_
  refine lv_aload_n hx hb dX10_rowed_1 rfl (lv_at hl 0 rfl) ?_
  refine lv_iload_n hx hb dX10_rowed_2 rfl (lv_at hl 1 rfl) ?_
  refine ca_i (isC := [0, 1]) (isR := []) (wr := []) (rn_V (ci := 15) (q0 := 0) (isC := [0, 1]) (wc := [(a0, .inr (15, [.int 0, v0, v1, v2, v3, v4, .ref a1, v5, v6, v7, v8, v9, v10, v11, v12, v13, v14, v15, v16, v17, v18, v19, v20, v21, v22, v23, v24, v25])), (a1, .inr (4, [v26, v27, .int 0]))]) (As := [.int x0]) (rest := [.ref a0]) (n := 1) hx hb hml hown hts hE hS hP hD hA hl.1 (k153_X10_isIn l D cy g x0 a0 a1 (.int 0) (v0) (v1) (v2) (v3) (v4) (v5) (v6) (v7) (v8) (v9) (v10) (v11) (v12) (v13) (v14) (v15) (v16) (v17) (v18) (v19) (v20) (v21) (v22) (v23) (v24) (v25) (v26) (v27) s.heap.size ) rfl rfl rfl rfl rfl ax_138 rfl rfl ax_139 ⟨Nat.le_of_ble_eq_true rfl, Nat.le_of_ble_eq_true rfl⟩ rfl rfl (Nat.le_of_ble_eq_true rfl) dX10_rowed_3 ⟨(Nat.le_of_ble_eq_true rfl), (Nat.le_of_ble_eq_true rfl)⟩) hP hD hS hA rfl rfl rfl (by decide) (fun ad3 H locs hP hD hS => ?_)
  have hP : va_P D vwCl [(a0, .inr (15, [.int 0, v0, v1, v2, v3, v4, .ref a1, v5, v6, v7, v8, v9, v10, v11, v12, v13, v14, v15, v16, v17, v18, v19, v20, v21, v22, v23, v24, v25])), (a1, .inr (4, [v26, v27, .int 0]))] H := hP
  have hD : va_D A [(a0, .inr (15, [.int 0, v0, v1, v2, v3, v4, .ref a1, v5, v6, v7, v8, v9, v10, v11, v12, v13, v14, v15, v16, v17, v18, v19, v20, v21, v22, v23, v24, v25])), (a1, .inr (4, [v26, v27, .int 0]))] := hD
  refine lv_if_ne (tgt := 13) hx hb dX10_rowed_6 (by decide) (fun z => absurd (by decide) z) (fun _ => ?_)
  refine lv_iconst (v := 1) hx hb dX10_rowed_9 (by decide) ?_
  refine lv_goto (tgt := 14) hx hb dX10_rowed_10 (by decide) ?_
  refine lv_iconst (v := 1) hx hb dX10_rowed_14 (by decide) ?_
  refine ca_i (isC := [0]) (isR := [1]) (wr := [(a1, .inr (4, [v26, v27, .int 0]))]) (rn_V (ci := 15) (q0 := 0) (isC := [0]) (wc := [(a0, .inr (15, [.int 0, v0, v1, v2, v3, v4, .ref a1, v5, v6, v7, v8, v9, v10, v11, v12, v13, v14, v15, v16, v17, v18, v19, v20, v21, v22, v23, v24, v25]))]) (As := [.int 1, .int 1]) (rest := []) (n := 2) hx hb hml hown hts hE hS hP hD hA hl.1 (k22_X10_fails l D cy g a0 (v0) (v1) (v2) (v3) (v4) (.ref a1) (v5) (v6) (v7) (v8) (v9) (v10) (v11) (v12) (v13) (v14) (v15) (v16) (v17) (v18) (v19) (v20) (v21) (v22) (v23) (v24) (v25) H.size ) rfl rfl rfl rfl rfl ax_41 rfl rfl ax_42 ⟨Nat.le_of_ble_eq_true rfl, Nat.le_of_ble_eq_true rfl⟩ rfl rfl (Nat.le_of_ble_eq_true rfl) dX10_rowed_15 ⟨(Nat.le_of_ble_eq_true rfl), (Nat.le_of_ble_eq_true rfl)⟩) hP hD hS hA rfl rfl rfl (by decide) (fun ad15 H locs hP hD hS => ?_)
  have hP : va_P D vwCl [(a1, .inr (4, [v26, v27, .int 0])), (a0, .inr (15, [.int 1, v0, v1, v2, v3, v4, .ref a1, v5, v6, v7, v8, v9, v10, v11, v12, v13, v14, v15, v16, v17, v18, v19, v20, v21, v22, v23, v24, v25]))] H := hP
  have hD : va_D A [(a1, .inr (4, [v26, v27, .int 0])), (a0, .inr (15, [.int 1, v0, v1, v2, v3, v4, .ref a1, v5, v6, v7, v8, v9, v10, v11, v12, v13, v14, v15, v16, v17, v18, v19, v20, v21, v22, v23, v24, v25]))] := hD
  refine lv_if_eq (tgt := 25) hx hb dX10_rowed_18 (by decide) (fun z => absurd z (by decide)) (fun _ => ?_)
  refine lv_iconst (v := (-1)) hx hb dX10_rowed_21 (by decide) ?_
  refine lv_goto (tgt := 31) hx hb dX10_rowed_22 (by decide) ?_
  exact en_z hx hb hr hlk hP hD hS rfl (fun _ => 0) (is := [1, 0]) rfl rfl (Nat.le_of_ble_eq_true rfl) (Nat.le_of_ble_eq_true rfl) dX10_rowed_31
set_option maxHeartbeats 4000000 in
set_option maxRecDepth 100000 in
theorem k155_X10_getBoiling (l : Launch) (D : va_G) (cy : Nat → ClassId) (g : Nat → Nat) (x0 : Int32) (a0 : Nat) (a1 : Nat) (v0 : Value) (v1 : Value) (v2 : Value) (v3 : Value) (v4 : Value) (v5 : Value) (v6 : Value) (v7 : Value) (v8 : Value) (v9 : Value) (v10 : Value) (v11 : Value) (v12 : Value) (v13 : Value) (v14 : Value) (v15 : Value) (v16 : Value) (v17 : Value) (v18 : Value) (v19 : Value) (v20 : Value) (v21 : Value) (v22 : Value) (v23 : Value) (v24 : Value) (v25 : Value) (v26 : Value) (v27 : Value) (v28 : Value) (sz : Nat)  : Met l yX10_getBoiling [.code yX10_getBoiling cX10_getBoiling 2 (some .int)] ({ frames := 3, cells := 0, slots := 0, locals := 63 }) (PC D cy g [(a0, .inr (15, [v0, v1, v2, v3, v4, v5, .ref a1, v6, v7, v8, v9, v10, v11, v12, v13, v14, v15, v16, v17, v18, v19, v20, v21, v22, v23, v24, v25, v26])), (a1, .inr (4, [v27, v28, .int 0]))] sz [.ref a0, .int x0]) (QI D (-1) (fun ad => [(a0, .inr (15, [.int 1, v1, v2, v3, v4, v5, .ref a1, v6, v7, v8, v9, v10, v11, v12, v13, v14, v15, v16, v17, v18, v19, v20, v21, v22, v23, v24, v25, v26]))]) (va_A [(a0, .inr (15, [v0, v1, v2, v3, v4, v5, .ref a1, v6, v7, v8, v9, v10, v11, v12, v13, v14, v15, v16, v17, v18, v19, v20, v21, v22, v23, v24, v25, v26])), (a1, .inr (4, [v27, v28, .int 0]))] sz)) 0 0 (va_A [(a0, .inr (15, [v0, v1, v2, v3, v4, v5, .ref a1, v6, v7, v8, v9, v10, v11, v12, v13, v14, v15, v16, v17, v18, v19, v20, v21, v22, v23, v24, v25, v26])), (a1, .inr (4, [v27, v28, .int 0]))] sz) := by
  refine st_I (by decide) (Nat.le_of_ble_eq_true rfl) ?_
  intro p e s m args below meth c A ls hx hb hr hml hown hlk hnm hsz hP hD hA hE hts hS hl
  have hown : s.vm.findClass RX10 = some m.cls := hown
  have hl : lv_has ls 2 [(0, .ref a0), (1, .int x0)] := hl
  refine lv_aload_n hx hb dX10_getBoiling_0 rfl (lv_at hl 0 rfl) ?_
  refine ca_v (isC := [0]) (isR := [1]) (wr := [(a1, .inr (4, [v27, v28, .int 0]))]) (rn_V (ci := 15) (q0 := 0) (isC := [0]) (wc := [(a0, .inr (15, [v0, v1, v2, v3, v4, v5, .ref a1, v6, v7, v8, v9, v10, v11, v12, v13, v14, v15, v16, v17, v18, v19, v20, v21, v22, v23, v24, v25, v26]))]) (As := []) (rest := []) (n := 0) hx hb hml hown hts hE hS hP hD hA hl.1 (k20_X10_begins l D cy g a0 (v0) (v1) (v2) (v3) (v4) (v5) (.ref a1) (v6) (v7) (v8) (v9) (v10) (v11) (v12) (v13) (v14) (v15) (v16) (v17) (v18) (v19) (v20) (v21) (v22) (v23) (v24) (v25) (v26) s.heap.size ) rfl rfl rfl rfl rfl ax_37 rfl rfl ax_38 ⟨Nat.le_of_ble_eq_true rfl, Nat.le_of_ble_eq_true rfl⟩ rfl rfl (Nat.le_of_ble_eq_true rfl) dX10_getBoiling_1 ⟨(Nat.le_of_ble_eq_true rfl), (Nat.le_of_ble_eq_true rfl)⟩) hP hD hS hA rfl rfl rfl (by decide) (fun ad1 H locs hP hD hS => ?_)
  have hP : va_P D vwCl [(a1, .inr (4, [v27, v28, .int 0])), (a0, .inr (15, [.int 0, v1, v2, v3, v4, v5, .ref a1, v6, v7, v8, v9, v10, v11, v12, v13, v14, v15, v16, v17, v18, v19, v20, v21, v22, v23, v24, v25, v26]))] H := hP
  have hD : va_D A [(a1, .inr (4, [v27, v28, .int 0])), (a0, .inr (15, [.int 0, v1, v2, v3, v4, v5, .ref a1, v6, v7, v8, v9, v10, v11, v12, v13, v14, v15, v16, v17, v18, v19, v20, v21, v22, v23, v24, v25, v26]))] := hD
  refine lv_aload_n hx hb dX10_getBoiling_4 rfl (lv_at hl 0 rfl) ?_
  refine lv_iload_n hx hb dX10_getBoiling_5 rfl (lv_at hl 1 rfl) ?_
  refine lv_iconst (v := 1) hx hb dX10_getBoiling_6 (by decide) ?_
  refine ca_i (isC := [1, 0]) (isR := []) (wr := []) (rn_V (ci := 15) (q0 := 1) (isC := [1, 0]) (wc := [(a0, .inr (15, [.int 0, v1, v2, v3, v4, v5, .ref a1, v6, v7, v8, v9, v10, v11, v12, v13, v14, v15, v16, v17, v18, v19, v20, v21, v22, v23, v24, v25, v26])), (a1, .inr (4, [v27, v28, .int 0]))]) (As := [.int x0, .int 1]) (rest := []) (n := 2) hx hb hml hown hts hE hS hP hD hA hl.1 (k154_X10_rowed l D cy g x0 a0 a1 (v1) (v2) (v3) (v4) (v5) (v6) (v7) (v8) (v9) (v10) (v11) (v12) (v13) (v14) (v15) (v16) (v17) (v18) (v19) (v20) (v21) (v22) (v23) (v24) (v25) (v26) (v27) (v28) H.size ) rfl rfl rfl rfl rfl ax_140 rfl rfl ax_141 ⟨Nat.le_of_ble_eq_true rfl, Nat.le_of_ble_eq_true rfl⟩ rfl rfl (Nat.le_of_ble_eq_true rfl) dX10_getBoiling_7 ⟨(Nat.le_of_ble_eq_true rfl), (Nat.le_of_ble_eq_true rfl)⟩) hP hD hS hA rfl rfl rfl (by decide) (fun ad7 H locs hP hD hS => ?_)
  have hP : va_P D vwCl [(a0, .inr (15, [.int 1, v1, v2, v3, v4, v5, .ref a1, v6, v7, v8, v9, v10, v11, v12, v13, v14, v15, v16, v17, v18, v19, v20, v21, v22, v23, v24, v25, v26])), (a1, .inr (4, [v27, v28, .int 0]))] H := hP
  have hD : va_D A [(a0, .inr (15, [.int 1, v1, v2, v3, v4, v5, .ref a1, v6, v7, v8, v9, v10, v11, v12, v13, v14, v15, v16, v17, v18, v19, v20, v21, v22, v23, v24, v25, v26])), (a1, .inr (4, [v27, v28, .int 0]))] := hD
  exact en_z hx hb hr hlk hP hD hS rfl (fun _ => 0) (is := [0]) rfl rfl (Nat.le_of_ble_eq_true rfl) (Nat.le_of_ble_eq_true rfl) dX10_getBoiling_10
set_option maxHeartbeats 4000000 in
set_option maxRecDepth 100000 in
theorem k156_X9_getLiquid (l : Launch) (hst : l.stackTraces = false) (D : va_G) (cy : Nat → ClassId) (g : Nat → Nat) (x0 : Int32) (a0 : Nat) (a1 : Nat) (v0 : Value) (v1 : Value) (v2 : Value) (v3 : Value) (v4 : Value) (v5 : Value) (v6 : Value) (v7 : Value) (v8 : Value) (v9 : Value) (sz : Nat)  : vx_Met l yX9_getLiquid [.code yX9_getLiquid cX9_getLiquid 2 (some .int)] ({ frames := 7, cells := 1, slots := 6, locals := 103 }) (PC D cy g [(a0, .inr (14, [v0, .ref a1, v1, v2, v3, v4, v5])), (a1, .inr (12, [v6, v7, v8, v9, .int 0]))] sz [.ref a0, .int x0]) QN (XE "java/util/NoSuchElementException" (va_A [(a0, .inr (14, [v0, .ref a1, v1, v2, v3, v4, v5])), (a1, .inr (12, [v6, v7, v8, v9, .int 0]))] sz)) 1 6 (va_A [(a0, .inr (14, [v0, .ref a1, v1, v2, v3, v4, v5])), (a1, .inr (12, [v6, v7, v8, v9, .int 0]))] sz) := by
  refine st_X (by decide) (Nat.le_of_ble_eq_true rfl) ?_
  intro p e s m args below meth c A ls hx hb hr hml hown hlk hnm hsz hP hD hA hE hts hS hl hout
  have hown : s.vm.findClass RX9 = some m.cls := hown
  have hl : lv_has ls 2 [(0, .ref a0), (1, .int x0)] := hl
  refine lv_aload_n hx hb dX9_getLiquid_0 rfl (lv_at hl 0 rfl) ?_
  refine lv_iload_n hx hb dX9_getLiquid_1 rfl (lv_at hl 1 rfl) ?_
  exact cx_out (isC := [0, 1]) (rx_V (ci := 14) (q0 := 0) (isC := [0, 1]) (wc := [(a0, .inr (14, [v0, .ref a1, v1, v2, v3, v4, v5])), (a1, .inr (12, [v6, v7, v8, v9, .int 0]))]) (As := [.int x0]) (rest := []) (n := 1) hx hb hml hown hts hE hS hP hD hA hl.1 (k150_X9_requireRows l hst D cy g x0 a0 a1 (v0) (v1) (v2) (v3) (v4) (v5) (v6) (v7) (v8) (v9) s.heap.size ) rfl rfl rfl rfl rfl ax_132 rfl rfl ax_133 ⟨Nat.le_of_ble_eq_true rfl, Nat.le_of_ble_eq_true rfl⟩ rfl rfl (Nat.le_of_ble_eq_true rfl) dX9_getLiquid_2 ⟨(Nat.le_of_ble_eq_true rfl), (Nat.le_of_ble_eq_true rfl)⟩) hD hS hA rfl hout hlk (Nat.le_of_ble_eq_true rfl) (Nat.le_of_ble_eq_true rfl)
set_option maxHeartbeats 4000000 in
set_option maxRecDepth 100000 in
theorem k157_L_getLiquid (l : Launch) (hst : l.stackTraces = false) (D : va_G) (cy : Nat → ClassId) (g : Nat → Nat) (x0 : Int32) (a0 : Nat) (a1 : Nat) (b0 : Nat) (v0 : Value) (v1 : Value) (v2 : Value) (v3 : Value) (v4 : Value) (v5 : Value) (v6 : Value) (v7 : Value) (v8 : Value) (v9 : Value) (sz : Nat)  : Met l yL_getLiquid [.codeWith yL_getLiquid cL_getLiquid 4 (some .int) [(0, 9, 12, 45)]] ({ frames := 8, cells := 1, slots := 6, locals := 124 }) (PC D cy g [(a0, .inr (14, [v0, .ref a1, v1, v2, v3, v4, v5])), (a1, .inr (12, [v6, v7, v8, v9, .int 0]))] sz [.ref a0, .int x0, .ref b0]) (QI D 1 (fun ad => []) (va_A [(a0, .inr (14, [v0, .ref a1, v1, v2, v3, v4, v5])), (a1, .inr (12, [v6, v7, v8, v9, .int 0]))] sz)) 1 6 (va_A [(a0, .inr (14, [v0, .ref a1, v1, v2, v3, v4, v5])), (a1, .inr (12, [v6, v7, v8, v9, .int 0]))] sz) := by
  refine sh_I (by decide) (Nat.le_of_ble_eq_true rfl) ?_
  intro p e s m args below meth c A ls hx hb hr hml hown hlk hnm hsz hP hD hA hE hts hS hl htb
  have hown : s.vm.findClass RL = some m.cls := hown
  have hl : lv_has ls 4 [(0, .ref a0), (1, .int x0), (2, .ref b0)] := hl
  refine lv_aload_n hx hb dL_getLiquid_0 rfl (lv_at hl 2 rfl) ?_
  refine lv_iconst (v := 0) hx hb dL_getLiquid_1 (by decide) ?_
  refine lv_aload_n hx hb dL_getLiquid_2 rfl (lv_at hl 0 rfl) ?_
  refine lv_iload_n hx hb dL_getLiquid_3 rfl (lv_at hl 1 rfl) ?_
  refine cx_catch (isC := [0, 1]) (isR := []) (wr := []) (hp := []) (z := (0, 9, 12, 45)) (hq := []) (name := "java/util/NoSuchElementException") (own := RL) (rx_V (ci := 14) (q0 := 0) (isC := [0, 1]) (wc := [(a0, .inr (14, [v0, .ref a1, v1, v2, v3, v4, v5])), (a1, .inr (12, [v6, v7, v8, v9, .int 0]))]) (As := [.int x0]) (rest := [.int 0, .ref b0]) (n := 1) hx hb hml hown hts hE hS hP hD hA hl.1 (k156_X9_getLiquid l hst D cy g x0 a0 a1 (v0) (v1) (v2) (v3) (v4) (v5) (v6) (v7) (v8) (v9) s.heap.size ) rfl rfl rfl rfl rfl ax_144 rfl rfl ax_145 ⟨Nat.le_of_ble_eq_true rfl, Nat.le_of_ble_eq_true rfl⟩ rfl rfl (Nat.le_of_ble_eq_true rfl) dL_getLiquid_4 ⟨(Nat.le_of_ble_eq_true rfl), (Nat.le_of_ble_eq_true rfl)⟩) hP hD hS hA hown hts hE htb rfl rfl rfl rfl (by decide) (fun z hz => by cases hz) (by decide) (by decide) tw_534 tw_535 (fun qx H locs hP hD hS => ?_)
  have hP : va_P D vwCl [] H := hP
  have hD : va_D A [] := hD
  refine lv_astore_n (lv' := [(3, .ref qx), (0, .ref a0), (1, .int x0), (2, .ref b0)]) hx hb dL_getLiquid_12 rfl hl (Nat.le_of_ble_eq_true rfl) rfl (fun ls hl => ?_)
  refine lv_iconst (v := 1) hx hb dL_getLiquid_13 (by decide) ?_
  exact en_z hx hb hr hlk hP hD hS rfl (fun _ => 0) (is := []) rfl rfl (Nat.le_of_ble_eq_true rfl) (Nat.le_of_ble_eq_true rfl) dL_getLiquid_14
set_option maxHeartbeats 4000000 in
set_option maxRecDepth 100000 in
theorem k158_X10_rowed (l : Launch) (D : va_G) (cy : Nat → ClassId) (g : Nat → Nat) (x0 : Int32) (a0 : Nat) (a1 : Nat) (v0 : Value) (v1 : Value) (v2 : Value) (v3 : Value) (v4 : Value) (v5 : Value) (v6 : Value) (v7 : Value) (v8 : Value) (v9 : Value) (v10 : Value) (v11 : Value) (v12 : Value) (v13 : Value) (v14 : Value) (v15 : Value) (v16 : Value) (v17 : Value) (v18 : Value) (v19 : Value) (v20 : Value) (v21 : Value) (v22 : Value) (v23 : Value) (v24 : Value) (v25 : Value) (v26 : Value) (v27 : Value) (sz : Nat)  : Met l yX10_rowed [.code yX10_rowed cX10_rowed 3 (some .int)] ({ frames := 2, cells := 0, slots := 0, locals := 41 }) (PC D cy g [(a0, .inr (15, [.int 0, v0, v1, v2, v3, v4, .ref a1, v5, v6, v7, v8, v9, v10, v11, v12, v13, v14, v15, v16, v17, v18, v19, v20, v21, v22, v23, v24, v25])), (a1, .inr (4, [v26, v27, .int 0]))] sz [.ref a0, .int x0, .int 2]) (QI D (-1) (fun ad => [(a0, .inr (15, [.int 1, v0, v1, v2, v3, v4, .ref a1, v5, v6, v7, v8, v9, v10, v11, v12, v13, v14, v15, v16, v17, v18, v19, v20, v21, v22, v23, v24, v25])), (a1, .inr (4, [v26, v27, .int 0]))]) (va_A [(a0, .inr (15, [.int 0, v0, v1, v2, v3, v4, .ref a1, v5, v6, v7, v8, v9, v10, v11, v12, v13, v14, v15, v16, v17, v18, v19, v20, v21, v22, v23, v24, v25])), (a1, .inr (4, [v26, v27, .int 0]))] sz)) 0 0 (va_A [(a0, .inr (15, [.int 0, v0, v1, v2, v3, v4, .ref a1, v5, v6, v7, v8, v9, v10, v11, v12, v13, v14, v15, v16, v17, v18, v19, v20, v21, v22, v23, v24, v25])), (a1, .inr (4, [v26, v27, .int 0]))] sz) := by
  refine st_I (by decide) (Nat.le_of_ble_eq_true rfl) ?_
  intro p e s m args below meth c A ls hx hb hr hml hown hlk hnm hsz hP hD hA hE hts hS hl
  have hown : s.vm.findClass RX10 = some m.cls := hown
  have hl : lv_has ls 3 [(0, .ref a0), (1, .int x0), (2, .int 2)] := hl
  refine lv_aload_n hx hb dX10_rowed_0 rfl (lv_at hl 0 rfl) ?_
  refine lv_aload_n hx hb dX10_rowed_1 rfl (lv_at hl 0 rfl) ?_
  refine lv_iload_n hx hb dX10_rowed_2 rfl (lv_at hl 1 rfl) ?_
  refine ca_i (isC := [0, 1]) (isR := []) (wr := []) (rn_V (ci := 15) (q0 := 0) (isC := [0, 1]) (wc := [(a0, .inr (15, [.int 0, v0, v1, v2, v3, v4, .ref a1, v5, v6, v7, v8, v9, v10, v11, v12, v13, v14, v15, v16, v17, v18, v19, v20, v21, v22, v23, v24, v25])), (a1, .inr (4, [v26, v27, .int 0]))]) (As := [.int x0]) (rest := [.ref a0]) (n := 1) hx hb hml hown hts hE hS hP hD hA hl.1 (k153_X10_isIn l D cy g x0 a0 a1 (.int 0) (v0) (v1) (v2) (v3) (v4) (v5) (v6) (v7) (v8) (v9) (v10) (v11) (v12) (v13) (v14) (v15) (v16) (v17) (v18) (v19) (v20) (v21) (v22) (v23) (v24) (v25) (v26) (v27) s.heap.size ) rfl rfl rfl rfl rfl ax_138 rfl rfl ax_139 ⟨Nat.le_of_ble_eq_true rfl, Nat.le_of_ble_eq_true rfl⟩ rfl rfl (Nat.le_of_ble_eq_true rfl) dX10_rowed_3 ⟨(Nat.le_of_ble_eq_true rfl), (Nat.le_of_ble_eq_true rfl)⟩) hP hD hS hA rfl rfl rfl (by decide) (fun ad3 H locs hP hD hS => ?_)
  have hP : va_P D vwCl [(a0, .inr (15, [.int 0, v0, v1, v2, v3, v4, .ref a1, v5, v6, v7, v8, v9, v10, v11, v12, v13, v14, v15, v16, v17, v18, v19, v20, v21, v22, v23, v24, v25])), (a1, .inr (4, [v26, v27, .int 0]))] H := hP
  have hD : va_D A [(a0, .inr (15, [.int 0, v0, v1, v2, v3, v4, .ref a1, v5, v6, v7, v8, v9, v10, v11, v12, v13, v14, v15, v16, v17, v18, v19, v20, v21, v22, v23, v24, v25])), (a1, .inr (4, [v26, v27, .int 0]))] := hD
  refine lv_if_ne (tgt := 13) hx hb dX10_rowed_6 (by decide) (fun z => absurd (by decide) z) (fun _ => ?_)
  refine lv_iconst (v := 1) hx hb dX10_rowed_9 (by decide) ?_
  refine lv_goto (tgt := 14) hx hb dX10_rowed_10 (by decide) ?_
  refine lv_iconst (v := 1) hx hb dX10_rowed_14 (by decide) ?_
  refine ca_i (isC := [0]) (isR := [1]) (wr := [(a1, .inr (4, [v26, v27, .int 0]))]) (rn_V (ci := 15) (q0 := 0) (isC := [0]) (wc := [(a0, .inr (15, [.int 0, v0, v1, v2, v3, v4, .ref a1, v5, v6, v7, v8, v9, v10, v11, v12, v13, v14, v15, v16, v17, v18, v19, v20, v21, v22, v23, v24, v25]))]) (As := [.int 1, .int 1]) (rest := []) (n := 2) hx hb hml hown hts hE hS hP hD hA hl.1 (k22_X10_fails l D cy g a0 (v0) (v1) (v2) (v3) (v4) (.ref a1) (v5) (v6) (v7) (v8) (v9) (v10) (v11) (v12) (v13) (v14) (v15) (v16) (v17) (v18) (v19) (v20) (v21) (v22) (v23) (v24) (v25) H.size ) rfl rfl rfl rfl rfl ax_41 rfl rfl ax_42 ⟨Nat.le_of_ble_eq_true rfl, Nat.le_of_ble_eq_true rfl⟩ rfl rfl (Nat.le_of_ble_eq_true rfl) dX10_rowed_15 ⟨(Nat.le_of_ble_eq_true rfl), (Nat.le_of_ble_eq_true rfl)⟩) hP hD hS hA rfl rfl rfl (by decide) (fun ad15 H locs hP hD hS => ?_)
  have hP : va_P D vwCl [(a1, .inr (4, [v26, v27, .int 0])), (a0, .inr (15, [.int 1, v0, v1, v2, v3, v4, .ref a1, v5, v6, v7, v8, v9, v10, v11, v12, v13, v14, v15, v16, v17, v18, v19, v20, v21, v22, v23, v24, v25]))] H := hP
  have hD : va_D A [(a1, .inr (4, [v26, v27, .int 0])), (a0, .inr (15, [.int 1, v0, v1, v2, v3, v4, .ref a1, v5, v6, v7, v8, v9, v10, v11, v12, v13, v14, v15, v16, v17, v18, v19, v20, v21, v22, v23, v24, v25]))] := hD
  refine lv_if_eq (tgt := 25) hx hb dX10_rowed_18 (by decide) (fun z => absurd z (by decide)) (fun _ => ?_)
  refine lv_iconst (v := (-1)) hx hb dX10_rowed_21 (by decide) ?_
  refine lv_goto (tgt := 31) hx hb dX10_rowed_22 (by decide) ?_
  exact en_z hx hb hr hlk hP hD hS rfl (fun _ => 0) (is := [1, 0]) rfl rfl (Nat.le_of_ble_eq_true rfl) (Nat.le_of_ble_eq_true rfl) dX10_rowed_31
set_option maxHeartbeats 4000000 in
set_option maxRecDepth 100000 in
theorem k159_X10_getLiquid (l : Launch) (D : va_G) (cy : Nat → ClassId) (g : Nat → Nat) (x0 : Int32) (a0 : Nat) (a1 : Nat) (v0 : Value) (v1 : Value) (v2 : Value) (v3 : Value) (v4 : Value) (v5 : Value) (v6 : Value) (v7 : Value) (v8 : Value) (v9 : Value) (v10 : Value) (v11 : Value) (v12 : Value) (v13 : Value) (v14 : Value) (v15 : Value) (v16 : Value) (v17 : Value) (v18 : Value) (v19 : Value) (v20 : Value) (v21 : Value) (v22 : Value) (v23 : Value) (v24 : Value) (v25 : Value) (v26 : Value) (v27 : Value) (v28 : Value) (sz : Nat)  : Met l yX10_getLiquid [.code yX10_getLiquid cX10_getLiquid 2 (some .int)] ({ frames := 3, cells := 0, slots := 0, locals := 63 }) (PC D cy g [(a0, .inr (15, [v0, v1, v2, v3, v4, v5, .ref a1, v6, v7, v8, v9, v10, v11, v12, v13, v14, v15, v16, v17, v18, v19, v20, v21, v22, v23, v24, v25, v26])), (a1, .inr (4, [v27, v28, .int 0]))] sz [.ref a0, .int x0]) (QI D (-1) (fun ad => [(a0, .inr (15, [.int 1, v1, v2, v3, v4, v5, .ref a1, v6, v7, v8, v9, v10, v11, v12, v13, v14, v15, v16, v17, v18, v19, v20, v21, v22, v23, v24, v25, v26]))]) (va_A [(a0, .inr (15, [v0, v1, v2, v3, v4, v5, .ref a1, v6, v7, v8, v9, v10, v11, v12, v13, v14, v15, v16, v17, v18, v19, v20, v21, v22, v23, v24, v25, v26])), (a1, .inr (4, [v27, v28, .int 0]))] sz)) 0 0 (va_A [(a0, .inr (15, [v0, v1, v2, v3, v4, v5, .ref a1, v6, v7, v8, v9, v10, v11, v12, v13, v14, v15, v16, v17, v18, v19, v20, v21, v22, v23, v24, v25, v26])), (a1, .inr (4, [v27, v28, .int 0]))] sz) := by
  refine st_I (by decide) (Nat.le_of_ble_eq_true rfl) ?_
  intro p e s m args below meth c A ls hx hb hr hml hown hlk hnm hsz hP hD hA hE hts hS hl
  have hown : s.vm.findClass RX10 = some m.cls := hown
  have hl : lv_has ls 2 [(0, .ref a0), (1, .int x0)] := hl
  refine lv_aload_n hx hb dX10_getLiquid_0 rfl (lv_at hl 0 rfl) ?_
  refine ca_v (isC := [0]) (isR := [1]) (wr := [(a1, .inr (4, [v27, v28, .int 0]))]) (rn_V (ci := 15) (q0 := 0) (isC := [0]) (wc := [(a0, .inr (15, [v0, v1, v2, v3, v4, v5, .ref a1, v6, v7, v8, v9, v10, v11, v12, v13, v14, v15, v16, v17, v18, v19, v20, v21, v22, v23, v24, v25, v26]))]) (As := []) (rest := []) (n := 0) hx hb hml hown hts hE hS hP hD hA hl.1 (k20_X10_begins l D cy g a0 (v0) (v1) (v2) (v3) (v4) (v5) (.ref a1) (v6) (v7) (v8) (v9) (v10) (v11) (v12) (v13) (v14) (v15) (v16) (v17) (v18) (v19) (v20) (v21) (v22) (v23) (v24) (v25) (v26) s.heap.size ) rfl rfl rfl rfl rfl ax_37 rfl rfl ax_38 ⟨Nat.le_of_ble_eq_true rfl, Nat.le_of_ble_eq_true rfl⟩ rfl rfl (Nat.le_of_ble_eq_true rfl) dX10_getLiquid_1 ⟨(Nat.le_of_ble_eq_true rfl), (Nat.le_of_ble_eq_true rfl)⟩) hP hD hS hA rfl rfl rfl (by decide) (fun ad1 H locs hP hD hS => ?_)
  have hP : va_P D vwCl [(a1, .inr (4, [v27, v28, .int 0])), (a0, .inr (15, [.int 0, v1, v2, v3, v4, v5, .ref a1, v6, v7, v8, v9, v10, v11, v12, v13, v14, v15, v16, v17, v18, v19, v20, v21, v22, v23, v24, v25, v26]))] H := hP
  have hD : va_D A [(a1, .inr (4, [v27, v28, .int 0])), (a0, .inr (15, [.int 0, v1, v2, v3, v4, v5, .ref a1, v6, v7, v8, v9, v10, v11, v12, v13, v14, v15, v16, v17, v18, v19, v20, v21, v22, v23, v24, v25, v26]))] := hD
  refine lv_aload_n hx hb dX10_getLiquid_4 rfl (lv_at hl 0 rfl) ?_
  refine lv_iload_n hx hb dX10_getLiquid_5 rfl (lv_at hl 1 rfl) ?_
  refine lv_iconst (v := 2) hx hb dX10_getLiquid_6 (by decide) ?_
  refine ca_i (isC := [1, 0]) (isR := []) (wr := []) (rn_V (ci := 15) (q0 := 1) (isC := [1, 0]) (wc := [(a0, .inr (15, [.int 0, v1, v2, v3, v4, v5, .ref a1, v6, v7, v8, v9, v10, v11, v12, v13, v14, v15, v16, v17, v18, v19, v20, v21, v22, v23, v24, v25, v26])), (a1, .inr (4, [v27, v28, .int 0]))]) (As := [.int x0, .int 2]) (rest := []) (n := 2) hx hb hml hown hts hE hS hP hD hA hl.1 (k158_X10_rowed l D cy g x0 a0 a1 (v1) (v2) (v3) (v4) (v5) (v6) (v7) (v8) (v9) (v10) (v11) (v12) (v13) (v14) (v15) (v16) (v17) (v18) (v19) (v20) (v21) (v22) (v23) (v24) (v25) (v26) (v27) (v28) H.size ) rfl rfl rfl rfl rfl ax_140 rfl rfl ax_141 ⟨Nat.le_of_ble_eq_true rfl, Nat.le_of_ble_eq_true rfl⟩ rfl rfl (Nat.le_of_ble_eq_true rfl) dX10_getLiquid_7 ⟨(Nat.le_of_ble_eq_true rfl), (Nat.le_of_ble_eq_true rfl)⟩) hP hD hS hA rfl rfl rfl (by decide) (fun ad7 H locs hP hD hS => ?_)
  have hP : va_P D vwCl [(a0, .inr (15, [.int 1, v1, v2, v3, v4, v5, .ref a1, v6, v7, v8, v9, v10, v11, v12, v13, v14, v15, v16, v17, v18, v19, v20, v21, v22, v23, v24, v25, v26])), (a1, .inr (4, [v27, v28, .int 0]))] H := hP
  have hD : va_D A [(a0, .inr (15, [.int 1, v1, v2, v3, v4, v5, .ref a1, v6, v7, v8, v9, v10, v11, v12, v13, v14, v15, v16, v17, v18, v19, v20, v21, v22, v23, v24, v25, v26])), (a1, .inr (4, [v27, v28, .int 0]))] := hD
  exact en_z hx hb hr hlk hP hD hS rfl (fun _ => 0) (is := [0]) rfl rfl (Nat.le_of_ble_eq_true rfl) (Nat.le_of_ble_eq_true rfl) dX10_getLiquid_10
set_option maxHeartbeats 4000000 in
set_option maxRecDepth 100000 in
theorem k160_X9_getVapour (l : Launch) (hst : l.stackTraces = false) (D : va_G) (cy : Nat → ClassId) (g : Nat → Nat) (x0 : Int32) (a0 : Nat) (a1 : Nat) (v0 : Value) (v1 : Value) (v2 : Value) (v3 : Value) (v4 : Value) (v5 : Value) (v6 : Value) (v7 : Value) (v8 : Value) (v9 : Value) (sz : Nat)  : vx_Met l yX9_getVapour [.code yX9_getVapour cX9_getVapour 2 (some .int)] ({ frames := 7, cells := 1, slots := 6, locals := 103 }) (PC D cy g [(a0, .inr (14, [v0, .ref a1, v1, v2, v3, v4, v5])), (a1, .inr (12, [v6, v7, v8, v9, .int 0]))] sz [.ref a0, .int x0]) QN (XE "java/util/NoSuchElementException" (va_A [(a0, .inr (14, [v0, .ref a1, v1, v2, v3, v4, v5])), (a1, .inr (12, [v6, v7, v8, v9, .int 0]))] sz)) 1 6 (va_A [(a0, .inr (14, [v0, .ref a1, v1, v2, v3, v4, v5])), (a1, .inr (12, [v6, v7, v8, v9, .int 0]))] sz) := by
  refine st_X (by decide) (Nat.le_of_ble_eq_true rfl) ?_
  intro p e s m args below meth c A ls hx hb hr hml hown hlk hnm hsz hP hD hA hE hts hS hl hout
  have hown : s.vm.findClass RX9 = some m.cls := hown
  have hl : lv_has ls 2 [(0, .ref a0), (1, .int x0)] := hl
  refine lv_aload_n hx hb dX9_getVapour_0 rfl (lv_at hl 0 rfl) ?_
  refine lv_iload_n hx hb dX9_getVapour_1 rfl (lv_at hl 1 rfl) ?_
  exact cx_out (isC := [0, 1]) (rx_V (ci := 14) (q0 := 0) (isC := [0, 1]) (wc := [(a0, .inr (14, [v0, .ref a1, v1, v2, v3, v4, v5])), (a1, .inr (12, [v6, v7, v8, v9, .int 0]))]) (As := [.int x0]) (rest := []) (n := 1) hx hb hml hown hts hE hS hP hD hA hl.1 (k150_X9_requireRows l hst D cy g x0 a0 a1 (v0) (v1) (v2) (v3) (v4) (v5) (v6) (v7) (v8) (v9) s.heap.size ) rfl rfl rfl rfl rfl ax_132 rfl rfl ax_133 ⟨Nat.le_of_ble_eq_true rfl, Nat.le_of_ble_eq_true rfl⟩ rfl rfl (Nat.le_of_ble_eq_true rfl) dX9_getVapour_2 ⟨(Nat.le_of_ble_eq_true rfl), (Nat.le_of_ble_eq_true rfl)⟩) hD hS hA rfl hout hlk (Nat.le_of_ble_eq_true rfl) (Nat.le_of_ble_eq_true rfl)
set_option maxHeartbeats 4000000 in
set_option maxRecDepth 100000 in
theorem k161_L_getVapour (l : Launch) (hst : l.stackTraces = false) (D : va_G) (cy : Nat → ClassId) (g : Nat → Nat) (x0 : Int32) (a0 : Nat) (a1 : Nat) (b0 : Nat) (v0 : Value) (v1 : Value) (v2 : Value) (v3 : Value) (v4 : Value) (v5 : Value) (v6 : Value) (v7 : Value) (v8 : Value) (v9 : Value) (sz : Nat)  : Met l yL_getVapour [.codeWith yL_getVapour cL_getVapour 4 (some .int) [(0, 9, 12, 45)]] ({ frames := 8, cells := 1, slots := 6, locals := 124 }) (PC D cy g [(a0, .inr (14, [v0, .ref a1, v1, v2, v3, v4, v5])), (a1, .inr (12, [v6, v7, v8, v9, .int 0]))] sz [.ref a0, .int x0, .ref b0]) (QI D 1 (fun ad => []) (va_A [(a0, .inr (14, [v0, .ref a1, v1, v2, v3, v4, v5])), (a1, .inr (12, [v6, v7, v8, v9, .int 0]))] sz)) 1 6 (va_A [(a0, .inr (14, [v0, .ref a1, v1, v2, v3, v4, v5])), (a1, .inr (12, [v6, v7, v8, v9, .int 0]))] sz) := by
  refine sh_I (by decide) (Nat.le_of_ble_eq_true rfl) ?_
  intro p e s m args below meth c A ls hx hb hr hml hown hlk hnm hsz hP hD hA hE hts hS hl htb
  have hown : s.vm.findClass RL = some m.cls := hown
  have hl : lv_has ls 4 [(0, .ref a0), (1, .int x0), (2, .ref b0)] := hl
  refine lv_aload_n hx hb dL_getVapour_0 rfl (lv_at hl 2 rfl) ?_
  refine lv_iconst (v := 0) hx hb dL_getVapour_1 (by decide) ?_
  refine lv_aload_n hx hb dL_getVapour_2 rfl (lv_at hl 0 rfl) ?_
  refine lv_iload_n hx hb dL_getVapour_3 rfl (lv_at hl 1 rfl) ?_
  refine cx_catch (isC := [0, 1]) (isR := []) (wr := []) (hp := []) (z := (0, 9, 12, 45)) (hq := []) (name := "java/util/NoSuchElementException") (own := RL) (rx_V (ci := 14) (q0 := 0) (isC := [0, 1]) (wc := [(a0, .inr (14, [v0, .ref a1, v1, v2, v3, v4, v5])), (a1, .inr (12, [v6, v7, v8, v9, .int 0]))]) (As := [.int x0]) (rest := [.int 0, .ref b0]) (n := 1) hx hb hml hown hts hE hS hP hD hA hl.1 (k160_X9_getVapour l hst D cy g x0 a0 a1 (v0) (v1) (v2) (v3) (v4) (v5) (v6) (v7) (v8) (v9) s.heap.size ) rfl rfl rfl rfl rfl ax_150 rfl rfl ax_151 ⟨Nat.le_of_ble_eq_true rfl, Nat.le_of_ble_eq_true rfl⟩ rfl rfl (Nat.le_of_ble_eq_true rfl) dL_getVapour_4 ⟨(Nat.le_of_ble_eq_true rfl), (Nat.le_of_ble_eq_true rfl)⟩) hP hD hS hA hown hts hE htb rfl rfl rfl rfl (by decide) (fun z hz => by cases hz) (by decide) (by decide) tw_534 tw_535 (fun qx H locs hP hD hS => ?_)
  have hP : va_P D vwCl [] H := hP
  have hD : va_D A [] := hD
  refine lv_astore_n (lv' := [(3, .ref qx), (0, .ref a0), (1, .int x0), (2, .ref b0)]) hx hb dL_getVapour_12 rfl hl (Nat.le_of_ble_eq_true rfl) rfl (fun ls hl => ?_)
  refine lv_iconst (v := 1) hx hb dL_getVapour_13 (by decide) ?_
  exact en_z hx hb hr hlk hP hD hS rfl (fun _ => 0) (is := []) rfl rfl (Nat.le_of_ble_eq_true rfl) (Nat.le_of_ble_eq_true rfl) dL_getVapour_14
set_option maxHeartbeats 4000000 in
set_option maxRecDepth 100000 in
theorem k162_X10_rowed (l : Launch) (D : va_G) (cy : Nat → ClassId) (g : Nat → Nat) (x0 : Int32) (a0 : Nat) (a1 : Nat) (v0 : Value) (v1 : Value) (v2 : Value) (v3 : Value) (v4 : Value) (v5 : Value) (v6 : Value) (v7 : Value) (v8 : Value) (v9 : Value) (v10 : Value) (v11 : Value) (v12 : Value) (v13 : Value) (v14 : Value) (v15 : Value) (v16 : Value) (v17 : Value) (v18 : Value) (v19 : Value) (v20 : Value) (v21 : Value) (v22 : Value) (v23 : Value) (v24 : Value) (v25 : Value) (v26 : Value) (v27 : Value) (sz : Nat)  : Met l yX10_rowed [.code yX10_rowed cX10_rowed 3 (some .int)] ({ frames := 2, cells := 0, slots := 0, locals := 41 }) (PC D cy g [(a0, .inr (15, [.int 0, v0, v1, v2, v3, v4, .ref a1, v5, v6, v7, v8, v9, v10, v11, v12, v13, v14, v15, v16, v17, v18, v19, v20, v21, v22, v23, v24, v25])), (a1, .inr (4, [v26, v27, .int 0]))] sz [.ref a0, .int x0, .int 3]) (QI D (-1) (fun ad => [(a0, .inr (15, [.int 1, v0, v1, v2, v3, v4, .ref a1, v5, v6, v7, v8, v9, v10, v11, v12, v13, v14, v15, v16, v17, v18, v19, v20, v21, v22, v23, v24, v25])), (a1, .inr (4, [v26, v27, .int 0]))]) (va_A [(a0, .inr (15, [.int 0, v0, v1, v2, v3, v4, .ref a1, v5, v6, v7, v8, v9, v10, v11, v12, v13, v14, v15, v16, v17, v18, v19, v20, v21, v22, v23, v24, v25])), (a1, .inr (4, [v26, v27, .int 0]))] sz)) 0 0 (va_A [(a0, .inr (15, [.int 0, v0, v1, v2, v3, v4, .ref a1, v5, v6, v7, v8, v9, v10, v11, v12, v13, v14, v15, v16, v17, v18, v19, v20, v21, v22, v23, v24, v25])), (a1, .inr (4, [v26, v27, .int 0]))] sz) := by
  refine st_I (by decide) (Nat.le_of_ble_eq_true rfl) ?_
  intro p e s m args below meth c A ls hx hb hr hml hown hlk hnm hsz hP hD hA hE hts hS hl
  have hown : s.vm.findClass RX10 = some m.cls := hown
  have hl : lv_has ls 3 [(0, .ref a0), (1, .int x0), (2, .int 3)] := hl
  refine lv_aload_n hx hb dX10_rowed_0 rfl (lv_at hl 0 rfl) ?_
  refine lv_aload_n hx hb dX10_rowed_1 rfl (lv_at hl 0 rfl) ?_
  refine lv_iload_n hx hb dX10_rowed_2 rfl (lv_at hl 1 rfl) ?_
  refine ca_i (isC := [0, 1]) (isR := []) (wr := []) (rn_V (ci := 15) (q0 := 0) (isC := [0, 1]) (wc := [(a0, .inr (15, [.int 0, v0, v1, v2, v3, v4, .ref a1, v5, v6, v7, v8, v9, v10, v11, v12, v13, v14, v15, v16, v17, v18, v19, v20, v21, v22, v23, v24, v25])), (a1, .inr (4, [v26, v27, .int 0]))]) (As := [.int x0]) (rest := [.ref a0]) (n := 1) hx hb hml hown hts hE hS hP hD hA hl.1 (k153_X10_isIn l D cy g x0 a0 a1 (.int 0) (v0) (v1) (v2) (v3) (v4) (v5) (v6) (v7) (v8) (v9) (v10) (v11) (v12) (v13) (v14) (v15) (v16) (v17) (v18) (v19) (v20) (v21) (v22) (v23) (v24) (v25) (v26) (v27) s.heap.size ) rfl rfl rfl rfl rfl ax_138 rfl rfl ax_139 ⟨Nat.le_of_ble_eq_true rfl, Nat.le_of_ble_eq_true rfl⟩ rfl rfl (Nat.le_of_ble_eq_true rfl) dX10_rowed_3 ⟨(Nat.le_of_ble_eq_true rfl), (Nat.le_of_ble_eq_true rfl)⟩) hP hD hS hA rfl rfl rfl (by decide) (fun ad3 H locs hP hD hS => ?_)
  have hP : va_P D vwCl [(a0, .inr (15, [.int 0, v0, v1, v2, v3, v4, .ref a1, v5, v6, v7, v8, v9, v10, v11, v12, v13, v14, v15, v16, v17, v18, v19, v20, v21, v22, v23, v24, v25])), (a1, .inr (4, [v26, v27, .int 0]))] H := hP
  have hD : va_D A [(a0, .inr (15, [.int 0, v0, v1, v2, v3, v4, .ref a1, v5, v6, v7, v8, v9, v10, v11, v12, v13, v14, v15, v16, v17, v18, v19, v20, v21, v22, v23, v24, v25])), (a1, .inr (4, [v26, v27, .int 0]))] := hD
  refine lv_if_ne (tgt := 13) hx hb dX10_rowed_6 (by decide) (fun z => absurd (by decide) z) (fun _ => ?_)
  refine lv_iconst (v := 1) hx hb dX10_rowed_9 (by decide) ?_
  refine lv_goto (tgt := 14) hx hb dX10_rowed_10 (by decide) ?_
  refine lv_iconst (v := 1) hx hb dX10_rowed_14 (by decide) ?_
  refine ca_i (isC := [0]) (isR := [1]) (wr := [(a1, .inr (4, [v26, v27, .int 0]))]) (rn_V (ci := 15) (q0 := 0) (isC := [0]) (wc := [(a0, .inr (15, [.int 0, v0, v1, v2, v3, v4, .ref a1, v5, v6, v7, v8, v9, v10, v11, v12, v13, v14, v15, v16, v17, v18, v19, v20, v21, v22, v23, v24, v25]))]) (As := [.int 1, .int 1]) (rest := []) (n := 2) hx hb hml hown hts hE hS hP hD hA hl.1 (k22_X10_fails l D cy g a0 (v0) (v1) (v2) (v3) (v4) (.ref a1) (v5) (v6) (v7) (v8) (v9) (v10) (v11) (v12) (v13) (v14) (v15) (v16) (v17) (v18) (v19) (v20) (v21) (v22) (v23) (v24) (v25) H.size ) rfl rfl rfl rfl rfl ax_41 rfl rfl ax_42 ⟨Nat.le_of_ble_eq_true rfl, Nat.le_of_ble_eq_true rfl⟩ rfl rfl (Nat.le_of_ble_eq_true rfl) dX10_rowed_15 ⟨(Nat.le_of_ble_eq_true rfl), (Nat.le_of_ble_eq_true rfl)⟩) hP hD hS hA rfl rfl rfl (by decide) (fun ad15 H locs hP hD hS => ?_)
  have hP : va_P D vwCl [(a1, .inr (4, [v26, v27, .int 0])), (a0, .inr (15, [.int 1, v0, v1, v2, v3, v4, .ref a1, v5, v6, v7, v8, v9, v10, v11, v12, v13, v14, v15, v16, v17, v18, v19, v20, v21, v22, v23, v24, v25]))] H := hP
  have hD : va_D A [(a1, .inr (4, [v26, v27, .int 0])), (a0, .inr (15, [.int 1, v0, v1, v2, v3, v4, .ref a1, v5, v6, v7, v8, v9, v10, v11, v12, v13, v14, v15, v16, v17, v18, v19, v20, v21, v22, v23, v24, v25]))] := hD
  refine lv_if_eq (tgt := 25) hx hb dX10_rowed_18 (by decide) (fun z => absurd z (by decide)) (fun _ => ?_)
  refine lv_iconst (v := (-1)) hx hb dX10_rowed_21 (by decide) ?_
  refine lv_goto (tgt := 31) hx hb dX10_rowed_22 (by decide) ?_
  exact en_z hx hb hr hlk hP hD hS rfl (fun _ => 0) (is := [1, 0]) rfl rfl (Nat.le_of_ble_eq_true rfl) (Nat.le_of_ble_eq_true rfl) dX10_rowed_31
set_option maxHeartbeats 4000000 in
set_option maxRecDepth 100000 in
theorem k163_X10_getVapour (l : Launch) (D : va_G) (cy : Nat → ClassId) (g : Nat → Nat) (x0 : Int32) (a0 : Nat) (a1 : Nat) (v0 : Value) (v1 : Value) (v2 : Value) (v3 : Value) (v4 : Value) (v5 : Value) (v6 : Value) (v7 : Value) (v8 : Value) (v9 : Value) (v10 : Value) (v11 : Value) (v12 : Value) (v13 : Value) (v14 : Value) (v15 : Value) (v16 : Value) (v17 : Value) (v18 : Value) (v19 : Value) (v20 : Value) (v21 : Value) (v22 : Value) (v23 : Value) (v24 : Value) (v25 : Value) (v26 : Value) (v27 : Value) (v28 : Value) (sz : Nat)  : Met l yX10_getVapour [.code yX10_getVapour cX10_getVapour 2 (some .int)] ({ frames := 3, cells := 0, slots := 0, locals := 63 }) (PC D cy g [(a0, .inr (15, [v0, v1, v2, v3, v4, v5, .ref a1, v6, v7, v8, v9, v10, v11, v12, v13, v14, v15, v16, v17, v18, v19, v20, v21, v22, v23, v24, v25, v26])), (a1, .inr (4, [v27, v28, .int 0]))] sz [.ref a0, .int x0]) (QI D (-1) (fun ad => [(a0, .inr (15, [.int 1, v1, v2, v3, v4, v5, .ref a1, v6, v7, v8, v9, v10, v11, v12, v13, v14, v15, v16, v17, v18, v19, v20, v21, v22, v23, v24, v25, v26]))]) (va_A [(a0, .inr (15, [v0, v1, v2, v3, v4, v5, .ref a1, v6, v7, v8, v9, v10, v11, v12, v13, v14, v15, v16, v17, v18, v19, v20, v21, v22, v23, v24, v25, v26])), (a1, .inr (4, [v27, v28, .int 0]))] sz)) 0 0 (va_A [(a0, .inr (15, [v0, v1, v2, v3, v4, v5, .ref a1, v6, v7, v8, v9, v10, v11, v12, v13, v14, v15, v16, v17, v18, v19, v20, v21, v22, v23, v24, v25, v26])), (a1, .inr (4, [v27, v28, .int 0]))] sz) := by
  refine st_I (by decide) (Nat.le_of_ble_eq_true rfl) ?_
  intro p e s m args below meth c A ls hx hb hr hml hown hlk hnm hsz hP hD hA hE hts hS hl
  have hown : s.vm.findClass RX10 = some m.cls := hown
  have hl : lv_has ls 2 [(0, .ref a0), (1, .int x0)] := hl
  refine lv_aload_n hx hb dX10_getVapour_0 rfl (lv_at hl 0 rfl) ?_
  refine ca_v (isC := [0]) (isR := [1]) (wr := [(a1, .inr (4, [v27, v28, .int 0]))]) (rn_V (ci := 15) (q0 := 0) (isC := [0]) (wc := [(a0, .inr (15, [v0, v1, v2, v3, v4, v5, .ref a1, v6, v7, v8, v9, v10, v11, v12, v13, v14, v15, v16, v17, v18, v19, v20, v21, v22, v23, v24, v25, v26]))]) (As := []) (rest := []) (n := 0) hx hb hml hown hts hE hS hP hD hA hl.1 (k20_X10_begins l D cy g a0 (v0) (v1) (v2) (v3) (v4) (v5) (.ref a1) (v6) (v7) (v8) (v9) (v10) (v11) (v12) (v13) (v14) (v15) (v16) (v17) (v18) (v19) (v20) (v21) (v22) (v23) (v24) (v25) (v26) s.heap.size ) rfl rfl rfl rfl rfl ax_37 rfl rfl ax_38 ⟨Nat.le_of_ble_eq_true rfl, Nat.le_of_ble_eq_true rfl⟩ rfl rfl (Nat.le_of_ble_eq_true rfl) dX10_getVapour_1 ⟨(Nat.le_of_ble_eq_true rfl), (Nat.le_of_ble_eq_true rfl)⟩) hP hD hS hA rfl rfl rfl (by decide) (fun ad1 H locs hP hD hS => ?_)
  have hP : va_P D vwCl [(a1, .inr (4, [v27, v28, .int 0])), (a0, .inr (15, [.int 0, v1, v2, v3, v4, v5, .ref a1, v6, v7, v8, v9, v10, v11, v12, v13, v14, v15, v16, v17, v18, v19, v20, v21, v22, v23, v24, v25, v26]))] H := hP
  have hD : va_D A [(a1, .inr (4, [v27, v28, .int 0])), (a0, .inr (15, [.int 0, v1, v2, v3, v4, v5, .ref a1, v6, v7, v8, v9, v10, v11, v12, v13, v14, v15, v16, v17, v18, v19, v20, v21, v22, v23, v24, v25, v26]))] := hD
  refine lv_aload_n hx hb dX10_getVapour_4 rfl (lv_at hl 0 rfl) ?_
  refine lv_iload_n hx hb dX10_getVapour_5 rfl (lv_at hl 1 rfl) ?_
  refine lv_iconst (v := 3) hx hb dX10_getVapour_6 (by decide) ?_
  refine ca_i (isC := [1, 0]) (isR := []) (wr := []) (rn_V (ci := 15) (q0 := 1) (isC := [1, 0]) (wc := [(a0, .inr (15, [.int 0, v1, v2, v3, v4, v5, .ref a1, v6, v7, v8, v9, v10, v11, v12, v13, v14, v15, v16, v17, v18, v19, v20, v21, v22, v23, v24, v25, v26])), (a1, .inr (4, [v27, v28, .int 0]))]) (As := [.int x0, .int 3]) (rest := []) (n := 2) hx hb hml hown hts hE hS hP hD hA hl.1 (k162_X10_rowed l D cy g x0 a0 a1 (v1) (v2) (v3) (v4) (v5) (v6) (v7) (v8) (v9) (v10) (v11) (v12) (v13) (v14) (v15) (v16) (v17) (v18) (v19) (v20) (v21) (v22) (v23) (v24) (v25) (v26) (v27) (v28) H.size ) rfl rfl rfl rfl rfl ax_140 rfl rfl ax_141 ⟨Nat.le_of_ble_eq_true rfl, Nat.le_of_ble_eq_true rfl⟩ rfl rfl (Nat.le_of_ble_eq_true rfl) dX10_getVapour_7 ⟨(Nat.le_of_ble_eq_true rfl), (Nat.le_of_ble_eq_true rfl)⟩) hP hD hS hA rfl rfl rfl (by decide) (fun ad7 H locs hP hD hS => ?_)
  have hP : va_P D vwCl [(a0, .inr (15, [.int 1, v1, v2, v3, v4, v5, .ref a1, v6, v7, v8, v9, v10, v11, v12, v13, v14, v15, v16, v17, v18, v19, v20, v21, v22, v23, v24, v25, v26])), (a1, .inr (4, [v27, v28, .int 0]))] H := hP
  have hD : va_D A [(a0, .inr (15, [.int 1, v1, v2, v3, v4, v5, .ref a1, v6, v7, v8, v9, v10, v11, v12, v13, v14, v15, v16, v17, v18, v19, v20, v21, v22, v23, v24, v25, v26])), (a1, .inr (4, [v27, v28, .int 0]))] := hD
  exact en_z hx hb hr hlk hP hD hS rfl (fun _ => 0) (is := [0]) rfl rfl (Nat.le_of_ble_eq_true rfl) (Nat.le_of_ble_eq_true rfl) dX10_getVapour_10
set_option maxHeartbeats 4000000 in
set_option maxRecDepth 100000 in
theorem k164_X9_requireStateHeat (l : Launch) (hst : l.stackTraces = false) (D : va_G) (cy : Nat → ClassId) (g : Nat → Nat) (x0 : Int32) (b0 : Nat) (sz : Nat) (h0 : x0 < 0) : vx_Met l yX9_requireStateHeat [.code yX9_requireStateHeat cX9_requireStateHeat 2 none] ({ frames := 6, cells := 1, slots := 6, locals := 82 }) (PC D cy g [] sz [.ref b0, .int x0]) QN (XE "java/lang/IllegalArgumentException" (va_A [] sz)) 1 6 (va_A [] sz) := by
  refine st_X (by decide) (Nat.le_of_ble_eq_true rfl) ?_
  intro p e s m args below meth c A ls hx hb hr hml hown hlk hnm hsz hP hD hA hE hts hS hl hout
  have hown : s.vm.findClass RX9 = some m.cls := hown
  have hl : lv_has ls 2 [(0, .ref b0), (1, .int x0)] := hl
  refine lv_iload_n hx hb dX9_requireStateHeat_0 rfl (lv_at hl 1 rfl) ?_
  refine lv_iconst (v := 0) hx hb dX9_requireStateHeat_1 (by decide) ?_
  refine lv_sipush (v := 20000) hx hb dX9_requireStateHeat_2 (by decide) ?_
  refine ca_i (isC := []) (isR := []) (wr := []) (rn_S (isC := []) (wc := []) (As := [.int x0, .int 0, .int 20000]) (rest := []) (n := 3) hx hb hml hown hts hE hS hP hD hA hl.1 (k17_X9_isOutside l D cy g x0 0 20000 s.heap.size h0) rfl rfl ax_30 rfl rfl ax_31 ⟨Nat.le_of_ble_eq_true rfl, Nat.le_of_ble_eq_true rfl⟩ rfl rfl (Nat.le_of_ble_eq_true rfl) dX9_requireStateHeat_5 ⟨(Nat.le_of_ble_eq_true rfl), (Nat.le_of_ble_eq_true rfl)⟩) hP hD hS hA rfl rfl rfl (by decide) (fun ad5 H locs hP hD hS => ?_)
  have hP : va_P D vwCl [] H := hP
  have hD : va_D A [] := hD
  refine lv_if_eq (tgt := 22) hx hb dX9_requireStateHeat_8 (by decide) (fun z => absurd z (by decide)) (fun _ => ?_)
  exact th_SW (text := "the heat is out of range") hx hb hst hown hts hE hS (hl.1.trans hml.symm) hout hlk (by decide +kernel) tw_296 tw_297 ax_32 (by decide +kernel) dX9_requireStateHeat_11 dX9_requireStateHeat_14 dX9_requireStateHeat_15 dX9_requireStateHeat_18 dX9_requireStateHeat_21 ⟨Nat.le_of_ble_eq_true rfl, Nat.le_of_ble_eq_true rfl, Nat.le_of_ble_eq_true rfl, Nat.le_of_ble_eq_true rfl⟩ (Nat.le_of_ble_eq_true rfl) (Nat.le_of_ble_eq_true rfl)
set_option maxHeartbeats 4000000 in
set_option maxRecDepth 100000 in
theorem k165_X9_requireState (l : Launch) (hst : l.stackTraces = false) (D : va_G) (cy : Nat → ClassId) (g : Nat → Nat) (x0 : Int32) (x1 : Int32) (a0 : Nat) (v0 : Value) (v1 : Value) (v2 : Value) (v3 : Value) (v4 : Value) (v5 : Value) (v6 : Value) (sz : Nat) (h0 : x1 < 0) : vx_Met l yX9_requireState [.code yX9_requireState cX9_requireState 3 none] ({ frames := 7, cells := 1, slots := 6, locals := 103 }) (PC D cy g [(a0, .inr (14, [v0, v1, v2, v3, v4, v5, v6]))] sz [.ref a0, .int x0, .int x1]) QN (XE "java/lang/IllegalArgumentException" (va_A [(a0, .inr (14, [v0, v1, v2, v3, v4, v5, v6]))] sz)) 1 6 (va_A [(a0, .inr (14, [v0, v1, v2, v3, v4, v5, v6]))] sz) := by
  refine st_X (by decide) (Nat.le_of_ble_eq_true rfl) ?_
  intro p e s m args below meth c A ls hx hb hr hml hown hlk hnm hsz hP hD hA hE hts hS hl hout
  have hown : s.vm.findClass RX9 = some m.cls := hown
  have hl : lv_has ls 3 [(0, .ref a0), (1, .int x0), (2, .int x1)] := hl
  refine lv_aload_n hx hb dX9_requireState_0 rfl (lv_at hl 0 rfl) ?_
  refine lv_iload_n hx hb dX9_requireState_1 rfl (lv_at hl 2 rfl) ?_
  exact cx_out (isC := []) (rx_V (ci := 14) (q0 := 0) (isC := []) (wc := []) (As := [.int x1]) (rest := []) (n := 1) hx hb hml hown hts hE hS hP hD hA hl.1 (k164_X9_requireStateHeat l hst D cy g x1 a0 s.heap.size h0) rfl rfl rfl rfl rfl ax_156 rfl rfl ax_157 ⟨Nat.le_of_ble_eq_true rfl, Nat.le_of_ble_eq_true rfl⟩ rfl rfl (Nat.le_of_ble_eq_true rfl) dX9_requireState_2 ⟨(Nat.le_of_ble_eq_true rfl), (Nat.le_of_ble_eq_true rfl)⟩) hD hS hA rfl hout hlk (Nat.le_of_ble_eq_true rfl) (Nat.le_of_ble_eq_true rfl)
set_option maxHeartbeats 4000000 in
set_option maxRecDepth 100000 in
theorem k166_X9_getPhase (l : Launch) (hst : l.stackTraces = false) (D : va_G) (cy : Nat → ClassId) (g : Nat → Nat) (x0 : Int32) (x1 : Int32) (a0 : Nat) (v0 : Value) (v1 : Value) (v2 : Value) (v3 : Value) (v4 : Value) (v5 : Value) (v6 : Value) (sz : Nat) (h0 : x1 < 0) : vx_Met l yX9_getPhase [.code yX9_getPhase cX9_getPhase 3 (some .char)] ({ frames := 8, cells := 1, slots := 6, locals := 125 }) (PC D cy g [(a0, .inr (14, [v0, v1, v2, v3, v4, v5, v6]))] sz [.ref a0, .int x0, .int x1]) QN (XE "java/lang/IllegalArgumentException" (va_A [(a0, .inr (14, [v0, v1, v2, v3, v4, v5, v6]))] sz)) 1 6 (va_A [(a0, .inr (14, [v0, v1, v2, v3, v4, v5, v6]))] sz) := by
  refine st_X (by decide) (Nat.le_of_ble_eq_true rfl) ?_
  intro p e s m args below meth c A ls hx hb hr hml hown hlk hnm hsz hP hD hA hE hts hS hl hout
  have hown : s.vm.findClass RX9 = some m.cls := hown
  have hl : lv_has ls 3 [(0, .ref a0), (1, .int x0), (2, .int x1)] := hl
  refine lv_aload_n hx hb dX9_getPhase_0 rfl (lv_at hl 0 rfl) ?_
  refine lv_iload_n hx hb dX9_getPhase_1 rfl (lv_at hl 1 rfl) ?_
  refine lv_iload_n hx hb dX9_getPhase_2 rfl (lv_at hl 2 rfl) ?_
  exact cx_out (isC := [0]) (rx_V (ci := 14) (q0 := 0) (isC := [0]) (wc := [(a0, .inr (14, [v0, v1, v2, v3, v4, v5, v6]))]) (As := [.int x0, .int x1]) (rest := []) (n := 2) hx hb hml hown hts hE hS hP hD hA hl.1 (k165_X9_requireState l hst D cy g x0 x1 a0 (v0) (v1) (v2) (v3) (v4) (v5) (v6) s.heap.size h0) rfl rfl rfl rfl rfl ax_158 rfl rfl ax_159 ⟨Nat.le_of_ble_eq_true rfl, Nat.le_of_ble_eq_true rfl⟩ rfl rfl (Nat.le_of_ble_eq_true rfl) dX9_getPhase_3 ⟨(Nat.le_of_ble_eq_true rfl), (Nat.le_of_ble_eq_true rfl)⟩) hD hS hA rfl hout hlk (Nat.le_of_ble_eq_true rfl) (Nat.le_of_ble_eq_true rfl)
set_option maxHeartbeats 4000000 in
set_option maxRecDepth 100000 in
theorem k167_L_getPhase (l : Launch) (hst : l.stackTraces = false) (D : va_G) (cy : Nat → ClassId) (g : Nat → Nat) (x0 : Int32) (x1 : Int32) (a0 : Nat) (b0 : Nat) (v0 : Value) (v1 : Value) (v2 : Value) (v3 : Value) (v4 : Value) (v5 : Value) (v6 : Value) (sz : Nat) (h0 : x1 < 0) : Met l yL_getPhase [.codeWith yL_getPhase cL_getPhase 5 (some .int) [(0, 10, 13, 13), (0, 10, 17, 45)]] ({ frames := 9, cells := 1, slots := 6, locals := 147 }) (PC D cy g [(a0, .inr (14, [v0, v1, v2, v3, v4, v5, v6]))] sz [.ref a0, .int x0, .int x1, .ref b0]) (QI D 1 (fun ad => []) (va_A [(a0, .inr (14, [v0, v1, v2, v3, v4, v5, v6]))] sz)) 1 6 (va_A [(a0, .inr (14, [v0, v1, v2, v3, v4, v5, v6]))] sz) := by
  refine sh_I (by decide) (Nat.le_of_ble_eq_true rfl) ?_
  intro p e s m args below meth c A ls hx hb hr hml hown hlk hnm hsz hP hD hA hE hts hS hl htb
  have hown : s.vm.findClass RL = some m.cls := hown
  have hl : lv_has ls 5 [(0, .ref a0), (1, .int x0), (2, .int x1), (3, .ref b0)] := hl
  refine lv_aload_n hx hb dL_getPhase_0 rfl (lv_at hl 3 rfl) ?_
  refine lv_iconst (v := 0) hx hb dL_getPhase_1 (by decide) ?_
  refine lv_aload_n hx hb dL_getPhase_2 rfl (lv_at hl 0 rfl) ?_
  refine lv_iload_n hx hb dL_getPhase_3 rfl (lv_at hl 1 rfl) ?_
  refine lv_iload_n hx hb dL_getPhase_4 rfl (lv_at hl 2 rfl) ?_
  refine cx_catch (isC := [0]) (isR := []) (wr := []) (hp := []) (z := (0, 10, 13, 13)) (hq := [(0, 10, 17, 45)]) (name := "java/lang/IllegalArgumentException") (own := RL) (rx_V (ci := 14) (q0 := 0) (isC := [0]) (wc := [(a0, .inr (14, [v0, v1, v2, v3, v4, v5, v6]))]) (As := [.int x0, .int x1]) (rest := [.int 0, .ref b0]) (n := 2) hx hb hml hown hts hE hS hP hD hA hl.1 (k166_X9_getPhase l hst D cy g x0 x1 a0 (v0) (v1) (v2) (v3) (v4) (v5) (v6) s.heap.size h0) rfl rfl rfl rfl rfl ax_160 rfl rfl ax_161 ⟨Nat.le_of_ble_eq_true rfl, Nat.le_of_ble_eq_true rfl⟩ rfl rfl (Nat.le_of_ble_eq_true rfl) dL_getPhase_5 ⟨(Nat.le_of_ble_eq_true rfl), (Nat.le_of_ble_eq_true rfl)⟩) hP hD hS hA hown hts hE htb rfl rfl rfl rfl (by decide) (fun z hz => by cases hz) (by decide) (by decide) tw_302 tw_303 (fun qx H locs hP hD hS => ?_)
  have hP : va_P D vwCl [] H := hP
  have hD : va_D A [] := hD
  refine lv_astore (lv' := [(4, .ref qx), (0, .ref a0), (1, .int x0), (2, .int x1), (3, .ref b0)]) hx hb dL_getPhase_13 hl (Nat.le_of_ble_eq_true rfl) rfl (fun ls hl => ?_)
  refine lv_iconst (v := 1) hx hb dL_getPhase_15 (by decide) ?_
  exact en_z hx hb hr hlk hP hD hS rfl (fun _ => 0) (is := []) rfl rfl (Nat.le_of_ble_eq_true rfl) (Nat.le_of_ble_eq_true rfl) dL_getPhase_16
set_option maxHeartbeats 4000000 in
set_option maxRecDepth 100000 in
theorem k168_X10_noState (l : Launch) (D : va_G) (cy : Nat → ClassId) (g : Nat → Nat) (x0 : Int32) (x1 : Int32) (a0 : Nat) (v0 : Value) (v1 : Value) (v2 : Value) (v3 : Value) (v4 : Value) (v5 : Value) (v6 : Value) (v7 : Value) (v8 : Value) (v9 : Value) (v10 : Value) (v11 : Value) (v12 : Value) (v13 : Value) (v14 : Value) (v15 : Value) (v16 : Value) (v17 : Value) (v18 : Value) (v19 : Value) (v20 : Value) (v21 : Value) (v22 : Value) (v23 : Value) (v24 : Value) (v25 : Value) (v26 : Value) (sz : Nat) (h0 : x1 < 0) : Met l yX10_noState [.code yX10_noState cX10_noState 3 (some .boolean)] ({ frames := 1, cells := 0, slots := 0, locals := 25 }) (PC D cy g [(a0, .inr (15, [.int 0, v0, v1, v2, v3, v4, v5, v6, v7, v8, v9, v10, v11, v12, v13, v14, v15, v16, v17, v18, v19, v20, v21, v22, v23, v24, v25, v26]))] sz [.ref a0, .int x0, .int x1]) (QI D 1 (fun ad => [(a0, .inr (15, [.int 1, v0, v1, v2, v3, v4, v5, v6, v7, v8, v9, v10, v11, v12, v13, v14, v15, v16, v17, v18, v19, v20, v21, v22, v23, v24, v25, v26]))]) (va_A [(a0, .inr (15, [.int 0, v0, v1, v2, v3, v4, v5, v6, v7, v8, v9, v10, v11, v12, v13, v14, v15, v16, v17, v18, v19, v20, v21, v22, v23, v24, v25, v26]))] sz)) 0 0 (va_A [(a0, .inr (15, [.int 0, v0, v1, v2, v3, v4, v5, v6, v7, v8, v9, v10, v11, v12, v13, v14, v15, v16, v17, v18, v19, v20, v21, v22, v23, v24, v25, v26]))] sz) := by
  refine st_I (by decide) (Nat.le_of_ble_eq_true rfl) ?_
  intro p e s m args below meth c A ls hx hb hr hml hown hlk hnm hsz hP hD hA hE hts hS hl
  have hown : s.vm.findClass RX10 = some m.cls := hown
  have hl : lv_has ls 3 [(0, .ref a0), (1, .int x0), (2, .int x1)] := hl
  refine lv_aload_n hx hb dX10_noState_0 rfl (lv_at hl 0 rfl) ?_
  refine lv_iload_n hx hb dX10_noState_1 rfl (lv_at hl 2 rfl) ?_
  refine lv_i2l (v := x1.toInt64) hx hb dX10_noState_2 rfl ?_
  refine lv_lconst (v := 0) hx hb dX10_noState_3 (by decide) ?_
  refine lv_ldc2 (v := 20000) hx hb hown (hts _ tw_588) dX10_noState_4 ?_
  refine ca_i (isC := []) (isR := [0]) (wr := [(a0, .inr (15, [.int 0, v0, v1, v2, v3, v4, v5, v6, v7, v8, v9, v10, v11, v12, v13, v14, v15, v16, v17, v18, v19, v20, v21, v22, v23, v24, v25, v26]))]) (rn_S (isC := []) (wc := []) (As := [.long x1.toInt64, .long 0, .long 20000]) (rest := [.ref a0]) (n := 3) hx hb hml hown hts hE hS hP hD hA hl.1 (k21_X10_in l D cy g x1.toInt64 0 20000 s.heap.size (wl_lt rfl (by decide) h0)) rfl rfl ax_39 rfl rfl ax_40 ⟨Nat.le_of_ble_eq_true rfl, Nat.le_of_ble_eq_true rfl⟩ rfl rfl (Nat.le_of_ble_eq_true rfl) dX10_noState_7 ⟨(Nat.le_of_ble_eq_true rfl), (Nat.le_of_ble_eq_true rfl)⟩) hP hD hS hA rfl rfl rfl (by decide) (fun ad7 H locs hP hD hS => ?_)
  have hP : va_P D vwCl [(a0, .inr (15, [.int 0, v0, v1, v2, v3, v4, v5, v6, v7, v8, v9, v10, v11, v12, v13, v14, v15, v16, v17, v18, v19, v20, v21, v22, v23, v24, v25, v26]))] H := hP
  have hD : va_D A [(a0, .inr (15, [.int 0, v0, v1, v2, v3, v4, v5, v6, v7, v8, v9, v10, v11, v12, v13, v14, v15, v16, v17, v18, v19, v20, v21, v22, v23, v24, v25, v26]))] := hD
  refine lv_if_ne (tgt := 17) hx hb dX10_noState_10 (by decide) (fun z => absurd (by decide) z) (fun _ => ?_)
  refine lv_iconst (v := 1) hx hb dX10_noState_13 (by decide) ?_
  refine lv_goto (tgt := 18) hx hb dX10_noState_14 (by decide) ?_
  refine lv_iconst (v := 1) hx hb dX10_noState_18 (by decide) ?_
  refine ca_i (isC := [0]) (isR := []) (wr := []) (rn_V (ci := 15) (q0 := 0) (isC := [0]) (wc := [(a0, .inr (15, [.int 0, v0, v1, v2, v3, v4, v5, v6, v7, v8, v9, v10, v11, v12, v13, v14, v15, v16, v17, v18, v19, v20, v21, v22, v23, v24, v25, v26]))]) (As := [.int 1, .int 1]) (rest := []) (n := 2) hx hb hml hown hts hE hS hP hD hA hl.1 (k22_X10_fails l D cy g a0 (v0) (v1) (v2) (v3) (v4) (v5) (v6) (v7) (v8) (v9) (v10) (v11) (v12) (v13) (v14) (v15) (v16) (v17) (v18) (v19) (v20) (v21) (v22) (v23) (v24) (v25) (v26) H.size ) rfl rfl rfl rfl rfl ax_41 rfl rfl ax_42 ⟨Nat.le_of_ble_eq_true rfl, Nat.le_of_ble_eq_true rfl⟩ rfl rfl (Nat.le_of_ble_eq_true rfl) dX10_noState_19 ⟨(Nat.le_of_ble_eq_true rfl), (Nat.le_of_ble_eq_true rfl)⟩) hP hD hS hA rfl rfl rfl (by decide) (fun ad19 H locs hP hD hS => ?_)
  have hP : va_P D vwCl [(a0, .inr (15, [.int 1, v0, v1, v2, v3, v4, v5, v6, v7, v8, v9, v10, v11, v12, v13, v14, v15, v16, v17, v18, v19, v20, v21, v22, v23, v24, v25, v26]))] H := hP
  have hD : va_D A [(a0, .inr (15, [.int 1, v0, v1, v2, v3, v4, v5, v6, v7, v8, v9, v10, v11, v12, v13, v14, v15, v16, v17, v18, v19, v20, v21, v22, v23, v24, v25, v26]))] := hD
  refine lv_if_ne (tgt := 46) hx hb dX10_noState_22 (by decide) (fun _ => ?_) (fun z => absurd z (by decide))
  refine lv_iconst (v := 1) hx hb dX10_noState_46 (by decide) ?_
  refine lv_goto (tgt := 51) hx hb dX10_noState_47 (by decide) ?_
  exact en_z hx hb hr hlk hP hD hS rfl (fun _ => 0) (is := [0]) rfl rfl (Nat.le_of_ble_eq_true rfl) (Nat.le_of_ble_eq_true rfl) dX10_noState_51
set_option maxHeartbeats 4000000 in
set_option maxRecDepth 100000 in
theorem k169_X10_getPhase (l : Launch) (D : va_G) (cy : Nat → ClassId) (g : Nat → Nat) (x0 : Int32) (x1 : Int32) (a0 : Nat) (v0 : Value) (v1 : Value) (v2 : Value) (v3 : Value) (v4 : Value) (v5 : Value) (v6 : Value) (v7 : Value) (v8 : Value) (v9 : Value) (v10 : Value) (v11 : Value) (v12 : Value) (v13 : Value) (v14 : Value) (v15 : Value) (v16 : Value) (v17 : Value) (v18 : Value) (v19 : Value) (v20 : Value) (v21 : Value) (v22 : Value) (v23 : Value) (v24 : Value) (v25 : Value) (v26 : Value) (v27 : Value) (sz : Nat) (h0 : x1 < 0) : Met l yX10_getPhase [.code yX10_getPhase cX10_getPhase 3 (some .char)] ({ frames := 2, cells := 0, slots := 0, locals := 47 }) (PC D cy g [(a0, .inr (15, [v0, v1, v2, v3, v4, v5, v6, v7, v8, v9, v10, v11, v12, v13, v14, v15, v16, v17, v18, v19, v20, v21, v22, v23, v24, v25, v26, v27]))] sz [.ref a0, .int x0, .int x1]) (QI D 32 (fun ad => [(a0, .inr (15, [.int 1, v1, v2, v3, v4, v5, v6, v7, v8, v9, v10, v11, v12, v13, v14, v15, v16, v17, v18, v19, v20, v21, v22, v23, v24, v25, v26, v27]))]) (va_A [(a0, .inr (15, [v0, v1, v2, v3, v4, v5, v6, v7, v8, v9, v10, v11, v12, v13, v14, v15, v16, v17, v18, v19, v20, v21, v22, v23, v24, v25, v26, v27]))] sz)) 0 0 (va_A [(a0, .inr (15, [v0, v1, v2, v3, v4, v5, v6, v7, v8, v9, v10, v11, v12, v13, v14, v15, v16, v17, v18, v19, v20, v21, v22, v23, v24, v25, v26, v27]))] sz) := by
  refine st_I (by decide) (Nat.le_of_ble_eq_true rfl) ?_
  intro p e s m args below meth c A ls hx hb hr hml hown hlk hnm hsz hP hD hA hE hts hS hl
  have hown : s.vm.findClass RX10 = some m.cls := hown
  have hl : lv_has ls 3 [(0, .ref a0), (1, .int x0), (2, .int x1)] := hl
  refine lv_aload_n hx hb dX10_getPhase_0 rfl (lv_at hl 0 rfl) ?_
  refine ca_v (isC := [0]) (isR := []) (wr := []) (rn_V (ci := 15) (q0 := 0) (isC := [0]) (wc := [(a0, .inr (15, [v0, v1, v2, v3, v4, v5, v6, v7, v8, v9, v10, v11, v12, v13, v14, v15, v16, v17, v18, v19, v20, v21, v22, v23, v24, v25, v26, v27]))]) (As := []) (rest := []) (n := 0) hx hb hml hown hts hE hS hP hD hA hl.1 (k20_X10_begins l D cy g a0 (v0) (v1) (v2) (v3) (v4) (v5) (v6) (v7) (v8) (v9) (v10) (v11) (v12) (v13) (v14) (v15) (v16) (v17) (v18) (v19) (v20) (v21) (v22) (v23) (v24) (v25) (v26) (v27) s.heap.size ) rfl rfl rfl rfl rfl ax_37 rfl rfl ax_38 ⟨Nat.le_of_ble_eq_true rfl, Nat.le_of_ble_eq_true rfl⟩ rfl rfl (Nat.le_of_ble_eq_true rfl) dX10_getPhase_1 ⟨(Nat.le_of_ble_eq_true rfl), (Nat.le_of_ble_eq_true rfl)⟩) hP hD hS hA rfl rfl rfl (by decide) (fun ad1 H locs hP hD hS => ?_)
  have hP : va_P D vwCl [(a0, .inr (15, [.int 0, v1, v2, v3, v4, v5, v6, v7, v8, v9, v10, v11, v12, v13, v14, v15, v16, v17, v18, v19, v20, v21, v22, v23, v24, v25, v26, v27]))] H := hP
  have hD : va_D A [(a0, .inr (15, [.int 0, v1, v2, v3, v4, v5, v6, v7, v8, v9, v10, v11, v12, v13, v14, v15, v16, v17, v18, v19, v20, v21, v22, v23, v24, v25, v26, v27]))] := hD
  refine lv_aload_n hx hb dX10_getPhase_4 rfl (lv_at hl 0 rfl) ?_
  refine lv_iload_n hx hb dX10_getPhase_5 rfl (lv_at hl 1 rfl) ?_
  refine lv_iload_n hx hb dX10_getPhase_6 rfl (lv_at hl 2 rfl) ?_
  refine ca_i (isC := [0]) (isR := []) (wr := []) (rn_V (ci := 15) (q0 := 0) (isC := [0]) (wc := [(a0, .inr (15, [.int 0, v1, v2, v3, v4, v5, v6, v7, v8, v9, v10, v11, v12, v13, v14, v15, v16, v17, v18, v19, v20, v21, v22, v23, v24, v25, v26, v27]))]) (As := [.int x0, .int x1]) (rest := []) (n := 2) hx hb hml hown hts hE hS hP hD hA hl.1 (k168_X10_noState l D cy g x0 x1 a0 (v1) (v2) (v3) (v4) (v5) (v6) (v7) (v8) (v9) (v10) (v11) (v12) (v13) (v14) (v15) (v16) (v17) (v18) (v19) (v20) (v21) (v22) (v23) (v24) (v25) (v26) (v27) H.size h0) rfl rfl rfl rfl rfl ax_164 rfl rfl ax_165 ⟨Nat.le_of_ble_eq_true rfl, Nat.le_of_ble_eq_true rfl⟩ rfl rfl (Nat.le_of_ble_eq_true rfl) dX10_getPhase_7 ⟨(Nat.le_of_ble_eq_true rfl), (Nat.le_of_ble_eq_true rfl)⟩) hP hD hS hA rfl rfl rfl (by decide) (fun ad7 H locs hP hD hS => ?_)
  have hP : va_P D vwCl [(a0, .inr (15, [.int 1, v1, v2, v3, v4, v5, v6, v7, v8, v9, v10, v11, v12, v13, v14, v15, v16, v17, v18, v19, v20, v21, v22, v23, v24, v25, v26, v27]))] H := hP
  have hD : va_D A [(a0, .inr (15, [.int 1, v1, v2, v3, v4, v5, v6, v7, v8, v9, v10, v11, v12, v13, v14, v15, v16, v17, v18, v19, v20, v21, v22, v23, v24, v25, v26, v27]))] := hD
  refine lv_if_eq (tgt := 18) hx hb dX10_getPhase_10 (by decide) (fun z => absurd z (by decide)) (fun _ => ?_)
  refine lv_bipush (v := 32) hx hb dX10_getPhase_13 (by decide) ?_
  refine lv_goto (tgt := 24) hx hb dX10_getPhase_15 (by decide) ?_
  exact en_z hx hb hr hlk hP hD hS rfl (fun _ => 0) (is := [0]) rfl rfl (Nat.le_of_ble_eq_true rfl) (Nat.le_of_ble_eq_true rfl) dX10_getPhase_24
set_option maxHeartbeats 4000000 in
set_option maxRecDepth 100000 in
theorem k170_X9_requireStateHeat (l : Launch) (hst : l.stackTraces = false) (D : va_G) (cy : Nat → ClassId) (g : Nat → Nat) (x0 : Int32) (b0 : Nat) (sz : Nat) (h0 : ¬ x0 < 0) (h1 : (20000 : Int32) < x0) : vx_Met l yX9_requireStateHeat [.code yX9_requireStateHeat cX9_requireStateHeat 2 none] ({ frames := 6, cells := 1, slots := 6, locals := 82 }) (PC D cy g [] sz [.ref b0, .int x0]) QN (XE "java/lang/IllegalArgumentException" (va_A [] sz)) 1 6 (va_A [] sz) := by
  refine st_X (by decide) (Nat.le_of_ble_eq_true rfl) ?_
  intro p e s m args below meth c A ls hx hb hr hml hown hlk hnm hsz hP hD hA hE hts hS hl hout
  have hown : s.vm.findClass RX9 = some m.cls := hown
  have hl : lv_has ls 2 [(0, .ref b0), (1, .int x0)] := hl
  refine lv_iload_n hx hb dX9_requireStateHeat_0 rfl (lv_at hl 1 rfl) ?_
  refine lv_iconst (v := 0) hx hb dX9_requireStateHeat_1 (by decide) ?_
  refine lv_sipush (v := 20000) hx hb dX9_requireStateHeat_2 (by decide) ?_
  refine ca_i (isC := []) (isR := []) (wr := []) (rn_S (isC := []) (wc := []) (As := [.int x0, .int 0, .int 20000]) (rest := []) (n := 3) hx hb hml hown hts hE hS hP hD hA hl.1 (k25_X9_isOutside l D cy g x0 0 20000 s.heap.size h0 h1) rfl rfl ax_30 rfl rfl ax_31 ⟨Nat.le_of_ble_eq_true rfl, Nat.le_of_ble_eq_true rfl⟩ rfl rfl (Nat.le_of_ble_eq_true rfl) dX9_requireStateHeat_5 ⟨(Nat.le_of_ble_eq_true rfl), (Nat.le_of_ble_eq_true rfl)⟩) hP hD hS hA rfl rfl rfl (by decide) (fun ad5 H locs hP hD hS => ?_)
  have hP : va_P D vwCl [] H := hP
  have hD : va_D A [] := hD
  refine lv_if_eq (tgt := 22) hx hb dX9_requireStateHeat_8 (by decide) (fun z => absurd z (by decide)) (fun _ => ?_)
  exact th_SW (text := "the heat is out of range") hx hb hst hown hts hE hS (hl.1.trans hml.symm) hout hlk (by decide +kernel) tw_296 tw_297 ax_32 (by decide +kernel) dX9_requireStateHeat_11 dX9_requireStateHeat_14 dX9_requireStateHeat_15 dX9_requireStateHeat_18 dX9_requireStateHeat_21 ⟨Nat.le_of_ble_eq_true rfl, Nat.le_of_ble_eq_true rfl, Nat.le_of_ble_eq_true rfl, Nat.le_of_ble_eq_true rfl⟩ (Nat.le_of_ble_eq_true rfl) (Nat.le_of_ble_eq_true rfl)
set_option maxHeartbeats 4000000 in
set_option maxRecDepth 100000 in
theorem k171_X9_requireState (l : Launch) (hst : l.stackTraces = false) (D : va_G) (cy : Nat → ClassId) (g : Nat → Nat) (x0 : Int32) (x1 : Int32) (a0 : Nat) (v0 : Value) (v1 : Value) (v2 : Value) (v3 : Value) (v4 : Value) (v5 : Value) (v6 : Value) (sz : Nat) (h0 : ¬ x1 < 0) (h1 : (20000 : Int32) < x1) : vx_Met l yX9_requireState [.code yX9_requireState cX9_requireState 3 none] ({ frames := 7, cells := 1, slots := 6, locals := 103 }) (PC D cy g [(a0, .inr (14, [v0, v1, v2, v3, v4, v5, v6]))] sz [.ref a0, .int x0, .int x1]) QN (XE "java/lang/IllegalArgumentException" (va_A [(a0, .inr (14, [v0, v1, v2, v3, v4, v5, v6]))] sz)) 1 6 (va_A [(a0, .inr (14, [v0, v1, v2, v3, v4, v5, v6]))] sz) := by
  refine st_X (by decide) (Nat.le_of_ble_eq_true rfl) ?_
  intro p e s m args below meth c A ls hx hb hr hml hown hlk hnm hsz hP hD hA hE hts hS hl hout
  have hown : s.vm.findClass RX9 = some m.cls := hown
  have hl : lv_has ls 3 [(0, .ref a0), (1, .int x0), (2, .int x1)] := hl
  refine lv_aload_n hx hb dX9_requireState_0 rfl (lv_at hl 0 rfl) ?_
  refine lv_iload_n hx hb dX9_requireState_1 rfl (lv_at hl 2 rfl) ?_
  exact cx_out (isC := []) (rx_V (ci := 14) (q0 := 0) (isC := []) (wc := []) (As := [.int x1]) (rest := []) (n := 1) hx hb hml hown hts hE hS hP hD hA hl.1 (k170_X9_requireStateHeat l hst D cy g x1 a0 s.heap.size h0 h1) rfl rfl rfl rfl rfl ax_156 rfl rfl ax_157 ⟨Nat.le_of_ble_eq_true rfl, Nat.le_of_ble_eq_true rfl⟩ rfl rfl (Nat.le_of_ble_eq_true rfl) dX9_requireState_2 ⟨(Nat.le_of_ble_eq_true rfl), (Nat.le_of_ble_eq_true rfl)⟩) hD hS hA rfl hout hlk (Nat.le_of_ble_eq_true rfl) (Nat.le_of_ble_eq_true rfl)
set_option maxHeartbeats 4000000 in
set_option maxRecDepth 100000 in
theorem k172_X9_getPhase (l : Launch) (hst : l.stackTraces = false) (D : va_G) (cy : Nat → ClassId) (g : Nat → Nat) (x0 : Int32) (x1 : Int32) (a0 : Nat) (v0 : Value) (v1 : Value) (v2 : Value) (v3 : Value) (v4 : Value) (v5 : Value) (v6 : Value) (sz : Nat) (h0 : ¬ x1 < 0) (h1 : (20000 : Int32) < x1) : vx_Met l yX9_getPhase [.code yX9_getPhase cX9_getPhase 3 (some .char)] ({ frames := 8, cells := 1, slots := 6, locals := 125 }) (PC D cy g [(a0, .inr (14, [v0, v1, v2, v3, v4, v5, v6]))] sz [.ref a0, .int x0, .int x1]) QN (XE "java/lang/IllegalArgumentException" (va_A [(a0, .inr (14, [v0, v1, v2, v3, v4, v5, v6]))] sz)) 1 6 (va_A [(a0, .inr (14, [v0, v1, v2, v3, v4, v5, v6]))] sz) := by
  refine st_X (by decide) (Nat.le_of_ble_eq_true rfl) ?_
  intro p e s m args below meth c A ls hx hb hr hml hown hlk hnm hsz hP hD hA hE hts hS hl hout
  have hown : s.vm.findClass RX9 = some m.cls := hown
  have hl : lv_has ls 3 [(0, .ref a0), (1, .int x0), (2, .int x1)] := hl
  refine lv_aload_n hx hb dX9_getPhase_0 rfl (lv_at hl 0 rfl) ?_
  refine lv_iload_n hx hb dX9_getPhase_1 rfl (lv_at hl 1 rfl) ?_
  refine lv_iload_n hx hb dX9_getPhase_2 rfl (lv_at hl 2 rfl) ?_
  exact cx_out (isC := [0]) (rx_V (ci := 14) (q0 := 0) (isC := [0]) (wc := [(a0, .inr (14, [v0, v1, v2, v3, v4, v5, v6]))]) (As := [.int x0, .int x1]) (rest := []) (n := 2) hx hb hml hown hts hE hS hP hD hA hl.1 (k171_X9_requireState l hst D cy g x0 x1 a0 (v0) (v1) (v2) (v3) (v4) (v5) (v6) s.heap.size h0 h1) rfl rfl rfl rfl rfl ax_158 rfl rfl ax_159 ⟨Nat.le_of_ble_eq_true rfl, Nat.le_of_ble_eq_true rfl⟩ rfl rfl (Nat.le_of_ble_eq_true rfl) dX9_getPhase_3 ⟨(Nat.le_of_ble_eq_true rfl), (Nat.le_of_ble_eq_true rfl)⟩) hD hS hA rfl hout hlk (Nat.le_of_ble_eq_true rfl) (Nat.le_of_ble_eq_true rfl)
set_option maxHeartbeats 4000000 in
set_option maxRecDepth 100000 in
theorem k173_L_getPhase (l : Launch) (hst : l.stackTraces = false) (D : va_G) (cy : Nat → ClassId) (g : Nat → Nat) (x0 : Int32) (x1 : Int32) (a0 : Nat) (b0 : Nat) (v0 : Value) (v1 : Value) (v2 : Value) (v3 : Value) (v4 : Value) (v5 : Value) (v6 : Value) (sz : Nat) (h0 : ¬ x1 < 0) (h1 : (20000 : Int32) < x1) : Met l yL_getPhase [.codeWith yL_getPhase cL_getPhase 5 (some .int) [(0, 10, 13, 13), (0, 10, 17, 45)]] ({ frames := 9, cells := 1, slots := 6, locals := 147 }) (PC D cy g [(a0, .inr (14, [v0, v1, v2, v3, v4, v5, v6]))] sz [.ref a0, .int x0, .int x1, .ref b0]) (QI D 1 (fun ad => []) (va_A [(a0, .inr (14, [v0, v1, v2, v3, v4, v5, v6]))] sz)) 1 6 (va_A [(a0, .inr (14, [v0, v1, v2, v3, v4, v5, v6]))] sz) := by
  refine sh_I (by decide) (Nat.le_of_ble_eq_true rfl) ?_
  intro p e s m args below meth c A ls hx hb hr hml hown hlk hnm hsz hP hD hA hE hts hS hl htb
  have hown : s.vm.findClass RL = some m.cls := hown
  have hl : lv_has ls 5 [(0, .ref a0), (1, .int x0), (2, .int x1), (3, .ref b0)] := hl
  refine lv_aload_n hx hb dL_getPhase_0 rfl (lv_at hl 3 rfl) ?_
  refine lv_iconst (v := 0) hx hb dL_getPhase_1 (by decide) ?_
  refine lv_aload_n hx hb dL_getPhase_2 rfl (lv_at hl 0 rfl) ?_
  refine lv_iload_n hx hb dL_getPhase_3 rfl (lv_at hl 1 rfl) ?_
  refine lv_iload_n hx hb dL_getPhase_4 rfl (lv_at hl 2 rfl) ?_
  refine cx_catch (isC := [0]) (isR := []) (wr := []) (hp := []) (z := (0, 10, 13, 13)) (hq := [(0, 10, 17, 45)]) (name := "java/lang/IllegalArgumentException") (own := RL) (rx_V (ci := 14) (q0 := 0) (isC := [0]) (wc := [(a0, .inr (14, [v0, v1, v2, v3, v4, v5, v6]))]) (As := [.int x0, .int x1]) (rest := [.int 0, .ref b0]) (n := 2) hx hb hml hown hts hE hS hP hD hA hl.1 (k172_X9_getPhase l hst D cy g x0 x1 a0 (v0) (v1) (v2) (v3) (v4) (v5) (v6) s.heap.size h0 h1) rfl rfl rfl rfl rfl ax_160 rfl rfl ax_161 ⟨Nat.le_of_ble_eq_true rfl, Nat.le_of_ble_eq_true rfl⟩ rfl rfl (Nat.le_of_ble_eq_true rfl) dL_getPhase_5 ⟨(Nat.le_of_ble_eq_true rfl), (Nat.le_of_ble_eq_true rfl)⟩) hP hD hS hA hown hts hE htb rfl rfl rfl rfl (by decide) (fun z hz => by cases hz) (by decide) (by decide) tw_302 tw_303 (fun qx H locs hP hD hS => ?_)
  have hP : va_P D vwCl [] H := hP
  have hD : va_D A [] := hD
  refine lv_astore (lv' := [(4, .ref qx), (0, .ref a0), (1, .int x0), (2, .int x1), (3, .ref b0)]) hx hb dL_getPhase_13 hl (Nat.le_of_ble_eq_true rfl) rfl (fun ls hl => ?_)
  refine lv_iconst (v := 1) hx hb dL_getPhase_15 (by decide) ?_
  exact en_z hx hb hr hlk hP hD hS rfl (fun _ => 0) (is := []) rfl rfl (Nat.le_of_ble_eq_true rfl) (Nat.le_of_ble_eq_true rfl) dL_getPhase_16
set_option maxHeartbeats 4000000 in
set_option maxRecDepth 100000 in
theorem k174_X10_noState (l : Launch) (D : va_G) (cy : Nat → ClassId) (g : Nat → Nat) (x0 : Int32) (x1 : Int32) (a0 : Nat) (v0 : Value) (v1 : Value) (v2 : Value) (v3 : Value) (v4 : Value) (v5 : Value) (v6 : Value) (v7 : Value) (v8 : Value) (v9 : Value) (v10 : Value) (v11 : Value) (v12 : Value) (v13 : Value) (v14 : Value) (v15 : Value) (v16 : Value) (v17 : Value) (v18 : Value) (v19 : Value) (v20 : Value) (v21 : Value) (v22 : Value) (v23 : Value) (v24 : Value) (v25 : Value) (v26 : Value) (sz : Nat) (h0 : ¬ x1 < 0) (h1 : (20000 : Int32) < x1) : Met l yX10_noState [.code yX10_noState cX10_noState 3 (some .boolean)] ({ frames := 1, cells := 0, slots := 0, locals := 25 }) (PC D cy g [(a0, .inr (15, [.int 0, v0, v1, v2, v3, v4, v5, v6, v7, v8, v9, v10, v11, v12, v13, v14, v15, v16, v17, v18, v19, v20, v21, v22, v23, v24, v25, v26]))] sz [.ref a0, .int x0, .int x1]) (QI D 1 (fun ad => [(a0, .inr (15, [.int 1, v0, v1, v2, v3, v4, v5, v6, v7, v8, v9, v10, v11, v12, v13, v14, v15, v16, v17, v18, v19, v20, v21, v22, v23, v24, v25, v26]))]) (va_A [(a0, .inr (15, [.int 0, v0, v1, v2, v3, v4, v5, v6, v7, v8, v9, v10, v11, v12, v13, v14, v15, v16, v17, v18, v19, v20, v21, v22, v23, v24, v25, v26]))] sz)) 0 0 (va_A [(a0, .inr (15, [.int 0, v0, v1, v2, v3, v4, v5, v6, v7, v8, v9, v10, v11, v12, v13, v14, v15, v16, v17, v18, v19, v20, v21, v22, v23, v24, v25, v26]))] sz) := by
  refine st_I (by decide) (Nat.le_of_ble_eq_true rfl) ?_
  intro p e s m args below meth c A ls hx hb hr hml hown hlk hnm hsz hP hD hA hE hts hS hl
  have hown : s.vm.findClass RX10 = some m.cls := hown
  have hl : lv_has ls 3 [(0, .ref a0), (1, .int x0), (2, .int x1)] := hl
  refine lv_aload_n hx hb dX10_noState_0 rfl (lv_at hl 0 rfl) ?_
  refine lv_iload_n hx hb dX10_noState_1 rfl (lv_at hl 2 rfl) ?_
  refine lv_i2l (v := x1.toInt64) hx hb dX10_noState_2 rfl ?_
  refine lv_lconst (v := 0) hx hb dX10_noState_3 (by decide) ?_
  refine lv_ldc2 (v := 20000) hx hb hown (hts _ tw_588) dX10_noState_4 ?_
  refine ca_i (isC := []) (isR := [0]) (wr := [(a0, .inr (15, [.int 0, v0, v1, v2, v3, v4, v5, v6, v7, v8, v9, v10, v11, v12, v13, v14, v15, v16, v17, v18, v19, v20, v21, v22, v23, v24, v25, v26]))]) (rn_S (isC := []) (wc := []) (As := [.long x1.toInt64, .long 0, .long 20000]) (rest := [.ref a0]) (n := 3) hx hb hml hown hts hE hS hP hD hA hl.1 (k28_X10_in l D cy g x1.toInt64 0 20000 s.heap.size (wl_nlt rfl (by decide) h0) (wl_lt (by decide) rfl h1)) rfl rfl ax_39 rfl rfl ax_40 ⟨Nat.le_of_ble_eq_true rfl, Nat.le_of_ble_eq_true rfl⟩ rfl rfl (Nat.le_of_ble_eq_true rfl) dX10_noState_7 ⟨(Nat.le_of_ble_eq_true rfl), (Nat.le_of_ble_eq_true rfl)⟩) hP hD hS hA rfl rfl rfl (by decide) (fun ad7 H locs hP hD hS => ?_)
  have hP : va_P D vwCl [(a0, .inr (15, [.int 0, v0, v1, v2, v3, v4, v5, v6, v7, v8, v9, v10, v11, v12, v13, v14, v15, v16, v17, v18, v19, v20, v21, v22, v23, v24, v25, v26]))] H := hP
  have hD : va_D A [(a0, .inr (15, [.int 0, v0, v1, v2, v3, v4, v5, v6, v7, v8, v9, v10, v11, v12, v13, v14, v15, v16, v17, v18, v19, v20, v21, v22, v23, v24, v25, v26]))] := hD
  refine lv_if_ne (tgt := 17) hx hb dX10_noState_10 (by decide) (fun z => absurd (by decide) z) (fun _ => ?_)
  refine lv_iconst (v := 1) hx hb dX10_noState_13 (by decide) ?_
  refine lv_goto (tgt := 18) hx hb dX10_noState_14 (by decide) ?_
  refine lv_iconst (v := 1) hx hb dX10_noState_18 (by decide) ?_
  refine ca_i (isC := [0]) (isR := []) (wr := []) (rn_V (ci := 15) (q0 := 0) (isC := [0]) (wc := [(a0, .inr (15, [.int 0, v0, v1, v2, v3, v4, v5, v6, v7, v8, v9, v10, v11, v12, v13, v14, v15, v16, v17, v18, v19, v20, v21, v22, v23, v24, v25, v26]))]) (As := [.int 1, .int 1]) (rest := []) (n := 2) hx hb hml hown hts hE hS hP hD hA hl.1 (k22_X10_fails l D cy g a0 (v0) (v1) (v2) (v3) (v4) (v5) (v6) (v7) (v8) (v9) (v10) (v11) (v12) (v13) (v14) (v15) (v16) (v17) (v18) (v19) (v20) (v21) (v22) (v23) (v24) (v25) (v26) H.size ) rfl rfl rfl rfl rfl ax_41 rfl rfl ax_42 ⟨Nat.le_of_ble_eq_true rfl, Nat.le_of_ble_eq_true rfl⟩ rfl rfl (Nat.le_of_ble_eq_true rfl) dX10_noState_19 ⟨(Nat.le_of_ble_eq_true rfl), (Nat.le_of_ble_eq_true rfl)⟩) hP hD hS hA rfl rfl rfl (by decide) (fun ad19 H locs hP hD hS => ?_)
  have hP : va_P D vwCl [(a0, .inr (15, [.int 1, v0, v1, v2, v3, v4, v5, v6, v7, v8, v9, v10, v11, v12, v13, v14, v15, v16, v17, v18, v19, v20, v21, v22, v23, v24, v25, v26]))] H := hP
  have hD : va_D A [(a0, .inr (15, [.int 1, v0, v1, v2, v3, v4, v5, v6, v7, v8, v9, v10, v11, v12, v13, v14, v15, v16, v17, v18, v19, v20, v21, v22, v23, v24, v25, v26]))] := hD
  refine lv_if_ne (tgt := 46) hx hb dX10_noState_22 (by decide) (fun _ => ?_) (fun z => absurd z (by decide))
  refine lv_iconst (v := 1) hx hb dX10_noState_46 (by decide) ?_
  refine lv_goto (tgt := 51) hx hb dX10_noState_47 (by decide) ?_
  exact en_z hx hb hr hlk hP hD hS rfl (fun _ => 0) (is := [0]) rfl rfl (Nat.le_of_ble_eq_true rfl) (Nat.le_of_ble_eq_true rfl) dX10_noState_51
set_option maxHeartbeats 4000000 in
set_option maxRecDepth 100000 in
theorem k175_X10_getPhase (l : Launch) (D : va_G) (cy : Nat → ClassId) (g : Nat → Nat) (x0 : Int32) (x1 : Int32) (a0 : Nat) (v0 : Value) (v1 : Value) (v2 : Value) (v3 : Value) (v4 : Value) (v5 : Value) (v6 : Value) (v7 : Value) (v8 : Value) (v9 : Value) (v10 : Value) (v11 : Value) (v12 : Value) (v13 : Value) (v14 : Value) (v15 : Value) (v16 : Value) (v17 : Value) (v18 : Value) (v19 : Value) (v20 : Value) (v21 : Value) (v22 : Value) (v23 : Value) (v24 : Value) (v25 : Value) (v26 : Value) (v27 : Value) (sz : Nat) (h0 : ¬ x1 < 0) (h1 : (20000 : Int32) < x1) : Met l yX10_getPhase [.code yX10_getPhase cX10_getPhase 3 (some .char)] ({ frames := 2, cells := 0, slots := 0, locals := 47 }) (PC D cy g [(a0, .inr (15, [v0, v1, v2, v3, v4, v5, v6, v7, v8, v9, v10, v11, v12, v13, v14, v15, v16, v17, v18, v19, v20, v21, v22, v23, v24, v25, v26, v27]))] sz [.ref a0, .int x0, .int x1]) (QI D 32 (fun ad => [(a0, .inr (15, [.int 1, v1, v2, v3, v4, v5, v6, v7, v8, v9, v10, v11, v12, v13, v14, v15, v16, v17, v18, v19, v20, v21, v22, v23, v24, v25, v26, v27]))]) (va_A [(a0, .inr (15, [v0, v1, v2, v3, v4, v5, v6, v7, v8, v9, v10, v11, v12, v13, v14, v15, v16, v17, v18, v19, v20, v21, v22, v23, v24, v25, v26, v27]))] sz)) 0 0 (va_A [(a0, .inr (15, [v0, v1, v2, v3, v4, v5, v6, v7, v8, v9, v10, v11, v12, v13, v14, v15, v16, v17, v18, v19, v20, v21, v22, v23, v24, v25, v26, v27]))] sz) := by
  refine st_I (by decide) (Nat.le_of_ble_eq_true rfl) ?_
  intro p e s m args below meth c A ls hx hb hr hml hown hlk hnm hsz hP hD hA hE hts hS hl
  have hown : s.vm.findClass RX10 = some m.cls := hown
  have hl : lv_has ls 3 [(0, .ref a0), (1, .int x0), (2, .int x1)] := hl
  refine lv_aload_n hx hb dX10_getPhase_0 rfl (lv_at hl 0 rfl) ?_
  refine ca_v (isC := [0]) (isR := []) (wr := []) (rn_V (ci := 15) (q0 := 0) (isC := [0]) (wc := [(a0, .inr (15, [v0, v1, v2, v3, v4, v5, v6, v7, v8, v9, v10, v11, v12, v13, v14, v15, v16, v17, v18, v19, v20, v21, v22, v23, v24, v25, v26, v27]))]) (As := []) (rest := []) (n := 0) hx hb hml hown hts hE hS hP hD hA hl.1 (k20_X10_begins l D cy g a0 (v0) (v1) (v2) (v3) (v4) (v5) (v6) (v7) (v8) (v9) (v10) (v11) (v12) (v13) (v14) (v15) (v16) (v17) (v18) (v19) (v20) (v21) (v22) (v23) (v24) (v25) (v26) (v27) s.heap.size ) rfl rfl rfl rfl rfl ax_37 rfl rfl ax_38 ⟨Nat.le_of_ble_eq_true rfl, Nat.le_of_ble_eq_true rfl⟩ rfl rfl (Nat.le_of_ble_eq_true rfl) dX10_getPhase_1 ⟨(Nat.le_of_ble_eq_true rfl), (Nat.le_of_ble_eq_true rfl)⟩) hP hD hS hA rfl rfl rfl (by decide) (fun ad1 H locs hP hD hS => ?_)
  have hP : va_P D vwCl [(a0, .inr (15, [.int 0, v1, v2, v3, v4, v5, v6, v7, v8, v9, v10, v11, v12, v13, v14, v15, v16, v17, v18, v19, v20, v21, v22, v23, v24, v25, v26, v27]))] H := hP
  have hD : va_D A [(a0, .inr (15, [.int 0, v1, v2, v3, v4, v5, v6, v7, v8, v9, v10, v11, v12, v13, v14, v15, v16, v17, v18, v19, v20, v21, v22, v23, v24, v25, v26, v27]))] := hD
  refine lv_aload_n hx hb dX10_getPhase_4 rfl (lv_at hl 0 rfl) ?_
  refine lv_iload_n hx hb dX10_getPhase_5 rfl (lv_at hl 1 rfl) ?_
  refine lv_iload_n hx hb dX10_getPhase_6 rfl (lv_at hl 2 rfl) ?_
  refine ca_i (isC := [0]) (isR := []) (wr := []) (rn_V (ci := 15) (q0 := 0) (isC := [0]) (wc := [(a0, .inr (15, [.int 0, v1, v2, v3, v4, v5, v6, v7, v8, v9, v10, v11, v12, v13, v14, v15, v16, v17, v18, v19, v20, v21, v22, v23, v24, v25, v26, v27]))]) (As := [.int x0, .int x1]) (rest := []) (n := 2) hx hb hml hown hts hE hS hP hD hA hl.1 (k174_X10_noState l D cy g x0 x1 a0 (v1) (v2) (v3) (v4) (v5) (v6) (v7) (v8) (v9) (v10) (v11) (v12) (v13) (v14) (v15) (v16) (v17) (v18) (v19) (v20) (v21) (v22) (v23) (v24) (v25) (v26) (v27) H.size h0 h1) rfl rfl rfl rfl rfl ax_164 rfl rfl ax_165 ⟨Nat.le_of_ble_eq_true rfl, Nat.le_of_ble_eq_true rfl⟩ rfl rfl (Nat.le_of_ble_eq_true rfl) dX10_getPhase_7 ⟨(Nat.le_of_ble_eq_true rfl), (Nat.le_of_ble_eq_true rfl)⟩) hP hD hS hA rfl rfl rfl (by decide) (fun ad7 H locs hP hD hS => ?_)
  have hP : va_P D vwCl [(a0, .inr (15, [.int 1, v1, v2, v3, v4, v5, v6, v7, v8, v9, v10, v11, v12, v13, v14, v15, v16, v17, v18, v19, v20, v21, v22, v23, v24, v25, v26, v27]))] H := hP
  have hD : va_D A [(a0, .inr (15, [.int 1, v1, v2, v3, v4, v5, v6, v7, v8, v9, v10, v11, v12, v13, v14, v15, v16, v17, v18, v19, v20, v21, v22, v23, v24, v25, v26, v27]))] := hD
  refine lv_if_eq (tgt := 18) hx hb dX10_getPhase_10 (by decide) (fun z => absurd z (by decide)) (fun _ => ?_)
  refine lv_bipush (v := 32) hx hb dX10_getPhase_13 (by decide) ?_
  refine lv_goto (tgt := 24) hx hb dX10_getPhase_15 (by decide) ?_
  exact en_z hx hb hr hlk hP hD hS rfl (fun _ => 0) (is := [0]) rfl rfl (Nat.le_of_ble_eq_true rfl) (Nat.le_of_ble_eq_true rfl) dX10_getPhase_24
set_option maxHeartbeats 4000000 in
set_option maxRecDepth 100000 in
theorem k176_X9_requireStateHeat (l : Launch) (D : va_G) (cy : Nat → ClassId) (g : Nat → Nat) (x0 : Int32) (b0 : Nat) (sz : Nat) (h0 : ¬ x0 < 0) (h1 : ¬ (20000 : Int32) < x0) : Met l yX9_requireStateHeat [.code yX9_requireStateHeat cX9_requireStateHeat 2 none] ({ frames := 1, cells := 0, slots := 0, locals := 22 }) (PC D cy g [] sz [.ref b0, .int x0]) (QV D (fun ad => []) (va_A [] sz)) 0 0 (va_A [] sz) := by
  refine st_V (by decide) (Nat.le_of_ble_eq_true rfl) ?_
  intro p e s m args below meth c A ls hx hb hr hml hown hlk hnm hsz hP hD hA hE hts hS hl
  have hown : s.vm.findClass RX9 = some m.cls := hown
  have hl : lv_has ls 2 [(0, .ref b0), (1, .int x0)] := hl
  refine lv_iload_n hx hb dX9_requireStateHeat_0 rfl (lv_at hl 1 rfl) ?_
  refine lv_iconst (v := 0) hx hb dX9_requireStateHeat_1 (by decide) ?_
  refine lv_sipush (v := 20000) hx hb dX9_requireStateHeat_2 (by decide) ?_
  refine ca_i (isC := []) (isR := []) (wr := []) (rn_S (isC := []) (wc := []) (As := [.int x0, .int 0, .int 20000]) (rest := []) (n := 3) hx hb hml hown hts hE hS hP hD hA hl.1 (k30_X9_isOutside l D cy g x0 0 20000 s.heap.size h0 h1) rfl rfl ax_30 rfl rfl ax_31 ⟨Nat.le_of_ble_eq_true rfl, Nat.le_of_ble_eq_true rfl⟩ rfl rfl (Nat.le_of_ble_eq_true rfl) dX9_requireStateHeat_5 ⟨(Nat.le_of_ble_eq_true rfl), (Nat.le_of_ble_eq_true rfl)⟩) hP hD hS hA rfl rfl rfl (by decide) (fun ad5 H locs hP hD hS => ?_)
  have hP : va_P D vwCl [] H := hP
  have hD : va_D A [] := hD
  refine lv_if_eq (tgt := 22) hx hb dX9_requireStateHeat_8 (by decide) (fun _ => ?_) (fun z => absurd (by decide) z)
  exact en_v hx hb hr hlk hP hD hS (fun _ => 0) (is := []) rfl rfl (Nat.le_of_ble_eq_true rfl) (Nat.le_of_ble_eq_true rfl) dX9_requireStateHeat_22
set_option maxHeartbeats 4000000 in
set_option maxRecDepth 100000 in
theorem k177_X9_requireState (l : Launch) (hst : l.stackTraces = false) (D : va_G) (cy : Nat → ClassId) (g : Nat → Nat) (x0 : Int32) (x1 : Int32) (a0 : Nat) (a1 : Nat) (v0 : Value) (v1 : Value) (v2 : Value) (v3 : Value) (v4 : Value) (v5 : Value) (v6 : Value) (v7 : Value) (v8 : Value) (v9 : Value) (sz : Nat) (h0 : ¬ x1 < 0) (h1 : ¬ (20000 : Int32) < x1) : vx_Met l yX9_requireState [.code yX9_requireState cX9_requireState 3 none] ({ frames := 7, cells := 1, slots := 6, locals := 103 }) (PC D cy g [(a0, .inr (14, [v0, .ref a1, v1, v2, v3, v4, v5])), (a1, .inr (12, [v6, v7, v8, v9, .int 0]))] sz [.ref a0, .int x0, .int x1]) QN (XE "java/util/NoSuchElementException" (va_A [(a0, .inr (14, [v0, .ref a1, v1, v2, v3, v4, v5])), (a1, .inr (12, [v6, v7, v8, v9, .int 0]))] sz)) 1 6 (va_A [(a0, .inr (14, [v0, .ref a1, v1, v2, v3, v4, v5])), (a1, .inr (12, [v6, v7, v8, v9, .int 0]))] sz) := by
  refine st_X (by decide) (Nat.le_of_ble_eq_true rfl) ?_
  intro p e s m args below meth c A ls hx hb hr hml hown hlk hnm hsz hP hD hA hE hts hS hl hout
  have hown : s.vm.findClass RX9 = some m.cls := hown
  have hl : lv_has ls 3 [(0, .ref a0), (1, .int x0), (2, .int x1)] := hl
  refine lv_aload_n hx hb dX9_requireState_0 rfl (lv_at hl 0 rfl) ?_
  refine lv_iload_n hx hb dX9_requireState_1 rfl (lv_at hl 2 rfl) ?_
  refine ca_v (isC := []) (isR := [0, 1]) (wr := [(a0, .inr (14, [v0, .ref a1, v1, v2, v3, v4, v5])), (a1, .inr (12, [v6, v7, v8, v9, .int 0]))]) (rn_V (ci := 14) (q0 := 0) (isC := []) (wc := []) (As := [.int x1]) (rest := []) (n := 1) hx hb hml hown hts hE hS hP hD hA hl.1 (k176_X9_requireStateHeat l D cy g x1 a0 s.heap.size h0 h1) rfl rfl rfl rfl rfl ax_156 rfl rfl ax_157 ⟨Nat.le_of_ble_eq_true rfl, Nat.le_of_ble_eq_true rfl⟩ rfl rfl (Nat.le_of_ble_eq_true rfl) dX9_requireState_2 ⟨(Nat.le_of_ble_eq_true rfl), (Nat.le_of_ble_eq_true rfl)⟩) hP hD hS hA rfl rfl rfl (by decide) (fun ad2 H locs hP hD hS => ?_)
  have hP : va_P D vwCl [(a0, .inr (14, [v0, .ref a1, v1, v2, v3, v4, v5])), (a1, .inr (12, [v6, v7, v8, v9, .int 0]))] H := hP
  have hD : va_D A [(a0, .inr (14, [v0, .ref a1, v1, v2, v3, v4, v5])), (a1, .inr (12, [v6, v7, v8, v9, .int 0]))] := hD
  refine lv_aload_n hx hb dX9_requireState_5 rfl (lv_at hl 0 rfl) ?_
  refine lv_iload_n hx hb dX9_requireState_6 rfl (lv_at hl 1 rfl) ?_
  exact cx_out (isC := [0, 1]) (rx_V (ci := 14) (q0 := 0) (isC := [0, 1]) (wc := [(a0, .inr (14, [v0, .ref a1, v1, v2, v3, v4, v5])), (a1, .inr (12, [v6, v7, v8, v9, .int 0]))]) (As := [.int x0]) (rest := []) (n := 1) hx hb hml hown hts hE hS hP hD hA hl.1 (k150_X9_requireRows l hst D cy g x0 a0 a1 (v0) (v1) (v2) (v3) (v4) (v5) (v6) (v7) (v8) (v9) H.size ) rfl rfl rfl rfl rfl ax_132 rfl rfl ax_133 ⟨Nat.le_of_ble_eq_true rfl, Nat.le_of_ble_eq_true rfl⟩ rfl rfl (Nat.le_of_ble_eq_true rfl) dX9_requireState_7 ⟨(Nat.le_of_ble_eq_true rfl), (Nat.le_of_ble_eq_true rfl)⟩) hD hS hA rfl hout hlk (Nat.le_of_ble_eq_true rfl) (Nat.le_of_ble_eq_true rfl)
set_option maxHeartbeats 4000000 in
set_option maxRecDepth 100000 in
theorem k178_X9_getPhase (l : Launch) (hst : l.stackTraces = false) (D : va_G) (cy : Nat → ClassId) (g : Nat → Nat) (x0 : Int32) (x1 : Int32) (a0 : Nat) (a1 : Nat) (v0 : Value) (v1 : Value) (v2 : Value) (v3 : Value) (v4 : Value) (v5 : Value) (v6 : Value) (v7 : Value) (v8 : Value) (v9 : Value) (sz : Nat) (h0 : ¬ x1 < 0) (h1 : ¬ (20000 : Int32) < x1) : vx_Met l yX9_getPhase [.code yX9_getPhase cX9_getPhase 3 (some .char)] ({ frames := 8, cells := 1, slots := 6, locals := 125 }) (PC D cy g [(a0, .inr (14, [v0, .ref a1, v1, v2, v3, v4, v5])), (a1, .inr (12, [v6, v7, v8, v9, .int 0]))] sz [.ref a0, .int x0, .int x1]) QN (XE "java/util/NoSuchElementException" (va_A [(a0, .inr (14, [v0, .ref a1, v1, v2, v3, v4, v5])), (a1, .inr (12, [v6, v7, v8, v9, .int 0]))] sz)) 1 6 (va_A [(a0, .inr (14, [v0, .ref a1, v1, v2, v3, v4, v5])), (a1, .inr (12, [v6, v7, v8, v9, .int 0]))] sz) := by
  refine st_X (by decide) (Nat.le_of_ble_eq_true rfl) ?_
  intro p e s m args below meth c A ls hx hb hr hml hown hlk hnm hsz hP hD hA hE hts hS hl hout
  have hown : s.vm.findClass RX9 = some m.cls := hown
  have hl : lv_has ls 3 [(0, .ref a0), (1, .int x0), (2, .int x1)] := hl
  refine lv_aload_n hx hb dX9_getPhase_0 rfl (lv_at hl 0 rfl) ?_
  refine lv_iload_n hx hb dX9_getPhase_1 rfl (lv_at hl 1 rfl) ?_
  refine lv_iload_n hx hb dX9_getPhase_2 rfl (lv_at hl 2 rfl) ?_
  exact cx_out (isC := [0, 1]) (rx_V (ci := 14) (q0 := 0) (isC := [0, 1]) (wc := [(a0, .inr (14, [v0, .ref a1, v1, v2, v3, v4, v5])), (a1, .inr (12, [v6, v7, v8, v9, .int 0]))]) (As := [.int x0, .int x1]) (rest := []) (n := 2) hx hb hml hown hts hE hS hP hD hA hl.1 (k177_X9_requireState l hst D cy g x0 x1 a0 a1 (v0) (v1) (v2) (v3) (v4) (v5) (v6) (v7) (v8) (v9) s.heap.size h0 h1) rfl rfl rfl rfl rfl ax_158 rfl rfl ax_159 ⟨Nat.le_of_ble_eq_true rfl, Nat.le_of_ble_eq_true rfl⟩ rfl rfl (Nat.le_of_ble_eq_true rfl) dX9_getPhase_3 ⟨(Nat.le_of_ble_eq_true rfl), (Nat.le_of_ble_eq_true rfl)⟩) hD hS hA rfl hout hlk (Nat.le_of_ble_eq_true rfl) (Nat.le_of_ble_eq_true rfl)
set_option maxHeartbeats 4000000 in
set_option maxRecDepth 100000 in
theorem k179_L_getPhase (l : Launch) (hst : l.stackTraces = false) (D : va_G) (cy : Nat → ClassId) (g : Nat → Nat) (x0 : Int32) (x1 : Int32) (a0 : Nat) (a1 : Nat) (b0 : Nat) (v0 : Value) (v1 : Value) (v2 : Value) (v3 : Value) (v4 : Value) (v5 : Value) (v6 : Value) (v7 : Value) (v8 : Value) (v9 : Value) (sz : Nat) (h0 : ¬ x1 < 0) (h1 : ¬ (20000 : Int32) < x1) : Met l yL_getPhase [.codeWith yL_getPhase cL_getPhase 5 (some .int) [(0, 10, 13, 13), (0, 10, 17, 45)]] ({ frames := 9, cells := 1, slots := 6, locals := 147 }) (PC D cy g [(a0, .inr (14, [v0, .ref a1, v1, v2, v3, v4, v5])), (a1, .inr (12, [v6, v7, v8, v9, .int 0]))] sz [.ref a0, .int x0, .int x1, .ref b0]) (QI D 2 (fun ad => []) (va_A [(a0, .inr (14, [v0, .ref a1, v1, v2, v3, v4, v5])), (a1, .inr (12, [v6, v7, v8, v9, .int 0]))] sz)) 1 6 (va_A [(a0, .inr (14, [v0, .ref a1, v1, v2, v3, v4, v5])), (a1, .inr (12, [v6, v7, v8, v9, .int 0]))] sz) := by
  refine sh_I (by decide) (Nat.le_of_ble_eq_true rfl) ?_
  intro p e s m args below meth c A ls hx hb hr hml hown hlk hnm hsz hP hD hA hE hts hS hl htb
  have hown : s.vm.findClass RL = some m.cls := hown
  have hl : lv_has ls 5 [(0, .ref a0), (1, .int x0), (2, .int x1), (3, .ref b0)] := hl
  refine lv_aload_n hx hb dL_getPhase_0 rfl (lv_at hl 3 rfl) ?_
  refine lv_iconst (v := 0) hx hb dL_getPhase_1 (by decide) ?_
  refine lv_aload_n hx hb dL_getPhase_2 rfl (lv_at hl 0 rfl) ?_
  refine lv_iload_n hx hb dL_getPhase_3 rfl (lv_at hl 1 rfl) ?_
  refine lv_iload_n hx hb dL_getPhase_4 rfl (lv_at hl 2 rfl) ?_
  refine cx_catch (isC := [0, 1]) (isR := []) (wr := []) (hp := [(0, 10, 13, 13)]) (z := (0, 10, 17, 45)) (hq := []) (name := "java/util/NoSuchElementException") (own := RL) (rx_V (ci := 14) (q0 := 0) (isC := [0, 1]) (wc := [(a0, .inr (14, [v0, .ref a1, v1, v2, v3, v4, v5])), (a1, .inr (12, [v6, v7, v8, v9, .int 0]))]) (As := [.int x0, .int x1]) (rest := [.int 0, .ref b0]) (n := 2) hx hb hml hown hts hE hS hP hD hA hl.1 (k178_X9_getPhase l hst D cy g x0 x1 a0 a1 (v0) (v1) (v2) (v3) (v4) (v5) (v6) (v7) (v8) (v9) s.heap.size h0 h1) rfl rfl rfl rfl rfl ax_160 rfl rfl ax_161 ⟨Nat.le_of_ble_eq_true rfl, Nat.le_of_ble_eq_true rfl⟩ rfl rfl (Nat.le_of_ble_eq_true rfl) dL_getPhase_5 ⟨(Nat.le_of_ble_eq_true rfl), (Nat.le_of_ble_eq_true rfl)⟩) hP hD hS hA hown hts hE htb rfl rfl rfl rfl (by decide) (fun z hz => by rcases List.mem_singleton.mp hz with rfl; exact ⟨by decide, "java/lang/IllegalArgumentException", tw_302, by decide +kernel⟩) (by decide) (by decide) tw_534 tw_535 (fun qx H locs hP hD hS => ?_)
  have hP : va_P D vwCl [] H := hP
  have hD : va_D A [] := hD
  refine lv_astore (lv' := [(4, .ref qx), (0, .ref a0), (1, .int x0), (2, .int x1), (3, .ref b0)]) hx hb dL_getPhase_17 hl (Nat.le_of_ble_eq_true rfl) rfl (fun ls hl => ?_)
  refine lv_iconst (v := 2) hx hb dL_getPhase_19 (by decide) ?_
  exact en_z hx hb hr hlk hP hD hS rfl (fun _ => 0) (is := []) rfl rfl (Nat.le_of_ble_eq_true rfl) (Nat.le_of_ble_eq_true rfl) dL_getPhase_20

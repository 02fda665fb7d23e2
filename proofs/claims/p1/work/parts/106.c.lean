set_option maxHeartbeats 4000000 in
set_option maxRecDepth 100000 in
theorem k360_X9_setGas (l : Launch) (hst : l.stackTraces = false) (D : va_G) (cy : Nat → ClassId) (g : Nat → Nat) (x0 : Int32) (x1 : Int32) (x2 : Int32) (b0 : Nat) (sz : Nat) (h0 : ¬ x0 < 1) (h1 : ¬ (20 : Int32) < x0) (h2 : x1 < 1) : vx_Met l yX9_setGas [.code yX9_setGas cX9_setGas 6 (some .int)] ({ frames := 6, cells := 1, slots := 6, locals := 82 }) (PC D cy g [] sz [.ref b0, .int x0, .int x1, .int x2]) QN (XE "java/lang/IllegalArgumentException" (va_A [] sz)) 1 6 (va_A [] sz) := by
  refine st_X (by decide) (Nat.le_of_ble_eq_true rfl) ?_
  intro p e s m args below meth c A ls hx hb hr hml hown hlk hnm hsz hP hD hA hE hts hS hl hout
  have hown : s.vm.findClass RX9 = some m.cls := hown
  have hl : lv_has ls 6 [(0, .ref b0), (1, .int x0), (2, .int x1), (3, .int x2)] := hl
  refine lv_iload_n hx hb dX9_setGas_0 rfl (lv_at hl 1 rfl) ?_
  refine lv_iconst (v := 1) hx hb dX9_setGas_1 (by decide) ?_
  refine lv_bipush (v := 20) hx hb dX9_setGas_2 (by decide) ?_
  refine ca_i (isC := []) (isR := []) (wr := []) (rn_S (isC := []) (wc := []) (As := [.int x0, .int 1, .int 20]) (rest := []) (n := 3) hx hb hml hown hts hE hS hP hD hA hl.1 (k30_X9_isOutside l D cy g x0 1 20 s.heap.size h0 h1) rfl rfl ax_30 rfl rfl ax_31 ⟨Nat.le_of_ble_eq_true rfl, Nat.le_of_ble_eq_true rfl⟩ rfl rfl (Nat.le_of_ble_eq_true rfl) dX9_setGas_4 ⟨(Nat.le_of_ble_eq_true rfl), (Nat.le_of_ble_eq_true rfl)⟩) hP hD hS hA rfl rfl rfl (by decide) (fun ad4 H locs hP hD hS => ?_)
  have hP : va_P D vwCl [] H := hP
  have hD : va_D A [] := hD
  refine lv_if_ne (tgt := 32) hx hb dX9_setGas_7 (by decide) (fun z => absurd (by decide) z) (fun _ => ?_)
  refine lv_iload_n hx hb dX9_setGas_10 rfl (lv_at hl 2 rfl) ?_
  refine lv_iconst (v := 1) hx hb dX9_setGas_11 (by decide) ?_
  refine lv_bipush (v := 100) hx hb dX9_setGas_12 (by decide) ?_
  refine ca_i (isC := []) (isR := []) (wr := []) (rn_S (isC := []) (wc := []) (As := [.int x1, .int 1, .int 100]) (rest := []) (n := 3) hx hb hml hown hts hE hS hP hD hA hl.1 (k17_X9_isOutside l D cy g x1 1 100 H.size h2) rfl rfl ax_30 rfl rfl ax_31 ⟨Nat.le_of_ble_eq_true rfl, Nat.le_of_ble_eq_true rfl⟩ rfl rfl (Nat.le_of_ble_eq_true rfl) dX9_setGas_14 ⟨(Nat.le_of_ble_eq_true rfl), (Nat.le_of_ble_eq_true rfl)⟩) hP hD hS hA rfl rfl rfl (by decide) (fun ad14 H locs hP hD hS => ?_)
  have hP : va_P D vwCl [] H := hP
  have hD : va_D A [] := hD
  refine lv_if_ne (tgt := 32) hx hb dX9_setGas_17 (by decide) (fun _ => ?_) (fun z => absurd z (by decide))
  exact th_S (text := "a number is out of range") hx hb hst hown hts hE hS (hl.1.trans hml.symm) hout hlk (by decide +kernel) tw_296 tw_297 ax_32 (by decide +kernel) dX9_setGas_32 dX9_setGas_35 dX9_setGas_36 dX9_setGas_38 dX9_setGas_41 ⟨Nat.le_of_ble_eq_true rfl, Nat.le_of_ble_eq_true rfl, Nat.le_of_ble_eq_true rfl, Nat.le_of_ble_eq_true rfl⟩ (Nat.le_of_ble_eq_true rfl) (Nat.le_of_ble_eq_true rfl)
set_option maxHeartbeats 4000000 in
set_option maxRecDepth 100000 in
theorem k361_L_setGas (l : Launch) (hst : l.stackTraces = false) (D : va_G) (cy : Nat → ClassId) (g : Nat → Nat) (x0 : Int32) (x1 : Int32) (x2 : Int32) (a0 : Nat) (b0 : Nat) (v0 : Value) (v1 : Value) (v2 : Value) (v3 : Value) (v4 : Value) (v5 : Value) (v6 : Value) (sz : Nat) (h0 : ¬ x0 < 1) (h1 : ¬ (20 : Int32) < x0) (h2 : x1 < 1) : Met l yL_setGas [.codeWith yL_setGas cL_setGas 6 (some .int) [(0, 12, 15, 13)]] ({ frames := 7, cells := 1, slots := 6, locals := 107 }) (PC D cy g [(a0, .inr (14, [v0, v1, v2, v3, v4, v5, v6]))] sz [.ref a0, .int x0, .int x1, .int x2, .ref b0]) (QI D 1 (fun ad => []) (va_A [(a0, .inr (14, [v0, v1, v2, v3, v4, v5, v6]))] sz)) 1 6 (va_A [(a0, .inr (14, [v0, v1, v2, v3, v4, v5, v6]))] sz) := by
  refine sh_I (by decide) (Nat.le_of_ble_eq_true rfl) ?_
  intro p e s m args below meth c A ls hx hb hr hml hown hlk hnm hsz hP hD hA hE hts hS hl htb
  have hown : s.vm.findClass RL = some m.cls := hown
  have hl : lv_has ls 6 [(0, .ref a0), (1, .int x0), (2, .int x1), (3, .int x2), (4, .ref b0)] := hl
  refine lv_aload hx hb dL_setGas_0 (lv_at hl 4 rfl) ?_
  refine lv_iconst (v := 0) hx hb dL_setGas_2 (by decide) ?_
  refine lv_aload_n hx hb dL_setGas_3 rfl (lv_at hl 0 rfl) ?_
  refine lv_iload_n hx hb dL_setGas_4 rfl (lv_at hl 1 rfl) ?_
  refine lv_iload_n hx hb dL_setGas_5 rfl (lv_at hl 2 rfl) ?_
  refine lv_iload_n hx hb dL_setGas_6 rfl (lv_at hl 3 rfl) ?_
  refine cx_catch (isC := []) (isR := [0]) (wr := [(a0, .inr (14, [v0, v1, v2, v3, v4, v5, v6]))]) (hp := []) (z := (0, 12, 15, 13)) (hq := []) (name := "java/lang/IllegalArgumentException") (own := RL) (rx_V (ci := 14) (q0 := 0) (isC := []) (wc := []) (As := [.int x0, .int x1, .int x2]) (rest := [.int 0, .ref b0]) (n := 3) hx hb hml hown hts hE hS hP hD hA hl.1 (k360_X9_setGas l hst D cy g x0 x1 x2 a0 s.heap.size h0 h1 h2) rfl rfl rfl rfl rfl ax_268 rfl rfl ax_269 ⟨Nat.le_of_ble_eq_true rfl, Nat.le_of_ble_eq_true rfl⟩ rfl rfl (Nat.le_of_ble_eq_true rfl) dL_setGas_7 ⟨(Nat.le_of_ble_eq_true rfl), (Nat.le_of_ble_eq_true rfl)⟩) hP hD hS hA hown hts hE htb rfl rfl rfl rfl (by decide) (fun z hz => by cases hz) (by decide) (by decide) tw_302 tw_303 (fun qx H locs hP hD hS => ?_)
  have hP : va_P D vwCl [(a0, .inr (14, [v0, v1, v2, v3, v4, v5, v6]))] H := hP
  have hD : va_D A [(a0, .inr (14, [v0, v1, v2, v3, v4, v5, v6]))] := hD
  refine lv_astore (lv' := [(5, .ref qx), (0, .ref a0), (1, .int x0), (2, .int x1), (3, .int x2), (4, .ref b0)]) hx hb dL_setGas_15 hl (Nat.le_of_ble_eq_true rfl) rfl (fun ls hl => ?_)
  refine lv_iconst (v := 1) hx hb dL_setGas_17 (by decide) ?_
  exact en_z hx hb hr hlk hP hD hS rfl (fun _ => 0) (is := []) rfl rfl (Nat.le_of_ble_eq_true rfl) (Nat.le_of_ble_eq_true rfl) dL_setGas_18
set_option maxHeartbeats 4000000 in
set_option maxRecDepth 100000 in
theorem k362_X10_setGas (l : Launch) (D : va_G) (cy : Nat → ClassId) (g : Nat → Nat) (x0 : Int32) (x1 : Int32) (x2 : Int32) (a0 : Nat) (v0 : Value) (v1 : Value) (v2 : Value) (v3 : Value) (v4 : Value) (v5 : Value) (v6 : Value) (v7 : Value) (v8 : Value) (v9 : Value) (v10 : Value) (v11 : Value) (v12 : Value) (v13 : Value) (v14 : Value) (v15 : Value) (v16 : Value) (v17 : Value) (v18 : Value) (v19 : Value) (v20 : Value) (v21 : Value) (v22 : Value) (v23 : Value) (v24 : Value) (v25 : Value) (v26 : Value) (v27 : Value) (sz : Nat) (h0 : ¬ x0 < 1) (h1 : ¬ (20 : Int32) < x0) (h2 : x1 < 1) : Met l yX10_setGas [.code yX10_setGas cX10_setGas 5 (some .int)] ({ frames := 1, cells := 0, slots := 0, locals := 25 }) (PC D cy g [(a0, .inr (15, [v0, v1, v2, v3, v4, v5, v6, v7, v8, v9, v10, v11, v12, v13, v14, v15, v16, v17, v18, v19, v20, v21, v22, v23, v24, v25, v26, v27]))] sz [.ref a0, .int x0, .int x1, .int x2]) (QI D (-1) (fun ad => [(a0, .inr (15, [.int 1, v1, v2, v3, v4, v5, v6, v7, v8, v9, v10, v11, v12, v13, v14, v15, v16, v17, v18, v19, v20, v21, v22, v23, v24, v25, v26, v27]))]) (va_A [(a0, .inr (15, [v0, v1, v2, v3, v4, v5, v6, v7, v8, v9, v10, v11, v12, v13, v14, v15, v16, v17, v18, v19, v20, v21, v22, v23, v24, v25, v26, v27]))] sz)) 0 0 (va_A [(a0, .inr (15, [v0, v1, v2, v3, v4, v5, v6, v7, v8, v9, v10, v11, v12, v13, v14, v15, v16, v17, v18, v19, v20, v21, v22, v23, v24, v25, v26, v27]))] sz) := by
  refine st_I (by decide) (Nat.le_of_ble_eq_true rfl) ?_
  intro p e s m args below meth c A ls hx hb hr hml hown hlk hnm hsz hP hD hA hE hts hS hl
  have hown : s.vm.findClass RX10 = some m.cls := hown
  have hl : lv_has ls 5 [(0, .ref a0), (1, .int x0), (2, .int x1), (3, .int x2)] := hl
  refine lv_aload_n hx hb dX10_setGas_0 rfl (lv_at hl 0 rfl) ?_
  refine ca_v (isC := [0]) (isR := []) (wr := []) (rn_V (ci := 15) (q0 := 0) (isC := [0]) (wc := [(a0, .inr (15, [v0, v1, v2, v3, v4, v5, v6, v7, v8, v9, v10, v11, v12, v13, v14, v15, v16, v17, v18, v19, v20, v21, v22, v23, v24, v25, v26, v27]))]) (As := []) (rest := []) (n := 0) hx hb hml hown hts hE hS hP hD hA hl.1 (k20_X10_begins l D cy g a0 (v0) (v1) (v2) (v3) (v4) (v5) (v6) (v7) (v8) (v9) (v10) (v11) (v12) (v13) (v14) (v15) (v16) (v17) (v18) (v19) (v20) (v21) (v22) (v23) (v24) (v25) (v26) (v27) s.heap.size ) rfl rfl rfl rfl rfl ax_37 rfl rfl ax_38 ⟨Nat.le_of_ble_eq_true rfl, Nat.le_of_ble_eq_true rfl⟩ rfl rfl (Nat.le_of_ble_eq_true rfl) dX10_setGas_1 ⟨(Nat.le_of_ble_eq_true rfl), (Nat.le_of_ble_eq_true rfl)⟩) hP hD hS hA rfl rfl rfl (by decide) (fun ad1 H locs hP hD hS => ?_)
  have hP : va_P D vwCl [(a0, .inr (15, [.int 0, v1, v2, v3, v4, v5, v6, v7, v8, v9, v10, v11, v12, v13, v14, v15, v16, v17, v18, v19, v20, v21, v22, v23, v24, v25, v26, v27]))] H := hP
  have hD : va_D A [(a0, .inr (15, [.int 0, v1, v2, v3, v4, v5, v6, v7, v8, v9, v10, v11, v12, v13, v14, v15, v16, v17, v18, v19, v20, v21, v22, v23, v24, v25, v26, v27]))] := hD
  refine lv_aload_n hx hb dX10_setGas_4 rfl (lv_at hl 0 rfl) ?_
  refine lv_iload_n hx hb dX10_setGas_5 rfl (lv_at hl 1 rfl) ?_
  refine lv_i2l (v := x0.toInt64) hx hb dX10_setGas_6 rfl ?_
  refine lv_lconst (v := 1) hx hb dX10_setGas_7 (by decide) ?_
  refine lv_ldc2 (v := 20) hx hb hown (hts _ tw_808) dX10_setGas_8 ?_
  refine ca_i (isC := []) (isR := [0]) (wr := [(a0, .inr (15, [.int 0, v1, v2, v3, v4, v5, v6, v7, v8, v9, v10, v11, v12, v13, v14, v15, v16, v17, v18, v19, v20, v21, v22, v23, v24, v25, v26, v27]))]) (rn_S (isC := []) (wc := []) (As := [.long x0.toInt64, .long 1, .long 20]) (rest := [.ref a0]) (n := 3) hx hb hml hown hts hE hS hP hD hA hl.1 (k33_X10_in l D cy g x0.toInt64 1 20 H.size (wl_nlt rfl (by decide) h0) (wl_nlt (by decide) rfl h1)) rfl rfl ax_39 rfl rfl ax_40 ⟨Nat.le_of_ble_eq_true rfl, Nat.le_of_ble_eq_true rfl⟩ rfl rfl (Nat.le_of_ble_eq_true rfl) dX10_setGas_11 ⟨(Nat.le_of_ble_eq_true rfl), (Nat.le_of_ble_eq_true rfl)⟩) hP hD hS hA rfl rfl rfl (by decide) (fun ad11 H locs hP hD hS => ?_)
  have hP : va_P D vwCl [(a0, .inr (15, [.int 0, v1, v2, v3, v4, v5, v6, v7, v8, v9, v10, v11, v12, v13, v14, v15, v16, v17, v18, v19, v20, v21, v22, v23, v24, v25, v26, v27]))] H := hP
  have hD : va_D A [(a0, .inr (15, [.int 0, v1, v2, v3, v4, v5, v6, v7, v8, v9, v10, v11, v12, v13, v14, v15, v16, v17, v18, v19, v20, v21, v22, v23, v24, v25, v26, v27]))] := hD
  refine lv_if_eq (tgt := 43) hx hb dX10_setGas_14 (by decide) (fun z => absurd z (by decide)) (fun _ => ?_)
  refine lv_iload_n hx hb dX10_setGas_17 rfl (lv_at hl 2 rfl) ?_
  refine lv_i2l (v := x1.toInt64) hx hb dX10_setGas_18 rfl ?_
  refine lv_lconst (v := 1) hx hb dX10_setGas_19 (by decide) ?_
  refine lv_ldc2 (v := 100) hx hb hown (hts _ tw_681) dX10_setGas_20 ?_
  refine ca_i (isC := []) (isR := [0]) (wr := [(a0, .inr (15, [.int 0, v1, v2, v3, v4, v5, v6, v7, v8, v9, v10, v11, v12, v13, v14, v15, v16, v17, v18, v19, v20, v21, v22, v23, v24, v25, v26, v27]))]) (rn_S (isC := []) (wc := []) (As := [.long x1.toInt64, .long 1, .long 100]) (rest := [.ref a0]) (n := 3) hx hb hml hown hts hE hS hP hD hA hl.1 (k21_X10_in l D cy g x1.toInt64 1 100 H.size (wl_lt rfl (by decide) h2)) rfl rfl ax_39 rfl rfl ax_40 ⟨Nat.le_of_ble_eq_true rfl, Nat.le_of_ble_eq_true rfl⟩ rfl rfl (Nat.le_of_ble_eq_true rfl) dX10_setGas_23 ⟨(Nat.le_of_ble_eq_true rfl), (Nat.le_of_ble_eq_true rfl)⟩) hP hD hS hA rfl rfl rfl (by decide) (fun ad23 H locs hP hD hS => ?_)
  have hP : va_P D vwCl [(a0, .inr (15, [.int 0, v1, v2, v3, v4, v5, v6, v7, v8, v9, v10, v11, v12, v13, v14, v15, v16, v17, v18, v19, v20, v21, v22, v23, v24, v25, v26, v27]))] H := hP
  have hD : va_D A [(a0, .inr (15, [.int 0, v1, v2, v3, v4, v5, v6, v7, v8, v9, v10, v11, v12, v13, v14, v15, v16, v17, v18, v19, v20, v21, v22, v23, v24, v25, v26, v27]))] := hD
  refine lv_if_eq (tgt := 43) hx hb dX10_setGas_26 (by decide) (fun _ => ?_) (fun z => absurd (by decide) z)
  refine lv_iconst (v := 1) hx hb dX10_setGas_43 (by decide) ?_
  refine lv_goto (tgt := 48) hx hb dX10_setGas_44 (by decide) ?_
  refine lv_iconst (v := 1) hx hb dX10_setGas_48 (by decide) ?_
  refine ca_i (isC := [0]) (isR := []) (wr := []) (rn_V (ci := 15) (q0 := 0) (isC := [0]) (wc := [(a0, .inr (15, [.int 0, v1, v2, v3, v4, v5, v6, v7, v8, v9, v10, v11, v12, v13, v14, v15, v16, v17, v18, v19, v20, v21, v22, v23, v24, v25, v26, v27]))]) (As := [.int 1, .int 1]) (rest := []) (n := 2) hx hb hml hown hts hE hS hP hD hA hl.1 (k22_X10_fails l D cy g a0 (v1) (v2) (v3) (v4) (v5) (v6) (v7) (v8) (v9) (v10) (v11) (v12) (v13) (v14) (v15) (v16) (v17) (v18) (v19) (v20) (v21) (v22) (v23) (v24) (v25) (v26) (v27) H.size ) rfl rfl rfl rfl rfl ax_41 rfl rfl ax_42 ⟨Nat.le_of_ble_eq_true rfl, Nat.le_of_ble_eq_true rfl⟩ rfl rfl (Nat.le_of_ble_eq_true rfl) dX10_setGas_49 ⟨(Nat.le_of_ble_eq_true rfl), (Nat.le_of_ble_eq_true rfl)⟩) hP hD hS hA rfl rfl rfl (by decide) (fun ad49 H locs hP hD hS => ?_)
  have hP : va_P D vwCl [(a0, .inr (15, [.int 1, v1, v2, v3, v4, v5, v6, v7, v8, v9, v10, v11, v12, v13, v14, v15, v16, v17, v18, v19, v20, v21, v22, v23, v24, v25, v26, v27]))] H := hP
  have hD : va_D A [(a0, .inr (15, [.int 1, v1, v2, v3, v4, v5, v6, v7, v8, v9, v10, v11, v12, v13, v14, v15, v16, v17, v18, v19, v20, v21, v22, v23, v24, v25, v26, v27]))] := hD
  refine lv_if_eq (tgt := 57) hx hb dX10_setGas_52 (by decide) (fun z => absurd z (by decide)) (fun _ => ?_)
  refine lv_iconst (v := (-1)) hx hb dX10_setGas_55 (by decide) ?_
  exact en_z hx hb hr hlk hP hD hS rfl (fun _ => 0) (is := [0]) rfl rfl (Nat.le_of_ble_eq_true rfl) (Nat.le_of_ble_eq_true rfl) dX10_setGas_56
set_option maxHeartbeats 4000000 in
set_option maxRecDepth 100000 in
theorem k363_X9_setGas (l : Launch) (hst : l.stackTraces = false) (D : va_G) (cy : Nat → ClassId) (g : Nat → Nat) (x0 : Int32) (x1 : Int32) (x2 : Int32) (b0 : Nat) (sz : Nat) (h0 : ¬ x0 < 1) (h1 : ¬ (20 : Int32) < x0) (h2 : ¬ x1 < 1) (h3 : (100 : Int32) < x1) : vx_Met l yX9_setGas [.code yX9_setGas cX9_setGas 6 (some .int)] ({ frames := 6, cells := 1, slots := 6, locals := 82 }) (PC D cy g [] sz [.ref b0, .int x0, .int x1, .int x2]) QN (XE "java/lang/IllegalArgumentException" (va_A [] sz)) 1 6 (va_A [] sz) := by
  refine st_X (by decide) (Nat.le_of_ble_eq_true rfl) ?_
  intro p e s m args below meth c A ls hx hb hr hml hown hlk hnm hsz hP hD hA hE hts hS hl hout
  have hown : s.vm.findClass RX9 = some m.cls := hown
  have hl : lv_has ls 6 [(0, .ref b0), (1, .int x0), (2, .int x1), (3, .int x2)] := hl
  refine lv_iload_n hx hb dX9_setGas_0 rfl (lv_at hl 1 rfl) ?_
  refine lv_iconst (v := 1) hx hb dX9_setGas_1 (by decide) ?_
  refine lv_bipush (v := 20) hx hb dX9_setGas_2 (by decide) ?_
  refine ca_i (isC := []) (isR := []) (wr := []) (rn_S (isC := []) (wc := []) (As := [.int x0, .int 1, .int 20]) (rest := []) (n := 3) hx hb hml hown hts hE hS hP hD hA hl.1 (k30_X9_isOutside l D cy g x0 1 20 s.heap.size h0 h1) rfl rfl ax_30 rfl rfl ax_31 ⟨Nat.le_of_ble_eq_true rfl, Nat.le_of_ble_eq_true rfl⟩ rfl rfl (Nat.le_of_ble_eq_true rfl) dX9_setGas_4 ⟨(Nat.le_of_ble_eq_true rfl), (Nat.le_of_ble_eq_true rfl)⟩) hP hD hS hA rfl rfl rfl (by decide) (fun ad4 H locs hP hD hS => ?_)
  have hP : va_P D vwCl [] H := hP
  have hD : va_D A [] := hD
  refine lv_if_ne (tgt := 32) hx hb dX9_setGas_7 (by decide) (fun z => absurd (by decide) z) (fun _ => ?_)
  refine lv_iload_n hx hb dX9_setGas_10 rfl (lv_at hl 2 rfl) ?_
  refine lv_iconst (v := 1) hx hb dX9_setGas_11 (by decide) ?_
  refine lv_bipush (v := 100) hx hb dX9_setGas_12 (by decide) ?_
  refine ca_i (isC := []) (isR := []) (wr := []) (rn_S (isC := []) (wc := []) (As := [.int x1, .int 1, .int 100]) (rest := []) (n := 3) hx hb hml hown hts hE hS hP hD hA hl.1 (k25_X9_isOutside l D cy g x1 1 100 H.size h2 h3) rfl rfl ax_30 rfl rfl ax_31 ⟨Nat.le_of_ble_eq_true rfl, Nat.le_of_ble_eq_true rfl⟩ rfl rfl (Nat.le_of_ble_eq_true rfl) dX9_setGas_14 ⟨(Nat.le_of_ble_eq_true rfl), (Nat.le_of_ble_eq_true rfl)⟩) hP hD hS hA rfl rfl rfl (by decide) (fun ad14 H locs hP hD hS => ?_)
  have hP : va_P D vwCl [] H := hP
  have hD : va_D A [] := hD
  refine lv_if_ne (tgt := 32) hx hb dX9_setGas_17 (by decide) (fun _ => ?_) (fun z => absurd z (by decide))
  exact th_S (text := "a number is out of range") hx hb hst hown hts hE hS (hl.1.trans hml.symm) hout hlk (by decide +kernel) tw_296 tw_297 ax_32 (by decide +kernel) dX9_setGas_32 dX9_setGas_35 dX9_setGas_36 dX9_setGas_38 dX9_setGas_41 ⟨Nat.le_of_ble_eq_true rfl, Nat.le_of_ble_eq_true rfl, Nat.le_of_ble_eq_true rfl, Nat.le_of_ble_eq_true rfl⟩ (Nat.le_of_ble_eq_true rfl) (Nat.le_of_ble_eq_true rfl)
set_option maxHeartbeats 4000000 in
set_option maxRecDepth 100000 in
theorem k364_L_setGas (l : Launch) (hst : l.stackTraces = false) (D : va_G) (cy : Nat → ClassId) (g : Nat → Nat) (x0 : Int32) (x1 : Int32) (x2 : Int32) (a0 : Nat) (b0 : Nat) (v0 : Value) (v1 : Value) (v2 : Value) (v3 : Value) (v4 : Value) (v5 : Value) (v6 : Value) (sz : Nat) (h0 : ¬ x0 < 1) (h1 : ¬ (20 : Int32) < x0) (h2 : ¬ x1 < 1) (h3 : (100 : Int32) < x1) : Met l yL_setGas [.codeWith yL_setGas cL_setGas 6 (some .int) [(0, 12, 15, 13)]] ({ frames := 7, cells := 1, slots := 6, locals := 107 }) (PC D cy g [(a0, .inr (14, [v0, v1, v2, v3, v4, v5, v6]))] sz [.ref a0, .int x0, .int x1, .int x2, .ref b0]) (QI D 1 (fun ad => []) (va_A [(a0, .inr (14, [v0, v1, v2, v3, v4, v5, v6]))] sz)) 1 6 (va_A [(a0, .inr (14, [v0, v1, v2, v3, v4, v5, v6]))] sz) := by
  refine sh_I (by decide) (Nat.le_of_ble_eq_true rfl) ?_
  intro p e s m args below meth c A ls hx hb hr hml hown hlk hnm hsz hP hD hA hE hts hS hl htb
  have hown : s.vm.findClass RL = some m.cls := hown
  have hl : lv_has ls 6 [(0, .ref a0), (1, .int x0), (2, .int x1), (3, .int x2), (4, .ref b0)] := hl
  refine lv_aload hx hb dL_setGas_0 (lv_at hl 4 rfl) ?_
  refine lv_iconst (v := 0) hx hb dL_setGas_2 (by decide) ?_
  refine lv_aload_n hx hb dL_setGas_3 rfl (lv_at hl 0 rfl) ?_
  refine lv_iload_n hx hb dL_setGas_4 rfl (lv_at hl 1 rfl) ?_
  refine lv_iload_n hx hb dL_setGas_5 rfl (lv_at hl 2 rfl) ?_
  refine lv_iload_n hx hb dL_setGas_6 rfl (lv_at hl 3 rfl) ?_
  refine cx_catch (isC := []) (isR := [0]) (wr := [(a0, .inr (14, [v0, v1, v2, v3, v4, v5, v6]))]) (hp := []) (z := (0, 12, 15, 13)) (hq := []) (name := "java/lang/IllegalArgumentException") (own := RL) (rx_V (ci := 14) (q0 := 0) (isC := []) (wc := []) (As := [.int x0, .int x1, .int x2]) (rest := [.int 0, .ref b0]) (n := 3) hx hb hml hown hts hE hS hP hD hA hl.1 (k363_X9_setGas l hst D cy g x0 x1 x2 a0 s.heap.size h0 h1 h2 h3) rfl rfl rfl rfl rfl ax_268 rfl rfl ax_269 ⟨Nat.le_of_ble_eq_true rfl, Nat.le_of_ble_eq_true rfl⟩ rfl rfl (Nat.le_of_ble_eq_true rfl) dL_setGas_7 ⟨(Nat.le_of_ble_eq_true rfl), (Nat.le_of_ble_eq_true rfl)⟩) hP hD hS hA hown hts hE htb rfl rfl rfl rfl (by decide) (fun z hz => by cases hz) (by decide) (by decide) tw_302 tw_303 (fun qx H locs hP hD hS => ?_)
  have hP : va_P D vwCl [(a0, .inr (14, [v0, v1, v2, v3, v4, v5, v6]))] H := hP
  have hD : va_D A [(a0, .inr (14, [v0, v1, v2, v3, v4, v5, v6]))] := hD
  refine lv_astore (lv' := [(5, .ref qx), (0, .ref a0), (1, .int x0), (2, .int x1), (3, .int x2), (4, .ref b0)]) hx hb dL_setGas_15 hl (Nat.le_of_ble_eq_true rfl) rfl (fun ls hl => ?_)
  refine lv_iconst (v := 1) hx hb dL_setGas_17 (by decide) ?_
  exact en_z hx hb hr hlk hP hD hS rfl (fun _ => 0) (is := []) rfl rfl (Nat.le_of_ble_eq_true rfl) (Nat.le_of_ble_eq_true rfl) dL_setGas_18
set_option maxHeartbeats 4000000 in
set_option maxRecDepth 100000 in
theorem k365_X10_setGas (l : Launch) (D : va_G) (cy : Nat → ClassId) (g : Nat → Nat) (x0 : Int32) (x1 : Int32) (x2 : Int32) (a0 : Nat) (v0 : Value) (v1 : Value) (v2 : Value) (v3 : Value) (v4 : Value) (v5 : Value) (v6 : Value) (v7 : Value) (v8 : Value) (v9 : Value) (v10 : Value) (v11 : Value) (v12 : Value) (v13 : Value) (v14 : Value) (v15 : Value) (v16 : Value) (v17 : Value) (v18 : Value) (v19 : Value) (v20 : Value) (v21 : Value) (v22 : Value) (v23 : Value) (v24 : Value) (v25 : Value) (v26 : Value) (v27 : Value) (sz : Nat) (h0 : ¬ x0 < 1) (h1 : ¬ (20 : Int32) < x0) (h2 : ¬ x1 < 1) (h3 : (100 : Int32) < x1) : Met l yX10_setGas [.code yX10_setGas cX10_setGas 5 (some .int)] ({ frames := 1, cells := 0, slots := 0, locals := 25 }) (PC D cy g [(a0, .inr (15, [v0, v1, v2, v3, v4, v5, v6, v7, v8, v9, v10, v11, v12, v13, v14, v15, v16, v17, v18, v19, v20, v21, v22, v23, v24, v25, v26, v27]))] sz [.ref a0, .int x0, .int x1, .int x2]) (QI D (-1) (fun ad => [(a0, .inr (15, [.int 1, v1, v2, v3, v4, v5, v6, v7, v8, v9, v10, v11, v12, v13, v14, v15, v16, v17, v18, v19, v20, v21, v22, v23, v24, v25, v26, v27]))]) (va_A [(a0, .inr (15, [v0, v1, v2, v3, v4, v5, v6, v7, v8, v9, v10, v11, v12, v13, v14, v15, v16, v17, v18, v19, v20, v21, v22, v23, v24, v25, v26, v27]))] sz)) 0 0 (va_A [(a0, .inr (15, [v0, v1, v2, v3, v4, v5, v6, v7, v8, v9, v10, v11, v12, v13, v14, v15, v16, v17, v18, v19, v20, v21, v22, v23, v24, v25, v26, v27]))] sz) := by
  refine st_I (by decide) (Nat.le_of_ble_eq_true rfl) ?_
  intro p e s m args below meth c A ls hx hb hr hml hown hlk hnm hsz hP hD hA hE hts hS hl
  have hown : s.vm.findClass RX10 = some m.cls := hown
  have hl : lv_has ls 5 [(0, .ref a0), (1, .int x0), (2, .int x1), (3, .int x2)] := hl
  refine lv_aload_n hx hb dX10_setGas_0 rfl (lv_at hl 0 rfl) ?_
  refine ca_v (isC := [0]) (isR := []) (wr := []) (rn_V (ci := 15) (q0 := 0) (isC := [0]) (wc := [(a0, .inr (15, [v0, v1, v2, v3, v4, v5, v6, v7, v8, v9, v10, v11, v12, v13, v14, v15, v16, v17, v18, v19, v20, v21, v22, v23, v24, v25, v26, v27]))]) (As := []) (rest := []) (n := 0) hx hb hml hown hts hE hS hP hD hA hl.1 (k20_X10_begins l D cy g a0 (v0) (v1) (v2) (v3) (v4) (v5) (v6) (v7) (v8) (v9) (v10) (v11) (v12) (v13) (v14) (v15) (v16) (v17) (v18) (v19) (v20) (v21) (v22) (v23) (v24) (v25) (v26) (v27) s.heap.size ) rfl rfl rfl rfl rfl ax_37 rfl rfl ax_38 ⟨Nat.le_of_ble_eq_true rfl, Nat.le_of_ble_eq_true rfl⟩ rfl rfl (Nat.le_of_ble_eq_true rfl) dX10_setGas_1 ⟨(Nat.le_of_ble_eq_true rfl), (Nat.le_of_ble_eq_true rfl)⟩) hP hD hS hA rfl rfl rfl (by decide) (fun ad1 H locs hP hD hS => ?_)
  have hP : va_P D vwCl [(a0, .inr (15, [.int 0, v1, v2, v3, v4, v5, v6, v7, v8, v9, v10, v11, v12, v13, v14, v15, v16, v17, v18, v19, v20, v21, v22, v23, v24, v25, v26, v27]))] H := hP
  have hD : va_D A [(a0, .inr (15, [.int 0, v1, v2, v3, v4, v5, v6, v7, v8, v9, v10, v11, v12, v13, v14, v15, v16, v17, v18, v19, v20, v21, v22, v23, v24, v25, v26, v27]))] := hD
  refine lv_aload_n hx hb dX10_setGas_4 rfl (lv_at hl 0 rfl) ?_
  refine lv_iload_n hx hb dX10_setGas_5 rfl (lv_at hl 1 rfl) ?_
  refine lv_i2l (v := x0.toInt64) hx hb dX10_setGas_6 rfl ?_
  refine lv_lconst (v := 1) hx hb dX10_setGas_7 (by decide) ?_
  refine lv_ldc2 (v := 20) hx hb hown (hts _ tw_808) dX10_setGas_8 ?_
  refine ca_i (isC := []) (isR := [0]) (wr := [(a0, .inr (15, [.int 0, v1, v2, v3, v4, v5, v6, v7, v8, v9, v10, v11, v12, v13, v14, v15, v16, v17, v18, v19, v20, v21, v22, v23, v24, v25, v26, v27]))]) (rn_S (isC := []) (wc := []) (As := [.long x0.toInt64, .long 1, .long 20]) (rest := [.ref a0]) (n := 3) hx hb hml hown hts hE hS hP hD hA hl.1 (k33_X10_in l D cy g x0.toInt64 1 20 H.size (wl_nlt rfl (by decide) h0) (wl_nlt (by decide) rfl h1)) rfl rfl ax_39 rfl rfl ax_40 ⟨Nat.le_of_ble_eq_true rfl, Nat.le_of_ble_eq_true rfl⟩ rfl rfl (Nat.le_of_ble_eq_true rfl) dX10_setGas_11 ⟨(Nat.le_of_ble_eq_true rfl), (Nat.le_of_ble_eq_true rfl)⟩) hP hD hS hA rfl rfl rfl (by decide) (fun ad11 H locs hP hD hS => ?_)
  have hP : va_P D vwCl [(a0, .inr (15, [.int 0, v1, v2, v3, v4, v5, v6, v7, v8, v9, v10, v11, v12, v13, v14, v15, v16, v17, v18, v19, v20, v21, v22, v23, v24, v25, v26, v27]))] H := hP
  have hD : va_D A [(a0, .inr (15, [.int 0, v1, v2, v3, v4, v5, v6, v7, v8, v9, v10, v11, v12, v13, v14, v15, v16, v17, v18, v19, v20, v21, v22, v23, v24, v25, v26, v27]))] := hD
  refine lv_if_eq (tgt := 43) hx hb dX10_setGas_14 (by decide) (fun z => absurd z (by decide)) (fun _ => ?_)
  refine lv_iload_n hx hb dX10_setGas_17 rfl (lv_at hl 2 rfl) ?_
  refine lv_i2l (v := x1.toInt64) hx hb dX10_setGas_18 rfl ?_
  refine lv_lconst (v := 1) hx hb dX10_setGas_19 (by decide) ?_
  refine lv_ldc2 (v := 100) hx hb hown (hts _ tw_681) dX10_setGas_20 ?_
  refine ca_i (isC := []) (isR := [0]) (wr := [(a0, .inr (15, [.int 0, v1, v2, v3, v4, v5, v6, v7, v8, v9, v10, v11, v12, v13, v14, v15, v16, v17, v18, v19, v20, v21, v22, v23, v24, v25, v26, v27]))]) (rn_S (isC := []) (wc := []) (As := [.long x1.toInt64, .long 1, .long 100]) (rest := [.ref a0]) (n := 3) hx hb hml hown hts hE hS hP hD hA hl.1 (k28_X10_in l D cy g x1.toInt64 1 100 H.size (wl_nlt rfl (by decide) h2) (wl_lt (by decide) rfl h3)) rfl rfl ax_39 rfl rfl ax_40 ⟨Nat.le_of_ble_eq_true rfl, Nat.le_of_ble_eq_true rfl⟩ rfl rfl (Nat.le_of_ble_eq_true rfl) dX10_setGas_23 ⟨(Nat.le_of_ble_eq_true rfl), (Nat.le_of_ble_eq_true rfl)⟩) hP hD hS hA rfl rfl rfl (by decide) (fun ad23 H locs hP hD hS => ?_)
  have hP : va_P D vwCl [(a0, .inr (15, [.int 0, v1, v2, v3, v4, v5, v6, v7, v8, v9, v10, v11, v12, v13, v14, v15, v16, v17, v18, v19, v20, v21, v22, v23, v24, v25, v26, v27]))] H := hP
  have hD : va_D A [(a0, .inr (15, [.int 0, v1, v2, v3, v4, v5, v6, v7, v8, v9, v10, v11, v12, v13, v14, v15, v16, v17, v18, v19, v20, v21, v22, v23, v24, v25, v26, v27]))] := hD
  refine lv_if_eq (tgt := 43) hx hb dX10_setGas_26 (by decide) (fun _ => ?_) (fun z => absurd (by decide) z)
  refine lv_iconst (v := 1) hx hb dX10_setGas_43 (by decide) ?_
  refine lv_goto (tgt := 48) hx hb dX10_setGas_44 (by decide) ?_
  refine lv_iconst (v := 1) hx hb dX10_setGas_48 (by decide) ?_
  refine ca_i (isC := [0]) (isR := []) (wr := []) (rn_V (ci := 15) (q0 := 0) (isC := [0]) (wc := [(a0, .inr (15, [.int 0, v1, v2, v3, v4, v5, v6, v7, v8, v9, v10, v11, v12, v13, v14, v15, v16, v17, v18, v19, v20, v21, v22, v23, v24, v25, v26, v27]))]) (As := [.int 1, .int 1]) (rest := []) (n := 2) hx hb hml hown hts hE hS hP hD hA hl.1 (k22_X10_fails l D cy g a0 (v1) (v2) (v3) (v4) (v5) (v6) (v7) (v8) (v9) (v10) (v11) (v12) (v13) (v14) (v15) (v16) (v17) (v18) (v19) (v20) (v21) (v22) (v23) (v24) (v25) (v26) (v27) H.size ) rfl rfl rfl rfl rfl ax_41 rfl rfl ax_42 ⟨Nat.le_of_ble_eq_true rfl, Nat.le_of_ble_eq_true rfl⟩ rfl rfl (Nat.le_of_ble_eq_true rfl) dX10_setGas_49 ⟨(Nat.le_of_ble_eq_true rfl), (Nat.le_of_ble_eq_true rfl)⟩) hP hD hS hA rfl rfl rfl (by decide) (fun ad49 H locs hP hD hS => ?_)
  have hP : va_P D vwCl [(a0, .inr (15, [.int 1, v1, v2, v3, v4, v5, v6, v7, v8, v9, v10, v11, v12, v13, v14, v15, v16, v17, v18, v19, v20, v21, v22, v23, v24, v25, v26, v27]))] H := hP
  have hD : va_D A [(a0, .inr (15, [.int 1, v1, v2, v3, v4, v5, v6, v7, v8, v9, v10, v11, v12, v13, v14, v15, v16, v17, v18, v19, v20, v21, v22, v23, v24, v25, v26, v27]))] := hD
  refine lv_if_eq (tgt := 57) hx hb dX10_setGas_52 (by decide) (fun z => absurd z (by decide)) (fun _ => ?_)
  refine lv_iconst (v := (-1)) hx hb dX10_setGas_55 (by decide) ?_
  exact en_z hx hb hr hlk hP hD hS rfl (fun _ => 0) (is := [0]) rfl rfl (Nat.le_of_ble_eq_true rfl) (Nat.le_of_ble_eq_true rfl) dX10_setGas_56
set_option maxHeartbeats 4000000 in
set_option maxRecDepth 100000 in
theorem k366_X9_setGas (l : Launch) (hst : l.stackTraces = false) (D : va_G) (cy : Nat → ClassId) (g : Nat → Nat) (x0 : Int32) (x1 : Int32) (x2 : Int32) (b0 : Nat) (sz : Nat) (h0 : ¬ x0 < 1) (h1 : ¬ (20 : Int32) < x0) (h2 : ¬ x1 < 1) (h3 : ¬ (100 : Int32) < x1) (h4 : x2 < 50) : vx_Met l yX9_setGas [.code yX9_setGas cX9_setGas 6 (some .int)] ({ frames := 6, cells := 1, slots := 6, locals := 82 }) (PC D cy g [] sz [.ref b0, .int x0, .int x1, .int x2]) QN (XE "java/lang/IllegalArgumentException" (va_A [] sz)) 1 6 (va_A [] sz) := by
  refine st_X (by decide) (Nat.le_of_ble_eq_true rfl) ?_
  intro p e s m args below meth c A ls hx hb hr hml hown hlk hnm hsz hP hD hA hE hts hS hl hout
  have hown : s.vm.findClass RX9 = some m.cls := hown
  have hl : lv_has ls 6 [(0, .ref b0), (1, .int x0), (2, .int x1), (3, .int x2)] := hl
  refine lv_iload_n hx hb dX9_setGas_0 rfl (lv_at hl 1 rfl) ?_
  refine lv_iconst (v := 1) hx hb dX9_setGas_1 (by decide) ?_
  refine lv_bipush (v := 20) hx hb dX9_setGas_2 (by decide) ?_
  refine ca_i (isC := []) (isR := []) (wr := []) (rn_S (isC := []) (wc := []) (As := [.int x0, .int 1, .int 20]) (rest := []) (n := 3) hx hb hml hown hts hE hS hP hD hA hl.1 (k30_X9_isOutside l D cy g x0 1 20 s.heap.size h0 h1) rfl rfl ax_30 rfl rfl ax_31 ⟨Nat.le_of_ble_eq_true rfl, Nat.le_of_ble_eq_true rfl⟩ rfl rfl (Nat.le_of_ble_eq_true rfl) dX9_setGas_4 ⟨(Nat.le_of_ble_eq_true rfl), (Nat.le_of_ble_eq_true rfl)⟩) hP hD hS hA rfl rfl rfl (by decide) (fun ad4 H locs hP hD hS => ?_)
  have hP : va_P D vwCl [] H := hP
  have hD : va_D A [] := hD
  refine lv_if_ne (tgt := 32) hx hb dX9_setGas_7 (by decide) (fun z => absurd (by decide) z) (fun _ => ?_)
  refine lv_iload_n hx hb dX9_setGas_10 rfl (lv_at hl 2 rfl) ?_
  refine lv_iconst (v := 1) hx hb dX9_setGas_11 (by decide) ?_
  refine lv_bipush (v := 100) hx hb dX9_setGas_12 (by decide) ?_
  refine ca_i (isC := []) (isR := []) (wr := []) (rn_S (isC := []) (wc := []) (As := [.int x1, .int 1, .int 100]) (rest := []) (n := 3) hx hb hml hown hts hE hS hP hD hA hl.1 (k30_X9_isOutside l D cy g x1 1 100 H.size h2 h3) rfl rfl ax_30 rfl rfl ax_31 ⟨Nat.le_of_ble_eq_true rfl, Nat.le_of_ble_eq_true rfl⟩ rfl rfl (Nat.le_of_ble_eq_true rfl) dX9_setGas_14 ⟨(Nat.le_of_ble_eq_true rfl), (Nat.le_of_ble_eq_true rfl)⟩) hP hD hS hA rfl rfl rfl (by decide) (fun ad14 H locs hP hD hS => ?_)
  have hP : va_P D vwCl [] H := hP
  have hD : va_D A [] := hD
  refine lv_if_ne (tgt := 32) hx hb dX9_setGas_17 (by decide) (fun z => absurd (by decide) z) (fun _ => ?_)
  refine lv_iload_n hx hb dX9_setGas_20 rfl (lv_at hl 3 rfl) ?_
  refine lv_bipush (v := 50) hx hb dX9_setGas_21 (by decide) ?_
  refine lv_sipush (v := 2000) hx hb dX9_setGas_23 (by decide) ?_
  refine ca_i (isC := []) (isR := []) (wr := []) (rn_S (isC := []) (wc := []) (As := [.int x2, .int 50, .int 2000]) (rest := []) (n := 3) hx hb hml hown hts hE hS hP hD hA hl.1 (k17_X9_isOutside l D cy g x2 50 2000 H.size h4) rfl rfl ax_30 rfl rfl ax_31 ⟨Nat.le_of_ble_eq_true rfl, Nat.le_of_ble_eq_true rfl⟩ rfl rfl (Nat.le_of_ble_eq_true rfl) dX9_setGas_26 ⟨(Nat.le_of_ble_eq_true rfl), (Nat.le_of_ble_eq_true rfl)⟩) hP hD hS hA rfl rfl rfl (by decide) (fun ad26 H locs hP hD hS => ?_)
  have hP : va_P D vwCl [] H := hP
  have hD : va_D A [] := hD
  refine lv_if_eq (tgt := 42) hx hb dX9_setGas_29 (by decide) (fun z => absurd z (by decide)) (fun _ => ?_)
  exact th_S (text := "a number is out of range") hx hb hst hown hts hE hS (hl.1.trans hml.symm) hout hlk (by decide +kernel) tw_296 tw_297 ax_32 (by decide +kernel) dX9_setGas_32 dX9_setGas_35 dX9_setGas_36 dX9_setGas_38 dX9_setGas_41 ⟨Nat.le_of_ble_eq_true rfl, Nat.le_of_ble_eq_true rfl, Nat.le_of_ble_eq_true rfl, Nat.le_of_ble_eq_true rfl⟩ (Nat.le_of_ble_eq_true rfl) (Nat.le_of_ble_eq_true rfl)
set_option maxHeartbeats 4000000 in
set_option maxRecDepth 100000 in
theorem k367_L_setGas (l : Launch) (hst : l.stackTraces = false) (D : va_G) (cy : Nat → ClassId) (g : Nat → Nat) (x0 : Int32) (x1 : Int32) (x2 : Int32) (a0 : Nat) (b0 : Nat) (v0 : Value) (v1 : Value) (v2 : Value) (v3 : Value) (v4 : Value) (v5 : Value) (v6 : Value) (sz : Nat) (h0 : ¬ x0 < 1) (h1 : ¬ (20 : Int32) < x0) (h2 : ¬ x1 < 1) (h3 : ¬ (100 : Int32) < x1) (h4 : x2 < 50) : Met l yL_setGas [.codeWith yL_setGas cL_setGas 6 (some .int) [(0, 12, 15, 13)]] ({ frames := 7, cells := 1, slots := 6, locals := 107 }) (PC D cy g [(a0, .inr (14, [v0, v1, v2, v3, v4, v5, v6]))] sz [.ref a0, .int x0, .int x1, .int x2, .ref b0]) (QI D 1 (fun ad => []) (va_A [(a0, .inr (14, [v0, v1, v2, v3, v4, v5, v6]))] sz)) 1 6 (va_A [(a0, .inr (14, [v0, v1, v2, v3, v4, v5, v6]))] sz) := by
  refine sh_I (by decide) (Nat.le_of_ble_eq_true rfl) ?_
  intro p e s m args below meth c A ls hx hb hr hml hown hlk hnm hsz hP hD hA hE hts hS hl htb
  have hown : s.vm.findClass RL = some m.cls := hown
  have hl : lv_has ls 6 [(0, .ref a0), (1, .int x0), (2, .int x1), (3, .int x2), (4, .ref b0)] := hl
  refine lv_aload hx hb dL_setGas_0 (lv_at hl 4 rfl) ?_
  refine lv_iconst (v := 0) hx hb dL_setGas_2 (by decide) ?_
  refine lv_aload_n hx hb dL_setGas_3 rfl (lv_at hl 0 rfl) ?_
  refine lv_iload_n hx hb dL_setGas_4 rfl (lv_at hl 1 rfl) ?_
  refine lv_iload_n hx hb dL_setGas_5 rfl (lv_at hl 2 rfl) ?_
  refine lv_iload_n hx hb dL_setGas_6 rfl (lv_at hl 3 rfl) ?_
  refine cx_catch (isC := []) (isR := [0]) (wr := [(a0, .inr (14, [v0, v1, v2, v3, v4, v5, v6]))]) (hp := []) (z := (0, 12, 15, 13)) (hq := []) (name := "java/lang/IllegalArgumentException") (own := RL) (rx_V (ci := 14) (q0 := 0) (isC := []) (wc := []) (As := [.int x0, .int x1, .int x2]) (rest := [.int 0, .ref b0]) (n := 3) hx hb hml hown hts hE hS hP hD hA hl.1 (k366_X9_setGas l hst D cy g x0 x1 x2 a0 s.heap.size h0 h1 h2 h3 h4) rfl rfl rfl rfl rfl ax_268 rfl rfl ax_269 ⟨Nat.le_of_ble_eq_true rfl, Nat.le_of_ble_eq_true rfl⟩ rfl rfl (Nat.le_of_ble_eq_true rfl) dL_setGas_7 ⟨(Nat.le_of_ble_eq_true rfl), (Nat.le_of_ble_eq_true rfl)⟩) hP hD hS hA hown hts hE htb rfl rfl rfl rfl (by decide) (fun z hz => by cases hz) (by decide) (by decide) tw_302 tw_303 (fun qx H locs hP hD hS => ?_)
  have hP : va_P D vwCl [(a0, .inr (14, [v0, v1, v2, v3, v4, v5, v6]))] H := hP
  have hD : va_D A [(a0, .inr (14, [v0, v1, v2, v3, v4, v5, v6]))] := hD
  refine lv_astore (lv' := [(5, .ref qx), (0, .ref a0), (1, .int x0), (2, .int x1), (3, .int x2), (4, .ref b0)]) hx hb dL_setGas_15 hl (Nat.le_of_ble_eq_true rfl) rfl (fun ls hl => ?_)
  refine lv_iconst (v := 1) hx hb dL_setGas_17 (by decide) ?_
  exact en_z hx hb hr hlk hP hD hS rfl (fun _ => 0) (is := []) rfl rfl (Nat.le_of_ble_eq_true rfl) (Nat.le_of_ble_eq_true rfl) dL_setGas_18
set_option maxHeartbeats 4000000 in
set_option maxRecDepth 100000 in
theorem k368_X10_setGas (l : Launch) (D : va_G) (cy : Nat → ClassId) (g : Nat → Nat) (x0 : Int32) (x1 : Int32) (x2 : Int32) (a0 : Nat) (v0 : Value) (v1 : Value) (v2 : Value) (v3 : Value) (v4 : Value) (v5 : Value) (v6 : Value) (v7 : Value) (v8 : Value) (v9 : Value) (v10 : Value) (v11 : Value) (v12 : Value) (v13 : Value) (v14 : Value) (v15 : Value) (v16 : Value) (v17 : Value) (v18 : Value) (v19 : Value) (v20 : Value) (v21 : Value) (v22 : Value) (v23 : Value) (v24 : Value) (v25 : Value) (v26 : Value) (v27 : Value) (sz : Nat) (h0 : ¬ x0 < 1) (h1 : ¬ (20 : Int32) < x0) (h2 : ¬ x1 < 1) (h3 : ¬ (100 : Int32) < x1) (h4 : x2 < 50) : Met l yX10_setGas [.code yX10_setGas cX10_setGas 5 (some .int)] ({ frames := 1, cells := 0, slots := 0, locals := 25 }) (PC D cy g [(a0, .inr (15, [v0, v1, v2, v3, v4, v5, v6, v7, v8, v9, v10, v11, v12, v13, v14, v15, v16, v17, v18, v19, v20, v21, v22, v23, v24, v25, v26, v27]))] sz [.ref a0, .int x0, .int x1, .int x2]) (QI D (-1) (fun ad => [(a0, .inr (15, [.int 1, v1, v2, v3, v4, v5, v6, v7, v8, v9, v10, v11, v12, v13, v14, v15, v16, v17, v18, v19, v20, v21, v22, v23, v24, v25, v26, v27]))]) (va_A [(a0, .inr (15, [v0, v1, v2, v3, v4, v5, v6, v7, v8, v9, v10, v11, v12, v13, v14, v15, v16, v17, v18, v19, v20, v21, v22, v23, v24, v25, v26, v27]))] sz)) 0 0 (va_A [(a0, .inr (15, [v0, v1, v2, v3, v4, v5, v6, v7, v8, v9, v10, v11, v12, v13, v14, v15, v16, v17, v18, v19, v20, v21, v22, v23, v24, v25, v26, v27]))] sz) := by
  refine st_I (by decide) (Nat.le_of_ble_eq_true rfl) ?_
  intro p e s m args below meth c A ls hx hb hr hml hown hlk hnm hsz hP hD hA hE hts hS hl
  have hown : s.vm.findClass RX10 = some m.cls := hown
  have hl : lv_has ls 5 [(0, .ref a0), (1, .int x0), (2, .int x1), (3, .int x2)] := hl
  refine lv_aload_n hx hb dX10_setGas_0 rfl (lv_at hl 0 rfl) ?_
  refine ca_v (isC := [0]) (isR := []) (wr := []) (rn_V (ci := 15) (q0 := 0) (isC := [0]) (wc := [(a0, .inr (15, [v0, v1, v2, v3, v4, v5, v6, v7, v8, v9, v10, v11, v12, v13, v14, v15, v16, v17, v18, v19, v20, v21, v22, v23, v24, v25, v26, v27]))]) (As := []) (rest := []) (n := 0) hx hb hml hown hts hE hS hP hD hA hl.1 (k20_X10_begins l D cy g a0 (v0) (v1) (v2) (v3) (v4) (v5) (v6) (v7) (v8) (v9) (v10) (v11) (v12) (v13) (v14) (v15) (v16) (v17) (v18) (v19) (v20) (v21) (v22) (v23) (v24) (v25) (v26) (v27) s.heap.size ) rfl rfl rfl rfl rfl ax_37 rfl rfl ax_38 ⟨Nat.le_of_ble_eq_true rfl, Nat.le_of_ble_eq_true rfl⟩ rfl rfl (Nat.le_of_ble_eq_true rfl) dX10_setGas_1 ⟨(Nat.le_of_ble_eq_true rfl), (Nat.le_of_ble_eq_true rfl)⟩) hP hD hS hA rfl rfl rfl (by decide) (fun ad1 H locs hP hD hS => ?_)
  have hP : va_P D vwCl [(a0, .inr (15, [.int 0, v1, v2, v3, v4, v5, v6, v7, v8, v9, v10, v11, v12, v13, v14, v15, v16, v17, v18, v19, v20, v21, v22, v23, v24, v25, v26, v27]))] H := hP
  have hD : va_D A [(a0, .inr (15, [.int 0, v1, v2, v3, v4, v5, v6, v7, v8, v9, v10, v11, v12, v13, v14, v15, v16, v17, v18, v19, v20, v21, v22, v23, v24, v25, v26, v27]))] := hD
  refine lv_aload_n hx hb dX10_setGas_4 rfl (lv_at hl 0 rfl) ?_
  refine lv_iload_n hx hb dX10_setGas_5 rfl (lv_at hl 1 rfl) ?_
  refine lv_i2l (v := x0.toInt64) hx hb dX10_setGas_6 rfl ?_
  refine lv_lconst (v := 1) hx hb dX10_setGas_7 (by decide) ?_
  refine lv_ldc2 (v := 20) hx hb hown (hts _ tw_808) dX10_setGas_8 ?_
  refine ca_i (isC := []) (isR := [0]) (wr := [(a0, .inr (15, [.int 0, v1, v2, v3, v4, v5, v6, v7, v8, v9, v10, v11, v12, v13, v14, v15, v16, v17, v18, v19, v20, v21, v22, v23, v24, v25, v26, v27]))]) (rn_S (isC := []) (wc := []) (As := [.long x0.toInt64, .long 1, .long 20]) (rest := [.ref a0]) (n := 3) hx hb hml hown hts hE hS hP hD hA hl.1 (k33_X10_in l D cy g x0.toInt64 1 20 H.size (wl_nlt rfl (by decide) h0) (wl_nlt (by decide) rfl h1)) rfl rfl ax_39 rfl rfl ax_40 ⟨Nat.le_of_ble_eq_true rfl, Nat.le_of_ble_eq_true rfl⟩ rfl rfl (Nat.le_of_ble_eq_true rfl) dX10_setGas_11 ⟨(Nat.le_of_ble_eq_true rfl), (Nat.le_of_ble_eq_true rfl)⟩) hP hD hS hA rfl rfl rfl (by decide) (fun ad11 H locs hP hD hS => ?_)
  have hP : va_P D vwCl [(a0, .inr (15, [.int 0, v1, v2, v3, v4, v5, v6, v7, v8, v9, v10, v11, v12, v13, v14, v15, v16, v17, v18, v19, v20, v21, v22, v23, v24, v25, v26, v27]))] H := hP
  have hD : va_D A [(a0, .inr (15, [.int 0, v1, v2, v3, v4, v5, v6, v7, v8, v9, v10, v11, v12, v13, v14, v15, v16, v17, v18, v19, v20, v21, v22, v23, v24, v25, v26, v27]))] := hD
  refine lv_if_eq (tgt := 43) hx hb dX10_setGas_14 (by decide) (fun z => absurd z (by decide)) (fun _ => ?_)
  refine lv_iload_n hx hb dX10_setGas_17 rfl (lv_at hl 2 rfl) ?_
  refine lv_i2l (v := x1.toInt64) hx hb dX10_setGas_18 rfl ?_
  refine lv_lconst (v := 1) hx hb dX10_setGas_19 (by decide) ?_
  refine lv_ldc2 (v := 100) hx hb hown (hts _ tw_681) dX10_setGas_20 ?_
  refine ca_i (isC := []) (isR := [0]) (wr := [(a0, .inr (15, [.int 0, v1, v2, v3, v4, v5, v6, v7, v8, v9, v10, v11, v12, v13, v14, v15, v16, v17, v18, v19, v20, v21, v22, v23, v24, v25, v26, v27]))]) (rn_S (isC := []) (wc := []) (As := [.long x1.toInt64, .long 1, .long 100]) (rest := [.ref a0]) (n := 3) hx hb hml hown hts hE hS hP hD hA hl.1 (k33_X10_in l D cy g x1.toInt64 1 100 H.size (wl_nlt rfl (by decide) h2) (wl_nlt (by decide) rfl h3)) rfl rfl ax_39 rfl rfl ax_40 ⟨Nat.le_of_ble_eq_true rfl, Nat.le_of_ble_eq_true rfl⟩ rfl rfl (Nat.le_of_ble_eq_true rfl) dX10_setGas_23 ⟨(Nat.le_of_ble_eq_true rfl), (Nat.le_of_ble_eq_true rfl)⟩) hP hD hS hA rfl rfl rfl (by decide) (fun ad23 H locs hP hD hS => ?_)
  have hP : va_P D vwCl [(a0, .inr (15, [.int 0, v1, v2, v3, v4, v5, v6, v7, v8, v9, v10, v11, v12, v13, v14, v15, v16, v17, v18, v19, v20, v21, v22, v23, v24, v25, v26, v27]))] H := hP
  have hD : va_D A [(a0, .inr (15, [.int 0, v1, v2, v3, v4, v5, v6, v7, v8, v9, v10, v11, v12, v13, v14, v15, v16, v17, v18, v19, v20, v21, v22, v23, v24, v25, v26, v27]))] := hD
  refine lv_if_eq (tgt := 43) hx hb dX10_setGas_26 (by decide) (fun z => absurd z (by decide)) (fun _ => ?_)
  refine lv_iload_n hx hb dX10_setGas_29 rfl (lv_at hl 3 rfl) ?_
  refine lv_i2l (v := x2.toInt64) hx hb dX10_setGas_30 rfl ?_
  refine lv_ldc2 (v := 50) hx hb hown (hts _ tw_314) dX10_setGas_31 ?_
  refine lv_ldc2 (v := 2000) hx hb hown (hts _ tw_315) dX10_setGas_34 ?_
  refine ca_i (isC := []) (isR := [0]) (wr := [(a0, .inr (15, [.int 0, v1, v2, v3, v4, v5, v6, v7, v8, v9, v10, v11, v12, v13, v14, v15, v16, v17, v18, v19, v20, v21, v22, v23, v24, v25, v26, v27]))]) (rn_S (isC := []) (wc := []) (As := [.long x2.toInt64, .long 50, .long 2000]) (rest := [.ref a0]) (n := 3) hx hb hml hown hts hE hS hP hD hA hl.1 (k21_X10_in l D cy g x2.toInt64 50 2000 H.size (wl_lt rfl (by decide) h4)) rfl rfl ax_39 rfl rfl ax_40 ⟨Nat.le_of_ble_eq_true rfl, Nat.le_of_ble_eq_true rfl⟩ rfl rfl (Nat.le_of_ble_eq_true rfl) dX10_setGas_37 ⟨(Nat.le_of_ble_eq_true rfl), (Nat.le_of_ble_eq_true rfl)⟩) hP hD hS hA rfl rfl rfl (by decide) (fun ad37 H locs hP hD hS => ?_)
  have hP : va_P D vwCl [(a0, .inr (15, [.int 0, v1, v2, v3, v4, v5, v6, v7, v8, v9, v10, v11, v12, v13, v14, v15, v16, v17, v18, v19, v20, v21, v22, v23, v24, v25, v26, v27]))] H := hP
  have hD : va_D A [(a0, .inr (15, [.int 0, v1, v2, v3, v4, v5, v6, v7, v8, v9, v10, v11, v12, v13, v14, v15, v16, v17, v18, v19, v20, v21, v22, v23, v24, v25, v26, v27]))] := hD
  refine lv_if_ne (tgt := 47) hx hb dX10_setGas_40 (by decide) (fun z => absurd (by decide) z) (fun _ => ?_)
  refine lv_iconst (v := 1) hx hb dX10_setGas_43 (by decide) ?_
  refine lv_goto (tgt := 48) hx hb dX10_setGas_44 (by decide) ?_
  refine lv_iconst (v := 1) hx hb dX10_setGas_48 (by decide) ?_
  refine ca_i (isC := [0]) (isR := []) (wr := []) (rn_V (ci := 15) (q0 := 0) (isC := [0]) (wc := [(a0, .inr (15, [.int 0, v1, v2, v3, v4, v5, v6, v7, v8, v9, v10, v11, v12, v13, v14, v15, v16, v17, v18, v19, v20, v21, v22, v23, v24, v25, v26, v27]))]) (As := [.int 1, .int 1]) (rest := []) (n := 2) hx hb hml hown hts hE hS hP hD hA hl.1 (k22_X10_fails l D cy g a0 (v1) (v2) (v3) (v4) (v5) (v6) (v7) (v8) (v9) (v10) (v11) (v12) (v13) (v14) (v15) (v16) (v17) (v18) (v19) (v20) (v21) (v22) (v23) (v24) (v25) (v26) (v27) H.size ) rfl rfl rfl rfl rfl ax_41 rfl rfl ax_42 ⟨Nat.le_of_ble_eq_true rfl, Nat.le_of_ble_eq_true rfl⟩ rfl rfl (Nat.le_of_ble_eq_true rfl) dX10_setGas_49 ⟨(Nat.le_of_ble_eq_true rfl), (Nat.le_of_ble_eq_true rfl)⟩) hP hD hS hA rfl rfl rfl (by decide) (fun ad49 H locs hP hD hS => ?_)
  have hP : va_P D vwCl [(a0, .inr (15, [.int 1, v1, v2, v3, v4, v5, v6, v7, v8, v9, v10, v11, v12, v13, v14, v15, v16, v17, v18, v19, v20, v21, v22, v23, v24, v25, v26, v27]))] H := hP
  have hD : va_D A [(a0, .inr (15, [.int 1, v1, v2, v3, v4, v5, v6, v7, v8, v9, v10, v11, v12, v13, v14, v15, v16, v17, v18, v19, v20, v21, v22, v23, v24, v25, v26, v27]))] := hD
  refine lv_if_eq (tgt := 57) hx hb dX10_setGas_52 (by decide) (fun z => absurd z (by decide)) (fun _ => ?_)
  refine lv_iconst (v := (-1)) hx hb dX10_setGas_55 (by decide) ?_
  exact en_z hx hb hr hlk hP hD hS rfl (fun _ => 0) (is := [0]) rfl rfl (Nat.le_of_ble_eq_true rfl) (Nat.le_of_ble_eq_true rfl) dX10_setGas_56
set_option maxHeartbeats 4000000 in
set_option maxRecDepth 100000 in
theorem k369_X9_setGas (l : Launch) (hst : l.stackTraces = false) (D : va_G) (cy : Nat → ClassId) (g : Nat → Nat) (x0 : Int32) (x1 : Int32) (x2 : Int32) (b0 : Nat) (sz : Nat) (h0 : ¬ x0 < 1) (h1 : ¬ (20 : Int32) < x0) (h2 : ¬ x1 < 1) (h3 : ¬ (100 : Int32) < x1) (h4 : ¬ x2 < 50) (h5 : (2000 : Int32) < x2) : vx_Met l yX9_setGas [.code yX9_setGas cX9_setGas 6 (some .int)] ({ frames := 6, cells := 1, slots := 6, locals := 82 }) (PC D cy g [] sz [.ref b0, .int x0, .int x1, .int x2]) QN (XE "java/lang/IllegalArgumentException" (va_A [] sz)) 1 6 (va_A [] sz) := by
  refine st_X (by decide) (Nat.le_of_ble_eq_true rfl) ?_
  intro p e s m args below meth c A ls hx hb hr hml hown hlk hnm hsz hP hD hA hE hts hS hl hout
  have hown : s.vm.findClass RX9 = some m.cls := hown
  have hl : lv_has ls 6 [(0, .ref b0), (1, .int x0), (2, .int x1), (3, .int x2)] := hl
  refine lv_iload_n hx hb dX9_setGas_0 rfl (lv_at hl 1 rfl) ?_
  refine lv_iconst (v := 1) hx hb dX9_setGas_1 (by decide) ?_
  refine lv_bipush (v := 20) hx hb dX9_setGas_2 (by decide) ?_
  refine ca_i (isC := []) (isR := []) (wr := []) (rn_S (isC := []) (wc := []) (As := [.int x0, .int 1, .int 20]) (rest := []) (n := 3) hx hb hml hown hts hE hS hP hD hA hl.1 (k30_X9_isOutside l D cy g x0 1 20 s.heap.size h0 h1) rfl rfl ax_30 rfl rfl ax_31 ⟨Nat.le_of_ble_eq_true rfl, Nat.le_of_ble_eq_true rfl⟩ rfl rfl (Nat.le_of_ble_eq_true rfl) dX9_setGas_4 ⟨(Nat.le_of_ble_eq_true rfl), (Nat.le_of_ble_eq_true rfl)⟩) hP hD hS hA rfl rfl rfl (by decide) (fun ad4 H locs hP hD hS => ?_)
  have hP : va_P D vwCl [] H := hP
  have hD : va_D A [] := hD
  refine lv_if_ne (tgt := 32) hx hb dX9_setGas_7 (by decide) (fun z => absurd (by decide) z) (fun _ => ?_)
  refine lv_iload_n hx hb dX9_setGas_10 rfl (lv_at hl 2 rfl) ?_
  refine lv_iconst (v := 1) hx hb dX9_setGas_11 (by decide) ?_
  refine lv_bipush (v := 100) hx hb dX9_setGas_12 (by decide) ?_
  refine ca_i (isC := []) (isR := []) (wr := []) (rn_S (isC := []) (wc := []) (As := [.int x1, .int 1, .int 100]) (rest := []) (n := 3) hx hb hml hown hts hE hS hP hD hA hl.1 (k30_X9_isOutside l D cy g x1 1 100 H.size h2 h3) rfl rfl ax_30 rfl rfl ax_31 ⟨Nat.le_of_ble_eq_true rfl, Nat.le_of_ble_eq_true rfl⟩ rfl rfl (Nat.le_of_ble_eq_true rfl) dX9_setGas_14 ⟨(Nat.le_of_ble_eq_true rfl), (Nat.le_of_ble_eq_true rfl)⟩) hP hD hS hA rfl rfl rfl (by decide) (fun ad14 H locs hP hD hS => ?_)
  have hP : va_P D vwCl [] H := hP
  have hD : va_D A [] := hD
  refine lv_if_ne (tgt := 32) hx hb dX9_setGas_17 (by decide) (fun z => absurd (by decide) z) (fun _ => ?_)
  refine lv_iload_n hx hb dX9_setGas_20 rfl (lv_at hl 3 rfl) ?_
  refine lv_bipush (v := 50) hx hb dX9_setGas_21 (by decide) ?_
  refine lv_sipush (v := 2000) hx hb dX9_setGas_23 (by decide) ?_
  refine ca_i (isC := []) (isR := []) (wr := []) (rn_S (isC := []) (wc := []) (As := [.int x2, .int 50, .int 2000]) (rest := []) (n := 3) hx hb hml hown hts hE hS hP hD hA hl.1 (k25_X9_isOutside l D cy g x2 50 2000 H.size h4 h5) rfl rfl ax_30 rfl rfl ax_31 ⟨Nat.le_of_ble_eq_true rfl, Nat.le_of_ble_eq_true rfl⟩ rfl rfl (Nat.le_of_ble_eq_true rfl) dX9_setGas_26 ⟨(Nat.le_of_ble_eq_true rfl), (Nat.le_of_ble_eq_true rfl)⟩) hP hD hS hA rfl rfl rfl (by decide) (fun ad26 H locs hP hD hS => ?_)
  have hP : va_P D vwCl [] H := hP
  have hD : va_D A [] := hD
  refine lv_if_eq (tgt := 42) hx hb dX9_setGas_29 (by decide) (fun z => absurd z (by decide)) (fun _ => ?_)
  exact th_S (text := "a number is out of range") hx hb hst hown hts hE hS (hl.1.trans hml.symm) hout hlk (by decide +kernel) tw_296 tw_297 ax_32 (by decide +kernel) dX9_setGas_32 dX9_setGas_35 dX9_setGas_36 dX9_setGas_38 dX9_setGas_41 ⟨Nat.le_of_ble_eq_true rfl, Nat.le_of_ble_eq_true rfl, Nat.le_of_ble_eq_true rfl, Nat.le_of_ble_eq_true rfl⟩ (Nat.le_of_ble_eq_true rfl) (Nat.le_of_ble_eq_true rfl)
set_option maxHeartbeats 4000000 in
set_option maxRecDepth 100000 in
theorem k370_L_setGas (l : Launch) (hst : l.stackTraces = false) (D : va_G) (cy : Nat → ClassId) (g : Nat → Nat) (x0 : Int32) (x1 : Int32) (x2 : Int32) (a0 : Nat) (b0 : Nat) (v0 : Value) (v1 : Value) (v2 : Value) (v3 : Value) (v4 : Value) (v5 : Value) (v6 : Value) (sz : Nat) (h0 : ¬ x0 < 1) (h1 : ¬ (20 : Int32) < x0) (h2 : ¬ x1 < 1) (h3 : ¬ (100 : Int32) < x1) (h4 : ¬ x2 < 50) (h5 : (2000 : Int32) < x2) : Met l yL_setGas [.codeWith yL_setGas cL_setGas 6 (some .int) [(0, 12, 15, 13)]] ({ frames := 7, cells := 1, slots := 6, locals := 107 }) (PC D cy g [(a0, .inr (14, [v0, v1, v2, v3, v4, v5, v6]))] sz [.ref a0, .int x0, .int x1, .int x2, .ref b0]) (QI D 1 (fun ad => []) (va_A [(a0, .inr (14, [v0, v1, v2, v3, v4, v5, v6]))] sz)) 1 6 (va_A [(a0, .inr (14, [v0, v1, v2, v3, v4, v5, v6]))] sz) := by
  refine sh_I (by decide) (Nat.le_of_ble_eq_true rfl) ?_
  intro p e s m args below meth c A ls hx hb hr hml hown hlk hnm hsz hP hD hA hE hts hS hl htb
  have hown : s.vm.findClass RL = some m.cls := hown
  have hl : lv_has ls 6 [(0, .ref a0), (1, .int x0), (2, .int x1), (3, .int x2), (4, .ref b0)] := hl
  refine lv_aload hx hb dL_setGas_0 (lv_at hl 4 rfl) ?_
  refine lv_iconst (v := 0) hx hb dL_setGas_2 (by decide) ?_
  refine lv_aload_n hx hb dL_setGas_3 rfl (lv_at hl 0 rfl) ?_
  refine lv_iload_n hx hb dL_setGas_4 rfl (lv_at hl 1 rfl) ?_
  refine lv_iload_n hx hb dL_setGas_5 rfl (lv_at hl 2 rfl) ?_
  refine lv_iload_n hx hb dL_setGas_6 rfl (lv_at hl 3 rfl) ?_
  refine cx_catch (isC := []) (isR := [0]) (wr := [(a0, .inr (14, [v0, v1, v2, v3, v4, v5, v6]))]) (hp := []) (z := (0, 12, 15, 13)) (hq := []) (name := "java/lang/IllegalArgumentException") (own := RL) (rx_V (ci := 14) (q0 := 0) (isC := []) (wc := []) (As := [.int x0, .int x1, .int x2]) (rest := [.int 0, .ref b0]) (n := 3) hx hb hml hown hts hE hS hP hD hA hl.1 (k369_X9_setGas l hst D cy g x0 x1 x2 a0 s.heap.size h0 h1 h2 h3 h4 h5) rfl rfl rfl rfl rfl ax_268 rfl rfl ax_269 ⟨Nat.le_of_ble_eq_true rfl, Nat.le_of_ble_eq_true rfl⟩ rfl rfl (Nat.le_of_ble_eq_true rfl) dL_setGas_7 ⟨(Nat.le_of_ble_eq_true rfl), (Nat.le_of_ble_eq_true rfl)⟩) hP hD hS hA hown hts hE htb rfl rfl rfl rfl (by decide) (fun z hz => by cases hz) (by decide) (by decide) tw_302 tw_303 (fun qx H locs hP hD hS => ?_)
  have hP : va_P D vwCl [(a0, .inr (14, [v0, v1, v2, v3, v4, v5, v6]))] H := hP
  have hD : va_D A [(a0, .inr (14, [v0, v1, v2, v3, v4, v5, v6]))] := hD
  refine lv_astore (lv' := [(5, .ref qx), (0, .ref a0), (1, .int x0), (2, .int x1), (3, .int x2), (4, .ref b0)]) hx hb dL_setGas_15 hl (Nat.le_of_ble_eq_true rfl) rfl (fun ls hl => ?_)
  refine lv_iconst (v := 1) hx hb dL_setGas_17 (by decide) ?_
  exact en_z hx hb hr hlk hP hD hS rfl (fun _ => 0) (is := []) rfl rfl (Nat.le_of_ble_eq_true rfl) (Nat.le_of_ble_eq_true rfl) dL_setGas_18
set_option maxHeartbeats 4000000 in
set_option maxRecDepth 100000 in
theorem k371_X10_setGas (l : Launch) (D : va_G) (cy : Nat → ClassId) (g : Nat → Nat) (x0 : Int32) (x1 : Int32) (x2 : Int32) (a0 : Nat) (v0 : Value) (v1 : Value) (v2 : Value) (v3 : Value) (v4 : Value) (v5 : Value) (v6 : Value) (v7 : Value) (v8 : Value) (v9 : Value) (v10 : Value) (v11 : Value) (v12 : Value) (v13 : Value) (v14 : Value) (v15 : Value) (v16 : Value) (v17 : Value) (v18 : Value) (v19 : Value) (v20 : Value) (v21 : Value) (v22 : Value) (v23 : Value) (v24 : Value) (v25 : Value) (v26 : Value) (v27 : Value) (sz : Nat) (h0 : ¬ x0 < 1) (h1 : ¬ (20 : Int32) < x0) (h2 : ¬ x1 < 1) (h3 : ¬ (100 : Int32) < x1) (h4 : ¬ x2 < 50) (h5 : (2000 : Int32) < x2) : Met l yX10_setGas [.code yX10_setGas cX10_setGas 5 (some .int)] ({ frames := 1, cells := 0, slots := 0, locals := 25 }) (PC D cy g [(a0, .inr (15, [v0, v1, v2, v3, v4, v5, v6, v7, v8, v9, v10, v11, v12, v13, v14, v15, v16, v17, v18, v19, v20, v21, v22, v23, v24, v25, v26, v27]))] sz [.ref a0, .int x0, .int x1, .int x2]) (QI D (-1) (fun ad => [(a0, .inr (15, [.int 1, v1, v2, v3, v4, v5, v6, v7, v8, v9, v10, v11, v12, v13, v14, v15, v16, v17, v18, v19, v20, v21, v22, v23, v24, v25, v26, v27]))]) (va_A [(a0, .inr (15, [v0, v1, v2, v3, v4, v5, v6, v7, v8, v9, v10, v11, v12, v13, v14, v15, v16, v17, v18, v19, v20, v21, v22, v23, v24, v25, v26, v27]))] sz)) 0 0 (va_A [(a0, .inr (15, [v0, v1, v2, v3, v4, v5, v6, v7, v8, v9, v10, v11, v12, v13, v14, v15, v16, v17, v18, v19, v20, v21, v22, v23, v24, v25, v26, v27]))] sz) := by
  refine st_I (by decide) (Nat.le_of_ble_eq_true rfl) ?_
  intro p e s m args below meth c A ls hx hb hr hml hown hlk hnm hsz hP hD hA hE hts hS hl
  have hown : s.vm.findClass RX10 = some m.cls := hown
  have hl : lv_has ls 5 [(0, .ref a0), (1, .int x0), (2, .int x1), (3, .int x2)] := hl
  refine lv_aload_n hx hb dX10_setGas_0 rfl (lv_at hl 0 rfl) ?_
  refine ca_v (isC := [0]) (isR := []) (wr := []) (rn_V (ci := 15) (q0 := 0) (isC := [0]) (wc := [(a0, .inr (15, [v0, v1, v2, v3, v4, v5, v6, v7, v8, v9, v10, v11, v12, v13, v14, v15, v16, v17, v18, v19, v20, v21, v22, v23, v24, v25, v26, v27]))]) (As := []) (rest := []) (n := 0) hx hb hml hown hts hE hS hP hD hA hl.1 (k20_X10_begins l D cy g a0 (v0) (v1) (v2) (v3) (v4) (v5) (v6) (v7) (v8) (v9) (v10) (v11) (v12) (v13) (v14) (v15) (v16) (v17) (v18) (v19) (v20) (v21) (v22) (v23) (v24) (v25) (v26) (v27) s.heap.size ) rfl rfl rfl rfl rfl ax_37 rfl rfl ax_38 ⟨Nat.le_of_ble_eq_true rfl, Nat.le_of_ble_eq_true rfl⟩ rfl rfl (Nat.le_of_ble_eq_true rfl) dX10_setGas_1 ⟨(Nat.le_of_ble_eq_true rfl), (Nat.le_of_ble_eq_true rfl)⟩) hP hD hS hA rfl rfl rfl (by decide) (fun ad1 H locs hP hD hS => ?_)
  have hP : va_P D vwCl [(a0, .inr (15, [.int 0, v1, v2, v3, v4, v5, v6, v7, v8, v9, v10, v11, v12, v13, v14, v15, v16, v17, v18, v19, v20, v21, v22, v23, v24, v25, v26, v27]))] H := hP
  have hD : va_D A [(a0, .inr (15, [.int 0, v1, v2, v3, v4, v5, v6, v7, v8, v9, v10, v11, v12, v13, v14, v15, v16, v17, v18, v19, v20, v21, v22, v23, v24, v25, v26, v27]))] := hD
  refine lv_aload_n hx hb dX10_setGas_4 rfl (lv_at hl 0 rfl) ?_
  refine lv_iload_n hx hb dX10_setGas_5 rfl (lv_at hl 1 rfl) ?_
  refine lv_i2l (v := x0.toInt64) hx hb dX10_setGas_6 rfl ?_
  refine lv_lconst (v := 1) hx hb dX10_setGas_7 (by decide) ?_
  refine lv_ldc2 (v := 20) hx hb hown (hts _ tw_808) dX10_setGas_8 ?_
  refine ca_i (isC := []) (isR := [0]) (wr := [(a0, .inr (15, [.int 0, v1, v2, v3, v4, v5, v6, v7, v8, v9, v10, v11, v12, v13, v14, v15, v16, v17, v18, v19, v20, v21, v22, v23, v24, v25, v26, v27]))]) (rn_S (isC := []) (wc := []) (As := [.long x0.toInt64, .long 1, .long 20]) (rest := [.ref a0]) (n := 3) hx hb hml hown hts hE hS hP hD hA hl.1 (k33_X10_in l D cy g x0.toInt64 1 20 H.size (wl_nlt rfl (by decide) h0) (wl_nlt (by decide) rfl h1)) rfl rfl ax_39 rfl rfl ax_40 ⟨Nat.le_of_ble_eq_true rfl, Nat.le_of_ble_eq_true rfl⟩ rfl rfl (Nat.le_of_ble_eq_true rfl) dX10_setGas_11 ⟨(Nat.le_of_ble_eq_true rfl), (Nat.le_of_ble_eq_true rfl)⟩) hP hD hS hA rfl rfl rfl (by decide) (fun ad11 H locs hP hD hS => ?_)
  have hP : va_P D vwCl [(a0, .inr (15, [.int 0, v1, v2, v3, v4, v5, v6, v7, v8, v9, v10, v11, v12, v13, v14, v15, v16, v17, v18, v19, v20, v21, v22, v23, v24, v25, v26, v27]))] H := hP
  have hD : va_D A [(a0, .inr (15, [.int 0, v1, v2, v3, v4, v5, v6, v7, v8, v9, v10, v11, v12, v13, v14, v15, v16, v17, v18, v19, v20, v21, v22, v23, v24, v25, v26, v27]))] := hD
  refine lv_if_eq (tgt := 43) hx hb dX10_setGas_14 (by decide) (fun z => absurd z (by decide)) (fun _ => ?_)
  refine lv_iload_n hx hb dX10_setGas_17 rfl (lv_at hl 2 rfl) ?_
  refine lv_i2l (v := x1.toInt64) hx hb dX10_setGas_18 rfl ?_
  refine lv_lconst (v := 1) hx hb dX10_setGas_19 (by decide) ?_
  refine lv_ldc2 (v := 100) hx hb hown (hts _ tw_681) dX10_setGas_20 ?_
  refine ca_i (isC := []) (isR := [0]) (wr := [(a0, .inr (15, [.int 0, v1, v2, v3, v4, v5, v6, v7, v8, v9, v10, v11, v12, v13, v14, v15, v16, v17, v18, v19, v20, v21, v22, v23, v24, v25, v26, v27]))]) (rn_S (isC := []) (wc := []) (As := [.long x1.toInt64, .long 1, .long 100]) (rest := [.ref a0]) (n := 3) hx hb hml hown hts hE hS hP hD hA hl.1 (k33_X10_in l D cy g x1.toInt64 1 100 H.size (wl_nlt rfl (by decide) h2) (wl_nlt (by decide) rfl h3)) rfl rfl ax_39 rfl rfl ax_40 ⟨Nat.le_of_ble_eq_true rfl, Nat.le_of_ble_eq_true rfl⟩ rfl rfl (Nat.le_of_ble_eq_true rfl) dX10_setGas_23 ⟨(Nat.le_of_ble_eq_true rfl), (Nat.le_of_ble_eq_true rfl)⟩) hP hD hS hA rfl rfl rfl (by decide) (fun ad23 H locs hP hD hS => ?_)
  have hP : va_P D vwCl [(a0, .inr (15, [.int 0, v1, v2, v3, v4, v5, v6, v7, v8, v9, v10, v11, v12, v13, v14, v15, v16, v17, v18, v19, v20, v21, v22, v23, v24, v25, v26, v27]))] H := hP
  have hD : va_D A [(a0, .inr (15, [.int 0, v1, v2, v3, v4, v5, v6, v7, v8, v9, v10, v11, v12, v13, v14, v15, v16, v17, v18, v19, v20, v21, v22, v23, v24, v25, v26, v27]))] := hD
  refine lv_if_eq (tgt := 43) hx hb dX10_setGas_26 (by decide) (fun z => absurd z (by decide)) (fun _ => ?_)
  refine lv_iload_n hx hb dX10_setGas_29 rfl (lv_at hl 3 rfl) ?_
  refine lv_i2l (v := x2.toInt64) hx hb dX10_setGas_30 rfl ?_
  refine lv_ldc2 (v := 50) hx hb hown (hts _ tw_314) dX10_setGas_31 ?_
  refine lv_ldc2 (v := 2000) hx hb hown (hts _ tw_315) dX10_setGas_34 ?_
  refine ca_i (isC := []) (isR := [0]) (wr := [(a0, .inr (15, [.int 0, v1, v2, v3, v4, v5, v6, v7, v8, v9, v10, v11, v12, v13, v14, v15, v16, v17, v18, v19, v20, v21, v22, v23, v24, v25, v26, v27]))]) (rn_S (isC := []) (wc := []) (As := [.long x2.toInt64, .long 50, .long 2000]) (rest := [.ref a0]) (n := 3) hx hb hml hown hts hE hS hP hD hA hl.1 (k28_X10_in l D cy g x2.toInt64 50 2000 H.size (wl_nlt rfl (by decide) h4) (wl_lt (by decide) rfl h5)) rfl rfl ax_39 rfl rfl ax_40 ⟨Nat.le_of_ble_eq_true rfl, Nat.le_of_ble_eq_true rfl⟩ rfl rfl (Nat.le_of_ble_eq_true rfl) dX10_setGas_37 ⟨(Nat.le_of_ble_eq_true rfl), (Nat.le_of_ble_eq_true rfl)⟩) hP hD hS hA rfl rfl rfl (by decide) (fun ad37 H locs hP hD hS => ?_)
  have hP : va_P D vwCl [(a0, .inr (15, [.int 0, v1, v2, v3, v4, v5, v6, v7, v8, v9, v10, v11, v12, v13, v14, v15, v16, v17, v18, v19, v20, v21, v22, v23, v24, v25, v26, v27]))] H := hP
  have hD : va_D A [(a0, .inr (15, [.int 0, v1, v2, v3, v4, v5, v6, v7, v8, v9, v10, v11, v12, v13, v14, v15, v16, v17, v18, v19, v20, v21, v22, v23, v24, v25, v26, v27]))] := hD
  refine lv_if_ne (tgt := 47) hx hb dX10_setGas_40 (by decide) (fun z => absurd (by decide) z) (fun _ => ?_)
  refine lv_iconst (v := 1) hx hb dX10_setGas_43 (by decide) ?_
  refine lv_goto (tgt := 48) hx hb dX10_setGas_44 (by decide) ?_
  refine lv_iconst (v := 1) hx hb dX10_setGas_48 (by decide) ?_
  refine ca_i (isC := [0]) (isR := []) (wr := []) (rn_V (ci := 15) (q0 := 0) (isC := [0]) (wc := [(a0, .inr (15, [.int 0, v1, v2, v3, v4, v5, v6, v7, v8, v9, v10, v11, v12, v13, v14, v15, v16, v17, v18, v19, v20, v21, v22, v23, v24, v25, v26, v27]))]) (As := [.int 1, .int 1]) (rest := []) (n := 2) hx hb hml hown hts hE hS hP hD hA hl.1 (k22_X10_fails l D cy g a0 (v1) (v2) (v3) (v4) (v5) (v6) (v7) (v8) (v9) (v10) (v11) (v12) (v13) (v14) (v15) (v16) (v17) (v18) (v19) (v20) (v21) (v22) (v23) (v24) (v25) (v26) (v27) H.size ) rfl rfl rfl rfl rfl ax_41 rfl rfl ax_42 ⟨Nat.le_of_ble_eq_true rfl, Nat.le_of_ble_eq_true rfl⟩ rfl rfl (Nat.le_of_ble_eq_true rfl) dX10_setGas_49 ⟨(Nat.le_of_ble_eq_true rfl), (Nat.le_of_ble_eq_true rfl)⟩) hP hD hS hA rfl rfl rfl (by decide) (fun ad49 H locs hP hD hS => ?_)
  have hP : va_P D vwCl [(a0, .inr (15, [.int 1, v1, v2, v3, v4, v5, v6, v7, v8, v9, v10, v11, v12, v13, v14, v15, v16, v17, v18, v19, v20, v21, v22, v23, v24, v25, v26, v27]))] H := hP
  have hD : va_D A [(a0, .inr (15, [.int 1, v1, v2, v3, v4, v5, v6, v7, v8, v9, v10, v11, v12, v13, v14, v15, v16, v17, v18, v19, v20, v21, v22, v23, v24, v25, v26, v27]))] := hD
  refine lv_if_eq (tgt := 57) hx hb dX10_setGas_52 (by decide) (fun z => absurd z (by decide)) (fun _ => ?_)
  refine lv_iconst (v := (-1)) hx hb dX10_setGas_55 (by decide) ?_
  exact en_z hx hb hr hlk hP hD hS rfl (fun _ => 0) (is := [0]) rfl rfl (Nat.le_of_ble_eq_true rfl) (Nat.le_of_ble_eq_true rfl) dX10_setGas_56
set_option maxHeartbeats 4000000 in
set_option maxRecDepth 100000 in
theorem k372_X1_fill (l : Launch) (D : va_G) (cy : Nat → ClassId) (g : Nat → Nat) (x0 : Int32) (x1 : Int32) (x2 : Int32) (a0 : Nat) (a1 : Nat) (v0 : Value) (v1 : Value) (v2 : Value) (v3 : Value) (v4 : Value) (v5 : Value) (v6 : Value) (v7 : Value) (v8 : Value) (v9 : Value) (v10 : Value) (v11 : Value) (v12 : Value) (v13 : Value) (v14 : Value) (sz : Nat) (h0 : (((3 * x0) * x2).toInt64 &&& 1125899906842623) = 0) (h1 : ((3 * x0) * x2).toInt64 < 1125899906842624) : Met l yX1_fill [.code yX1_fill cX1_fill 4 none] ({ frames := 1, cells := 0, slots := 0, locals := 22 }) (PC D cy g [(a0, .inr (6, [v0, v1, v2, v3, v4, v5, .ref a1, v6, v7, v8, v9, v10, v11])), (a1, .inr (13, [v12, v13, v14]))] sz [.ref a0, .int x0, .int x1, .int x2]) (QV D (fun ad => [(a0, .inr (6, [v0, v1, v2, v3, .int x0, .int x1, .ref a1, v6, v7, v8, v9, v10, v11])), (a1, .inr (13, [.long (((3 * x0) * x2).toInt64 &&& 1125899906842623), v13, .int 0]))]) (va_A [(a0, .inr (6, [v0, v1, v2, v3, v4, v5, .ref a1, v6, v7, v8, v9, v10, v11])), (a1, .inr (13, [v12, v13, v14]))] sz)) 0 0 (va_A [(a0, .inr (6, [v0, v1, v2, v3, v4, v5, .ref a1, v6, v7, v8, v9, v10, v11])), (a1, .inr (13, [v12, v13, v14]))] sz) := by
  refine st_V (by decide) (Nat.le_of_ble_eq_true rfl) ?_
  intro p e s m args below meth c A ls hx hb hr hml hown hlk hnm hsz hP hD hA hE hts hS hl
  have hown : s.vm.findClass RX1 = some m.cls := hown
  have hl : lv_has ls 4 [(0, .ref a0), (1, .int x0), (2, .int x1), (3, .int x2)] := hl
  refine lv_aload_n hx hb dX1_fill_0 rfl (lv_at hl 0 rfl) ?_
  refine lv_iload_n hx hb dX1_fill_1 rfl (lv_at hl 1 rfl) ?_
  refine va_put (D := D) (ci := 6) (v := .int x0) (ty := .int) (C := RX1) (T := TX1) (N := 13) hx hb hts ax_7 tyX1 tyX1_ok nmX1 hown hE.1 hP hD hS 0 rfl rfl 4 (by decide) (hts _ tw_99) (fun _ h9 => h9) rfl (by decide +kernel) rfl rfl (Nat.le_of_ble_eq_true rfl) dX1_fill_2 (fun H locs hP hD hS => ?_)
  have hP : va_P D vwCl [(a0, .inr (6, [v0, v1, v2, v3, .int x0, v5, .ref a1, v6, v7, v8, v9, v10, v11])), (a1, .inr (13, [v12, v13, v14]))] H := hP
  have hD : va_D A [(a0, .inr (6, [v0, v1, v2, v3, .int x0, v5, .ref a1, v6, v7, v8, v9, v10, v11])), (a1, .inr (13, [v12, v13, v14]))] := hD
  refine lv_aload_n hx hb dX1_fill_5 rfl (lv_at hl 0 rfl) ?_
  refine lv_iload_n hx hb dX1_fill_6 rfl (lv_at hl 2 rfl) ?_
  refine va_put (D := D) (ci := 6) (v := .int x1) (ty := .int) (C := RX1) (T := TX1) (N := 13) hx hb hts ax_7 tyX1 tyX1_ok nmX1 hown hE.1 hP hD hS 0 rfl rfl 5 (by decide) (hts _ tw_100) (fun _ h9 => h9) rfl (by decide +kernel) rfl rfl (Nat.le_of_ble_eq_true rfl) dX1_fill_7 (fun H locs hP hD hS => ?_)
  have hP : va_P D vwCl [(a0, .inr (6, [v0, v1, v2, v3, .int x0, .int x1, .ref a1, v6, v7, v8, v9, v10, v11])), (a1, .inr (13, [v12, v13, v14]))] H := hP
  have hD : va_D A [(a0, .inr (6, [v0, v1, v2, v3, .int x0, .int x1, .ref a1, v6, v7, v8, v9, v10, v11])), (a1, .inr (13, [v12, v13, v14]))] := hD
  refine lv_aload_n hx hb dX1_fill_10 rfl (lv_at hl 0 rfl) ?_
  refine va_get (D := D) (ci := 6) (v := .ref a1) (C := RX1) (T := TX1) (N := 13) hx hb hts ax_7 hown hE.1 hP 0 rfl rfl 6 (by decide) (hts _ tw_101) (fun _ h9 => h9) rfl dX1_fill_11 ?_
  refine lv_iconst (v := 3) hx hb dX1_fill_14 (by decide) ?_
  refine lv_iload_n hx hb dX1_fill_15 rfl (lv_at hl 1 rfl) ?_
  refine lv_imul hx hb dX1_fill_16 ?_
  refine lv_iload_n hx hb dX1_fill_17 rfl (lv_at hl 3 rfl) ?_
  refine lv_imul hx hb dX1_fill_18 ?_
  refine lv_i2l (v := ((3 * x0) * x2).toInt64) hx hb dX1_fill_19 rfl ?_
  refine ca_v (isC := [1]) (isR := [0]) (wr := [(a0, .inr (6, [v0, v1, v2, v3, .int x0, .int x1, .ref a1, v6, v7, v8, v9, v10, v11]))]) (rn_V (ci := 13) (q0 := 1) (isC := [1]) (wc := [(a1, .inr (13, [v12, v13, v14]))]) (As := [.long (((3 * x0) * x2).toInt64)]) (rest := []) (n := 1) hx hb hml hown hts hE hS hP hD hA hl.1 (k39_X8_set l D cy g (((3 * x0) * x2).toInt64) a1 (v12) (v13) (v14) H.size h0 h1) rfl rfl rfl rfl rfl ax_8 rfl rfl ax_9 ⟨Nat.le_of_ble_eq_true rfl, Nat.le_of_ble_eq_true rfl⟩ rfl rfl (Nat.le_of_ble_eq_true rfl) dX1_fill_20 ⟨(Nat.le_of_ble_eq_true rfl), (Nat.le_of_ble_eq_true rfl)⟩) hP hD hS hA rfl rfl rfl (by decide) (fun ad20 H locs hP hD hS => ?_)
  have hP : va_P D vwCl [(a0, .inr (6, [v0, v1, v2, v3, .int x0, .int x1, .ref a1, v6, v7, v8, v9, v10, v11])), (a1, .inr (13, [.long (((3 * x0) * x2).toInt64 &&& 1125899906842623), v13, .int 0]))] H := hP
  have hD : va_D A [(a0, .inr (6, [v0, v1, v2, v3, .int x0, .int x1, .ref a1, v6, v7, v8, v9, v10, v11])), (a1, .inr (13, [.long (((3 * x0) * x2).toInt64 &&& 1125899906842623), v13, .int 0]))] := hD
  exact en_v hx hb hr hlk hP hD hS (fun _ => 0) (is := [0, 1]) rfl rfl (Nat.le_of_ble_eq_true rfl) (Nat.le_of_ble_eq_true rfl) dX1_fill_23
set_option maxHeartbeats 4000000 in
set_option maxRecDepth 100000 in
theorem k373_X8_low (l : Launch) (D : va_G) (cy : Nat → ClassId) (g : Nat → Nat) (a0 : Nat) (x0 : Int64) (v0 : Value) (sz : Nat)  : Met l yX8_low [.code yX8_low cX8_low 1 (some .long)] ({ frames := 0, cells := 0, slots := 0, locals := 0 }) (PC D cy g [(a0, .inr (13, [.long x0, v0, .int 0]))] sz [.ref a0]) (QL D x0 (fun ad => [(a0, .inr (13, [.long x0, v0, .int 0]))]) (va_A [(a0, .inr (13, [.long x0, v0, .int 0]))] sz)) 0 0 (va_A [(a0, .inr (13, [.long x0, v0, .int 0]))] sz) := by
  refine st_L (by decide) (Nat.le_of_ble_eq_true rfl) ?_
  intro p e s m args below meth c A ls hx hb hr hml hown hlk hnm hsz hP hD hA hE hts hS hl
  have hown : s.vm.findClass RX8 = some m.cls := hown
  have hl : lv_has ls 1 [(0, .ref a0)] := hl
  refine lv_aload_n hx hb dX8_low_0 rfl (lv_at hl 0 rfl) ?_
  refine va_get (D := D) (ci := 13) (v := .int 0) (C := RX8) (T := TX8) (N := 3) hx hb hts ax_0 hown hE.1 hP 0 rfl rfl 2 (by decide) (hts _ tw_9) (fun _ h9 => h9) rfl dX8_low_1 ?_
  refine lv_iconst (v := 1) hx hb dX8_low_4 (by decide) ?_
  refine lv_icmp_le (tgt := 24) hx hb dX8_low_5 (by decide) (fun _ => ?_) (fun z => absurd (by decide) z)
  refine lv_aload_n hx hb dX8_low_24 rfl (lv_at hl 0 rfl) ?_
  refine va_get (D := D) (ci := 13) (v := .long x0) (C := RX8) (T := TX8) (N := 3) hx hb hts ax_0 hown hE.1 hP 0 rfl rfl 0 (by decide) (hts _ tw_6) (fun _ h9 => h9) rfl dX8_low_25 ?_
  exact en_l hx hb hr hlk hP hD hS (fun _ => 0) (is := [0]) rfl rfl (Nat.le_of_ble_eq_true rfl) (Nat.le_of_ble_eq_true rfl) dX8_low_28
set_option maxHeartbeats 4000000 in
set_option maxRecDepth 100000 in
theorem k374_X9_setGas (l : Launch) (D : va_G) (cy : Nat → ClassId) (g : Nat → Nat) (x0 : Int32) (x1 : Int32) (x2 : Int32) (a0 : Nat) (a1 : Nat) (a2 : Nat) (a3 : Nat) (v0 : Value) (v1 : Value) (v2 : Value) (v3 : Value) (v4 : Value) (v5 : Value) (v6 : Value) (v7 : Value) (v8 : Value) (v9 : Value) (v10 : Value) (v11 : Value) (v12 : Value) (v13 : Value) (v14 : Value) (v15 : Value) (v16 : Value) (v17 : Value) (v18 : Value) (v19 : Value) (v20 : Value) (v21 : Value) (sz : Nat) (h0 : ¬ x0 < 1) (h1 : ¬ (20 : Int32) < x0) (h2 : ¬ x1 < 1) (h3 : ¬ (100 : Int32) < x1) (h4 : ¬ x2 < 50) (h5 : ¬ (2000 : Int32) < x2) (h6 : (((3 * x0) * x2).toInt64 &&& 1125899906842623) = 0) (h7 : ((3 * x0) * x2).toInt64 < 1125899906842624) : Met l yX9_setGas [.code yX9_setGas cX9_setGas 6 (some .int)] ({ frames := 2, cells := 0, slots := 0, locals := 45 }) (PC D cy g [(a0, .inr (14, [v0, v1, v2, .ref a1, v3, v4, .ref a3])), (a1, .inr (6, [v5, v6, v7, v8, v9, v10, .ref a2, v11, v12, v13, v14, v15, v16])), (a2, .inr (13, [.long 900, v17, .int 1])), (a3, .inr (11, [v18, v19, v20, v21, .long 900]))] sz [.ref a0, .int x0, .int x1, .int x2]) (QI D 900 (fun ad => [(a0, .inr (14, [v0, v1, v2, .ref a1, v3, v4, .ref a3])), (a1, .inr (6, [v5, v6, v7, v8, .int x0, .int x1, .ref a2, v11, v12, v13, v14, v15, v16])), (a2, .inr (13, [.long (((3 * x0) * x2).toInt64 &&& 1125899906842623), v17, .int 0])), (a3, .inr (11, [v18, v19, v20, v21, .long (900 + ((((3 * x0) * x2).toInt64 &&& 1125899906842623) - 900))]))]) (va_A [(a0, .inr (14, [v0, v1, v2, .ref a1, v3, v4, .ref a3])), (a1, .inr (6, [v5, v6, v7, v8, v9, v10, .ref a2, v11, v12, v13, v14, v15, v16])), (a2, .inr (13, [.long 900, v17, .int 1])), (a3, .inr (11, [v18, v19, v20, v21, .long 900]))] sz)) 0 0 (va_A [(a0, .inr (14, [v0, v1, v2, .ref a1, v3, v4, .ref a3])), (a1, .inr (6, [v5, v6, v7, v8, v9, v10, .ref a2, v11, v12, v13, v14, v15, v16])), (a2, .inr (13, [.long 900, v17, .int 1])), (a3, .inr (11, [v18, v19, v20, v21, .long 900]))] sz) := by
  refine st_I (by decide) (Nat.le_of_ble_eq_true rfl) ?_
  intro p e s m args below meth c A ls hx hb hr hml hown hlk hnm hsz hP hD hA hE hts hS hl
  have hown : s.vm.findClass RX9 = some m.cls := hown
  have hl : lv_has ls 6 [(0, .ref a0), (1, .int x0), (2, .int x1), (3, .int x2)] := hl
  refine lv_iload_n hx hb dX9_setGas_0 rfl (lv_at hl 1 rfl) ?_
  refine lv_iconst (v := 1) hx hb dX9_setGas_1 (by decide) ?_
  refine lv_bipush (v := 20) hx hb dX9_setGas_2 (by decide) ?_
  refine ca_i (isC := []) (isR := [0, 1, 2, 3]) (wr := [(a0, .inr (14, [v0, v1, v2, .ref a1, v3, v4, .ref a3])), (a1, .inr (6, [v5, v6, v7, v8, v9, v10, .ref a2, v11, v12, v13, v14, v15, v16])), (a2, .inr (13, [.long 900, v17, .int 1])), (a3, .inr (11, [v18, v19, v20, v21, .long 900]))]) (rn_S (isC := []) (wc := []) (As := [.int x0, .int 1, .int 20]) (rest := []) (n := 3) hx hb hml hown hts hE hS hP hD hA hl.1 (k30_X9_isOutside l D cy g x0 1 20 s.heap.size h0 h1) rfl rfl ax_30 rfl rfl ax_31 ⟨Nat.le_of_ble_eq_true rfl, Nat.le_of_ble_eq_true rfl⟩ rfl rfl (Nat.le_of_ble_eq_true rfl) dX9_setGas_4 ⟨(Nat.le_of_ble_eq_true rfl), (Nat.le_of_ble_eq_true rfl)⟩) hP hD hS hA rfl rfl rfl (by decide) (fun ad4 H locs hP hD hS => ?_)
  have hP : va_P D vwCl [(a0, .inr (14, [v0, v1, v2, .ref a1, v3, v4, .ref a3])), (a1, .inr (6, [v5, v6, v7, v8, v9, v10, .ref a2, v11, v12, v13, v14, v15, v16])), (a2, .inr (13, [.long 900, v17, .int 1])), (a3, .inr (11, [v18, v19, v20, v21, .long 900]))] H := hP
  have hD : va_D A [(a0, .inr (14, [v0, v1, v2, .ref a1, v3, v4, .ref a3])), (a1, .inr (6, [v5, v6, v7, v8, v9, v10, .ref a2, v11, v12, v13, v14, v15, v16])), (a2, .inr (13, [.long 900, v17, .int 1])), (a3, .inr (11, [v18, v19, v20, v21, .long 900]))] := hD
  refine lv_if_ne (tgt := 32) hx hb dX9_setGas_7 (by decide) (fun z => absurd (by decide) z) (fun _ => ?_)
  refine lv_iload_n hx hb dX9_setGas_10 rfl (lv_at hl 2 rfl) ?_
  refine lv_iconst (v := 1) hx hb dX9_setGas_11 (by decide) ?_
  refine lv_bipush (v := 100) hx hb dX9_setGas_12 (by decide) ?_
  refine ca_i (isC := []) (isR := [0, 1, 2, 3]) (wr := [(a0, .inr (14, [v0, v1, v2, .ref a1, v3, v4, .ref a3])), (a1, .inr (6, [v5, v6, v7, v8, v9, v10, .ref a2, v11, v12, v13, v14, v15, v16])), (a2, .inr (13, [.long 900, v17, .int 1])), (a3, .inr (11, [v18, v19, v20, v21, .long 900]))]) (rn_S (isC := []) (wc := []) (As := [.int x1, .int 1, .int 100]) (rest := []) (n := 3) hx hb hml hown hts hE hS hP hD hA hl.1 (k30_X9_isOutside l D cy g x1 1 100 H.size h2 h3) rfl rfl ax_30 rfl rfl ax_31 ⟨Nat.le_of_ble_eq_true rfl, Nat.le_of_ble_eq_true rfl⟩ rfl rfl (Nat.le_of_ble_eq_true rfl) dX9_setGas_14 ⟨(Nat.le_of_ble_eq_true rfl), (Nat.le_of_ble_eq_true rfl)⟩) hP hD hS hA rfl rfl rfl (by decide) (fun ad14 H locs hP hD hS => ?_)
  have hP : va_P D vwCl [(a0, .inr (14, [v0, v1, v2, .ref a1, v3, v4, .ref a3])), (a1, .inr (6, [v5, v6, v7, v8, v9, v10, .ref a2, v11, v12, v13, v14, v15, v16])), (a2, .inr (13, [.long 900, v17, .int 1])), (a3, .inr (11, [v18, v19, v20, v21, .long 900]))] H := hP
  have hD : va_D A [(a0, .inr (14, [v0, v1, v2, .ref a1, v3, v4, .ref a3])), (a1, .inr (6, [v5, v6, v7, v8, v9, v10, .ref a2, v11, v12, v13, v14, v15, v16])), (a2, .inr (13, [.long 900, v17, .int 1])), (a3, .inr (11, [v18, v19, v20, v21, .long 900]))] := hD
  refine lv_if_ne (tgt := 32) hx hb dX9_setGas_17 (by decide) (fun z => absurd (by decide) z) (fun _ => ?_)
  refine lv_iload_n hx hb dX9_setGas_20 rfl (lv_at hl 3 rfl) ?_
  refine lv_bipush (v := 50) hx hb dX9_setGas_21 (by decide) ?_
  refine lv_sipush (v := 2000) hx hb dX9_setGas_23 (by decide) ?_
  refine ca_i (isC := []) (isR := [0, 1, 2, 3]) (wr := [(a0, .inr (14, [v0, v1, v2, .ref a1, v3, v4, .ref a3])), (a1, .inr (6, [v5, v6, v7, v8, v9, v10, .ref a2, v11, v12, v13, v14, v15, v16])), (a2, .inr (13, [.long 900, v17, .int 1])), (a3, .inr (11, [v18, v19, v20, v21, .long 900]))]) (rn_S (isC := []) (wc := []) (As := [.int x2, .int 50, .int 2000]) (rest := []) (n := 3) hx hb hml hown hts hE hS hP hD hA hl.1 (k30_X9_isOutside l D cy g x2 50 2000 H.size h4 h5) rfl rfl ax_30 rfl rfl ax_31 ⟨Nat.le_of_ble_eq_true rfl, Nat.le_of_ble_eq_true rfl⟩ rfl rfl (Nat.le_of_ble_eq_true rfl) dX9_setGas_26 ⟨(Nat.le_of_ble_eq_true rfl), (Nat.le_of_ble_eq_true rfl)⟩) hP hD hS hA rfl rfl rfl (by decide) (fun ad26 H locs hP hD hS => ?_)
  have hP : va_P D vwCl [(a0, .inr (14, [v0, v1, v2, .ref a1, v3, v4, .ref a3])), (a1, .inr (6, [v5, v6, v7, v8, v9, v10, .ref a2, v11, v12, v13, v14, v15, v16])), (a2, .inr (13, [.long 900, v17, .int 1])), (a3, .inr (11, [v18, v19, v20, v21, .long 900]))] H := hP
  have hD : va_D A [(a0, .inr (14, [v0, v1, v2, .ref a1, v3, v4, .ref a3])), (a1, .inr (6, [v5, v6, v7, v8, v9, v10, .ref a2, v11, v12, v13, v14, v15, v16])), (a2, .inr (13, [.long 900, v17, .int 1])), (a3, .inr (11, [v18, v19, v20, v21, .long 900]))] := hD
  refine lv_if_eq (tgt := 42) hx hb dX9_setGas_29 (by decide) (fun _ => ?_) (fun z => absurd (by decide) z)
  refine lv_aload_n hx hb dX9_setGas_42 rfl (lv_at hl 0 rfl) ?_
  refine va_get (D := D) (ci := 14) (v := .ref a1) (C := RX9) (T := TX9) (N := 7) hx hb hts ax_16 hown hE.1 hP 0 rfl rfl 3 (by decide) (hts _ tw_199) (fun _ h9 => h9) rfl dX9_setGas_43 ?_
  refine va_getN (D := D) (ci := 6) (v := .ref a2) (C := RX1) (T := TX1) (N := 13) hx hb hts ax_7 hown hE.1 hP 1 rfl rfl 6 (by decide) (hts _ tw_221) (fun _ h9 => h9) rfl dX9_setGas_46 ?_
  refine ca_l (isC := [2]) (isR := [0, 1, 3]) (wr := [(a0, .inr (14, [v0, v1, v2, .ref a1, v3, v4, .ref a3])), (a1, .inr (6, [v5, v6, v7, v8, v9, v10, .ref a2, v11, v12, v13, v14, v15, v16])), (a3, .inr (11, [v18, v19, v20, v21, .long 900]))]) (rn_V (ci := 13) (q0 := 2) (isC := [2]) (wc := [(a2, .inr (13, [.long 900, v17, .int 1]))]) (As := []) (rest := []) (n := 0) hx hb hml hown hts hE hS hP hD hA hl.1 (k11_X8_low l D cy g a2 (v17) H.size ) rfl rfl rfl rfl rfl ax_23 rfl rfl ax_24 ⟨Nat.le_of_ble_eq_true rfl, Nat.le_of_ble_eq_true rfl⟩ rfl rfl (Nat.le_of_ble_eq_true rfl) dX9_setGas_49 ⟨(Nat.le_of_ble_eq_true rfl), (Nat.le_of_ble_eq_true rfl)⟩) hP hD hS hA rfl rfl rfl (by decide) (fun ad49 H locs hP hD hS => ?_)
  have hP : va_P D vwCl [(a0, .inr (14, [v0, v1, v2, .ref a1, v3, v4, .ref a3])), (a1, .inr (6, [v5, v6, v7, v8, v9, v10, .ref a2, v11, v12, v13, v14, v15, v16])), (a3, .inr (11, [v18, v19, v20, v21, .long 900])), (a2, .inr (13, [.long 900, v17, .int 1]))] H := hP
  have hD : va_D A [(a0, .inr (14, [v0, v1, v2, .ref a1, v3, v4, .ref a3])), (a1, .inr (6, [v5, v6, v7, v8, v9, v10, .ref a2, v11, v12, v13, v14, v15, v16])), (a3, .inr (11, [v18, v19, v20, v21, .long 900])), (a2, .inr (13, [.long 900, v17, .int 1]))] := hD
  refine lv_lstore (lv' := [(4, .long 900), (0, .ref a0), (1, .int x0), (2, .int x1), (3, .int x2)]) hx hb dX9_setGas_52 hl (Nat.le_of_ble_eq_true rfl) rfl (fun ls hl => ?_)
  refine lv_aload_n hx hb dX9_setGas_54 rfl (lv_at hl 1 rfl) ?_
  refine va_get (D := D) (ci := 14) (v := .ref a1) (C := RX9) (T := TX9) (N := 7) hx hb hts ax_16 hown hE.1 hP 0 rfl rfl 3 (by decide) (hts _ tw_199) (fun _ h9 => h9) rfl dX9_setGas_55 ?_
  refine lv_iload_n hx hb dX9_setGas_58 rfl (lv_at hl 2 rfl) ?_
  refine lv_iload_n hx hb dX9_setGas_59 rfl (lv_at hl 3 rfl) ?_
  refine lv_iload_n hx hb dX9_setGas_60 rfl (lv_at hl 4 rfl) ?_
  refine ca_v (isC := [1, 3]) (isR := [0, 2]) (wr := [(a0, .inr (14, [v0, v1, v2, .ref a1, v3, v4, .ref a3])), (a3, .inr (11, [v18, v19, v20, v21, .long 900]))]) (rn_V (ci := 6) (q0 := 1) (isC := [1, 3]) (wc := [(a1, .inr (6, [v5, v6, v7, v8, v9, v10, .ref a2, v11, v12, v13, v14, v15, v16])), (a2, .inr (13, [.long 900, v17, .int 1]))]) (As := [.int x0, .int x1, .int x2]) (rest := []) (n := 3) hx hb hml hown hts hE hS hP hD hA hl.1 (k372_X1_fill l D cy g x0 x1 x2 a1 a2 (v5) (v6) (v7) (v8) (v9) (v10) (v11) (v12) (v13) (v14) (v15) (v16) (.long 900) (v17) (.int 1) H.size h6 h7) rfl rfl rfl rfl rfl ax_274 rfl rfl ax_11 ⟨Nat.le_of_ble_eq_true rfl, Nat.le_of_ble_eq_true rfl⟩ rfl rfl (Nat.le_of_ble_eq_true rfl) dX9_setGas_61 ⟨(Nat.le_of_ble_eq_true rfl), (Nat.le_of_ble_eq_true rfl)⟩) hP hD hS hA rfl rfl rfl (by decide) (fun ad61 H locs hP hD hS => ?_)
  have hP : va_P D vwCl [(a0, .inr (14, [v0, v1, v2, .ref a1, v3, v4, .ref a3])), (a3, .inr (11, [v18, v19, v20, v21, .long 900])), (a1, .inr (6, [v5, v6, v7, v8, .int x0, .int x1, .ref a2, v11, v12, v13, v14, v15, v16])), (a2, .inr (13, [.long (((3 * x0) * x2).toInt64 &&& 1125899906842623), v17, .int 0]))] H := hP
  have hD : va_D A [(a0, .inr (14, [v0, v1, v2, .ref a1, v3, v4, .ref a3])), (a3, .inr (11, [v18, v19, v20, v21, .long 900])), (a1, .inr (6, [v5, v6, v7, v8, .int x0, .int x1, .ref a2, v11, v12, v13, v14, v15, v16])), (a2, .inr (13, [.long (((3 * x0) * x2).toInt64 &&& 1125899906842623), v17, .int 0]))] := hD
  refine lv_aload_n hx hb dX9_setGas_64 rfl (lv_at hl 1 rfl) ?_
  refine va_get (D := D) (ci := 14) (v := .ref a3) (C := RX9) (T := TX9) (N := 7) hx hb hts ax_16 hown hE.1 hP 0 rfl rfl 6 (by decide) (hts _ tw_220) (fun _ h9 => h9) rfl dX9_setGas_65 ?_
  refine lv_dup hx hb dX9_setGas_68 rfl ?_
  refine va_getN (D := D) (ci := 11) (v := .long 900) (C := RX6) (T := TX6) (N := 5) hx hb hts ax_14 hown hE.1 hP 1 rfl rfl 4 (by decide) (hts _ tw_226) (fun _ h9 => h9) rfl dX9_setGas_69 ?_
  refine lv_aload_n hx hb dX9_setGas_72 rfl (lv_at hl 1 rfl) ?_
  refine va_get (D := D) (ci := 14) (v := .ref a1) (C := RX9) (T := TX9) (N := 7) hx hb hts ax_16 hown hE.1 hP 0 rfl rfl 3 (by decide) (hts _ tw_199) (fun _ h9 => h9) rfl dX9_setGas_73 ?_
  refine va_getN (D := D) (ci := 6) (v := .ref a2) (C := RX1) (T := TX1) (N := 13) hx hb hts ax_7 hown hE.1 hP 2 rfl rfl 6 (by decide) (hts _ tw_221) (fun _ h9 => h9) rfl dX9_setGas_76 ?_
  refine ca_l (isC := [3]) (isR := [0, 1, 2]) (wr := [(a0, .inr (14, [v0, v1, v2, .ref a1, v3, v4, .ref a3])), (a3, .inr (11, [v18, v19, v20, v21, .long 900])), (a1, .inr (6, [v5, v6, v7, v8, .int x0, .int x1, .ref a2, v11, v12, v13, v14, v15, v16]))]) (rn_V (ci := 13) (q0 := 3) (isC := [3]) (wc := [(a2, .inr (13, [.long (((3 * x0) * x2).toInt64 &&& 1125899906842623), v17, .int 0]))]) (As := []) (rest := [.long 900, .ref a3]) (n := 0) hx hb hml hown hts hE hS hP hD hA hl.1 (k373_X8_low l D cy g a2 (((3 * x0) * x2).toInt64 &&& 1125899906842623) (v17) H.size ) rfl rfl rfl rfl rfl ax_23 rfl rfl ax_24 ⟨Nat.le_of_ble_eq_true rfl, Nat.le_of_ble_eq_true rfl⟩ rfl rfl (Nat.le_of_ble_eq_true rfl) dX9_setGas_79 ⟨(Nat.le_of_ble_eq_true rfl), (Nat.le_of_ble_eq_true rfl)⟩) hP hD hS hA rfl rfl rfl (by decide) (fun ad79 H locs hP hD hS => ?_)
  have hP : va_P D vwCl [(a0, .inr (14, [v0, v1, v2, .ref a1, v3, v4, .ref a3])), (a3, .inr (11, [v18, v19, v20, v21, .long 900])), (a1, .inr (6, [v5, v6, v7, v8, .int x0, .int x1, .ref a2, v11, v12, v13, v14, v15, v16])), (a2, .inr (13, [.long (((3 * x0) * x2).toInt64 &&& 1125899906842623), v17, .int 0]))] H := hP
  have hD : va_D A [(a0, .inr (14, [v0, v1, v2, .ref a1, v3, v4, .ref a3])), (a3, .inr (11, [v18, v19, v20, v21, .long 900])), (a1, .inr (6, [v5, v6, v7, v8, .int x0, .int x1, .ref a2, v11, v12, v13, v14, v15, v16])), (a2, .inr (13, [.long (((3 * x0) * x2).toInt64 &&& 1125899906842623), v17, .int 0]))] := hD
  refine lv_lload hx hb dX9_setGas_82 (lv_at hl 0 rfl) ?_
  refine lv_lsub hx hb dX9_setGas_84 ?_
  refine lv_ladd hx hb dX9_setGas_85 ?_
  refine va_putN (D := D) (ci := 11) (v := .long (900 + ((((3 * x0) * x2).toInt64 &&& 1125899906842623) - 900))) (ty := .long) (C := RX6) (T := TX6) (N := 5) hx hb hts ax_14 tyX6 tyX6_ok nmX6 hown hE.1 hP hD hS 1 rfl rfl 4 (by decide) (hts _ tw_226) (fun _ h9 => h9) rfl (by decide +kernel) rfl rfl (Nat.le_of_ble_eq_true rfl) dX9_setGas_86 (fun H locs hP hD hS => ?_)
  have hP : va_P D vwCl [(a0, .inr (14, [v0, v1, v2, .ref a1, v3, v4, .ref a3])), (a3, .inr (11, [v18, v19, v20, v21, .long (900 + ((((3 * x0) * x2).toInt64 &&& 1125899906842623) - 900))])), (a1, .inr (6, [v5, v6, v7, v8, .int x0, .int x1, .ref a2, v11, v12, v13, v14, v15, v16])), (a2, .inr (13, [.long (((3 * x0) * x2).toInt64 &&& 1125899906842623), v17, .int 0]))] H := hP
  have hD : va_D A [(a0, .inr (14, [v0, v1, v2, .ref a1, v3, v4, .ref a3])), (a3, .inr (11, [v18, v19, v20, v21, .long (900 + ((((3 * x0) * x2).toInt64 &&& 1125899906842623) - 900))])), (a1, .inr (6, [v5, v6, v7, v8, .int x0, .int x1, .ref a2, v11, v12, v13, v14, v15, v16])), (a2, .inr (13, [.long (((3 * x0) * x2).toInt64 &&& 1125899906842623), v17, .int 0]))] := hD
  refine lv_lload hx hb dX9_setGas_89 (lv_at hl 0 rfl) ?_
  refine lv_l2i (v := 900) hx hb dX9_setGas_91 (by decide) ?_
  exact en_z hx hb hr hlk hP hD hS rfl (fun _ => 0) (is := [0, 2, 3, 1]) rfl rfl (Nat.le_of_ble_eq_true rfl) (Nat.le_of_ble_eq_true rfl) dX9_setGas_92
set_option maxHeartbeats 4000000 in
set_option maxRecDepth 100000 in
theorem k375_L_setGas (l : Launch) (D : va_G) (cy : Nat → ClassId) (g : Nat → Nat) (x0 : Int32) (x1 : Int32) (x2 : Int32) (a0 : Nat) (a1 : Nat) (a2 : Nat) (a3 : Nat) (a4 : Nat) (v0 : Value) (v1 : Value) (v2 : Value) (v3 : Value) (v4 : Value) (v5 : Value) (v6 : Value) (v7 : Value) (v8 : Value) (v9 : Value) (v10 : Value) (v11 : Value) (v12 : Value) (v13 : Value) (v14 : Value) (v15 : Value) (v16 : Value) (v17 : Value) (v18 : Value) (v19 : Value) (v20 : Value) (v21 : Value) (f0 : Nat → Int64) (sz : Nat) (h0 : ¬ x0 < 1) (h1 : ¬ (20 : Int32) < x0) (h2 : ¬ x1 < 1) (h3 : ¬ (100 : Int32) < x1) (h4 : ¬ x2 < 50) (h5 : ¬ (2000 : Int32) < x2) (h6 : (((3 * x0) * x2).toInt64 &&& 1125899906842623) = 0) (h7 : ((3 * x0) * x2).toInt64 < 1125899906842624) : Met l yL_setGas [.codeWith yL_setGas cL_setGas 6 (some .int) [(0, 12, 15, 13)]] ({ frames := 3, cells := 0, slots := 0, locals := 70 }) (PC D cy g [(a0, .inr (14, [v0, v1, v2, .ref a1, v3, v4, .ref a3])), (a1, .inr (6, [v5, v6, v7, v8, v9, v10, .ref a2, v11, v12, v13, v14, v15, v16])), (a2, .inr (13, [.long 900, v17, .int 1])), (a3, .inr (11, [v18, v19, v20, v21, .long 900])), (a4, .inl (cy 2, 1, .inr (.inl f0)))] sz [.ref a0, .int x0, .int x1, .int x2, .ref a4]) (QI D 0 (fun ad => [(a4, .inl (cy 2, 1, .inr (.inl (vp_updL f0 (0 : Int32).toNatClampNeg 900))))]) (va_A [(a0, .inr (14, [v0, v1, v2, .ref a1, v3, v4, .ref a3])), (a1, .inr (6, [v5, v6, v7, v8, v9, v10, .ref a2, v11, v12, v13, v14, v15, v16])), (a2, .inr (13, [.long 900, v17, .int 1])), (a3, .inr (11, [v18, v19, v20, v21, .long 900])), (a4, .inl (cy 2, 1, .inr (.inl f0)))] sz)) 0 0 (va_A [(a0, .inr (14, [v0, v1, v2, .ref a1, v3, v4, .ref a3])), (a1, .inr (6, [v5, v6, v7, v8, v9, v10, .ref a2, v11, v12, v13, v14, v15, v16])), (a2, .inr (13, [.long 900, v17, .int 1])), (a3, .inr (11, [v18, v19, v20, v21, .long 900])), (a4, .inl (cy 2, 1, .inr (.inl f0)))] sz) := by
  refine sh_I (by decide) (Nat.le_of_ble_eq_true rfl) ?_
  intro p e s m args below meth c A ls hx hb hr hml hown hlk hnm hsz hP hD hA hE hts hS hl htb
  have hown : s.vm.findClass RL = some m.cls := hown
  have hl : lv_has ls 6 [(0, .ref a0), (1, .int x0), (2, .int x1), (3, .int x2), (4, .ref a4)] := hl
  refine lv_aload hx hb dL_setGas_0 (lv_at hl 4 rfl) ?_
  refine lv_iconst (v := 0) hx hb dL_setGas_2 (by decide) ?_
  refine lv_aload_n hx hb dL_setGas_3 rfl (lv_at hl 0 rfl) ?_
  refine lv_iload_n hx hb dL_setGas_4 rfl (lv_at hl 1 rfl) ?_
  refine lv_iload_n hx hb dL_setGas_5 rfl (lv_at hl 2 rfl) ?_
  refine lv_iload_n hx hb dL_setGas_6 rfl (lv_at hl 3 rfl) ?_
  refine ca_i (isC := [0, 1, 2, 3]) (isR := [4]) (wr := [(a4, .inl (cy 2, 1, .inr (.inl f0)))]) (rn_V (ci := 14) (q0 := 0) (isC := [0, 1, 2, 3]) (wc := [(a0, .inr (14, [v0, v1, v2, .ref a1, v3, v4, .ref a3])), (a1, .inr (6, [v5, v6, v7, v8, v9, v10, .ref a2, v11, v12, v13, v14, v15, v16])), (a2, .inr (13, [.long 900, v17, .int 1])), (a3, .inr (11, [v18, v19, v20, v21, .long 900]))]) (As := [.int x0, .int x1, .int x2]) (rest := [.int 0, .ref a4]) (n := 3) hx hb hml hown hts hE hS hP hD hA hl.1 (k374_X9_setGas l D cy g x0 x1 x2 a0 a1 a2 a3 (v0) (v1) (v2) (v3) (v4) (v5) (v6) (v7) (v8) (v9) (v10) (v11) (v12) (v13) (v14) (v15) (v16) (v17) (v18) (v19) (v20) (v21) s.heap.size h0 h1 h2 h3 h4 h5 h6 h7) rfl rfl rfl rfl rfl ax_268 rfl rfl ax_269 ⟨Nat.le_of_ble_eq_true rfl, Nat.le_of_ble_eq_true rfl⟩ rfl rfl (Nat.le_of_ble_eq_true rfl) dL_setGas_7 ⟨(Nat.le_of_ble_eq_true rfl), (Nat.le_of_ble_eq_true rfl)⟩) hP hD hS hA rfl rfl rfl (by decide) (fun ad7 H locs hP hD hS => ?_)
  have hP : va_P D vwCl [(a4, .inl (cy 2, 1, .inr (.inl f0))), (a0, .inr (14, [v0, v1, v2, .ref a1, v3, v4, .ref a3])), (a1, .inr (6, [v5, v6, v7, v8, .int x0, .int x1, .ref a2, v11, v12, v13, v14, v15, v16])), (a2, .inr (13, [.long (((3 * x0) * x2).toInt64 &&& 1125899906842623), v17, .int 0])), (a3, .inr (11, [v18, v19, v20, v21, .long (900 + ((((3 * x0) * x2).toInt64 &&& 1125899906842623) - 900))]))] H := hP
  have hD : va_D A [(a4, .inl (cy 2, 1, .inr (.inl f0))), (a0, .inr (14, [v0, v1, v2, .ref a1, v3, v4, .ref a3])), (a1, .inr (6, [v5, v6, v7, v8, .int x0, .int x1, .ref a2, v11, v12, v13, v14, v15, v16])), (a2, .inr (13, [.long (((3 * x0) * x2).toInt64 &&& 1125899906842623), v17, .int 0])), (a3, .inr (11, [v18, v19, v20, v21, .long (900 + ((((3 * x0) * x2).toInt64 &&& 1125899906842623) - 900))]))] := hD
  refine lv_i2l (v := 900) hx hb dL_setGas_10 (by decide) ?_
  refine va_last hx hb hE.1 hP hD hS 0 2 rfl rfl (by unfold vp_in; decide) dL_setGas_11 (fun H locs hP hD hS => ?_)
  have hP : va_P D vwCl [(a4, .inl (cy 2, 1, .inr (.inl (vp_updL f0 (0 : Int32).toNatClampNeg 900)))), (a0, .inr (14, [v0, v1, v2, .ref a1, v3, v4, .ref a3])), (a1, .inr (6, [v5, v6, v7, v8, .int x0, .int x1, .ref a2, v11, v12, v13, v14, v15, v16])), (a2, .inr (13, [.long (((3 * x0) * x2).toInt64 &&& 1125899906842623), v17, .int 0])), (a3, .inr (11, [v18, v19, v20, v21, .long (900 + ((((3 * x0) * x2).toInt64 &&& 1125899906842623) - 900))]))] H := hP
  have hD : va_D A [(a4, .inl (cy 2, 1, .inr (.inl (vp_updL f0 (0 : Int32).toNatClampNeg 900)))), (a0, .inr (14, [v0, v1, v2, .ref a1, v3, v4, .ref a3])), (a1, .inr (6, [v5, v6, v7, v8, .int x0, .int x1, .ref a2, v11, v12, v13, v14, v15, v16])), (a2, .inr (13, [.long (((3 * x0) * x2).toInt64 &&& 1125899906842623), v17, .int 0])), (a3, .inr (11, [v18, v19, v20, v21, .long (900 + ((((3 * x0) * x2).toInt64 &&& 1125899906842623) - 900))]))] := hD
  refine lv_goto (tgt := 19) hx hb dL_setGas_12 (by decide) ?_
  refine lv_iconst (v := 0) hx hb dL_setGas_19 (by decide) ?_
  exact en_z hx hb hr hlk hP hD hS rfl (fun _ => 0) (is := [0]) rfl rfl (Nat.le_of_ble_eq_true rfl) (Nat.le_of_ble_eq_true rfl) dL_setGas_20
set_option maxHeartbeats 4000000 in
set_option maxRecDepth 100000 in
theorem k376_X10_setGas (l : Launch) (D : va_G) (cy : Nat → ClassId) (g : Nat → Nat) (x0 : Int32) (x1 : Int32) (x2 : Int32) (a0 : Nat) (v0 : Value) (v1 : Value) (v2 : Value) (v3 : Value) (v4 : Value) (v5 : Value) (v6 : Value) (v7 : Value) (v8 : Value) (v9 : Value) (v10 : Value) (v11 : Value) (v12 : Value) (v13 : Value) (v14 : Value) (v15 : Value) (v16 : Value) (v17 : Value) (v18 : Value) (v19 : Value) (v20 : Value) (v21 : Value) (v22 : Value) (v23 : Value) (v24 : Value) (v25 : Value) (v26 : Value) (sz : Nat) (h0 : ¬ x0 < 1) (h1 : ¬ (20 : Int32) < x0) (h2 : ¬ x1 < 1) (h3 : ¬ (100 : Int32) < x1) (h4 : ¬ x2 < 50) (h5 : ¬ (2000 : Int32) < x2) : Met l yX10_setGas [.code yX10_setGas cX10_setGas 5 (some .int)] ({ frames := 1, cells := 0, slots := 0, locals := 25 }) (PC D cy g [(a0, .inr (15, [v0, v1, v2, v3, v4, v5, v6, v7, v8, v9, v10, .int 900, v11, v12, v13, v14, v15, v16, v17, v18, v19, v20, v21, v22, v23, v24, v25, v26]))] sz [.ref a0, .int x0, .int x1, .int x2]) (QI D 900 (fun ad => [(a0, .inr (15, [.int 0, v1, v2, v3, v4, v5, v6, v7, v8, .int x0, .int x1, .int ((3 * x0) * x2), v11, v12, v13, v14, v15, v16, v17, v18, v19, v20, v21, v22, v23, v24, v25, v26]))]) (va_A [(a0, .inr (15, [v0, v1, v2, v3, v4, v5, v6, v7, v8, v9, v10, .int 900, v11, v12, v13, v14, v15, v16, v17, v18, v19, v20, v21, v22, v23, v24, v25, v26]))] sz)) 0 0 (va_A [(a0, .inr (15, [v0, v1, v2, v3, v4, v5, v6, v7, v8, v9, v10, .int 900, v11, v12, v13, v14, v15, v16, v17, v18, v19, v20, v21, v22, v23, v24, v25, v26]))] sz) := by
  refine st_I (by decide) (Nat.le_of_ble_eq_true rfl) ?_
  intro p e s m args below meth c A ls hx hb hr hml hown hlk hnm hsz hP hD hA hE hts hS hl
  have hown : s.vm.findClass RX10 = some m.cls := hown
  have hl : lv_has ls 5 [(0, .ref a0), (1, .int x0), (2, .int x1), (3, .int x2)] := hl
  refine lv_aload_n hx hb dX10_setGas_0 rfl (lv_at hl 0 rfl) ?_
  refine ca_v (isC := [0]) (isR := []) (wr := []) (rn_V (ci := 15) (q0 := 0) (isC := [0]) (wc := [(a0, .inr (15, [v0, v1, v2, v3, v4, v5, v6, v7, v8, v9, v10, .int 900, v11, v12, v13, v14, v15, v16, v17, v18, v19, v20, v21, v22, v23, v24, v25, v26]))]) (As := []) (rest := []) (n := 0) hx hb hml hown hts hE hS hP hD hA hl.1 (k20_X10_begins l D cy g a0 (v0) (v1) (v2) (v3) (v4) (v5) (v6) (v7) (v8) (v9) (v10) (.int 900) (v11) (v12) (v13) (v14) (v15) (v16) (v17) (v18) (v19) (v20) (v21) (v22) (v23) (v24) (v25) (v26) s.heap.size ) rfl rfl rfl rfl rfl ax_37 rfl rfl ax_38 ⟨Nat.le_of_ble_eq_true rfl, Nat.le_of_ble_eq_true rfl⟩ rfl rfl (Nat.le_of_ble_eq_true rfl) dX10_setGas_1 ⟨(Nat.le_of_ble_eq_true rfl), (Nat.le_of_ble_eq_true rfl)⟩) hP hD hS hA rfl rfl rfl (by decide) (fun ad1 H locs hP hD hS => ?_)
  have hP : va_P D vwCl [(a0, .inr (15, [.int 0, v1, v2, v3, v4, v5, v6, v7, v8, v9, v10, .int 900, v11, v12, v13, v14, v15, v16, v17, v18, v19, v20, v21, v22, v23, v24, v25, v26]))] H := hP
  have hD : va_D A [(a0, .inr (15, [.int 0, v1, v2, v3, v4, v5, v6, v7, v8, v9, v10, .int 900, v11, v12, v13, v14, v15, v16, v17, v18, v19, v20, v21, v22, v23, v24, v25, v26]))] := hD
  refine lv_aload_n hx hb dX10_setGas_4 rfl (lv_at hl 0 rfl) ?_
  refine lv_iload_n hx hb dX10_setGas_5 rfl (lv_at hl 1 rfl) ?_
  refine lv_i2l (v := x0.toInt64) hx hb dX10_setGas_6 rfl ?_
  refine lv_lconst (v := 1) hx hb dX10_setGas_7 (by decide) ?_
  refine lv_ldc2 (v := 20) hx hb hown (hts _ tw_808) dX10_setGas_8 ?_
  refine ca_i (isC := []) (isR := [0]) (wr := [(a0, .inr (15, [.int 0, v1, v2, v3, v4, v5, v6, v7, v8, v9, v10, .int 900, v11, v12, v13, v14, v15, v16, v17, v18, v19, v20, v21, v22, v23, v24, v25, v26]))]) (rn_S (isC := []) (wc := []) (As := [.long x0.toInt64, .long 1, .long 20]) (rest := [.ref a0]) (n := 3) hx hb hml hown hts hE hS hP hD hA hl.1 (k33_X10_in l D cy g x0.toInt64 1 20 H.size (wl_nlt rfl (by decide) h0) (wl_nlt (by decide) rfl h1)) rfl rfl ax_39 rfl rfl ax_40 ⟨Nat.le_of_ble_eq_true rfl, Nat.le_of_ble_eq_true rfl⟩ rfl rfl (Nat.le_of_ble_eq_true rfl) dX10_setGas_11 ⟨(Nat.le_of_ble_eq_true rfl), (Nat.le_of_ble_eq_true rfl)⟩) hP hD hS hA rfl rfl rfl (by decide) (fun ad11 H locs hP hD hS => ?_)
  have hP : va_P D vwCl [(a0, .inr (15, [.int 0, v1, v2, v3, v4, v5, v6, v7, v8, v9, v10, .int 900, v11, v12, v13, v14, v15, v16, v17, v18, v19, v20, v21, v22, v23, v24, v25, v26]))] H := hP
  have hD : va_D A [(a0, .inr (15, [.int 0, v1, v2, v3, v4, v5, v6, v7, v8, v9, v10, .int 900, v11, v12, v13, v14, v15, v16, v17, v18, v19, v20, v21, v22, v23, v24, v25, v26]))] := hD
  refine lv_if_eq (tgt := 43) hx hb dX10_setGas_14 (by decide) (fun z => absurd z (by decide)) (fun _ => ?_)
  refine lv_iload_n hx hb dX10_setGas_17 rfl (lv_at hl 2 rfl) ?_
  refine lv_i2l (v := x1.toInt64) hx hb dX10_setGas_18 rfl ?_
  refine lv_lconst (v := 1) hx hb dX10_setGas_19 (by decide) ?_
  refine lv_ldc2 (v := 100) hx hb hown (hts _ tw_681) dX10_setGas_20 ?_
  refine ca_i (isC := []) (isR := [0]) (wr := [(a0, .inr (15, [.int 0, v1, v2, v3, v4, v5, v6, v7, v8, v9, v10, .int 900, v11, v12, v13, v14, v15, v16, v17, v18, v19, v20, v21, v22, v23, v24, v25, v26]))]) (rn_S (isC := []) (wc := []) (As := [.long x1.toInt64, .long 1, .long 100]) (rest := [.ref a0]) (n := 3) hx hb hml hown hts hE hS hP hD hA hl.1 (k33_X10_in l D cy g x1.toInt64 1 100 H.size (wl_nlt rfl (by decide) h2) (wl_nlt (by decide) rfl h3)) rfl rfl ax_39 rfl rfl ax_40 ⟨Nat.le_of_ble_eq_true rfl, Nat.le_of_ble_eq_true rfl⟩ rfl rfl (Nat.le_of_ble_eq_true rfl) dX10_setGas_23 ⟨(Nat.le_of_ble_eq_true rfl), (Nat.le_of_ble_eq_true rfl)⟩) hP hD hS hA rfl rfl rfl (by decide) (fun ad23 H locs hP hD hS => ?_)
  have hP : va_P D vwCl [(a0, .inr (15, [.int 0, v1, v2, v3, v4, v5, v6, v7, v8, v9, v10, .int 900, v11, v12, v13, v14, v15, v16, v17, v18, v19, v20, v21, v22, v23, v24, v25, v26]))] H := hP
  have hD : va_D A [(a0, .inr (15, [.int 0, v1, v2, v3, v4, v5, v6, v7, v8, v9, v10, .int 900, v11, v12, v13, v14, v15, v16, v17, v18, v19, v20, v21, v22, v23, v24, v25, v26]))] := hD
  refine lv_if_eq (tgt := 43) hx hb dX10_setGas_26 (by decide) (fun z => absurd z (by decide)) (fun _ => ?_)
  refine lv_iload_n hx hb dX10_setGas_29 rfl (lv_at hl 3 rfl) ?_
  refine lv_i2l (v := x2.toInt64) hx hb dX10_setGas_30 rfl ?_
  refine lv_ldc2 (v := 50) hx hb hown (hts _ tw_314) dX10_setGas_31 ?_
  refine lv_ldc2 (v := 2000) hx hb hown (hts _ tw_315) dX10_setGas_34 ?_
  refine ca_i (isC := []) (isR := [0]) (wr := [(a0, .inr (15, [.int 0, v1, v2, v3, v4, v5, v6, v7, v8, v9, v10, .int 900, v11, v12, v13, v14, v15, v16, v17, v18, v19, v20, v21, v22, v23, v24, v25, v26]))]) (rn_S (isC := []) (wc := []) (As := [.long x2.toInt64, .long 50, .long 2000]) (rest := [.ref a0]) (n := 3) hx hb hml hown hts hE hS hP hD hA hl.1 (k33_X10_in l D cy g x2.toInt64 50 2000 H.size (wl_nlt rfl (by decide) h4) (wl_nlt (by decide) rfl h5)) rfl rfl ax_39 rfl rfl ax_40 ⟨Nat.le_of_ble_eq_true rfl, Nat.le_of_ble_eq_true rfl⟩ rfl rfl (Nat.le_of_ble_eq_true rfl) dX10_setGas_37 ⟨(Nat.le_of_ble_eq_true rfl), (Nat.le_of_ble_eq_true rfl)⟩) hP hD hS hA rfl rfl rfl (by decide) (fun ad37 H locs hP hD hS => ?_)
  have hP : va_P D vwCl [(a0, .inr (15, [.int 0, v1, v2, v3, v4, v5, v6, v7, v8, v9, v10, .int 900, v11, v12, v13, v14, v15, v16, v17, v18, v19, v20, v21, v22, v23, v24, v25, v26]))] H := hP
  have hD : va_D A [(a0, .inr (15, [.int 0, v1, v2, v3, v4, v5, v6, v7, v8, v9, v10, .int 900, v11, v12, v13, v14, v15, v16, v17, v18, v19, v20, v21, v22, v23, v24, v25, v26]))] := hD
  refine lv_if_ne (tgt := 47) hx hb dX10_setGas_40 (by decide) (fun _ => ?_) (fun z => absurd z (by decide))
  refine lv_iconst (v := 0) hx hb dX10_setGas_47 (by decide) ?_
  refine lv_iconst (v := 1) hx hb dX10_setGas_48 (by decide) ?_
  refine ca_i (isC := [0]) (isR := []) (wr := []) (rn_V (ci := 15) (q0 := 0) (isC := [0]) (wc := [(a0, .inr (15, [.int 0, v1, v2, v3, v4, v5, v6, v7, v8, v9, v10, .int 900, v11, v12, v13, v14, v15, v16, v17, v18, v19, v20, v21, v22, v23, v24, v25, v26]))]) (As := [.int 0, .int 1]) (rest := []) (n := 2) hx hb hml hown hts hE hS hP hD hA hl.1 (k43_X10_fails l D cy g a0 (v1) (v2) (v3) (v4) (v5) (v6) (v7) (v8) (v9) (v10) (.int 900) (v11) (v12) (v13) (v14) (v15) (v16) (v17) (v18) (v19) (v20) (v21) (v22) (v23) (v24) (v25) (v26) H.size ) rfl rfl rfl rfl rfl ax_41 rfl rfl ax_42 ⟨Nat.le_of_ble_eq_true rfl, Nat.le_of_ble_eq_true rfl⟩ rfl rfl (Nat.le_of_ble_eq_true rfl) dX10_setGas_49 ⟨(Nat.le_of_ble_eq_true rfl), (Nat.le_of_ble_eq_true rfl)⟩) hP hD hS hA rfl rfl rfl (by decide) (fun ad49 H locs hP hD hS => ?_)
  have hP : va_P D vwCl [(a0, .inr (15, [.int 0, v1, v2, v3, v4, v5, v6, v7, v8, v9, v10, .int 900, v11, v12, v13, v14, v15, v16, v17, v18, v19, v20, v21, v22, v23, v24, v25, v26]))] H := hP
  have hD : va_D A [(a0, .inr (15, [.int 0, v1, v2, v3, v4, v5, v6, v7, v8, v9, v10, .int 900, v11, v12, v13, v14, v15, v16, v17, v18, v19, v20, v21, v22, v23, v24, v25, v26]))] := hD
  refine lv_if_eq (tgt := 57) hx hb dX10_setGas_52 (by decide) (fun _ => ?_) (fun z => absurd (by decide) z)
  refine lv_aload_n hx hb dX10_setGas_57 rfl (lv_at hl 0 rfl) ?_
  refine va_get (D := D) (ci := 15) (v := .int 900) (C := RX10) (T := TX10) (N := 28) hx hb hts ax_29 hown hE.1 hP 0 rfl rfl 11 (by decide) (hts _ tw_282) (fun _ h9 => h9) rfl dX10_setGas_58 ?_
  refine lv_istore (lv' := [(4, .int 900), (0, .ref a0), (1, .int x0), (2, .int x1), (3, .int x2)]) hx hb dX10_setGas_61 hl (Nat.le_of_ble_eq_true rfl) rfl (fun ls hl => ?_)
  refine lv_aload_n hx hb dX10_setGas_63 rfl (lv_at hl 1 rfl) ?_
  refine lv_iload_n hx hb dX10_setGas_64 rfl (lv_at hl 2 rfl) ?_
  refine va_put (D := D) (ci := 15) (v := .int x0) (ty := .int) (C := RX10) (T := TX10) (N := 28) hx hb hts ax_29 tyX10 tyX10_ok nmX10 hown hE.1 hP hD hS 0 rfl rfl 9 (by decide) (hts _ tw_280) (fun _ h9 => h9) rfl (by decide +kernel) rfl rfl (Nat.le_of_ble_eq_true rfl) dX10_setGas_65 (fun H locs hP hD hS => ?_)
  have hP : va_P D vwCl [(a0, .inr (15, [.int 0, v1, v2, v3, v4, v5, v6, v7, v8, .int x0, v10, .int 900, v11, v12, v13, v14, v15, v16, v17, v18, v19, v20, v21, v22, v23, v24, v25, v26]))] H := hP
  have hD : va_D A [(a0, .inr (15, [.int 0, v1, v2, v3, v4, v5, v6, v7, v8, .int x0, v10, .int 900, v11, v12, v13, v14, v15, v16, v17, v18, v19, v20, v21, v22, v23, v24, v25, v26]))] := hD
  refine lv_aload_n hx hb dX10_setGas_68 rfl (lv_at hl 1 rfl) ?_
  refine lv_iload_n hx hb dX10_setGas_69 rfl (lv_at hl 3 rfl) ?_
  refine va_put (D := D) (ci := 15) (v := .int x1) (ty := .int) (C := RX10) (T := TX10) (N := 28) hx hb hts ax_29 tyX10 tyX10_ok nmX10 hown hE.1 hP hD hS 0 rfl rfl 10 (by decide) (hts _ tw_281) (fun _ h9 => h9) rfl (by decide +kernel) rfl rfl (Nat.le_of_ble_eq_true rfl) dX10_setGas_70 (fun H locs hP hD hS => ?_)
  have hP : va_P D vwCl [(a0, .inr (15, [.int 0, v1, v2, v3, v4, v5, v6, v7, v8, .int x0, .int x1, .int 900, v11, v12, v13, v14, v15, v16, v17, v18, v19, v20, v21, v22, v23, v24, v25, v26]))] H := hP
  have hD : va_D A [(a0, .inr (15, [.int 0, v1, v2, v3, v4, v5, v6, v7, v8, .int x0, .int x1, .int 900, v11, v12, v13, v14, v15, v16, v17, v18, v19, v20, v21, v22, v23, v24, v25, v26]))] := hD
  refine lv_aload_n hx hb dX10_setGas_73 rfl (lv_at hl 1 rfl) ?_
  refine lv_iconst (v := 3) hx hb dX10_setGas_74 (by decide) ?_
  refine lv_iload_n hx hb dX10_setGas_75 rfl (lv_at hl 2 rfl) ?_
  refine lv_imul hx hb dX10_setGas_76 ?_
  refine lv_iload_n hx hb dX10_setGas_77 rfl (lv_at hl 4 rfl) ?_
  refine lv_imul hx hb dX10_setGas_78 ?_
  refine va_put (D := D) (ci := 15) (v := .int ((3 * x0) * x2)) (ty := .int) (C := RX10) (T := TX10) (N := 28) hx hb hts ax_29 tyX10 tyX10_ok nmX10 hown hE.1 hP hD hS 0 rfl rfl 11 (by decide) (hts _ tw_282) (fun _ h9 => h9) rfl (by decide +kernel) rfl rfl (Nat.le_of_ble_eq_true rfl) dX10_setGas_79 (fun H locs hP hD hS => ?_)
  have hP : va_P D vwCl [(a0, .inr (15, [.int 0, v1, v2, v3, v4, v5, v6, v7, v8, .int x0, .int x1, .int ((3 * x0) * x2), v11, v12, v13, v14, v15, v16, v17, v18, v19, v20, v21, v22, v23, v24, v25, v26]))] H := hP
  have hD : va_D A [(a0, .inr (15, [.int 0, v1, v2, v3, v4, v5, v6, v7, v8, .int x0, .int x1, .int ((3 * x0) * x2), v11, v12, v13, v14, v15, v16, v17, v18, v19, v20, v21, v22, v23, v24, v25, v26]))] := hD
  refine lv_iload hx hb dX10_setGas_82 (lv_at hl 0 rfl) ?_
  exact en_z hx hb hr hlk hP hD hS rfl (fun _ => 0) (is := [0]) rfl rfl (Nat.le_of_ble_eq_true rfl) (Nat.le_of_ble_eq_true rfl) dX10_setGas_84
set_option maxHeartbeats 4000000 in
set_option maxRecDepth 100000 in
theorem k377_X1_fill (l : Launch) (D : va_G) (cy : Nat → ClassId) (g : Nat → Nat) (x0 : Int32) (x1 : Int32) (x2 : Int32) (a0 : Nat) (a1 : Nat) (a2 : Nat) (v0 : Value) (v1 : Value) (v2 : Value) (v3 : Value) (v4 : Value) (v5 : Value) (v6 : Value) (v7 : Value) (v8 : Value) (v9 : Value) (v10 : Value) (v11 : Value) (v12 : Value) (v13 : Value) (f0 : Nat → Int64) (sz : Nat) (h0 : (((3 * x0) * x2).toInt64 &&& 1125899906842623) = 0) (h1 : ¬ ((3 * x0) * x2).toInt64 < 1125899906842624) : Met l yX1_fill [.code yX1_fill cX1_fill 4 none] ({ frames := 2, cells := 0, slots := 0, locals := 45 }) (PC D cy g [(a0, .inr (6, [v0, v1, v2, v3, v4, v5, .ref a1, v6, v7, v8, v9, v10, v11])), (a1, .inr (13, [v12, .ref a2, v13])), (a2, .inl (cy 2, 1, .inr (.inl f0)))] sz [.ref a0, .int x0, .int x1, .int x2]) (QV D (fun ad => [(a0, .inr (6, [v0, v1, v2, v3, .int x0, .int x1, .ref a1, v6, v7, v8, v9, v10, v11])), (a1, .inr (13, [.long (((3 * x0) * x2).toInt64 &&& 1125899906842623), .ref a2, .int 2])), (a2, .inl (cy 2, 1, .inr (.inl (vp_updL f0 (0 : Int32).toNatClampNeg (((3 * x0) * x2).toInt64 >>> ((50 : Int32).toInt64 &&& 63))))))]) (va_A [(a0, .inr (6, [v0, v1, v2, v3, v4, v5, .ref a1, v6, v7, v8, v9, v10, v11])), (a1, .inr (13, [v12, .ref a2, v13])), (a2, .inl (cy 2, 1, .inr (.inl f0)))] sz)) 0 0 (va_A [(a0, .inr (6, [v0, v1, v2, v3, v4, v5, .ref a1, v6, v7, v8, v9, v10, v11])), (a1, .inr (13, [v12, .ref a2, v13])), (a2, .inl (cy 2, 1, .inr (.inl f0)))] sz) := by
  refine st_V (by decide) (Nat.le_of_ble_eq_true rfl) ?_
  intro p e s m args below meth c A ls hx hb hr hml hown hlk hnm hsz hP hD hA hE hts hS hl
  have hown : s.vm.findClass RX1 = some m.cls := hown
  have hl : lv_has ls 4 [(0, .ref a0), (1, .int x0), (2, .int x1), (3, .int x2)] := hl
  refine lv_aload_n hx hb dX1_fill_0 rfl (lv_at hl 0 rfl) ?_
  refine lv_iload_n hx hb dX1_fill_1 rfl (lv_at hl 1 rfl) ?_
  refine va_put (D := D) (ci := 6) (v := .int x0) (ty := .int) (C := RX1) (T := TX1) (N := 13) hx hb hts ax_7 tyX1 tyX1_ok nmX1 hown hE.1 hP hD hS 0 rfl rfl 4 (by decide) (hts _ tw_99) (fun _ h9 => h9) rfl (by decide +kernel) rfl rfl (Nat.le_of_ble_eq_true rfl) dX1_fill_2 (fun H locs hP hD hS => ?_)
  have hP : va_P D vwCl [(a0, .inr (6, [v0, v1, v2, v3, .int x0, v5, .ref a1, v6, v7, v8, v9, v10, v11])), (a1, .inr (13, [v12, .ref a2, v13])), (a2, .inl (cy 2, 1, .inr (.inl f0)))] H := hP
  have hD : va_D A [(a0, .inr (6, [v0, v1, v2, v3, .int x0, v5, .ref a1, v6, v7, v8, v9, v10, v11])), (a1, .inr (13, [v12, .ref a2, v13])), (a2, .inl (cy 2, 1, .inr (.inl f0)))] := hD
  refine lv_aload_n hx hb dX1_fill_5 rfl (lv_at hl 0 rfl) ?_
  refine lv_iload_n hx hb dX1_fill_6 rfl (lv_at hl 2 rfl) ?_
  refine va_put (D := D) (ci := 6) (v := .int x1) (ty := .int) (C := RX1) (T := TX1) (N := 13) hx hb hts ax_7 tyX1 tyX1_ok nmX1 hown hE.1 hP hD hS 0 rfl rfl 5 (by decide) (hts _ tw_100) (fun _ h9 => h9) rfl (by decide +kernel) rfl rfl (Nat.le_of_ble_eq_true rfl) dX1_fill_7 (fun H locs hP hD hS => ?_)
  have hP : va_P D vwCl [(a0, .inr (6, [v0, v1, v2, v3, .int x0, .int x1, .ref a1, v6, v7, v8, v9, v10, v11])), (a1, .inr (13, [v12, .ref a2, v13])), (a2, .inl (cy 2, 1, .inr (.inl f0)))] H := hP
  have hD : va_D A [(a0, .inr (6, [v0, v1, v2, v3, .int x0, .int x1, .ref a1, v6, v7, v8, v9, v10, v11])), (a1, .inr (13, [v12, .ref a2, v13])), (a2, .inl (cy 2, 1, .inr (.inl f0)))] := hD
  refine lv_aload_n hx hb dX1_fill_10 rfl (lv_at hl 0 rfl) ?_
  refine va_get (D := D) (ci := 6) (v := .ref a1) (C := RX1) (T := TX1) (N := 13) hx hb hts ax_7 hown hE.1 hP 0 rfl rfl 6 (by decide) (hts _ tw_101) (fun _ h9 => h9) rfl dX1_fill_11 ?_
  refine lv_iconst (v := 3) hx hb dX1_fill_14 (by decide) ?_
  refine lv_iload_n hx hb dX1_fill_15 rfl (lv_at hl 1 rfl) ?_
  refine lv_imul hx hb dX1_fill_16 ?_
  refine lv_iload_n hx hb dX1_fill_17 rfl (lv_at hl 3 rfl) ?_
  refine lv_imul hx hb dX1_fill_18 ?_
  refine lv_i2l (v := ((3 * x0) * x2).toInt64) hx hb dX1_fill_19 rfl ?_
  refine ca_v (isC := [1, 2]) (isR := [0]) (wr := [(a0, .inr (6, [v0, v1, v2, v3, .int x0, .int x1, .ref a1, v6, v7, v8, v9, v10, v11]))]) (rn_V (ci := 13) (q0 := 1) (isC := [1, 2]) (wc := [(a1, .inr (13, [v12, .ref a2, v13])), (a2, .inl (cy 2, 1, .inr (.inl f0)))]) (As := [.long (((3 * x0) * x2).toInt64)]) (rest := []) (n := 1) hx hb hml hown hts hE hS hP hD hA hl.1 (k54_X8_set l D cy g (((3 * x0) * x2).toInt64) a1 a2 (v12) (v13) f0 H.size h0 h1) rfl rfl rfl rfl rfl ax_8 rfl rfl ax_9 ⟨Nat.le_of_ble_eq_true rfl, Nat.le_of_ble_eq_true rfl⟩ rfl rfl (Nat.le_of_ble_eq_true rfl) dX1_fill_20 ⟨(Nat.le_of_ble_eq_true rfl), (Nat.le_of_ble_eq_true rfl)⟩) hP hD hS hA rfl rfl rfl (by decide) (fun ad20 H locs hP hD hS => ?_)
  have hP : va_P D vwCl [(a0, .inr (6, [v0, v1, v2, v3, .int x0, .int x1, .ref a1, v6, v7, v8, v9, v10, v11])), (a1, .inr (13, [.long (((3 * x0) * x2).toInt64 &&& 1125899906842623), .ref a2, .int 2])), (a2, .inl (cy 2, 1, .inr (.inl (vp_updL f0 (0 : Int32).toNatClampNeg (((3 * x0) * x2).toInt64 >>> ((50 : Int32).toInt64 &&& 63))))))] H := hP
  have hD : va_D A [(a0, .inr (6, [v0, v1, v2, v3, .int x0, .int x1, .ref a1, v6, v7, v8, v9, v10, v11])), (a1, .inr (13, [.long (((3 * x0) * x2).toInt64 &&& 1125899906842623), .ref a2, .int 2])), (a2, .inl (cy 2, 1, .inr (.inl (vp_updL f0 (0 : Int32).toNatClampNeg (((3 * x0) * x2).toInt64 >>> ((50 : Int32).toInt64 &&& 63))))))] := hD
  exact en_v hx hb hr hlk hP hD hS (fun _ => 0) (is := [0, 1, 2]) rfl rfl (Nat.le_of_ble_eq_true rfl) (Nat.le_of_ble_eq_true rfl) dX1_fill_23
set_option maxHeartbeats 4000000 in
set_option maxRecDepth 100000 in
theorem k378_X8_digitAt (l : Launch) (D : va_G) (cy : Nat → ClassId) (g : Nat → Nat) (a0 : Nat) (a1 : Nat) (v0 : Value) (x0 : Int64) (sz : Nat)  : Met l yX8_digitAt [.code yX8_digitAt cX8_digitAt 2 (some .long)] ({ frames := 0, cells := 0, slots := 0, locals := 0 }) (PC D cy g [(a0, .inr (13, [v0, .ref a1, .int 2])), (a1, .inl (cy 2, 1, .inr (.inl (vp_updL (fun _ => 0) (0 : Int32).toNatClampNeg x0))))] sz [.ref a0, .int 1]) (QL D x0 (fun ad => [(a0, .inr (13, [v0, .ref a1, .int 2])), (a1, .inl (cy 2, 1, .inr (.inl (vp_updL (fun _ => 0) (0 : Int32).toNatClampNeg x0))))]) (va_A [(a0, .inr (13, [v0, .ref a1, .int 2])), (a1, .inl (cy 2, 1, .inr (.inl (vp_updL (fun _ => 0) (0 : Int32).toNatClampNeg x0))))] sz)) 0 0 (va_A [(a0, .inr (13, [v0, .ref a1, .int 2])), (a1, .inl (cy 2, 1, .inr (.inl (vp_updL (fun _ => 0) (0 : Int32).toNatClampNeg x0))))] sz) := by
  refine st_L (by decide) (Nat.le_of_ble_eq_true rfl) ?_
  intro p e s m args below meth c A ls hx hb hr hml hown hlk hnm hsz hP hD hA hE hts hS hl
  have hown : s.vm.findClass RX8 = some m.cls := hown
  have hl : lv_has ls 2 [(0, .ref a0), (1, .int 1)] := hl
  refine lv_iload_n hx hb dX8_digitAt_0 rfl (lv_at hl 1 rfl) ?_
  refine lv_if_le (tgt := 21) hx hb dX8_digitAt_1 (by decide) (fun z => absurd z (by decide)) (fun _ => ?_)
  refine lv_iload_n hx hb dX8_digitAt_4 rfl (lv_at hl 1 rfl) ?_
  refine lv_aload_n hx hb dX8_digitAt_5 rfl (lv_at hl 0 rfl) ?_
  refine va_get (D := D) (ci := 13) (v := .int 2) (C := RX8) (T := TX8) (N := 3) hx hb hts ax_0 hown hE.1 hP 0 rfl rfl 2 (by decide) (hts _ tw_9) (fun _ h9 => h9) rfl dX8_digitAt_6 ?_
  refine lv_icmp_ge (tgt := 21) hx hb dX8_digitAt_9 (by decide) (fun z => absurd z (by decide)) (fun _ => ?_)
  refine lv_iload_n hx hb dX8_digitAt_12 rfl (lv_at hl 1 rfl) ?_
  refine lv_aload_n hx hb dX8_digitAt_13 rfl (lv_at hl 0 rfl) ?_
  refine va_get (D := D) (ci := 13) (v := .ref a1) (C := RX8) (T := TX8) (N := 3) hx hb hts ax_0 hown hE.1 hP 0 rfl rfl 1 (by decide) (hts _ tw_8) (fun _ h9 => h9) rfl dX8_digitAt_14 ?_
  refine va_alen (v := 1) hx hb hE.1 hP 1 2 rfl rfl rfl dX8_digitAt_17 ?_
  refine lv_icmp_le (tgt := 34) hx hb dX8_digitAt_18 (by decide) (fun _ => ?_) (fun z => absurd (by decide) z)
  refine lv_aload_n hx hb dX8_digitAt_34 rfl (lv_at hl 0 rfl) ?_
  refine va_get (D := D) (ci := 13) (v := .ref a1) (C := RX8) (T := TX8) (N := 3) hx hb hts ax_0 hown hE.1 hP 0 rfl rfl 1 (by decide) (hts _ tw_8) (fun _ h9 => h9) rfl dX8_digitAt_35 ?_
  refine lv_iload_n hx hb dX8_digitAt_38 rfl (lv_at hl 1 rfl) ?_
  refine lv_iconst (v := 1) hx hb dX8_digitAt_39 (by decide) ?_
  refine lv_isub hx hb dX8_digitAt_40 ?_
  refine tp_i 0 (by decide) ?_
  refine va_lald hx hb hE.1 hP 1 2 rfl rfl (by unfold vp_in; decide) dX8_digitAt_41 ?_
  refine tp_l x0 rfl ?_
  exact en_l hx hb hr hlk hP hD hS (fun _ => 0) (is := [0, 1]) rfl rfl (Nat.le_of_ble_eq_true rfl) (Nat.le_of_ble_eq_true rfl) dX8_digitAt_42
set_option maxHeartbeats 4000000 in
set_option maxRecDepth 100000 in
theorem k379_X8_low (l : Launch) (D : va_G) (cy : Nat → ClassId) (g : Nat → Nat) (a0 : Nat) (a1 : Nat) (x0 : Int64) (x1 : Int64) (sz : Nat)  : Met l yX8_low [.code yX8_low cX8_low 1 (some .long)] ({ frames := 1, cells := 0, slots := 0, locals := 21 }) (PC D cy g [(a0, .inr (13, [.long x0, .ref a1, .int 2])), (a1, .inl (cy 2, 1, .inr (.inl (vp_updL (fun _ => 0) (0 : Int32).toNatClampNeg x1))))] sz [.ref a0]) (QL D (x0 + (x1 <<< ((50 : Int32).toInt64 &&& 63))) (fun ad => [(a0, .inr (13, [.long x0, .ref a1, .int 2])), (a1, .inl (cy 2, 1, .inr (.inl (vp_updL (fun _ => 0) (0 : Int32).toNatClampNeg x1))))]) (va_A [(a0, .inr (13, [.long x0, .ref a1, .int 2])), (a1, .inl (cy 2, 1, .inr (.inl (vp_updL (fun _ => 0) (0 : Int32).toNatClampNeg x1))))] sz)) 0 0 (va_A [(a0, .inr (13, [.long x0, .ref a1, .int 2])), (a1, .inl (cy 2, 1, .inr (.inl (vp_updL (fun _ => 0) (0 : Int32).toNatClampNeg x1))))] sz) := by
  refine st_L (by decide) (Nat.le_of_ble_eq_true rfl) ?_
  intro p e s m args below meth c A ls hx hb hr hml hown hlk hnm hsz hP hD hA hE hts hS hl
  have hown : s.vm.findClass RX8 = some m.cls := hown
  have hl : lv_has ls 1 [(0, .ref a0)] := hl
  refine lv_aload_n hx hb dX8_low_0 rfl (lv_at hl 0 rfl) ?_
  refine va_get (D := D) (ci := 13) (v := .int 2) (C := RX8) (T := TX8) (N := 3) hx hb hts ax_0 hown hE.1 hP 0 rfl rfl 2 (by decide) (hts _ tw_9) (fun _ h9 => h9) rfl dX8_low_1 ?_
  refine lv_iconst (v := 1) hx hb dX8_low_4 (by decide) ?_
  refine lv_icmp_le (tgt := 24) hx hb dX8_low_5 (by decide) (fun z => absurd z (by decide)) (fun _ => ?_)
  refine lv_aload_n hx hb dX8_low_8 rfl (lv_at hl 0 rfl) ?_
  refine va_get (D := D) (ci := 13) (v := .long x0) (C := RX8) (T := TX8) (N := 3) hx hb hts ax_0 hown hE.1 hP 0 rfl rfl 0 (by decide) (hts _ tw_6) (fun _ h9 => h9) rfl dX8_low_9 ?_
  refine lv_aload_n hx hb dX8_low_12 rfl (lv_at hl 0 rfl) ?_
  refine lv_iconst (v := 1) hx hb dX8_low_13 (by decide) ?_
  refine ca_l (isC := [0, 1]) (isR := []) (wr := []) (rn_V (ci := 13) (q0 := 0) (isC := [0, 1]) (wc := [(a0, .inr (13, [.long x0, .ref a1, .int 2])), (a1, .inl (cy 2, 1, .inr (.inl (vp_updL (fun _ => 0) (0 : Int32).toNatClampNeg x1))))]) (As := [.int 1]) (rest := [.long x0]) (n := 1) hx hb hml hown hts hE hS hP hD hA hl.1 (k378_X8_digitAt l D cy g a0 a1 (.long x0) x1 s.heap.size ) rfl rfl rfl rfl rfl ax_275 rfl rfl ax_276 ⟨Nat.le_of_ble_eq_true rfl, Nat.le_of_ble_eq_true rfl⟩ rfl rfl (Nat.le_of_ble_eq_true rfl) dX8_low_14 ⟨(Nat.le_of_ble_eq_true rfl), (Nat.le_of_ble_eq_true rfl)⟩) hP hD hS hA rfl rfl rfl (by decide) (fun ad14 H locs hP hD hS => ?_)
  have hP : va_P D vwCl [(a0, .inr (13, [.long x0, .ref a1, .int 2])), (a1, .inl (cy 2, 1, .inr (.inl (vp_updL (fun _ => 0) (0 : Int32).toNatClampNeg x1))))] H := hP
  have hD : va_D A [(a0, .inr (13, [.long x0, .ref a1, .int 2])), (a1, .inl (cy 2, 1, .inr (.inl (vp_updL (fun _ => 0) (0 : Int32).toNatClampNeg x1))))] := hD
  refine lv_bipush (v := 50) hx hb dX8_low_17 (by decide) ?_
  refine lv_lshl (v := (x1 <<< ((50 : Int32).toInt64 &&& 63))) hx hb dX8_low_19 rfl ?_
  refine lv_ladd hx hb dX8_low_20 ?_
  refine lv_goto (tgt := 28) hx hb dX8_low_21 (by decide) ?_
  exact en_l hx hb hr hlk hP hD hS (fun _ => 0) (is := [0, 1]) rfl rfl (Nat.le_of_ble_eq_true rfl) (Nat.le_of_ble_eq_true rfl) dX8_low_28
set_option maxHeartbeats 4000000 in
set_option maxRecDepth 100000 in
theorem k380_X9_setGas (l : Launch) (D : va_G) (cy : Nat → ClassId) (g : Nat → Nat) (x0 : Int32) (x1 : Int32) (x2 : Int32) (a0 : Nat) (a1 : Nat) (a2 : Nat) (a3 : Nat) (a4 : Nat) (v0 : Value) (v1 : Value) (v2 : Value) (v3 : Value) (v4 : Value) (v5 : Value) (v6 : Value) (v7 : Value) (v8 : Value) (v9 : Value) (v10 : Value) (v11 : Value) (v12 : Value) (v13 : Value) (v14 : Value) (v15 : Value) (v16 : Value) (v17 : Value) (v18 : Value) (v19 : Value) (v20 : Value) (sz : Nat) (h0 : ¬ x0 < 1) (h1 : ¬ (20 : Int32) < x0) (h2 : ¬ x1 < 1) (h3 : ¬ (100 : Int32) < x1) (h4 : ¬ x2 < 50) (h5 : ¬ (2000 : Int32) < x2) (h6 : (((3 * x0) * x2).toInt64 &&& 1125899906842623) = 0) (h7 : ¬ ((3 * x0) * x2).toInt64 < 1125899906842624) : Met l yX9_setGas [.code yX9_setGas cX9_setGas 6 (some .int)] ({ frames := 3, cells := 0, slots := 0, locals := 68 }) (PC D cy g [(a0, .inr (14, [v0, v1, v2, .ref a1, v3, v4, .ref a4])), (a1, .inr (6, [v5, v6, v7, v8, v9, v10, .ref a2, v11, v12, v13, v14, v15, v16])), (a2, .inr (13, [.long 900, .ref a3, .int 1])), (a3, .inl (cy 2, 1, .inr (.inl (fun _ => 0)))), (a4, .inr (11, [v17, v18, v19, v20, .long 900]))] sz [.ref a0, .int x0, .int x1, .int x2]) (QI D 900 (fun ad => [(a0, .inr (14, [v0, v1, v2, .ref a1, v3, v4, .ref a4])), (a1, .inr (6, [v5, v6, v7, v8, .int x0, .int x1, .ref a2, v11, v12, v13, v14, v15, v16])), (a2, .inr (13, [.long (((3 * x0) * x2).toInt64 &&& 1125899906842623), .ref a3, .int 2])), (a3, .inl (cy 2, 1, .inr (.inl (vp_updL (fun _ => 0) (0 : Int32).toNatClampNeg (((3 * x0) * x2).toInt64 >>> ((50 : Int32).toInt64 &&& 63)))))), (a4, .inr (11, [v17, v18, v19, v20, .long (900 + (((((3 * x0) * x2).toInt64 &&& 1125899906842623) + ((((3 * x0) * x2).toInt64 >>> ((50 : Int32).toInt64 &&& 63)) <<< ((50 : Int32).toInt64 &&& 63))) - 900))]))]) (va_A [(a0, .inr (14, [v0, v1, v2, .ref a1, v3, v4, .ref a4])), (a1, .inr (6, [v5, v6, v7, v8, v9, v10, .ref a2, v11, v12, v13, v14, v15, v16])), (a2, .inr (13, [.long 900, .ref a3, .int 1])), (a3, .inl (cy 2, 1, .inr (.inl (fun _ => 0)))), (a4, .inr (11, [v17, v18, v19, v20, .long 900]))] sz)) 0 0 (va_A [(a0, .inr (14, [v0, v1, v2, .ref a1, v3, v4, .ref a4])), (a1, .inr (6, [v5, v6, v7, v8, v9, v10, .ref a2, v11, v12, v13, v14, v15, v16])), (a2, .inr (13, [.long 900, .ref a3, .int 1])), (a3, .inl (cy 2, 1, .inr (.inl (fun _ => 0)))), (a4, .inr (11, [v17, v18, v19, v20, .long 900]))] sz) := by
  refine st_I (by decide) (Nat.le_of_ble_eq_true rfl) ?_
  intro p e s m args below meth c A ls hx hb hr hml hown hlk hnm hsz hP hD hA hE hts hS hl
  have hown : s.vm.findClass RX9 = some m.cls := hown
  have hl : lv_has ls 6 [(0, .ref a0), (1, .int x0), (2, .int x1), (3, .int x2)] := hl
  refine lv_iload_n hx hb dX9_setGas_0 rfl (lv_at hl 1 rfl) ?_
  refine lv_iconst (v := 1) hx hb dX9_setGas_1 (by decide) ?_
  refine lv_bipush (v := 20) hx hb dX9_setGas_2 (by decide) ?_
  refine ca_i (isC := []) (isR := [0, 1, 2, 3, 4]) (wr := [(a0, .inr (14, [v0, v1, v2, .ref a1, v3, v4, .ref a4])), (a1, .inr (6, [v5, v6, v7, v8, v9, v10, .ref a2, v11, v12, v13, v14, v15, v16])), (a2, .inr (13, [.long 900, .ref a3, .int 1])), (a3, .inl (cy 2, 1, .inr (.inl (fun _ => 0)))), (a4, .inr (11, [v17, v18, v19, v20, .long 900]))]) (rn_S (isC := []) (wc := []) (As := [.int x0, .int 1, .int 20]) (rest := []) (n := 3) hx hb hml hown hts hE hS hP hD hA hl.1 (k30_X9_isOutside l D cy g x0 1 20 s.heap.size h0 h1) rfl rfl ax_30 rfl rfl ax_31 ⟨Nat.le_of_ble_eq_true rfl, Nat.le_of_ble_eq_true rfl⟩ rfl rfl (Nat.le_of_ble_eq_true rfl) dX9_setGas_4 ⟨(Nat.le_of_ble_eq_true rfl), (Nat.le_of_ble_eq_true rfl)⟩) hP hD hS hA rfl rfl rfl (by decide) (fun ad4 H locs hP hD hS => ?_)
  have hP : va_P D vwCl [(a0, .inr (14, [v0, v1, v2, .ref a1, v3, v4, .ref a4])), (a1, .inr (6, [v5, v6, v7, v8, v9, v10, .ref a2, v11, v12, v13, v14, v15, v16])), (a2, .inr (13, [.long 900, .ref a3, .int 1])), (a3, .inl (cy 2, 1, .inr (.inl (fun _ => 0)))), (a4, .inr (11, [v17, v18, v19, v20, .long 900]))] H := hP
  have hD : va_D A [(a0, .inr (14, [v0, v1, v2, .ref a1, v3, v4, .ref a4])), (a1, .inr (6, [v5, v6, v7, v8, v9, v10, .ref a2, v11, v12, v13, v14, v15, v16])), (a2, .inr (13, [.long 900, .ref a3, .int 1])), (a3, .inl (cy 2, 1, .inr (.inl (fun _ => 0)))), (a4, .inr (11, [v17, v18, v19, v20, .long 900]))] := hD
  refine lv_if_ne (tgt := 32) hx hb dX9_setGas_7 (by decide) (fun z => absurd (by decide) z) (fun _ => ?_)
  refine lv_iload_n hx hb dX9_setGas_10 rfl (lv_at hl 2 rfl) ?_
  refine lv_iconst (v := 1) hx hb dX9_setGas_11 (by decide) ?_
  refine lv_bipush (v := 100) hx hb dX9_setGas_12 (by decide) ?_
  refine ca_i (isC := []) (isR := [0, 1, 2, 3, 4]) (wr := [(a0, .inr (14, [v0, v1, v2, .ref a1, v3, v4, .ref a4])), (a1, .inr (6, [v5, v6, v7, v8, v9, v10, .ref a2, v11, v12, v13, v14, v15, v16])), (a2, .inr (13, [.long 900, .ref a3, .int 1])), (a3, .inl (cy 2, 1, .inr (.inl (fun _ => 0)))), (a4, .inr (11, [v17, v18, v19, v20, .long 900]))]) (rn_S (isC := []) (wc := []) (As := [.int x1, .int 1, .int 100]) (rest := []) (n := 3) hx hb hml hown hts hE hS hP hD hA hl.1 (k30_X9_isOutside l D cy g x1 1 100 H.size h2 h3) rfl rfl ax_30 rfl rfl ax_31 ⟨Nat.le_of_ble_eq_true rfl, Nat.le_of_ble_eq_true rfl⟩ rfl rfl (Nat.le_of_ble_eq_true rfl) dX9_setGas_14 ⟨(Nat.le_of_ble_eq_true rfl), (Nat.le_of_ble_eq_true rfl)⟩) hP hD hS hA rfl rfl rfl (by decide) (fun ad14 H locs hP hD hS => ?_)
  have hP : va_P D vwCl [(a0, .inr (14, [v0, v1, v2, .ref a1, v3, v4, .ref a4])), (a1, .inr (6, [v5, v6, v7, v8, v9, v10, .ref a2, v11, v12, v13, v14, v15, v16])), (a2, .inr (13, [.long 900, .ref a3, .int 1])), (a3, .inl (cy 2, 1, .inr (.inl (fun _ => 0)))), (a4, .inr (11, [v17, v18, v19, v20, .long 900]))] H := hP
  have hD : va_D A [(a0, .inr (14, [v0, v1, v2, .ref a1, v3, v4, .ref a4])), (a1, .inr (6, [v5, v6, v7, v8, v9, v10, .ref a2, v11, v12, v13, v14, v15, v16])), (a2, .inr (13, [.long 900, .ref a3, .int 1])), (a3, .inl (cy 2, 1, .inr (.inl (fun _ => 0)))), (a4, .inr (11, [v17, v18, v19, v20, .long 900]))] := hD
  refine lv_if_ne (tgt := 32) hx hb dX9_setGas_17 (by decide) (fun z => absurd (by decide) z) (fun _ => ?_)
  refine lv_iload_n hx hb dX9_setGas_20 rfl (lv_at hl 3 rfl) ?_
  refine lv_bipush (v := 50) hx hb dX9_setGas_21 (by decide) ?_
  refine lv_sipush (v := 2000) hx hb dX9_setGas_23 (by decide) ?_
  refine ca_i (isC := []) (isR := [0, 1, 2, 3, 4]) (wr := [(a0, .inr (14, [v0, v1, v2, .ref a1, v3, v4, .ref a4])), (a1, .inr (6, [v5, v6, v7, v8, v9, v10, .ref a2, v11, v12, v13, v14, v15, v16])), (a2, .inr (13, [.long 900, .ref a3, .int 1])), (a3, .inl (cy 2, 1, .inr (.inl (fun _ => 0)))), (a4, .inr (11, [v17, v18, v19, v20, .long 900]))]) (rn_S (isC := []) (wc := []) (As := [.int x2, .int 50, .int 2000]) (rest := []) (n := 3) hx hb hml hown hts hE hS hP hD hA hl.1 (k30_X9_isOutside l D cy g x2 50 2000 H.size h4 h5) rfl rfl ax_30 rfl rfl ax_31 ⟨Nat.le_of_ble_eq_true rfl, Nat.le_of_ble_eq_true rfl⟩ rfl rfl (Nat.le_of_ble_eq_true rfl) dX9_setGas_26 ⟨(Nat.le_of_ble_eq_true rfl), (Nat.le_of_ble_eq_true rfl)⟩) hP hD hS hA rfl rfl rfl (by decide) (fun ad26 H locs hP hD hS => ?_)
  have hP : va_P D vwCl [(a0, .inr (14, [v0, v1, v2, .ref a1, v3, v4, .ref a4])), (a1, .inr (6, [v5, v6, v7, v8, v9, v10, .ref a2, v11, v12, v13, v14, v15, v16])), (a2, .inr (13, [.long 900, .ref a3, .int 1])), (a3, .inl (cy 2, 1, .inr (.inl (fun _ => 0)))), (a4, .inr (11, [v17, v18, v19, v20, .long 900]))] H := hP
  have hD : va_D A [(a0, .inr (14, [v0, v1, v2, .ref a1, v3, v4, .ref a4])), (a1, .inr (6, [v5, v6, v7, v8, v9, v10, .ref a2, v11, v12, v13, v14, v15, v16])), (a2, .inr (13, [.long 900, .ref a3, .int 1])), (a3, .inl (cy 2, 1, .inr (.inl (fun _ => 0)))), (a4, .inr (11, [v17, v18, v19, v20, .long 900]))] := hD
  refine lv_if_eq (tgt := 42) hx hb dX9_setGas_29 (by decide) (fun _ => ?_) (fun z => absurd (by decide) z)
  refine lv_aload_n hx hb dX9_setGas_42 rfl (lv_at hl 0 rfl) ?_
  refine va_get (D := D) (ci := 14) (v := .ref a1) (C := RX9) (T := TX9) (N := 7) hx hb hts ax_16 hown hE.1 hP 0 rfl rfl 3 (by decide) (hts _ tw_199) (fun _ h9 => h9) rfl dX9_setGas_43 ?_
  refine va_getN (D := D) (ci := 6) (v := .ref a2) (C := RX1) (T := TX1) (N := 13) hx hb hts ax_7 hown hE.1 hP 1 rfl rfl 6 (by decide) (hts _ tw_221) (fun _ h9 => h9) rfl dX9_setGas_46 ?_
  refine ca_l (isC := [2]) (isR := [0, 1, 3, 4]) (wr := [(a0, .inr (14, [v0, v1, v2, .ref a1, v3, v4, .ref a4])), (a1, .inr (6, [v5, v6, v7, v8, v9, v10, .ref a2, v11, v12, v13, v14, v15, v16])), (a3, .inl (cy 2, 1, .inr (.inl (fun _ => 0)))), (a4, .inr (11, [v17, v18, v19, v20, .long 900]))]) (rn_V (ci := 13) (q0 := 2) (isC := [2]) (wc := [(a2, .inr (13, [.long 900, .ref a3, .int 1]))]) (As := []) (rest := []) (n := 0) hx hb hml hown hts hE hS hP hD hA hl.1 (k11_X8_low l D cy g a2 (.ref a3) H.size ) rfl rfl rfl rfl rfl ax_23 rfl rfl ax_24 ⟨Nat.le_of_ble_eq_true rfl, Nat.le_of_ble_eq_true rfl⟩ rfl rfl (Nat.le_of_ble_eq_true rfl) dX9_setGas_49 ⟨(Nat.le_of_ble_eq_true rfl), (Nat.le_of_ble_eq_true rfl)⟩) hP hD hS hA rfl rfl rfl (by decide) (fun ad49 H locs hP hD hS => ?_)
  have hP : va_P D vwCl [(a0, .inr (14, [v0, v1, v2, .ref a1, v3, v4, .ref a4])), (a1, .inr (6, [v5, v6, v7, v8, v9, v10, .ref a2, v11, v12, v13, v14, v15, v16])), (a3, .inl (cy 2, 1, .inr (.inl (fun _ => 0)))), (a4, .inr (11, [v17, v18, v19, v20, .long 900])), (a2, .inr (13, [.long 900, .ref a3, .int 1]))] H := hP
  have hD : va_D A [(a0, .inr (14, [v0, v1, v2, .ref a1, v3, v4, .ref a4])), (a1, .inr (6, [v5, v6, v7, v8, v9, v10, .ref a2, v11, v12, v13, v14, v15, v16])), (a3, .inl (cy 2, 1, .inr (.inl (fun _ => 0)))), (a4, .inr (11, [v17, v18, v19, v20, .long 900])), (a2, .inr (13, [.long 900, .ref a3, .int 1]))] := hD
  refine lv_lstore (lv' := [(4, .long 900), (0, .ref a0), (1, .int x0), (2, .int x1), (3, .int x2)]) hx hb dX9_setGas_52 hl (Nat.le_of_ble_eq_true rfl) rfl (fun ls hl => ?_)
  refine lv_aload_n hx hb dX9_setGas_54 rfl (lv_at hl 1 rfl) ?_
  refine va_get (D := D) (ci := 14) (v := .ref a1) (C := RX9) (T := TX9) (N := 7) hx hb hts ax_16 hown hE.1 hP 0 rfl rfl 3 (by decide) (hts _ tw_199) (fun _ h9 => h9) rfl dX9_setGas_55 ?_
  refine lv_iload_n hx hb dX9_setGas_58 rfl (lv_at hl 2 rfl) ?_
  refine lv_iload_n hx hb dX9_setGas_59 rfl (lv_at hl 3 rfl) ?_
  refine lv_iload_n hx hb dX9_setGas_60 rfl (lv_at hl 4 rfl) ?_
  refine ca_v (isC := [1, 4, 2]) (isR := [0, 3]) (wr := [(a0, .inr (14, [v0, v1, v2, .ref a1, v3, v4, .ref a4])), (a4, .inr (11, [v17, v18, v19, v20, .long 900]))]) (rn_V (ci := 6) (q0 := 1) (isC := [1, 4, 2]) (wc := [(a1, .inr (6, [v5, v6, v7, v8, v9, v10, .ref a2, v11, v12, v13, v14, v15, v16])), (a2, .inr (13, [.long 900, .ref a3, .int 1])), (a3, .inl (cy 2, 1, .inr (.inl (fun _ => 0))))]) (As := [.int x0, .int x1, .int x2]) (rest := []) (n := 3) hx hb hml hown hts hE hS hP hD hA hl.1 (k377_X1_fill l D cy g x0 x1 x2 a1 a2 a3 (v5) (v6) (v7) (v8) (v9) (v10) (v11) (v12) (v13) (v14) (v15) (v16) (.long 900) (.int 1) (fun _ => 0) H.size h6 h7) rfl rfl rfl rfl rfl ax_274 rfl rfl ax_11 ⟨Nat.le_of_ble_eq_true rfl, Nat.le_of_ble_eq_true rfl⟩ rfl rfl (Nat.le_of_ble_eq_true rfl) dX9_setGas_61 ⟨(Nat.le_of_ble_eq_true rfl), (Nat.le_of_ble_eq_true rfl)⟩) hP hD hS hA rfl rfl rfl (by decide) (fun ad61 H locs hP hD hS => ?_)
  have hP : va_P D vwCl [(a0, .inr (14, [v0, v1, v2, .ref a1, v3, v4, .ref a4])), (a4, .inr (11, [v17, v18, v19, v20, .long 900])), (a1, .inr (6, [v5, v6, v7, v8, .int x0, .int x1, .ref a2, v11, v12, v13, v14, v15, v16])), (a2, .inr (13, [.long (((3 * x0) * x2).toInt64 &&& 1125899906842623), .ref a3, .int 2])), (a3, .inl (cy 2, 1, .inr (.inl (vp_updL (fun _ => 0) (0 : Int32).toNatClampNeg (((3 * x0) * x2).toInt64 >>> ((50 : Int32).toInt64 &&& 63))))))] H := hP
  have hD : va_D A [(a0, .inr (14, [v0, v1, v2, .ref a1, v3, v4, .ref a4])), (a4, .inr (11, [v17, v18, v19, v20, .long 900])), (a1, .inr (6, [v5, v6, v7, v8, .int x0, .int x1, .ref a2, v11, v12, v13, v14, v15, v16])), (a2, .inr (13, [.long (((3 * x0) * x2).toInt64 &&& 1125899906842623), .ref a3, .int 2])), (a3, .inl (cy 2, 1, .inr (.inl (vp_updL (fun _ => 0) (0 : Int32).toNatClampNeg (((3 * x0) * x2).toInt64 >>> ((50 : Int32).toInt64 &&& 63))))))] := hD
  refine lv_aload_n hx hb dX9_setGas_64 rfl (lv_at hl 1 rfl) ?_
  refine va_get (D := D) (ci := 14) (v := .ref a4) (C := RX9) (T := TX9) (N := 7) hx hb hts ax_16 hown hE.1 hP 0 rfl rfl 6 (by decide) (hts _ tw_220) (fun _ h9 => h9) rfl dX9_setGas_65 ?_
  refine lv_dup hx hb dX9_setGas_68 rfl ?_
  refine va_getN (D := D) (ci := 11) (v := .long 900) (C := RX6) (T := TX6) (N := 5) hx hb hts ax_14 hown hE.1 hP 1 rfl rfl 4 (by decide) (hts _ tw_226) (fun _ h9 => h9) rfl dX9_setGas_69 ?_
  refine lv_aload_n hx hb dX9_setGas_72 rfl (lv_at hl 1 rfl) ?_
  refine va_get (D := D) (ci := 14) (v := .ref a1) (C := RX9) (T := TX9) (N := 7) hx hb hts ax_16 hown hE.1 hP 0 rfl rfl 3 (by decide) (hts _ tw_199) (fun _ h9 => h9) rfl dX9_setGas_73 ?_
  refine va_getN (D := D) (ci := 6) (v := .ref a2) (C := RX1) (T := TX1) (N := 13) hx hb hts ax_7 hown hE.1 hP 2 rfl rfl 6 (by decide) (hts _ tw_221) (fun _ h9 => h9) rfl dX9_setGas_76 ?_
  refine ca_l (isC := [3, 4]) (isR := [0, 1, 2]) (wr := [(a0, .inr (14, [v0, v1, v2, .ref a1, v3, v4, .ref a4])), (a4, .inr (11, [v17, v18, v19, v20, .long 900])), (a1, .inr (6, [v5, v6, v7, v8, .int x0, .int x1, .ref a2, v11, v12, v13, v14, v15, v16]))]) (rn_V (ci := 13) (q0 := 3) (isC := [3, 4]) (wc := [(a2, .inr (13, [.long (((3 * x0) * x2).toInt64 &&& 1125899906842623), .ref a3, .int 2])), (a3, .inl (cy 2, 1, .inr (.inl (vp_updL (fun _ => 0) (0 : Int32).toNatClampNeg (((3 * x0) * x2).toInt64 >>> ((50 : Int32).toInt64 &&& 63))))))]) (As := []) (rest := [.long 900, .ref a4]) (n := 0) hx hb hml hown hts hE hS hP hD hA hl.1 (k379_X8_low l D cy g a2 a3 (((3 * x0) * x2).toInt64 &&& 1125899906842623) (((3 * x0) * x2).toInt64 >>> ((50 : Int32).toInt64 &&& 63)) H.size ) rfl rfl rfl rfl rfl ax_23 rfl rfl ax_24 ⟨Nat.le_of_ble_eq_true rfl, Nat.le_of_ble_eq_true rfl⟩ rfl rfl (Nat.le_of_ble_eq_true rfl) dX9_setGas_79 ⟨(Nat.le_of_ble_eq_true rfl), (Nat.le_of_ble_eq_true rfl)⟩) hP hD hS hA rfl rfl rfl (by decide) (fun ad79 H locs hP hD hS => ?_)
  have hP : va_P D vwCl [(a0, .inr (14, [v0, v1, v2, .ref a1, v3, v4, .ref a4])), (a4, .inr (11, [v17, v18, v19, v20, .long 900])), (a1, .inr (6, [v5, v6, v7, v8, .int x0, .int x1, .ref a2, v11, v12, v13, v14, v15, v16])), (a2, .inr (13, [.long (((3 * x0) * x2).toInt64 &&& 1125899906842623), .ref a3, .int 2])), (a3, .inl (cy 2, 1, .inr (.inl (vp_updL (fun _ => 0) (0 : Int32).toNatClampNeg (((3 * x0) * x2).toInt64 >>> ((50 : Int32).toInt64 &&& 63))))))] H := hP
  have hD : va_D A [(a0, .inr (14, [v0, v1, v2, .ref a1, v3, v4, .ref a4])), (a4, .inr (11, [v17, v18, v19, v20, .long 900])), (a1, .inr (6, [v5, v6, v7, v8, .int x0, .int x1, .ref a2, v11, v12, v13, v14, v15, v16])), (a2, .inr (13, [.long (((3 * x0) * x2).toInt64 &&& 1125899906842623), .ref a3, .int 2])), (a3, .inl (cy 2, 1, .inr (.inl (vp_updL (fun _ => 0) (0 : Int32).toNatClampNeg (((3 * x0) * x2).toInt64 >>> ((50 : Int32).toInt64 &&& 63))))))] := hD
  refine lv_lload hx hb dX9_setGas_82 (lv_at hl 0 rfl) ?_
  refine lv_lsub hx hb dX9_setGas_84 ?_
  refine lv_ladd hx hb dX9_setGas_85 ?_
  refine va_putN (D := D) (ci := 11) (v := .long (900 + (((((3 * x0) * x2).toInt64 &&& 1125899906842623) + ((((3 * x0) * x2).toInt64 >>> ((50 : Int32).toInt64 &&& 63)) <<< ((50 : Int32).toInt64 &&& 63))) - 900))) (ty := .long) (C := RX6) (T := TX6) (N := 5) hx hb hts ax_14 tyX6 tyX6_ok nmX6 hown hE.1 hP hD hS 1 rfl rfl 4 (by decide) (hts _ tw_226) (fun _ h9 => h9) rfl (by decide +kernel) rfl rfl (Nat.le_of_ble_eq_true rfl) dX9_setGas_86 (fun H locs hP hD hS => ?_)
  have hP : va_P D vwCl [(a0, .inr (14, [v0, v1, v2, .ref a1, v3, v4, .ref a4])), (a4, .inr (11, [v17, v18, v19, v20, .long (900 + (((((3 * x0) * x2).toInt64 &&& 1125899906842623) + ((((3 * x0) * x2).toInt64 >>> ((50 : Int32).toInt64 &&& 63)) <<< ((50 : Int32).toInt64 &&& 63))) - 900))])), (a1, .inr (6, [v5, v6, v7, v8, .int x0, .int x1, .ref a2, v11, v12, v13, v14, v15, v16])), (a2, .inr (13, [.long (((3 * x0) * x2).toInt64 &&& 1125899906842623), .ref a3, .int 2])), (a3, .inl (cy 2, 1, .inr (.inl (vp_updL (fun _ => 0) (0 : Int32).toNatClampNeg (((3 * x0) * x2).toInt64 >>> ((50 : Int32).toInt64 &&& 63))))))] H := hP
  have hD : va_D A [(a0, .inr (14, [v0, v1, v2, .ref a1, v3, v4, .ref a4])), (a4, .inr (11, [v17, v18, v19, v20, .long (900 + (((((3 * x0) * x2).toInt64 &&& 1125899906842623) + ((((3 * x0) * x2).toInt64 >>> ((50 : Int32).toInt64 &&& 63)) <<< ((50 : Int32).toInt64 &&& 63))) - 900))])), (a1, .inr (6, [v5, v6, v7, v8, .int x0, .int x1, .ref a2, v11, v12, v13, v14, v15, v16])), (a2, .inr (13, [.long (((3 * x0) * x2).toInt64 &&& 1125899906842623), .ref a3, .int 2])), (a3, .inl (cy 2, 1, .inr (.inl (vp_updL (fun _ => 0) (0 : Int32).toNatClampNeg (((3 * x0) * x2).toInt64 >>> ((50 : Int32).toInt64 &&& 63))))))] := hD
  refine lv_lload hx hb dX9_setGas_89 (lv_at hl 0 rfl) ?_
  refine lv_l2i (v := 900) hx hb dX9_setGas_91 (by decide) ?_
  exact en_z hx hb hr hlk hP hD hS rfl (fun _ => 0) (is := [0, 2, 3, 4, 1]) rfl rfl (Nat.le_of_ble_eq_true rfl) (Nat.le_of_ble_eq_true rfl) dX9_setGas_92
set_option maxHeartbeats 4000000 in
set_option maxRecDepth 100000 in
theorem k381_L_setGas (l : Launch) (D : va_G) (cy : Nat → ClassId) (g : Nat → Nat) (x0 : Int32) (x1 : Int32) (x2 : Int32) (a0 : Nat) (a1 : Nat) (a2 : Nat) (a3 : Nat) (a4 : Nat) (a5 : Nat) (v0 : Value) (v1 : Value) (v2 : Value) (v3 : Value) (v4 : Value) (v5 : Value) (v6 : Value) (v7 : Value) (v8 : Value) (v9 : Value) (v10 : Value) (v11 : Value) (v12 : Value) (v13 : Value) (v14 : Value) (v15 : Value) (v16 : Value) (v17 : Value) (v18 : Value) (v19 : Value) (v20 : Value) (f0 : Nat → Int64) (sz : Nat) (h0 : ¬ x0 < 1) (h1 : ¬ (20 : Int32) < x0) (h2 : ¬ x1 < 1) (h3 : ¬ (100 : Int32) < x1) (h4 : ¬ x2 < 50) (h5 : ¬ (2000 : Int32) < x2) (h6 : (((3 * x0) * x2).toInt64 &&& 1125899906842623) = 0) (h7 : ¬ ((3 * x0) * x2).toInt64 < 1125899906842624) : Met l yL_setGas [.codeWith yL_setGas cL_setGas 6 (some .int) [(0, 12, 15, 13)]] ({ frames := 4, cells := 0, slots := 0, locals := 93 }) (PC D cy g [(a0, .inr (14, [v0, v1, v2, .ref a1, v3, v4, .ref a4])), (a1, .inr (6, [v5, v6, v7, v8, v9, v10, .ref a2, v11, v12, v13, v14, v15, v16])), (a2, .inr (13, [.long 900, .ref a3, .int 1])), (a3, .inl (cy 2, 1, .inr (.inl (fun _ => 0)))), (a4, .inr (11, [v17, v18, v19, v20, .long 900])), (a5, .inl (cy 2, 1, .inr (.inl f0)))] sz [.ref a0, .int x0, .int x1, .int x2, .ref a5]) (QI D 0 (fun ad => [(a5, .inl (cy 2, 1, .inr (.inl (vp_updL f0 (0 : Int32).toNatClampNeg 900))))]) (va_A [(a0, .inr (14, [v0, v1, v2, .ref a1, v3, v4, .ref a4])), (a1, .inr (6, [v5, v6, v7, v8, v9, v10, .ref a2, v11, v12, v13, v14, v15, v16])), (a2, .inr (13, [.long 900, .ref a3, .int 1])), (a3, .inl (cy 2, 1, .inr (.inl (fun _ => 0)))), (a4, .inr (11, [v17, v18, v19, v20, .long 900])), (a5, .inl (cy 2, 1, .inr (.inl f0)))] sz)) 0 0 (va_A [(a0, .inr (14, [v0, v1, v2, .ref a1, v3, v4, .ref a4])), (a1, .inr (6, [v5, v6, v7, v8, v9, v10, .ref a2, v11, v12, v13, v14, v15, v16])), (a2, .inr (13, [.long 900, .ref a3, .int 1])), (a3, .inl (cy 2, 1, .inr (.inl (fun _ => 0)))), (a4, .inr (11, [v17, v18, v19, v20, .long 900])), (a5, .inl (cy 2, 1, .inr (.inl f0)))] sz) := by
  refine sh_I (by decide) (Nat.le_of_ble_eq_true rfl) ?_
  intro p e s m args below meth c A ls hx hb hr hml hown hlk hnm hsz hP hD hA hE hts hS hl htb
  have hown : s.vm.findClass RL = some m.cls := hown
  have hl : lv_has ls 6 [(0, .ref a0), (1, .int x0), (2, .int x1), (3, .int x2), (4, .ref a5)] := hl
  refine lv_aload hx hb dL_setGas_0 (lv_at hl 4 rfl) ?_
  refine lv_iconst (v := 0) hx hb dL_setGas_2 (by decide) ?_
  refine lv_aload_n hx hb dL_setGas_3 rfl (lv_at hl 0 rfl) ?_
  refine lv_iload_n hx hb dL_setGas_4 rfl (lv_at hl 1 rfl) ?_
  refine lv_iload_n hx hb dL_setGas_5 rfl (lv_at hl 2 rfl) ?_
  refine lv_iload_n hx hb dL_setGas_6 rfl (lv_at hl 3 rfl) ?_
  refine ca_i (isC := [0, 1, 2, 3, 4]) (isR := [5]) (wr := [(a5, .inl (cy 2, 1, .inr (.inl f0)))]) (rn_V (ci := 14) (q0 := 0) (isC := [0, 1, 2, 3, 4]) (wc := [(a0, .inr (14, [v0, v1, v2, .ref a1, v3, v4, .ref a4])), (a1, .inr (6, [v5, v6, v7, v8, v9, v10, .ref a2, v11, v12, v13, v14, v15, v16])), (a2, .inr (13, [.long 900, .ref a3, .int 1])), (a3, .inl (cy 2, 1, .inr (.inl (fun _ => 0)))), (a4, .inr (11, [v17, v18, v19, v20, .long 900]))]) (As := [.int x0, .int x1, .int x2]) (rest := [.int 0, .ref a5]) (n := 3) hx hb hml hown hts hE hS hP hD hA hl.1 (k380_X9_setGas l D cy g x0 x1 x2 a0 a1 a2 a3 a4 (v0) (v1) (v2) (v3) (v4) (v5) (v6) (v7) (v8) (v9) (v10) (v11) (v12) (v13) (v14) (v15) (v16) (v17) (v18) (v19) (v20) s.heap.size h0 h1 h2 h3 h4 h5 h6 h7) rfl rfl rfl rfl rfl ax_268 rfl rfl ax_269 ⟨Nat.le_of_ble_eq_true rfl, Nat.le_of_ble_eq_true rfl⟩ rfl rfl (Nat.le_of_ble_eq_true rfl) dL_setGas_7 ⟨(Nat.le_of_ble_eq_true rfl), (Nat.le_of_ble_eq_true rfl)⟩) hP hD hS hA rfl rfl rfl (by decide) (fun ad7 H locs hP hD hS => ?_)
  have hP : va_P D vwCl [(a5, .inl (cy 2, 1, .inr (.inl f0))), (a0, .inr (14, [v0, v1, v2, .ref a1, v3, v4, .ref a4])), (a1, .inr (6, [v5, v6, v7, v8, .int x0, .int x1, .ref a2, v11, v12, v13, v14, v15, v16])), (a2, .inr (13, [.long (((3 * x0) * x2).toInt64 &&& 1125899906842623), .ref a3, .int 2])), (a3, .inl (cy 2, 1, .inr (.inl (vp_updL (fun _ => 0) (0 : Int32).toNatClampNeg (((3 * x0) * x2).toInt64 >>> ((50 : Int32).toInt64 &&& 63)))))), (a4, .inr (11, [v17, v18, v19, v20, .long (900 + (((((3 * x0) * x2).toInt64 &&& 1125899906842623) + ((((3 * x0) * x2).toInt64 >>> ((50 : Int32).toInt64 &&& 63)) <<< ((50 : Int32).toInt64 &&& 63))) - 900))]))] H := hP
  have hD : va_D A [(a5, .inl (cy 2, 1, .inr (.inl f0))), (a0, .inr (14, [v0, v1, v2, .ref a1, v3, v4, .ref a4])), (a1, .inr (6, [v5, v6, v7, v8, .int x0, .int x1, .ref a2, v11, v12, v13, v14, v15, v16])), (a2, .inr (13, [.long (((3 * x0) * x2).toInt64 &&& 1125899906842623), .ref a3, .int 2])), (a3, .inl (cy 2, 1, .inr (.inl (vp_updL (fun _ => 0) (0 : Int32).toNatClampNeg (((3 * x0) * x2).toInt64 >>> ((50 : Int32).toInt64 &&& 63)))))), (a4, .inr (11, [v17, v18, v19, v20, .long (900 + (((((3 * x0) * x2).toInt64 &&& 1125899906842623) + ((((3 * x0) * x2).toInt64 >>> ((50 : Int32).toInt64 &&& 63)) <<< ((50 : Int32).toInt64 &&& 63))) - 900))]))] := hD
  refine lv_i2l (v := 900) hx hb dL_setGas_10 (by decide) ?_
  refine va_last hx hb hE.1 hP hD hS 0 2 rfl rfl (by unfold vp_in; decide) dL_setGas_11 (fun H locs hP hD hS => ?_)
  have hP : va_P D vwCl [(a5, .inl (cy 2, 1, .inr (.inl (vp_updL f0 (0 : Int32).toNatClampNeg 900)))), (a0, .inr (14, [v0, v1, v2, .ref a1, v3, v4, .ref a4])), (a1, .inr (6, [v5, v6, v7, v8, .int x0, .int x1, .ref a2, v11, v12, v13, v14, v15, v16])), (a2, .inr (13, [.long (((3 * x0) * x2).toInt64 &&& 1125899906842623), .ref a3, .int 2])), (a3, .inl (cy 2, 1, .inr (.inl (vp_updL (fun _ => 0) (0 : Int32).toNatClampNeg (((3 * x0) * x2).toInt64 >>> ((50 : Int32).toInt64 &&& 63)))))), (a4, .inr (11, [v17, v18, v19, v20, .long (900 + (((((3 * x0) * x2).toInt64 &&& 1125899906842623) + ((((3 * x0) * x2).toInt64 >>> ((50 : Int32).toInt64 &&& 63)) <<< ((50 : Int32).toInt64 &&& 63))) - 900))]))] H := hP
  have hD : va_D A [(a5, .inl (cy 2, 1, .inr (.inl (vp_updL f0 (0 : Int32).toNatClampNeg 900)))), (a0, .inr (14, [v0, v1, v2, .ref a1, v3, v4, .ref a4])), (a1, .inr (6, [v5, v6, v7, v8, .int x0, .int x1, .ref a2, v11, v12, v13, v14, v15, v16])), (a2, .inr (13, [.long (((3 * x0) * x2).toInt64 &&& 1125899906842623), .ref a3, .int 2])), (a3, .inl (cy 2, 1, .inr (.inl (vp_updL (fun _ => 0) (0 : Int32).toNatClampNeg (((3 * x0) * x2).toInt64 >>> ((50 : Int32).toInt64 &&& 63)))))), (a4, .inr (11, [v17, v18, v19, v20, .long (900 + (((((3 * x0) * x2).toInt64 &&& 1125899906842623) + ((((3 * x0) * x2).toInt64 >>> ((50 : Int32).toInt64 &&& 63)) <<< ((50 : Int32).toInt64 &&& 63))) - 900))]))] := hD
  refine lv_goto (tgt := 19) hx hb dL_setGas_12 (by decide) ?_
  refine lv_iconst (v := 0) hx hb dL_setGas_19 (by decide) ?_
  exact en_z hx hb hr hlk hP hD hS rfl (fun _ => 0) (is := [0]) rfl rfl (Nat.le_of_ble_eq_true rfl) (Nat.le_of_ble_eq_true rfl) dL_setGas_20
set_option maxHeartbeats 4000000 in
set_option maxRecDepth 100000 in
theorem k382_X1_fill (l : Launch) (D : va_G) (cy : Nat → ClassId) (g : Nat → Nat) (x0 : Int32) (x1 : Int32) (x2 : Int32) (a0 : Nat) (a1 : Nat) (v0 : Value) (v1 : Value) (v2 : Value) (v3 : Value) (v4 : Value) (v5 : Value) (v6 : Value) (v7 : Value) (v8 : Value) (v9 : Value) (v10 : Value) (v11 : Value) (v12 : Value) (v13 : Value) (v14 : Value) (sz : Nat) (h0 : ¬ (((3 * x0) * x2).toInt64 &&& 1125899906842623) = 0) (h1 : ((3 * x0) * x2).toInt64 < 1125899906842624) : Met l yX1_fill [.code yX1_fill cX1_fill 4 none] ({ frames := 1, cells := 0, slots := 0, locals := 22 }) (PC D cy g [(a0, .inr (6, [v0, v1, v2, v3, v4, v5, .ref a1, v6, v7, v8, v9, v10, v11])), (a1, .inr (13, [v12, v13, v14]))] sz [.ref a0, .int x0, .int x1, .int x2]) (QV D (fun ad => [(a0, .inr (6, [v0, v1, v2, v3, .int x0, .int x1, .ref a1, v6, v7, v8, v9, v10, v11])), (a1, .inr (13, [.long (((3 * x0) * x2).toInt64 &&& 1125899906842623), v13, .int 1]))]) (va_A [(a0, .inr (6, [v0, v1, v2, v3, v4, v5, .ref a1, v6, v7, v8, v9, v10, v11])), (a1, .inr (13, [v12, v13, v14]))] sz)) 0 0 (va_A [(a0, .inr (6, [v0, v1, v2, v3, v4, v5, .ref a1, v6, v7, v8, v9, v10, v11])), (a1, .inr (13, [v12, v13, v14]))] sz) := by
  refine st_V (by decide) (Nat.le_of_ble_eq_true rfl) ?_
  intro p e s m args below meth c A ls hx hb hr hml hown hlk hnm hsz hP hD hA hE hts hS hl
  have hown : s.vm.findClass RX1 = some m.cls := hown
  have hl : lv_has ls 4 [(0, .ref a0), (1, .int x0), (2, .int x1), (3, .int x2)] := hl
  refine lv_aload_n hx hb dX1_fill_0 rfl (lv_at hl 0 rfl) ?_
  refine lv_iload_n hx hb dX1_fill_1 rfl (lv_at hl 1 rfl) ?_
  refine va_put (D := D) (ci := 6) (v := .int x0) (ty := .int) (C := RX1) (T := TX1) (N := 13) hx hb hts ax_7 tyX1 tyX1_ok nmX1 hown hE.1 hP hD hS 0 rfl rfl 4 (by decide) (hts _ tw_99) (fun _ h9 => h9) rfl (by decide +kernel) rfl rfl (Nat.le_of_ble_eq_true rfl) dX1_fill_2 (fun H locs hP hD hS => ?_)
  have hP : va_P D vwCl [(a0, .inr (6, [v0, v1, v2, v3, .int x0, v5, .ref a1, v6, v7, v8, v9, v10, v11])), (a1, .inr (13, [v12, v13, v14]))] H := hP
  have hD : va_D A [(a0, .inr (6, [v0, v1, v2, v3, .int x0, v5, .ref a1, v6, v7, v8, v9, v10, v11])), (a1, .inr (13, [v12, v13, v14]))] := hD
  refine lv_aload_n hx hb dX1_fill_5 rfl (lv_at hl 0 rfl) ?_
  refine lv_iload_n hx hb dX1_fill_6 rfl (lv_at hl 2 rfl) ?_
  refine va_put (D := D) (ci := 6) (v := .int x1) (ty := .int) (C := RX1) (T := TX1) (N := 13) hx hb hts ax_7 tyX1 tyX1_ok nmX1 hown hE.1 hP hD hS 0 rfl rfl 5 (by decide) (hts _ tw_100) (fun _ h9 => h9) rfl (by decide +kernel) rfl rfl (Nat.le_of_ble_eq_true rfl) dX1_fill_7 (fun H locs hP hD hS => ?_)
  have hP : va_P D vwCl [(a0, .inr (6, [v0, v1, v2, v3, .int x0, .int x1, .ref a1, v6, v7, v8, v9, v10, v11])), (a1, .inr (13, [v12, v13, v14]))] H := hP
  have hD : va_D A [(a0, .inr (6, [v0, v1, v2, v3, .int x0, .int x1, .ref a1, v6, v7, v8, v9, v10, v11])), (a1, .inr (13, [v12, v13, v14]))] := hD
  refine lv_aload_n hx hb dX1_fill_10 rfl (lv_at hl 0 rfl) ?_
  refine va_get (D := D) (ci := 6) (v := .ref a1) (C := RX1) (T := TX1) (N := 13) hx hb hts ax_7 hown hE.1 hP 0 rfl rfl 6 (by decide) (hts _ tw_101) (fun _ h9 => h9) rfl dX1_fill_11 ?_
  refine lv_iconst (v := 3) hx hb dX1_fill_14 (by decide) ?_
  refine lv_iload_n hx hb dX1_fill_15 rfl (lv_at hl 1 rfl) ?_
  refine lv_imul hx hb dX1_fill_16 ?_
  refine lv_iload_n hx hb dX1_fill_17 rfl (lv_at hl 3 rfl) ?_
  refine lv_imul hx hb dX1_fill_18 ?_
  refine lv_i2l (v := ((3 * x0) * x2).toInt64) hx hb dX1_fill_19 rfl ?_
  refine ca_v (isC := [1]) (isR := [0]) (wr := [(a0, .inr (6, [v0, v1, v2, v3, .int x0, .int x1, .ref a1, v6, v7, v8, v9, v10, v11]))]) (rn_V (ci := 13) (q0 := 1) (isC := [1]) (wc := [(a1, .inr (13, [v12, v13, v14]))]) (As := [.long (((3 * x0) * x2).toInt64)]) (rest := []) (n := 1) hx hb hml hown hts hE hS hP hD hA hl.1 (k58_X8_set l D cy g (((3 * x0) * x2).toInt64) a1 (v12) (v13) (v14) H.size h0 h1) rfl rfl rfl rfl rfl ax_8 rfl rfl ax_9 ⟨Nat.le_of_ble_eq_true rfl, Nat.le_of_ble_eq_true rfl⟩ rfl rfl (Nat.le_of_ble_eq_true rfl) dX1_fill_20 ⟨(Nat.le_of_ble_eq_true rfl), (Nat.le_of_ble_eq_true rfl)⟩) hP hD hS hA rfl rfl rfl (by decide) (fun ad20 H locs hP hD hS => ?_)
  have hP : va_P D vwCl [(a0, .inr (6, [v0, v1, v2, v3, .int x0, .int x1, .ref a1, v6, v7, v8, v9, v10, v11])), (a1, .inr (13, [.long (((3 * x0) * x2).toInt64 &&& 1125899906842623), v13, .int 1]))] H := hP
  have hD : va_D A [(a0, .inr (6, [v0, v1, v2, v3, .int x0, .int x1, .ref a1, v6, v7, v8, v9, v10, v11])), (a1, .inr (13, [.long (((3 * x0) * x2).toInt64 &&& 1125899906842623), v13, .int 1]))] := hD
  exact en_v hx hb hr hlk hP hD hS (fun _ => 0) (is := [0, 1]) rfl rfl (Nat.le_of_ble_eq_true rfl) (Nat.le_of_ble_eq_true rfl) dX1_fill_23
set_option maxHeartbeats 4000000 in
set_option maxRecDepth 100000 in
theorem k383_X8_low (l : Launch) (D : va_G) (cy : Nat → ClassId) (g : Nat → Nat) (a0 : Nat) (x0 : Int64) (v0 : Value) (sz : Nat)  : Met l yX8_low [.code yX8_low cX8_low 1 (some .long)] ({ frames := 0, cells := 0, slots := 0, locals := 0 }) (PC D cy g [(a0, .inr (13, [.long x0, v0, .int 1]))] sz [.ref a0]) (QL D x0 (fun ad => [(a0, .inr (13, [.long x0, v0, .int 1]))]) (va_A [(a0, .inr (13, [.long x0, v0, .int 1]))] sz)) 0 0 (va_A [(a0, .inr (13, [.long x0, v0, .int 1]))] sz) := by
  refine st_L (by decide) (Nat.le_of_ble_eq_true rfl) ?_
  intro p e s m args below meth c A ls hx hb hr hml hown hlk hnm hsz hP hD hA hE hts hS hl
  have hown : s.vm.findClass RX8 = some m.cls := hown
  have hl : lv_has ls 1 [(0, .ref a0)] := hl
  refine lv_aload_n hx hb dX8_low_0 rfl (lv_at hl 0 rfl) ?_
  refine va_get (D := D) (ci := 13) (v := .int 1) (C := RX8) (T := TX8) (N := 3) hx hb hts ax_0 hown hE.1 hP 0 rfl rfl 2 (by decide) (hts _ tw_9) (fun _ h9 => h9) rfl dX8_low_1 ?_
  refine lv_iconst (v := 1) hx hb dX8_low_4 (by decide) ?_
  refine lv_icmp_le (tgt := 24) hx hb dX8_low_5 (by decide) (fun _ => ?_) (fun z => absurd (by decide) z)
  refine lv_aload_n hx hb dX8_low_24 rfl (lv_at hl 0 rfl) ?_
  refine va_get (D := D) (ci := 13) (v := .long x0) (C := RX8) (T := TX8) (N := 3) hx hb hts ax_0 hown hE.1 hP 0 rfl rfl 0 (by decide) (hts _ tw_6) (fun _ h9 => h9) rfl dX8_low_25 ?_
  exact en_l hx hb hr hlk hP hD hS (fun _ => 0) (is := [0]) rfl rfl (Nat.le_of_ble_eq_true rfl) (Nat.le_of_ble_eq_true rfl) dX8_low_28
set_option maxHeartbeats 4000000 in
set_option maxRecDepth 100000 in
theorem k384_X9_setGas (l : Launch) (D : va_G) (cy : Nat → ClassId) (g : Nat → Nat) (x0 : Int32) (x1 : Int32) (x2 : Int32) (a0 : Nat) (a1 : Nat) (a2 : Nat) (a3 : Nat) (v0 : Value) (v1 : Value) (v2 : Value) (v3 : Value) (v4 : Value) (v5 : Value) (v6 : Value) (v7 : Value) (v8 : Value) (v9 : Value) (v10 : Value) (v11 : Value) (v12 : Value) (v13 : Value) (v14 : Value) (v15 : Value) (v16 : Value) (v17 : Value) (v18 : Value) (v19 : Value) (v20 : Value) (v21 : Value) (sz : Nat) (h0 : ¬ x0 < 1) (h1 : ¬ (20 : Int32) < x0) (h2 : ¬ x1 < 1) (h3 : ¬ (100 : Int32) < x1) (h4 : ¬ x2 < 50) (h5 : ¬ (2000 : Int32) < x2) (h6 : ¬ (((3 * x0) * x2).toInt64 &&& 1125899906842623) = 0) (h7 : ((3 * x0) * x2).toInt64 < 1125899906842624) : Met l yX9_setGas [.code yX9_setGas cX9_setGas 6 (some .int)] ({ frames := 2, cells := 0, slots := 0, locals := 45 }) (PC D cy g [(a0, .inr (14, [v0, v1, v2, .ref a1, v3, v4, .ref a3])), (a1, .inr (6, [v5, v6, v7, v8, v9, v10, .ref a2, v11, v12, v13, v14, v15, v16])), (a2, .inr (13, [.long 900, v17, .int 1])), (a3, .inr (11, [v18, v19, v20, v21, .long 900]))] sz [.ref a0, .int x0, .int x1, .int x2]) (QI D 900 (fun ad => [(a0, .inr (14, [v0, v1, v2, .ref a1, v3, v4, .ref a3])), (a1, .inr (6, [v5, v6, v7, v8, .int x0, .int x1, .ref a2, v11, v12, v13, v14, v15, v16])), (a2, .inr (13, [.long (((3 * x0) * x2).toInt64 &&& 1125899906842623), v17, .int 1])), (a3, .inr (11, [v18, v19, v20, v21, .long (900 + ((((3 * x0) * x2).toInt64 &&& 1125899906842623) - 900))]))]) (va_A [(a0, .inr (14, [v0, v1, v2, .ref a1, v3, v4, .ref a3])), (a1, .inr (6, [v5, v6, v7, v8, v9, v10, .ref a2, v11, v12, v13, v14, v15, v16])), (a2, .inr (13, [.long 900, v17, .int 1])), (a3, .inr (11, [v18, v19, v20, v21, .long 900]))] sz)) 0 0 (va_A [(a0, .inr (14, [v0, v1, v2, .ref a1, v3, v4, .ref a3])), (a1, .inr (6, [v5, v6, v7, v8, v9, v10, .ref a2, v11, v12, v13, v14, v15, v16])), (a2, .inr (13, [.long 900, v17, .int 1])), (a3, .inr (11, [v18, v19, v20, v21, .long 900]))] sz) := by
  refine st_I (by decide) (Nat.le_of_ble_eq_true rfl) ?_
  intro p e s m args below meth c A ls hx hb hr hml hown hlk hnm hsz hP hD hA hE hts hS hl
  have hown : s.vm.findClass RX9 = some m.cls := hown
  have hl : lv_has ls 6 [(0, .ref a0), (1, .int x0), (2, .int x1), (3, .int x2)] := hl
  refine lv_iload_n hx hb dX9_setGas_0 rfl (lv_at hl 1 rfl) ?_
  refine lv_iconst (v := 1) hx hb dX9_setGas_1 (by decide) ?_
  refine lv_bipush (v := 20) hx hb dX9_setGas_2 (by decide) ?_
  refine ca_i (isC := []) (isR := [0, 1, 2, 3]) (wr := [(a0, .inr (14, [v0, v1, v2, .ref a1, v3, v4, .ref a3])), (a1, .inr (6, [v5, v6, v7, v8, v9, v10, .ref a2, v11, v12, v13, v14, v15, v16])), (a2, .inr (13, [.long 900, v17, .int 1])), (a3, .inr (11, [v18, v19, v20, v21, .long 900]))]) (rn_S (isC := []) (wc := []) (As := [.int x0, .int 1, .int 20]) (rest := []) (n := 3) hx hb hml hown hts hE hS hP hD hA hl.1 (k30_X9_isOutside l D cy g x0 1 20 s.heap.size h0 h1) rfl rfl ax_30 rfl rfl ax_31 ⟨Nat.le_of_ble_eq_true rfl, Nat.le_of_ble_eq_true rfl⟩ rfl rfl (Nat.le_of_ble_eq_true rfl) dX9_setGas_4 ⟨(Nat.le_of_ble_eq_true rfl), (Nat.le_of_ble_eq_true rfl)⟩) hP hD hS hA rfl rfl rfl (by decide) (fun ad4 H locs hP hD hS => ?_)
  have hP : va_P D vwCl [(a0, .inr (14, [v0, v1, v2, .ref a1, v3, v4, .ref a3])), (a1, .inr (6, [v5, v6, v7, v8, v9, v10, .ref a2, v11, v12, v13, v14, v15, v16])), (a2, .inr (13, [.long 900, v17, .int 1])), (a3, .inr (11, [v18, v19, v20, v21, .long 900]))] H := hP
  have hD : va_D A [(a0, .inr (14, [v0, v1, v2, .ref a1, v3, v4, .ref a3])), (a1, .inr (6, [v5, v6, v7, v8, v9, v10, .ref a2, v11, v12, v13, v14, v15, v16])), (a2, .inr (13, [.long 900, v17, .int 1])), (a3, .inr (11, [v18, v19, v20, v21, .long 900]))] := hD
  refine lv_if_ne (tgt := 32) hx hb dX9_setGas_7 (by decide) (fun z => absurd (by decide) z) (fun _ => ?_)
  refine lv_iload_n hx hb dX9_setGas_10 rfl (lv_at hl 2 rfl) ?_
  refine lv_iconst (v := 1) hx hb dX9_setGas_11 (by decide) ?_
  refine lv_bipush (v := 100) hx hb dX9_setGas_12 (by decide) ?_
  refine ca_i (isC := []) (isR := [0, 1, 2, 3]) (wr := [(a0, .inr (14, [v0, v1, v2, .ref a1, v3, v4, .ref a3])), (a1, .inr (6, [v5, v6, v7, v8, v9, v10, .ref a2, v11, v12, v13, v14, v15, v16])), (a2, .inr (13, [.long 900, v17, .int 1])), (a3, .inr (11, [v18, v19, v20, v21, .long 900]))]) (rn_S (isC := []) (wc := []) (As := [.int x1, .int 1, .int 100]) (rest := []) (n := 3) hx hb hml hown hts hE hS hP hD hA hl.1 (k30_X9_isOutside l D cy g x1 1 100 H.size h2 h3) rfl rfl ax_30 rfl rfl ax_31 ⟨Nat.le_of_ble_eq_true rfl, Nat.le_of_ble_eq_true rfl⟩ rfl rfl (Nat.le_of_ble_eq_true rfl) dX9_setGas_14 ⟨(Nat.le_of_ble_eq_true rfl), (Nat.le_of_ble_eq_true rfl)⟩) hP hD hS hA rfl rfl rfl (by decide) (fun ad14 H locs hP hD hS => ?_)
  have hP : va_P D vwCl [(a0, .inr (14, [v0, v1, v2, .ref a1, v3, v4, .ref a3])), (a1, .inr (6, [v5, v6, v7, v8, v9, v10, .ref a2, v11, v12, v13, v14, v15, v16])), (a2, .inr (13, [.long 900, v17, .int 1])), (a3, .inr (11, [v18, v19, v20, v21, .long 900]))] H := hP
  have hD : va_D A [(a0, .inr (14, [v0, v1, v2, .ref a1, v3, v4, .ref a3])), (a1, .inr (6, [v5, v6, v7, v8, v9, v10, .ref a2, v11, v12, v13, v14, v15, v16])), (a2, .inr (13, [.long 900, v17, .int 1])), (a3, .inr (11, [v18, v19, v20, v21, .long 900]))] := hD
  refine lv_if_ne (tgt := 32) hx hb dX9_setGas_17 (by decide) (fun z => absurd (by decide) z) (fun _ => ?_)
  refine lv_iload_n hx hb dX9_setGas_20 rfl (lv_at hl 3 rfl) ?_
  refine lv_bipush (v := 50) hx hb dX9_setGas_21 (by decide) ?_
  refine lv_sipush (v := 2000) hx hb dX9_setGas_23 (by decide) ?_
  refine ca_i (isC := []) (isR := [0, 1, 2, 3]) (wr := [(a0, .inr (14, [v0, v1, v2, .ref a1, v3, v4, .ref a3])), (a1, .inr (6, [v5, v6, v7, v8, v9, v10, .ref a2, v11, v12, v13, v14, v15, v16])), (a2, .inr (13, [.long 900, v17, .int 1])), (a3, .inr (11, [v18, v19, v20, v21, .long 900]))]) (rn_S (isC := []) (wc := []) (As := [.int x2, .int 50, .int 2000]) (rest := []) (n := 3) hx hb hml hown hts hE hS hP hD hA hl.1 (k30_X9_isOutside l D cy g x2 50 2000 H.size h4 h5) rfl rfl ax_30 rfl rfl ax_31 ⟨Nat.le_of_ble_eq_true rfl, Nat.le_of_ble_eq_true rfl⟩ rfl rfl (Nat.le_of_ble_eq_true rfl) dX9_setGas_26 ⟨(Nat.le_of_ble_eq_true rfl), (Nat.le_of_ble_eq_true rfl)⟩) hP hD hS hA rfl rfl rfl (by decide) (fun ad26 H locs hP hD hS => ?_)
  have hP : va_P D vwCl [(a0, .inr (14, [v0, v1, v2, .ref a1, v3, v4, .ref a3])), (a1, .inr (6, [v5, v6, v7, v8, v9, v10, .ref a2, v11, v12, v13, v14, v15, v16])), (a2, .inr (13, [.long 900, v17, .int 1])), (a3, .inr (11, [v18, v19, v20, v21, .long 900]))] H := hP
  have hD : va_D A [(a0, .inr (14, [v0, v1, v2, .ref a1, v3, v4, .ref a3])), (a1, .inr (6, [v5, v6, v7, v8, v9, v10, .ref a2, v11, v12, v13, v14, v15, v16])), (a2, .inr (13, [.long 900, v17, .int 1])), (a3, .inr (11, [v18, v19, v20, v21, .long 900]))] := hD
  refine lv_if_eq (tgt := 42) hx hb dX9_setGas_29 (by decide) (fun _ => ?_) (fun z => absurd (by decide) z)
  refine lv_aload_n hx hb dX9_setGas_42 rfl (lv_at hl 0 rfl) ?_
  refine va_get (D := D) (ci := 14) (v := .ref a1) (C := RX9) (T := TX9) (N := 7) hx hb hts ax_16 hown hE.1 hP 0 rfl rfl 3 (by decide) (hts _ tw_199) (fun _ h9 => h9) rfl dX9_setGas_43 ?_
  refine va_getN (D := D) (ci := 6) (v := .ref a2) (C := RX1) (T := TX1) (N := 13) hx hb hts ax_7 hown hE.1 hP 1 rfl rfl 6 (by decide) (hts _ tw_221) (fun _ h9 => h9) rfl dX9_setGas_46 ?_
  refine ca_l (isC := [2]) (isR := [0, 1, 3]) (wr := [(a0, .inr (14, [v0, v1, v2, .ref a1, v3, v4, .ref a3])), (a1, .inr (6, [v5, v6, v7, v8, v9, v10, .ref a2, v11, v12, v13, v14, v15, v16])), (a3, .inr (11, [v18, v19, v20, v21, .long 900]))]) (rn_V (ci := 13) (q0 := 2) (isC := [2]) (wc := [(a2, .inr (13, [.long 900, v17, .int 1]))]) (As := []) (rest := []) (n := 0) hx hb hml hown hts hE hS hP hD hA hl.1 (k11_X8_low l D cy g a2 (v17) H.size ) rfl rfl rfl rfl rfl ax_23 rfl rfl ax_24 ⟨Nat.le_of_ble_eq_true rfl, Nat.le_of_ble_eq_true rfl⟩ rfl rfl (Nat.le_of_ble_eq_true rfl) dX9_setGas_49 ⟨(Nat.le_of_ble_eq_true rfl), (Nat.le_of_ble_eq_true rfl)⟩) hP hD hS hA rfl rfl rfl (by decide) (fun ad49 H locs hP hD hS => ?_)
  have hP : va_P D vwCl [(a0, .inr (14, [v0, v1, v2, .ref a1, v3, v4, .ref a3])), (a1, .inr (6, [v5, v6, v7, v8, v9, v10, .ref a2, v11, v12, v13, v14, v15, v16])), (a3, .inr (11, [v18, v19, v20, v21, .long 900])), (a2, .inr (13, [.long 900, v17, .int 1]))] H := hP
  have hD : va_D A [(a0, .inr (14, [v0, v1, v2, .ref a1, v3, v4, .ref a3])), (a1, .inr (6, [v5, v6, v7, v8, v9, v10, .ref a2, v11, v12, v13, v14, v15, v16])), (a3, .inr (11, [v18, v19, v20, v21, .long 900])), (a2, .inr (13, [.long 900, v17, .int 1]))] := hD
  refine lv_lstore (lv' := [(4, .long 900), (0, .ref a0), (1, .int x0), (2, .int x1), (3, .int x2)]) hx hb dX9_setGas_52 hl (Nat.le_of_ble_eq_true rfl) rfl (fun ls hl => ?_)
  refine lv_aload_n hx hb dX9_setGas_54 rfl (lv_at hl 1 rfl) ?_
  refine va_get (D := D) (ci := 14) (v := .ref a1) (C := RX9) (T := TX9) (N := 7) hx hb hts ax_16 hown hE.1 hP 0 rfl rfl 3 (by decide) (hts _ tw_199) (fun _ h9 => h9) rfl dX9_setGas_55 ?_
  refine lv_iload_n hx hb dX9_setGas_58 rfl (lv_at hl 2 rfl) ?_
  refine lv_iload_n hx hb dX9_setGas_59 rfl (lv_at hl 3 rfl) ?_
  refine lv_iload_n hx hb dX9_setGas_60 rfl (lv_at hl 4 rfl) ?_
  refine ca_v (isC := [1, 3]) (isR := [0, 2]) (wr := [(a0, .inr (14, [v0, v1, v2, .ref a1, v3, v4, .ref a3])), (a3, .inr (11, [v18, v19, v20, v21, .long 900]))]) (rn_V (ci := 6) (q0 := 1) (isC := [1, 3]) (wc := [(a1, .inr (6, [v5, v6, v7, v8, v9, v10, .ref a2, v11, v12, v13, v14, v15, v16])), (a2, .inr (13, [.long 900, v17, .int 1]))]) (As := [.int x0, .int x1, .int x2]) (rest := []) (n := 3) hx hb hml hown hts hE hS hP hD hA hl.1 (k382_X1_fill l D cy g x0 x1 x2 a1 a2 (v5) (v6) (v7) (v8) (v9) (v10) (v11) (v12) (v13) (v14) (v15) (v16) (.long 900) (v17) (.int 1) H.size h6 h7) rfl rfl rfl rfl rfl ax_274 rfl rfl ax_11 ⟨Nat.le_of_ble_eq_true rfl, Nat.le_of_ble_eq_true rfl⟩ rfl rfl (Nat.le_of_ble_eq_true rfl) dX9_setGas_61 ⟨(Nat.le_of_ble_eq_true rfl), (Nat.le_of_ble_eq_true rfl)⟩) hP hD hS hA rfl rfl rfl (by decide) (fun ad61 H locs hP hD hS => ?_)
  have hP : va_P D vwCl [(a0, .inr (14, [v0, v1, v2, .ref a1, v3, v4, .ref a3])), (a3, .inr (11, [v18, v19, v20, v21, .long 900])), (a1, .inr (6, [v5, v6, v7, v8, .int x0, .int x1, .ref a2, v11, v12, v13, v14, v15, v16])), (a2, .inr (13, [.long (((3 * x0) * x2).toInt64 &&& 1125899906842623), v17, .int 1]))] H := hP
  have hD : va_D A [(a0, .inr (14, [v0, v1, v2, .ref a1, v3, v4, .ref a3])), (a3, .inr (11, [v18, v19, v20, v21, .long 900])), (a1, .inr (6, [v5, v6, v7, v8, .int x0, .int x1, .ref a2, v11, v12, v13, v14, v15, v16])), (a2, .inr (13, [.long (((3 * x0) * x2).toInt64 &&& 1125899906842623), v17, .int 1]))] := hD
  refine lv_aload_n hx hb dX9_setGas_64 rfl (lv_at hl 1 rfl) ?_
  refine va_get (D := D) (ci := 14) (v := .ref a3) (C := RX9) (T := TX9) (N := 7) hx hb hts ax_16 hown hE.1 hP 0 rfl rfl 6 (by decide) (hts _ tw_220) (fun _ h9 => h9) rfl dX9_setGas_65 ?_
  refine lv_dup hx hb dX9_setGas_68 rfl ?_
  refine va_getN (D := D) (ci := 11) (v := .long 900) (C := RX6) (T := TX6) (N := 5) hx hb hts ax_14 hown hE.1 hP 1 rfl rfl 4 (by decide) (hts _ tw_226) (fun _ h9 => h9) rfl dX9_setGas_69 ?_
  refine lv_aload_n hx hb dX9_setGas_72 rfl (lv_at hl 1 rfl) ?_
  refine va_get (D := D) (ci := 14) (v := .ref a1) (C := RX9) (T := TX9) (N := 7) hx hb hts ax_16 hown hE.1 hP 0 rfl rfl 3 (by decide) (hts _ tw_199) (fun _ h9 => h9) rfl dX9_setGas_73 ?_
  refine va_getN (D := D) (ci := 6) (v := .ref a2) (C := RX1) (T := TX1) (N := 13) hx hb hts ax_7 hown hE.1 hP 2 rfl rfl 6 (by decide) (hts _ tw_221) (fun _ h9 => h9) rfl dX9_setGas_76 ?_
  refine ca_l (isC := [3]) (isR := [0, 1, 2]) (wr := [(a0, .inr (14, [v0, v1, v2, .ref a1, v3, v4, .ref a3])), (a3, .inr (11, [v18, v19, v20, v21, .long 900])), (a1, .inr (6, [v5, v6, v7, v8, .int x0, .int x1, .ref a2, v11, v12, v13, v14, v15, v16]))]) (rn_V (ci := 13) (q0 := 3) (isC := [3]) (wc := [(a2, .inr (13, [.long (((3 * x0) * x2).toInt64 &&& 1125899906842623), v17, .int 1]))]) (As := []) (rest := [.long 900, .ref a3]) (n := 0) hx hb hml hown hts hE hS hP hD hA hl.1 (k383_X8_low l D cy g a2 (((3 * x0) * x2).toInt64 &&& 1125899906842623) (v17) H.size ) rfl rfl rfl rfl rfl ax_23 rfl rfl ax_24 ⟨Nat.le_of_ble_eq_true rfl, Nat.le_of_ble_eq_true rfl⟩ rfl rfl (Nat.le_of_ble_eq_true rfl) dX9_setGas_79 ⟨(Nat.le_of_ble_eq_true rfl), (Nat.le_of_ble_eq_true rfl)⟩) hP hD hS hA rfl rfl rfl (by decide) (fun ad79 H locs hP hD hS => ?_)
  have hP : va_P D vwCl [(a0, .inr (14, [v0, v1, v2, .ref a1, v3, v4, .ref a3])), (a3, .inr (11, [v18, v19, v20, v21, .long 900])), (a1, .inr (6, [v5, v6, v7, v8, .int x0, .int x1, .ref a2, v11, v12, v13, v14, v15, v16])), (a2, .inr (13, [.long (((3 * x0) * x2).toInt64 &&& 1125899906842623), v17, .int 1]))] H := hP
  have hD : va_D A [(a0, .inr (14, [v0, v1, v2, .ref a1, v3, v4, .ref a3])), (a3, .inr (11, [v18, v19, v20, v21, .long 900])), (a1, .inr (6, [v5, v6, v7, v8, .int x0, .int x1, .ref a2, v11, v12, v13, v14, v15, v16])), (a2, .inr (13, [.long (((3 * x0) * x2).toInt64 &&& 1125899906842623), v17, .int 1]))] := hD
  refine lv_lload hx hb dX9_setGas_82 (lv_at hl 0 rfl) ?_
  refine lv_lsub hx hb dX9_setGas_84 ?_
  refine lv_ladd hx hb dX9_setGas_85 ?_
  refine va_putN (D := D) (ci := 11) (v := .long (900 + ((((3 * x0) * x2).toInt64 &&& 1125899906842623) - 900))) (ty := .long) (C := RX6) (T := TX6) (N := 5) hx hb hts ax_14 tyX6 tyX6_ok nmX6 hown hE.1 hP hD hS 1 rfl rfl 4 (by decide) (hts _ tw_226) (fun _ h9 => h9) rfl (by decide +kernel) rfl rfl (Nat.le_of_ble_eq_true rfl) dX9_setGas_86 (fun H locs hP hD hS => ?_)
  have hP : va_P D vwCl [(a0, .inr (14, [v0, v1, v2, .ref a1, v3, v4, .ref a3])), (a3, .inr (11, [v18, v19, v20, v21, .long (900 + ((((3 * x0) * x2).toInt64 &&& 1125899906842623) - 900))])), (a1, .inr (6, [v5, v6, v7, v8, .int x0, .int x1, .ref a2, v11, v12, v13, v14, v15, v16])), (a2, .inr (13, [.long (((3 * x0) * x2).toInt64 &&& 1125899906842623), v17, .int 1]))] H := hP
  have hD : va_D A [(a0, .inr (14, [v0, v1, v2, .ref a1, v3, v4, .ref a3])), (a3, .inr (11, [v18, v19, v20, v21, .long (900 + ((((3 * x0) * x2).toInt64 &&& 1125899906842623) - 900))])), (a1, .inr (6, [v5, v6, v7, v8, .int x0, .int x1, .ref a2, v11, v12, v13, v14, v15, v16])), (a2, .inr (13, [.long (((3 * x0) * x2).toInt64 &&& 1125899906842623), v17, .int 1]))] := hD
  refine lv_lload hx hb dX9_setGas_89 (lv_at hl 0 rfl) ?_
  refine lv_l2i (v := 900) hx hb dX9_setGas_91 (by decide) ?_
  exact en_z hx hb hr hlk hP hD hS rfl (fun _ => 0) (is := [0, 2, 3, 1]) rfl rfl (Nat.le_of_ble_eq_true rfl) (Nat.le_of_ble_eq_true rfl) dX9_setGas_92
set_option maxHeartbeats 4000000 in
set_option maxRecDepth 100000 in
theorem k385_L_setGas (l : Launch) (D : va_G) (cy : Nat → ClassId) (g : Nat → Nat) (x0 : Int32) (x1 : Int32) (x2 : Int32) (a0 : Nat) (a1 : Nat) (a2 : Nat) (a3 : Nat) (a4 : Nat) (v0 : Value) (v1 : Value) (v2 : Value) (v3 : Value) (v4 : Value) (v5 : Value) (v6 : Value) (v7 : Value) (v8 : Value) (v9 : Value) (v10 : Value) (v11 : Value) (v12 : Value) (v13 : Value) (v14 : Value) (v15 : Value) (v16 : Value) (v17 : Value) (v18 : Value) (v19 : Value) (v20 : Value) (v21 : Value) (f0 : Nat → Int64) (sz : Nat) (h0 : ¬ x0 < 1) (h1 : ¬ (20 : Int32) < x0) (h2 : ¬ x1 < 1) (h3 : ¬ (100 : Int32) < x1) (h4 : ¬ x2 < 50) (h5 : ¬ (2000 : Int32) < x2) (h6 : ¬ (((3 * x0) * x2).toInt64 &&& 1125899906842623) = 0) (h7 : ((3 * x0) * x2).toInt64 < 1125899906842624) : Met l yL_setGas [.codeWith yL_setGas cL_setGas 6 (some .int) [(0, 12, 15, 13)]] ({ frames := 3, cells := 0, slots := 0, locals := 70 }) (PC D cy g [(a0, .inr (14, [v0, v1, v2, .ref a1, v3, v4, .ref a3])), (a1, .inr (6, [v5, v6, v7, v8, v9, v10, .ref a2, v11, v12, v13, v14, v15, v16])), (a2, .inr (13, [.long 900, v17, .int 1])), (a3, .inr (11, [v18, v19, v20, v21, .long 900])), (a4, .inl (cy 2, 1, .inr (.inl f0)))] sz [.ref a0, .int x0, .int x1, .int x2, .ref a4]) (QI D 0 (fun ad => [(a4, .inl (cy 2, 1, .inr (.inl (vp_updL f0 (0 : Int32).toNatClampNeg 900))))]) (va_A [(a0, .inr (14, [v0, v1, v2, .ref a1, v3, v4, .ref a3])), (a1, .inr (6, [v5, v6, v7, v8, v9, v10, .ref a2, v11, v12, v13, v14, v15, v16])), (a2, .inr (13, [.long 900, v17, .int 1])), (a3, .inr (11, [v18, v19, v20, v21, .long 900])), (a4, .inl (cy 2, 1, .inr (.inl f0)))] sz)) 0 0 (va_A [(a0, .inr (14, [v0, v1, v2, .ref a1, v3, v4, .ref a3])), (a1, .inr (6, [v5, v6, v7, v8, v9, v10, .ref a2, v11, v12, v13, v14, v15, v16])), (a2, .inr (13, [.long 900, v17, .int 1])), (a3, .inr (11, [v18, v19, v20, v21, .long 900])), (a4, .inl (cy 2, 1, .inr (.inl f0)))] sz) := by
  refine sh_I (by decide) (Nat.le_of_ble_eq_true rfl) ?_
  intro p e s m args below meth c A ls hx hb hr hml hown hlk hnm hsz hP hD hA hE hts hS hl htb
  have hown : s.vm.findClass RL = some m.cls := hown
  have hl : lv_has ls 6 [(0, .ref a0), (1, .int x0), (2, .int x1), (3, .int x2), (4, .ref a4)] := hl
  refine lv_aload hx hb dL_setGas_0 (lv_at hl 4 rfl) ?_
  refine lv_iconst (v := 0) hx hb dL_setGas_2 (by decide) ?_
  refine lv_aload_n hx hb dL_setGas_3 rfl (lv_at hl 0 rfl) ?_
  refine lv_iload_n hx hb dL_setGas_4 rfl (lv_at hl 1 rfl) ?_
  refine lv_iload_n hx hb dL_setGas_5 rfl (lv_at hl 2 rfl) ?_
  refine lv_iload_n hx hb dL_setGas_6 rfl (lv_at hl 3 rfl) ?_
  refine ca_i (isC := [0, 1, 2, 3]) (isR := [4]) (wr := [(a4, .inl (cy 2, 1, .inr (.inl f0)))]) (rn_V (ci := 14) (q0 := 0) (isC := [0, 1, 2, 3]) (wc := [(a0, .inr (14, [v0, v1, v2, .ref a1, v3, v4, .ref a3])), (a1, .inr (6, [v5, v6, v7, v8, v9, v10, .ref a2, v11, v12, v13, v14, v15, v16])), (a2, .inr (13, [.long 900, v17, .int 1])), (a3, .inr (11, [v18, v19, v20, v21, .long 900]))]) (As := [.int x0, .int x1, .int x2]) (rest := [.int 0, .ref a4]) (n := 3) hx hb hml hown hts hE hS hP hD hA hl.1 (k384_X9_setGas l D cy g x0 x1 x2 a0 a1 a2 a3 (v0) (v1) (v2) (v3) (v4) (v5) (v6) (v7) (v8) (v9) (v10) (v11) (v12) (v13) (v14) (v15) (v16) (v17) (v18) (v19) (v20) (v21) s.heap.size h0 h1 h2 h3 h4 h5 h6 h7) rfl rfl rfl rfl rfl ax_268 rfl rfl ax_269 ⟨Nat.le_of_ble_eq_true rfl, Nat.le_of_ble_eq_true rfl⟩ rfl rfl (Nat.le_of_ble_eq_true rfl) dL_setGas_7 ⟨(Nat.le_of_ble_eq_true rfl), (Nat.le_of_ble_eq_true rfl)⟩) hP hD hS hA rfl rfl rfl (by decide) (fun ad7 H locs hP hD hS => ?_)
  have hP : va_P D vwCl [(a4, .inl (cy 2, 1, .inr (.inl f0))), (a0, .inr (14, [v0, v1, v2, .ref a1, v3, v4, .ref a3])), (a1, .inr (6, [v5, v6, v7, v8, .int x0, .int x1, .ref a2, v11, v12, v13, v14, v15, v16])), (a2, .inr (13, [.long (((3 * x0) * x2).toInt64 &&& 1125899906842623), v17, .int 1])), (a3, .inr (11, [v18, v19, v20, v21, .long (900 + ((((3 * x0) * x2).toInt64 &&& 1125899906842623) - 900))]))] H := hP
  have hD : va_D A [(a4, .inl (cy 2, 1, .inr (.inl f0))), (a0, .inr (14, [v0, v1, v2, .ref a1, v3, v4, .ref a3])), (a1, .inr (6, [v5, v6, v7, v8, .int x0, .int x1, .ref a2, v11, v12, v13, v14, v15, v16])), (a2, .inr (13, [.long (((3 * x0) * x2).toInt64 &&& 1125899906842623), v17, .int 1])), (a3, .inr (11, [v18, v19, v20, v21, .long (900 + ((((3 * x0) * x2).toInt64 &&& 1125899906842623) - 900))]))] := hD
  refine lv_i2l (v := 900) hx hb dL_setGas_10 (by decide) ?_
  refine va_last hx hb hE.1 hP hD hS 0 2 rfl rfl (by unfold vp_in; decide) dL_setGas_11 (fun H locs hP hD hS => ?_)
  have hP : va_P D vwCl [(a4, .inl (cy 2, 1, .inr (.inl (vp_updL f0 (0 : Int32).toNatClampNeg 900)))), (a0, .inr (14, [v0, v1, v2, .ref a1, v3, v4, .ref a3])), (a1, .inr (6, [v5, v6, v7, v8, .int x0, .int x1, .ref a2, v11, v12, v13, v14, v15, v16])), (a2, .inr (13, [.long (((3 * x0) * x2).toInt64 &&& 1125899906842623), v17, .int 1])), (a3, .inr (11, [v18, v19, v20, v21, .long (900 + ((((3 * x0) * x2).toInt64 &&& 1125899906842623) - 900))]))] H := hP
  have hD : va_D A [(a4, .inl (cy 2, 1, .inr (.inl (vp_updL f0 (0 : Int32).toNatClampNeg 900)))), (a0, .inr (14, [v0, v1, v2, .ref a1, v3, v4, .ref a3])), (a1, .inr (6, [v5, v6, v7, v8, .int x0, .int x1, .ref a2, v11, v12, v13, v14, v15, v16])), (a2, .inr (13, [.long (((3 * x0) * x2).toInt64 &&& 1125899906842623), v17, .int 1])), (a3, .inr (11, [v18, v19, v20, v21, .long (900 + ((((3 * x0) * x2).toInt64 &&& 1125899906842623) - 900))]))] := hD
  refine lv_goto (tgt := 19) hx hb dL_setGas_12 (by decide) ?_
  refine lv_iconst (v := 0) hx hb dL_setGas_19 (by decide) ?_
  exact en_z hx hb hr hlk hP hD hS rfl (fun _ => 0) (is := [0]) rfl rfl (Nat.le_of_ble_eq_true rfl) (Nat.le_of_ble_eq_true rfl) dL_setGas_20
set_option maxHeartbeats 4000000 in
set_option maxRecDepth 100000 in
theorem k386_X1_fill (l : Launch) (D : va_G) (cy : Nat → ClassId) (g : Nat → Nat) (x0 : Int32) (x1 : Int32) (x2 : Int32) (a0 : Nat) (a1 : Nat) (a2 : Nat) (v0 : Value) (v1 : Value) (v2 : Value) (v3 : Value) (v4 : Value) (v5 : Value) (v6 : Value) (v7 : Value) (v8 : Value) (v9 : Value) (v10 : Value) (v11 : Value) (v12 : Value) (v13 : Value) (f0 : Nat → Int64) (sz : Nat) (h0 : ¬ (((3 * x0) * x2).toInt64 &&& 1125899906842623) = 0) (h1 : ¬ ((3 * x0) * x2).toInt64 < 1125899906842624) : Met l yX1_fill [.code yX1_fill cX1_fill 4 none] ({ frames := 2, cells := 0, slots := 0, locals := 45 }) (PC D cy g [(a0, .inr (6, [v0, v1, v2, v3, v4, v5, .ref a1, v6, v7, v8, v9, v10, v11])), (a1, .inr (13, [v12, .ref a2, v13])), (a2, .inl (cy 2, 1, .inr (.inl f0)))] sz [.ref a0, .int x0, .int x1, .int x2]) (QV D (fun ad => [(a0, .inr (6, [v0, v1, v2, v3, .int x0, .int x1, .ref a1, v6, v7, v8, v9, v10, v11])), (a1, .inr (13, [.long (((3 * x0) * x2).toInt64 &&& 1125899906842623), .ref a2, .int 2])), (a2, .inl (cy 2, 1, .inr (.inl (vp_updL f0 (0 : Int32).toNatClampNeg (((3 * x0) * x2).toInt64 >>> ((50 : Int32).toInt64 &&& 63))))))]) (va_A [(a0, .inr (6, [v0, v1, v2, v3, v4, v5, .ref a1, v6, v7, v8, v9, v10, v11])), (a1, .inr (13, [v12, .ref a2, v13])), (a2, .inl (cy 2, 1, .inr (.inl f0)))] sz)) 0 0 (va_A [(a0, .inr (6, [v0, v1, v2, v3, v4, v5, .ref a1, v6, v7, v8, v9, v10, v11])), (a1, .inr (13, [v12, .ref a2, v13])), (a2, .inl (cy 2, 1, .inr (.inl f0)))] sz) := by
  refine st_V (by decide) (Nat.le_of_ble_eq_true rfl) ?_
  intro p e s m args below meth c A ls hx hb hr hml hown hlk hnm hsz hP hD hA hE hts hS hl
  have hown : s.vm.findClass RX1 = some m.cls := hown
  have hl : lv_has ls 4 [(0, .ref a0), (1, .int x0), (2, .int x1), (3, .int x2)] := hl
  refine lv_aload_n hx hb dX1_fill_0 rfl (lv_at hl 0 rfl) ?_
  refine lv_iload_n hx hb dX1_fill_1 rfl (lv_at hl 1 rfl) ?_
  refine va_put (D := D) (ci := 6) (v := .int x0) (ty := .int) (C := RX1) (T := TX1) (N := 13) hx hb hts ax_7 tyX1 tyX1_ok nmX1 hown hE.1 hP hD hS 0 rfl rfl 4 (by decide) (hts _ tw_99) (fun _ h9 => h9) rfl (by decide +kernel) rfl rfl (Nat.le_of_ble_eq_true rfl) dX1_fill_2 (fun H locs hP hD hS => ?_)
  have hP : va_P D vwCl [(a0, .inr (6, [v0, v1, v2, v3, .int x0, v5, .ref a1, v6, v7, v8, v9, v10, v11])), (a1, .inr (13, [v12, .ref a2, v13])), (a2, .inl (cy 2, 1, .inr (.inl f0)))] H := hP
  have hD : va_D A [(a0, .inr (6, [v0, v1, v2, v3, .int x0, v5, .ref a1, v6, v7, v8, v9, v10, v11])), (a1, .inr (13, [v12, .ref a2, v13])), (a2, .inl (cy 2, 1, .inr (.inl f0)))] := hD
  refine lv_aload_n hx hb dX1_fill_5 rfl (lv_at hl 0 rfl) ?_
  refine lv_iload_n hx hb dX1_fill_6 rfl (lv_at hl 2 rfl) ?_
  refine va_put (D := D) (ci := 6) (v := .int x1) (ty := .int) (C := RX1) (T := TX1) (N := 13) hx hb hts ax_7 tyX1 tyX1_ok nmX1 hown hE.1 hP hD hS 0 rfl rfl 5 (by decide) (hts _ tw_100) (fun _ h9 => h9) rfl (by decide +kernel) rfl rfl (Nat.le_of_ble_eq_true rfl) dX1_fill_7 (fun H locs hP hD hS => ?_)
  have hP : va_P D vwCl [(a0, .inr (6, [v0, v1, v2, v3, .int x0, .int x1, .ref a1, v6, v7, v8, v9, v10, v11])), (a1, .inr (13, [v12, .ref a2, v13])), (a2, .inl (cy 2, 1, .inr (.inl f0)))] H := hP
  have hD : va_D A [(a0, .inr (6, [v0, v1, v2, v3, .int x0, .int x1, .ref a1, v6, v7, v8, v9, v10, v11])), (a1, .inr (13, [v12, .ref a2, v13])), (a2, .inl (cy 2, 1, .inr (.inl f0)))] := hD
  refine lv_aload_n hx hb dX1_fill_10 rfl (lv_at hl 0 rfl) ?_
  refine va_get (D := D) (ci := 6) (v := .ref a1) (C := RX1) (T := TX1) (N := 13) hx hb hts ax_7 hown hE.1 hP 0 rfl rfl 6 (by decide) (hts _ tw_101) (fun _ h9 => h9) rfl dX1_fill_11 ?_
  refine lv_iconst (v := 3) hx hb dX1_fill_14 (by decide) ?_
  refine lv_iload_n hx hb dX1_fill_15 rfl (lv_at hl 1 rfl) ?_
  refine lv_imul hx hb dX1_fill_16 ?_
  refine lv_iload_n hx hb dX1_fill_17 rfl (lv_at hl 3 rfl) ?_
  refine lv_imul hx hb dX1_fill_18 ?_
  refine lv_i2l (v := ((3 * x0) * x2).toInt64) hx hb dX1_fill_19 rfl ?_
  refine ca_v (isC := [1, 2]) (isR := [0]) (wr := [(a0, .inr (6, [v0, v1, v2, v3, .int x0, .int x1, .ref a1, v6, v7, v8, v9, v10, v11]))]) (rn_V (ci := 13) (q0 := 1) (isC := [1, 2]) (wc := [(a1, .inr (13, [v12, .ref a2, v13])), (a2, .inl (cy 2, 1, .inr (.inl f0)))]) (As := [.long (((3 * x0) * x2).toInt64)]) (rest := []) (n := 1) hx hb hml hown hts hE hS hP hD hA hl.1 (k62_X8_set l D cy g (((3 * x0) * x2).toInt64) a1 a2 (v12) (v13) f0 H.size h0 h1) rfl rfl rfl rfl rfl ax_8 rfl rfl ax_9 ⟨Nat.le_of_ble_eq_true rfl, Nat.le_of_ble_eq_true rfl⟩ rfl rfl (Nat.le_of_ble_eq_true rfl) dX1_fill_20 ⟨(Nat.le_of_ble_eq_true rfl), (Nat.le_of_ble_eq_true rfl)⟩) hP hD hS hA rfl rfl rfl (by decide) (fun ad20 H locs hP hD hS => ?_)
  have hP : va_P D vwCl [(a0, .inr (6, [v0, v1, v2, v3, .int x0, .int x1, .ref a1, v6, v7, v8, v9, v10, v11])), (a1, .inr (13, [.long (((3 * x0) * x2).toInt64 &&& 1125899906842623), .ref a2, .int 2])), (a2, .inl (cy 2, 1, .inr (.inl (vp_updL f0 (0 : Int32).toNatClampNeg (((3 * x0) * x2).toInt64 >>> ((50 : Int32).toInt64 &&& 63))))))] H := hP
  have hD : va_D A [(a0, .inr (6, [v0, v1, v2, v3, .int x0, .int x1, .ref a1, v6, v7, v8, v9, v10, v11])), (a1, .inr (13, [.long (((3 * x0) * x2).toInt64 &&& 1125899906842623), .ref a2, .int 2])), (a2, .inl (cy 2, 1, .inr (.inl (vp_updL f0 (0 : Int32).toNatClampNeg (((3 * x0) * x2).toInt64 >>> ((50 : Int32).toInt64 &&& 63))))))] := hD
  exact en_v hx hb hr hlk hP hD hS (fun _ => 0) (is := [0, 1, 2]) rfl rfl (Nat.le_of_ble_eq_true rfl) (Nat.le_of_ble_eq_true rfl) dX1_fill_23
set_option maxHeartbeats 4000000 in
set_option maxRecDepth 100000 in
theorem k387_X9_setGas (l : Launch) (D : va_G) (cy : Nat → ClassId) (g : Nat → Nat) (x0 : Int32) (x1 : Int32) (x2 : Int32) (a0 : Nat) (a1 : Nat) (a2 : Nat) (a3 : Nat) (a4 : Nat) (v0 : Value) (v1 : Value) (v2 : Value) (v3 : Value) (v4 : Value) (v5 : Value) (v6 : Value) (v7 : Value) (v8 : Value) (v9 : Value) (v10 : Value) (v11 : Value) (v12 : Value) (v13 : Value) (v14 : Value) (v15 : Value) (v16 : Value) (v17 : Value) (v18 : Value) (v19 : Value) (v20 : Value) (sz : Nat) (h0 : ¬ x0 < 1) (h1 : ¬ (20 : Int32) < x0) (h2 : ¬ x1 < 1) (h3 : ¬ (100 : Int32) < x1) (h4 : ¬ x2 < 50) (h5 : ¬ (2000 : Int32) < x2) (h6 : ¬ (((3 * x0) * x2).toInt64 &&& 1125899906842623) = 0) (h7 : ¬ ((3 * x0) * x2).toInt64 < 1125899906842624) : Met l yX9_setGas [.code yX9_setGas cX9_setGas 6 (some .int)] ({ frames := 3, cells := 0, slots := 0, locals := 68 }) (PC D cy g [(a0, .inr (14, [v0, v1, v2, .ref a1, v3, v4, .ref a4])), (a1, .inr (6, [v5, v6, v7, v8, v9, v10, .ref a2, v11, v12, v13, v14, v15, v16])), (a2, .inr (13, [.long 900, .ref a3, .int 1])), (a3, .inl (cy 2, 1, .inr (.inl (fun _ => 0)))), (a4, .inr (11, [v17, v18, v19, v20, .long 900]))] sz [.ref a0, .int x0, .int x1, .int x2]) (QI D 900 (fun ad => [(a0, .inr (14, [v0, v1, v2, .ref a1, v3, v4, .ref a4])), (a1, .inr (6, [v5, v6, v7, v8, .int x0, .int x1, .ref a2, v11, v12, v13, v14, v15, v16])), (a2, .inr (13, [.long (((3 * x0) * x2).toInt64 &&& 1125899906842623), .ref a3, .int 2])), (a3, .inl (cy 2, 1, .inr (.inl (vp_updL (fun _ => 0) (0 : Int32).toNatClampNeg (((3 * x0) * x2).toInt64 >>> ((50 : Int32).toInt64 &&& 63)))))), (a4, .inr (11, [v17, v18, v19, v20, .long (900 + (((((3 * x0) * x2).toInt64 &&& 1125899906842623) + ((((3 * x0) * x2).toInt64 >>> ((50 : Int32).toInt64 &&& 63)) <<< ((50 : Int32).toInt64 &&& 63))) - 900))]))]) (va_A [(a0, .inr (14, [v0, v1, v2, .ref a1, v3, v4, .ref a4])), (a1, .inr (6, [v5, v6, v7, v8, v9, v10, .ref a2, v11, v12, v13, v14, v15, v16])), (a2, .inr (13, [.long 900, .ref a3, .int 1])), (a3, .inl (cy 2, 1, .inr (.inl (fun _ => 0)))), (a4, .inr (11, [v17, v18, v19, v20, .long 900]))] sz)) 0 0 (va_A [(a0, .inr (14, [v0, v1, v2, .ref a1, v3, v4, .ref a4])), (a1, .inr (6, [v5, v6, v7, v8, v9, v10, .ref a2, v11, v12, v13, v14, v15, v16])), (a2, .inr (13, [.long 900, .ref a3, .int 1])), (a3, .inl (cy 2, 1, .inr (.inl (fun _ => 0)))), (a4, .inr (11, [v17, v18, v19, v20, .long 900]))] sz) := by
  refine st_I (by decide) (Nat.le_of_ble_eq_true rfl) ?_
  intro p e s m args below meth c A ls hx hb hr hml hown hlk hnm hsz hP hD hA hE hts hS hl
  have hown : s.vm.findClass RX9 = some m.cls := hown
  have hl : lv_has ls 6 [(0, .ref a0), (1, .int x0), (2, .int x1), (3, .int x2)] := hl
  refine lv_iload_n hx hb dX9_setGas_0 rfl (lv_at hl 1 rfl) ?_
  refine lv_iconst (v := 1) hx hb dX9_setGas_1 (by decide) ?_
  refine lv_bipush (v := 20) hx hb dX9_setGas_2 (by decide) ?_
  refine ca_i (isC := []) (isR := [0, 1, 2, 3, 4]) (wr := [(a0, .inr (14, [v0, v1, v2, .ref a1, v3, v4, .ref a4])), (a1, .inr (6, [v5, v6, v7, v8, v9, v10, .ref a2, v11, v12, v13, v14, v15, v16])), (a2, .inr (13, [.long 900, .ref a3, .int 1])), (a3, .inl (cy 2, 1, .inr (.inl (fun _ => 0)))), (a4, .inr (11, [v17, v18, v19, v20, .long 900]))]) (rn_S (isC := []) (wc := []) (As := [.int x0, .int 1, .int 20]) (rest := []) (n := 3) hx hb hml hown hts hE hS hP hD hA hl.1 (k30_X9_isOutside l D cy g x0 1 20 s.heap.size h0 h1) rfl rfl ax_30 rfl rfl ax_31 ⟨Nat.le_of_ble_eq_true rfl, Nat.le_of_ble_eq_true rfl⟩ rfl rfl (Nat.le_of_ble_eq_true rfl) dX9_setGas_4 ⟨(Nat.le_of_ble_eq_true rfl), (Nat.le_of_ble_eq_true rfl)⟩) hP hD hS hA rfl rfl rfl (by decide) (fun ad4 H locs hP hD hS => ?_)
  have hP : va_P D vwCl [(a0, .inr (14, [v0, v1, v2, .ref a1, v3, v4, .ref a4])), (a1, .inr (6, [v5, v6, v7, v8, v9, v10, .ref a2, v11, v12, v13, v14, v15, v16])), (a2, .inr (13, [.long 900, .ref a3, .int 1])), (a3, .inl (cy 2, 1, .inr (.inl (fun _ => 0)))), (a4, .inr (11, [v17, v18, v19, v20, .long 900]))] H := hP
  have hD : va_D A [(a0, .inr (14, [v0, v1, v2, .ref a1, v3, v4, .ref a4])), (a1, .inr (6, [v5, v6, v7, v8, v9, v10, .ref a2, v11, v12, v13, v14, v15, v16])), (a2, .inr (13, [.long 900, .ref a3, .int 1])), (a3, .inl (cy 2, 1, .inr (.inl (fun _ => 0)))), (a4, .inr (11, [v17, v18, v19, v20, .long 900]))] := hD
  refine lv_if_ne (tgt := 32) hx hb dX9_setGas_7 (by decide) (fun z => absurd (by decide) z) (fun _ => ?_)
  refine lv_iload_n hx hb dX9_setGas_10 rfl (lv_at hl 2 rfl) ?_
  refine lv_iconst (v := 1) hx hb dX9_setGas_11 (by decide) ?_
  refine lv_bipush (v := 100) hx hb dX9_setGas_12 (by decide) ?_
  refine ca_i (isC := []) (isR := [0, 1, 2, 3, 4]) (wr := [(a0, .inr (14, [v0, v1, v2, .ref a1, v3, v4, .ref a4])), (a1, .inr (6, [v5, v6, v7, v8, v9, v10, .ref a2, v11, v12, v13, v14, v15, v16])), (a2, .inr (13, [.long 900, .ref a3, .int 1])), (a3, .inl (cy 2, 1, .inr (.inl (fun _ => 0)))), (a4, .inr (11, [v17, v18, v19, v20, .long 900]))]) (rn_S (isC := []) (wc := []) (As := [.int x1, .int 1, .int 100]) (rest := []) (n := 3) hx hb hml hown hts hE hS hP hD hA hl.1 (k30_X9_isOutside l D cy g x1 1 100 H.size h2 h3) rfl rfl ax_30 rfl rfl ax_31 ⟨Nat.le_of_ble_eq_true rfl, Nat.le_of_ble_eq_true rfl⟩ rfl rfl (Nat.le_of_ble_eq_true rfl) dX9_setGas_14 ⟨(Nat.le_of_ble_eq_true rfl), (Nat.le_of_ble_eq_true rfl)⟩) hP hD hS hA rfl rfl rfl (by decide) (fun ad14 H locs hP hD hS => ?_)
  have hP : va_P D vwCl [(a0, .inr (14, [v0, v1, v2, .ref a1, v3, v4, .ref a4])), (a1, .inr (6, [v5, v6, v7, v8, v9, v10, .ref a2, v11, v12, v13, v14, v15, v16])), (a2, .inr (13, [.long 900, .ref a3, .int 1])), (a3, .inl (cy 2, 1, .inr (.inl (fun _ => 0)))), (a4, .inr (11, [v17, v18, v19, v20, .long 900]))] H := hP
  have hD : va_D A [(a0, .inr (14, [v0, v1, v2, .ref a1, v3, v4, .ref a4])), (a1, .inr (6, [v5, v6, v7, v8, v9, v10, .ref a2, v11, v12, v13, v14, v15, v16])), (a2, .inr (13, [.long 900, .ref a3, .int 1])), (a3, .inl (cy 2, 1, .inr (.inl (fun _ => 0)))), (a4, .inr (11, [v17, v18, v19, v20, .long 900]))] := hD
  refine lv_if_ne (tgt := 32) hx hb dX9_setGas_17 (by decide) (fun z => absurd (by decide) z) (fun _ => ?_)
  refine lv_iload_n hx hb dX9_setGas_20 rfl (lv_at hl 3 rfl) ?_
  refine lv_bipush (v := 50) hx hb dX9_setGas_21 (by decide) ?_
  refine lv_sipush (v := 2000) hx hb dX9_setGas_23 (by decide) ?_
  refine ca_i (isC := []) (isR := [0, 1, 2, 3, 4]) (wr := [(a0, .inr (14, [v0, v1, v2, .ref a1, v3, v4, .ref a4])), (a1, .inr (6, [v5, v6, v7, v8, v9, v10, .ref a2, v11, v12, v13, v14, v15, v16])), (a2, .inr (13, [.long 900, .ref a3, .int 1])), (a3, .inl (cy 2, 1, .inr (.inl (fun _ => 0)))), (a4, .inr (11, [v17, v18, v19, v20, .long 900]))]) (rn_S (isC := []) (wc := []) (As := [.int x2, .int 50, .int 2000]) (rest := []) (n := 3) hx hb hml hown hts hE hS hP hD hA hl.1 (k30_X9_isOutside l D cy g x2 50 2000 H.size h4 h5) rfl rfl ax_30 rfl rfl ax_31 ⟨Nat.le_of_ble_eq_true rfl, Nat.le_of_ble_eq_true rfl⟩ rfl rfl (Nat.le_of_ble_eq_true rfl) dX9_setGas_26 ⟨(Nat.le_of_ble_eq_true rfl), (Nat.le_of_ble_eq_true rfl)⟩) hP hD hS hA rfl rfl rfl (by decide) (fun ad26 H locs hP hD hS => ?_)
  have hP : va_P D vwCl [(a0, .inr (14, [v0, v1, v2, .ref a1, v3, v4, .ref a4])), (a1, .inr (6, [v5, v6, v7, v8, v9, v10, .ref a2, v11, v12, v13, v14, v15, v16])), (a2, .inr (13, [.long 900, .ref a3, .int 1])), (a3, .inl (cy 2, 1, .inr (.inl (fun _ => 0)))), (a4, .inr (11, [v17, v18, v19, v20, .long 900]))] H := hP
  have hD : va_D A [(a0, .inr (14, [v0, v1, v2, .ref a1, v3, v4, .ref a4])), (a1, .inr (6, [v5, v6, v7, v8, v9, v10, .ref a2, v11, v12, v13, v14, v15, v16])), (a2, .inr (13, [.long 900, .ref a3, .int 1])), (a3, .inl (cy 2, 1, .inr (.inl (fun _ => 0)))), (a4, .inr (11, [v17, v18, v19, v20, .long 900]))] := hD
  refine lv_if_eq (tgt := 42) hx hb dX9_setGas_29 (by decide) (fun _ => ?_) (fun z => absurd (by decide) z)
  refine lv_aload_n hx hb dX9_setGas_42 rfl (lv_at hl 0 rfl) ?_
  refine va_get (D := D) (ci := 14) (v := .ref a1) (C := RX9) (T := TX9) (N := 7) hx hb hts ax_16 hown hE.1 hP 0 rfl rfl 3 (by decide) (hts _ tw_199) (fun _ h9 => h9) rfl dX9_setGas_43 ?_
  refine va_getN (D := D) (ci := 6) (v := .ref a2) (C := RX1) (T := TX1) (N := 13) hx hb hts ax_7 hown hE.1 hP 1 rfl rfl 6 (by decide) (hts _ tw_221) (fun _ h9 => h9) rfl dX9_setGas_46 ?_
  refine ca_l (isC := [2]) (isR := [0, 1, 3, 4]) (wr := [(a0, .inr (14, [v0, v1, v2, .ref a1, v3, v4, .ref a4])), (a1, .inr (6, [v5, v6, v7, v8, v9, v10, .ref a2, v11, v12, v13, v14, v15, v16])), (a3, .inl (cy 2, 1, .inr (.inl (fun _ => 0)))), (a4, .inr (11, [v17, v18, v19, v20, .long 900]))]) (rn_V (ci := 13) (q0 := 2) (isC := [2]) (wc := [(a2, .inr (13, [.long 900, .ref a3, .int 1]))]) (As := []) (rest := []) (n := 0) hx hb hml hown hts hE hS hP hD hA hl.1 (k11_X8_low l D cy g a2 (.ref a3) H.size ) rfl rfl rfl rfl rfl ax_23 rfl rfl ax_24 ⟨Nat.le_of_ble_eq_true rfl, Nat.le_of_ble_eq_true rfl⟩ rfl rfl (Nat.le_of_ble_eq_true rfl) dX9_setGas_49 ⟨(Nat.le_of_ble_eq_true rfl), (Nat.le_of_ble_eq_true rfl)⟩) hP hD hS hA rfl rfl rfl (by decide) (fun ad49 H locs hP hD hS => ?_)
  have hP : va_P D vwCl [(a0, .inr (14, [v0, v1, v2, .ref a1, v3, v4, .ref a4])), (a1, .inr (6, [v5, v6, v7, v8, v9, v10, .ref a2, v11, v12, v13, v14, v15, v16])), (a3, .inl (cy 2, 1, .inr (.inl (fun _ => 0)))), (a4, .inr (11, [v17, v18, v19, v20, .long 900])), (a2, .inr (13, [.long 900, .ref a3, .int 1]))] H := hP
  have hD : va_D A [(a0, .inr (14, [v0, v1, v2, .ref a1, v3, v4, .ref a4])), (a1, .inr (6, [v5, v6, v7, v8, v9, v10, .ref a2, v11, v12, v13, v14, v15, v16])), (a3, .inl (cy 2, 1, .inr (.inl (fun _ => 0)))), (a4, .inr (11, [v17, v18, v19, v20, .long 900])), (a2, .inr (13, [.long 900, .ref a3, .int 1]))] := hD
  refine lv_lstore (lv' := [(4, .long 900), (0, .ref a0), (1, .int x0), (2, .int x1), (3, .int x2)]) hx hb dX9_setGas_52 hl (Nat.le_of_ble_eq_true rfl) rfl (fun ls hl => ?_)
  refine lv_aload_n hx hb dX9_setGas_54 rfl (lv_at hl 1 rfl) ?_
  refine va_get (D := D) (ci := 14) (v := .ref a1) (C := RX9) (T := TX9) (N := 7) hx hb hts ax_16 hown hE.1 hP 0 rfl rfl 3 (by decide) (hts _ tw_199) (fun _ h9 => h9) rfl dX9_setGas_55 ?_
  refine lv_iload_n hx hb dX9_setGas_58 rfl (lv_at hl 2 rfl) ?_
  refine lv_iload_n hx hb dX9_setGas_59 rfl (lv_at hl 3 rfl) ?_
  refine lv_iload_n hx hb dX9_setGas_60 rfl (lv_at hl 4 rfl) ?_
  refine ca_v (isC := [1, 4, 2]) (isR := [0, 3]) (wr := [(a0, .inr (14, [v0, v1, v2, .ref a1, v3, v4, .ref a4])), (a4, .inr (11, [v17, v18, v19, v20, .long 900]))]) (rn_V (ci := 6) (q0 := 1) (isC := [1, 4, 2]) (wc := [(a1, .inr (6, [v5, v6, v7, v8, v9, v10, .ref a2, v11, v12, v13, v14, v15, v16])), (a2, .inr (13, [.long 900, .ref a3, .int 1])), (a3, .inl (cy 2, 1, .inr (.inl (fun _ => 0))))]) (As := [.int x0, .int x1, .int x2]) (rest := []) (n := 3) hx hb hml hown hts hE hS hP hD hA hl.1 (k386_X1_fill l D cy g x0 x1 x2 a1 a2 a3 (v5) (v6) (v7) (v8) (v9) (v10) (v11) (v12) (v13) (v14) (v15) (v16) (.long 900) (.int 1) (fun _ => 0) H.size h6 h7) rfl rfl rfl rfl rfl ax_274 rfl rfl ax_11 ⟨Nat.le_of_ble_eq_true rfl, Nat.le_of_ble_eq_true rfl⟩ rfl rfl (Nat.le_of_ble_eq_true rfl) dX9_setGas_61 ⟨(Nat.le_of_ble_eq_true rfl), (Nat.le_of_ble_eq_true rfl)⟩) hP hD hS hA rfl rfl rfl (by decide) (fun ad61 H locs hP hD hS => ?_)
  have hP : va_P D vwCl [(a0, .inr (14, [v0, v1, v2, .ref a1, v3, v4, .ref a4])), (a4, .inr (11, [v17, v18, v19, v20, .long 900])), (a1, .inr (6, [v5, v6, v7, v8, .int x0, .int x1, .ref a2, v11, v12, v13, v14, v15, v16])), (a2, .inr (13, [.long (((3 * x0) * x2).toInt64 &&& 1125899906842623), .ref a3, .int 2])), (a3, .inl (cy 2, 1, .inr (.inl (vp_updL (fun _ => 0) (0 : Int32).toNatClampNeg (((3 * x0) * x2).toInt64 >>> ((50 : Int32).toInt64 &&& 63))))))] H := hP
  have hD : va_D A [(a0, .inr (14, [v0, v1, v2, .ref a1, v3, v4, .ref a4])), (a4, .inr (11, [v17, v18, v19, v20, .long 900])), (a1, .inr (6, [v5, v6, v7, v8, .int x0, .int x1, .ref a2, v11, v12, v13, v14, v15, v16])), (a2, .inr (13, [.long (((3 * x0) * x2).toInt64 &&& 1125899906842623), .ref a3, .int 2])), (a3, .inl (cy 2, 1, .inr (.inl (vp_updL (fun _ => 0) (0 : Int32).toNatClampNeg (((3 * x0) * x2).toInt64 >>> ((50 : Int32).toInt64 &&& 63))))))] := hD
  refine lv_aload_n hx hb dX9_setGas_64 rfl (lv_at hl 1 rfl) ?_
  refine va_get (D := D) (ci := 14) (v := .ref a4) (C := RX9) (T := TX9) (N := 7) hx hb hts ax_16 hown hE.1 hP 0 rfl rfl 6 (by decide) (hts _ tw_220) (fun _ h9 => h9) rfl dX9_setGas_65 ?_
  refine lv_dup hx hb dX9_setGas_68 rfl ?_
  refine va_getN (D := D) (ci := 11) (v := .long 900) (C := RX6) (T := TX6) (N := 5) hx hb hts ax_14 hown hE.1 hP 1 rfl rfl 4 (by decide) (hts _ tw_226) (fun _ h9 => h9) rfl dX9_setGas_69 ?_
  refine lv_aload_n hx hb dX9_setGas_72 rfl (lv_at hl 1 rfl) ?_
  refine va_get (D := D) (ci := 14) (v := .ref a1) (C := RX9) (T := TX9) (N := 7) hx hb hts ax_16 hown hE.1 hP 0 rfl rfl 3 (by decide) (hts _ tw_199) (fun _ h9 => h9) rfl dX9_setGas_73 ?_
  refine va_getN (D := D) (ci := 6) (v := .ref a2) (C := RX1) (T := TX1) (N := 13) hx hb hts ax_7 hown hE.1 hP 2 rfl rfl 6 (by decide) (hts _ tw_221) (fun _ h9 => h9) rfl dX9_setGas_76 ?_
  refine ca_l (isC := [3, 4]) (isR := [0, 1, 2]) (wr := [(a0, .inr (14, [v0, v1, v2, .ref a1, v3, v4, .ref a4])), (a4, .inr (11, [v17, v18, v19, v20, .long 900])), (a1, .inr (6, [v5, v6, v7, v8, .int x0, .int x1, .ref a2, v11, v12, v13, v14, v15, v16]))]) (rn_V (ci := 13) (q0 := 3) (isC := [3, 4]) (wc := [(a2, .inr (13, [.long (((3 * x0) * x2).toInt64 &&& 1125899906842623), .ref a3, .int 2])), (a3, .inl (cy 2, 1, .inr (.inl (vp_updL (fun _ => 0) (0 : Int32).toNatClampNeg (((3 * x0) * x2).toInt64 >>> ((50 : Int32).toInt64 &&& 63))))))]) (As := []) (rest := [.long 900, .ref a4]) (n := 0) hx hb hml hown hts hE hS hP hD hA hl.1 (k379_X8_low l D cy g a2 a3 (((3 * x0) * x2).toInt64 &&& 1125899906842623) (((3 * x0) * x2).toInt64 >>> ((50 : Int32).toInt64 &&& 63)) H.size ) rfl rfl rfl rfl rfl ax_23 rfl rfl ax_24 ⟨Nat.le_of_ble_eq_true rfl, Nat.le_of_ble_eq_true rfl⟩ rfl rfl (Nat.le_of_ble_eq_true rfl) dX9_setGas_79 ⟨(Nat.le_of_ble_eq_true rfl), (Nat.le_of_ble_eq_true rfl)⟩) hP hD hS hA rfl rfl rfl (by decide) (fun ad79 H locs hP hD hS => ?_)
  have hP : va_P D vwCl [(a0, .inr (14, [v0, v1, v2, .ref a1, v3, v4, .ref a4])), (a4, .inr (11, [v17, v18, v19, v20, .long 900])), (a1, .inr (6, [v5, v6, v7, v8, .int x0, .int x1, .ref a2, v11, v12, v13, v14, v15, v16])), (a2, .inr (13, [.long (((3 * x0) * x2).toInt64 &&& 1125899906842623), .ref a3, .int 2])), (a3, .inl (cy 2, 1, .inr (.inl (vp_updL (fun _ => 0) (0 : Int32).toNatClampNeg (((3 * x0) * x2).toInt64 >>> ((50 : Int32).toInt64 &&& 63))))))] H := hP
  have hD : va_D A [(a0, .inr (14, [v0, v1, v2, .ref a1, v3, v4, .ref a4])), (a4, .inr (11, [v17, v18, v19, v20, .long 900])), (a1, .inr (6, [v5, v6, v7, v8, .int x0, .int x1, .ref a2, v11, v12, v13, v14, v15, v16])), (a2, .inr (13, [.long (((3 * x0) * x2).toInt64 &&& 1125899906842623), .ref a3, .int 2])), (a3, .inl (cy 2, 1, .inr (.inl (vp_updL (fun _ => 0) (0 : Int32).toNatClampNeg (((3 * x0) * x2).toInt64 >>> ((50 : Int32).toInt64 &&& 63))))))] := hD
  refine lv_lload hx hb dX9_setGas_82 (lv_at hl 0 rfl) ?_
  refine lv_lsub hx hb dX9_setGas_84 ?_
  refine lv_ladd hx hb dX9_setGas_85 ?_
  refine va_putN (D := D) (ci := 11) (v := .long (900 + (((((3 * x0) * x2).toInt64 &&& 1125899906842623) + ((((3 * x0) * x2).toInt64 >>> ((50 : Int32).toInt64 &&& 63)) <<< ((50 : Int32).toInt64 &&& 63))) - 900))) (ty := .long) (C := RX6) (T := TX6) (N := 5) hx hb hts ax_14 tyX6 tyX6_ok nmX6 hown hE.1 hP hD hS 1 rfl rfl 4 (by decide) (hts _ tw_226) (fun _ h9 => h9) rfl (by decide +kernel) rfl rfl (Nat.le_of_ble_eq_true rfl) dX9_setGas_86 (fun H locs hP hD hS => ?_)
  have hP : va_P D vwCl [(a0, .inr (14, [v0, v1, v2, .ref a1, v3, v4, .ref a4])), (a4, .inr (11, [v17, v18, v19, v20, .long (900 + (((((3 * x0) * x2).toInt64 &&& 1125899906842623) + ((((3 * x0) * x2).toInt64 >>> ((50 : Int32).toInt64 &&& 63)) <<< ((50 : Int32).toInt64 &&& 63))) - 900))])), (a1, .inr (6, [v5, v6, v7, v8, .int x0, .int x1, .ref a2, v11, v12, v13, v14, v15, v16])), (a2, .inr (13, [.long (((3 * x0) * x2).toInt64 &&& 1125899906842623), .ref a3, .int 2])), (a3, .inl (cy 2, 1, .inr (.inl (vp_updL (fun _ => 0) (0 : Int32).toNatClampNeg (((3 * x0) * x2).toInt64 >>> ((50 : Int32).toInt64 &&& 63))))))] H := hP
  have hD : va_D A [(a0, .inr (14, [v0, v1, v2, .ref a1, v3, v4, .ref a4])), (a4, .inr (11, [v17, v18, v19, v20, .long (900 + (((((3 * x0) * x2).toInt64 &&& 1125899906842623) + ((((3 * x0) * x2).toInt64 >>> ((50 : Int32).toInt64 &&& 63)) <<< ((50 : Int32).toInt64 &&& 63))) - 900))])), (a1, .inr (6, [v5, v6, v7, v8, .int x0, .int x1, .ref a2, v11, v12, v13, v14, v15, v16])), (a2, .inr (13, [.long (((3 * x0) * x2).toInt64 &&& 1125899906842623), .ref a3, .int 2])), (a3, .inl (cy 2, 1, .inr (.inl (vp_updL (fun _ => 0) (0 : Int32).toNatClampNeg (((3 * x0) * x2).toInt64 >>> ((50 : Int32).toInt64 &&& 63))))))] := hD
  refine lv_lload hx hb dX9_setGas_89 (lv_at hl 0 rfl) ?_
  refine lv_l2i (v := 900) hx hb dX9_setGas_91 (by decide) ?_
  exact en_z hx hb hr hlk hP hD hS rfl (fun _ => 0) (is := [0, 2, 3, 4, 1]) rfl rfl (Nat.le_of_ble_eq_true rfl) (Nat.le_of_ble_eq_true rfl) dX9_setGas_92
set_option maxHeartbeats 4000000 in
set_option maxRecDepth 100000 in
theorem k388_L_setGas (l : Launch) (D : va_G) (cy : Nat → ClassId) (g : Nat → Nat) (x0 : Int32) (x1 : Int32) (x2 : Int32) (a0 : Nat) (a1 : Nat) (a2 : Nat) (a3 : Nat) (a4 : Nat) (a5 : Nat) (v0 : Value) (v1 : Value) (v2 : Value) (v3 : Value) (v4 : Value) (v5 : Value) (v6 : Value) (v7 : Value) (v8 : Value) (v9 : Value) (v10 : Value) (v11 : Value) (v12 : Value) (v13 : Value) (v14 : Value) (v15 : Value) (v16 : Value) (v17 : Value) (v18 : Value) (v19 : Value) (v20 : Value) (f0 : Nat → Int64) (sz : Nat) (h0 : ¬ x0 < 1) (h1 : ¬ (20 : Int32) < x0) (h2 : ¬ x1 < 1) (h3 : ¬ (100 : Int32) < x1) (h4 : ¬ x2 < 50) (h5 : ¬ (2000 : Int32) < x2) (h6 : ¬ (((3 * x0) * x2).toInt64 &&& 1125899906842623) = 0) (h7 : ¬ ((3 * x0) * x2).toInt64 < 1125899906842624) : Met l yL_setGas [.codeWith yL_setGas cL_setGas 6 (some .int) [(0, 12, 15, 13)]] ({ frames := 4, cells := 0, slots := 0, locals := 93 }) (PC D cy g [(a0, .inr (14, [v0, v1, v2, .ref a1, v3, v4, .ref a4])), (a1, .inr (6, [v5, v6, v7, v8, v9, v10, .ref a2, v11, v12, v13, v14, v15, v16])), (a2, .inr (13, [.long 900, .ref a3, .int 1])), (a3, .inl (cy 2, 1, .inr (.inl (fun _ => 0)))), (a4, .inr (11, [v17, v18, v19, v20, .long 900])), (a5, .inl (cy 2, 1, .inr (.inl f0)))] sz [.ref a0, .int x0, .int x1, .int x2, .ref a5]) (QI D 0 (fun ad => [(a5, .inl (cy 2, 1, .inr (.inl (vp_updL f0 (0 : Int32).toNatClampNeg 900))))]) (va_A [(a0, .inr (14, [v0, v1, v2, .ref a1, v3, v4, .ref a4])), (a1, .inr (6, [v5, v6, v7, v8, v9, v10, .ref a2, v11, v12, v13, v14, v15, v16])), (a2, .inr (13, [.long 900, .ref a3, .int 1])), (a3, .inl (cy 2, 1, .inr (.inl (fun _ => 0)))), (a4, .inr (11, [v17, v18, v19, v20, .long 900])), (a5, .inl (cy 2, 1, .inr (.inl f0)))] sz)) 0 0 (va_A [(a0, .inr (14, [v0, v1, v2, .ref a1, v3, v4, .ref a4])), (a1, .inr (6, [v5, v6, v7, v8, v9, v10, .ref a2, v11, v12, v13, v14, v15, v16])), (a2, .inr (13, [.long 900, .ref a3, .int 1])), (a3, .inl (cy 2, 1, .inr (.inl (fun _ => 0)))), (a4, .inr (11, [v17, v18, v19, v20, .long 900])), (a5, .inl (cy 2, 1, .inr (.inl f0)))] sz) := by
  refine sh_I (by decide) (Nat.le_of_ble_eq_true rfl) ?_
  intro p e s m args below meth c A ls hx hb hr hml hown hlk hnm hsz hP hD hA hE hts hS hl htb
  have hown : s.vm.findClass RL = some m.cls := hown
  have hl : lv_has ls 6 [(0, .ref a0), (1, .int x0), (2, .int x1), (3, .int x2), (4, .ref a5)] := hl
  refine lv_aload hx hb dL_setGas_0 (lv_at hl 4 rfl) ?_
  refine lv_iconst (v := 0) hx hb dL_setGas_2 (by decide) ?_
  refine lv_aload_n hx hb dL_setGas_3 rfl (lv_at hl 0 rfl) ?_
  refine lv_iload_n hx hb dL_setGas_4 rfl (lv_at hl 1 rfl) ?_
  refine lv_iload_n hx hb dL_setGas_5 rfl (lv_at hl 2 rfl) ?_
  refine lv_iload_n hx hb dL_setGas_6 rfl (lv_at hl 3 rfl) ?_
  refine ca_i (isC := [0, 1, 2, 3, 4]) (isR := [5]) (wr := [(a5, .inl (cy 2, 1, .inr (.inl f0)))]) (rn_V (ci := 14) (q0 := 0) (isC := [0, 1, 2, 3, 4]) (wc := [(a0, .inr (14, [v0, v1, v2, .ref a1, v3, v4, .ref a4])), (a1, .inr (6, [v5, v6, v7, v8, v9, v10, .ref a2, v11, v12, v13, v14, v15, v16])), (a2, .inr (13, [.long 900, .ref a3, .int 1])), (a3, .inl (cy 2, 1, .inr (.inl (fun _ => 0)))), (a4, .inr (11, [v17, v18, v19, v20, .long 900]))]) (As := [.int x0, .int x1, .int x2]) (rest := [.int 0, .ref a5]) (n := 3) hx hb hml hown hts hE hS hP hD hA hl.1 (k387_X9_setGas l D cy g x0 x1 x2 a0 a1 a2 a3 a4 (v0) (v1) (v2) (v3) (v4) (v5) (v6) (v7) (v8) (v9) (v10) (v11) (v12) (v13) (v14) (v15) (v16) (v17) (v18) (v19) (v20) s.heap.size h0 h1 h2 h3 h4 h5 h6 h7) rfl rfl rfl rfl rfl ax_268 rfl rfl ax_269 ⟨Nat.le_of_ble_eq_true rfl, Nat.le_of_ble_eq_true rfl⟩ rfl rfl (Nat.le_of_ble_eq_true rfl) dL_setGas_7 ⟨(Nat.le_of_ble_eq_true rfl), (Nat.le_of_ble_eq_true rfl)⟩) hP hD hS hA rfl rfl rfl (by decide) (fun ad7 H locs hP hD hS => ?_)
  have hP : va_P D vwCl [(a5, .inl (cy 2, 1, .inr (.inl f0))), (a0, .inr (14, [v0, v1, v2, .ref a1, v3, v4, .ref a4])), (a1, .inr (6, [v5, v6, v7, v8, .int x0, .int x1, .ref a2, v11, v12, v13, v14, v15, v16])), (a2, .inr (13, [.long (((3 * x0) * x2).toInt64 &&& 1125899906842623), .ref a3, .int 2])), (a3, .inl (cy 2, 1, .inr (.inl (vp_updL (fun _ => 0) (0 : Int32).toNatClampNeg (((3 * x0) * x2).toInt64 >>> ((50 : Int32).toInt64 &&& 63)))))), (a4, .inr (11, [v17, v18, v19, v20, .long (900 + (((((3 * x0) * x2).toInt64 &&& 1125899906842623) + ((((3 * x0) * x2).toInt64 >>> ((50 : Int32).toInt64 &&& 63)) <<< ((50 : Int32).toInt64 &&& 63))) - 900))]))] H := hP
  have hD : va_D A [(a5, .inl (cy 2, 1, .inr (.inl f0))), (a0, .inr (14, [v0, v1, v2, .ref a1, v3, v4, .ref a4])), (a1, .inr (6, [v5, v6, v7, v8, .int x0, .int x1, .ref a2, v11, v12, v13, v14, v15, v16])), (a2, .inr (13, [.long (((3 * x0) * x2).toInt64 &&& 1125899906842623), .ref a3, .int 2])), (a3, .inl (cy 2, 1, .inr (.inl (vp_updL (fun _ => 0) (0 : Int32).toNatClampNeg (((3 * x0) * x2).toInt64 >>> ((50 : Int32).toInt64 &&& 63)))))), (a4, .inr (11, [v17, v18, v19, v20, .long (900 + (((((3 * x0) * x2).toInt64 &&& 1125899906842623) + ((((3 * x0) * x2).toInt64 >>> ((50 : Int32).toInt64 &&& 63)) <<< ((50 : Int32).toInt64 &&& 63))) - 900))]))] := hD
  refine lv_i2l (v := 900) hx hb dL_setGas_10 (by decide) ?_
  refine va_last hx hb hE.1 hP hD hS 0 2 rfl rfl (by unfold vp_in; decide) dL_setGas_11 (fun H locs hP hD hS => ?_)
  have hP : va_P D vwCl [(a5, .inl (cy 2, 1, .inr (.inl (vp_updL f0 (0 : Int32).toNatClampNeg 900)))), (a0, .inr (14, [v0, v1, v2, .ref a1, v3, v4, .ref a4])), (a1, .inr (6, [v5, v6, v7, v8, .int x0, .int x1, .ref a2, v11, v12, v13, v14, v15, v16])), (a2, .inr (13, [.long (((3 * x0) * x2).toInt64 &&& 1125899906842623), .ref a3, .int 2])), (a3, .inl (cy 2, 1, .inr (.inl (vp_updL (fun _ => 0) (0 : Int32).toNatClampNeg (((3 * x0) * x2).toInt64 >>> ((50 : Int32).toInt64 &&& 63)))))), (a4, .inr (11, [v17, v18, v19, v20, .long (900 + (((((3 * x0) * x2).toInt64 &&& 1125899906842623) + ((((3 * x0) * x2).toInt64 >>> ((50 : Int32).toInt64 &&& 63)) <<< ((50 : Int32).toInt64 &&& 63))) - 900))]))] H := hP
  have hD : va_D A [(a5, .inl (cy 2, 1, .inr (.inl (vp_updL f0 (0 : Int32).toNatClampNeg 900)))), (a0, .inr (14, [v0, v1, v2, .ref a1, v3, v4, .ref a4])), (a1, .inr (6, [v5, v6, v7, v8, .int x0, .int x1, .ref a2, v11, v12, v13, v14, v15, v16])), (a2, .inr (13, [.long (((3 * x0) * x2).toInt64 &&& 1125899906842623), .ref a3, .int 2])), (a3, .inl (cy 2, 1, .inr (.inl (vp_updL (fun _ => 0) (0 : Int32).toNatClampNeg (((3 * x0) * x2).toInt64 >>> ((50 : Int32).toInt64 &&& 63)))))), (a4, .inr (11, [v17, v18, v19, v20, .long (900 + (((((3 * x0) * x2).toInt64 &&& 1125899906842623) + ((((3 * x0) * x2).toInt64 >>> ((50 : Int32).toInt64 &&& 63)) <<< ((50 : Int32).toInt64 &&& 63))) - 900))]))] := hD
  refine lv_goto (tgt := 19) hx hb dL_setGas_12 (by decide) ?_
  refine lv_iconst (v := 0) hx hb dL_setGas_19 (by decide) ?_
  exact en_z hx hb hr hlk hP hD hS rfl (fun _ => 0) (is := [0]) rfl rfl (Nat.le_of_ble_eq_true rfl) (Nat.le_of_ble_eq_true rfl) dL_setGas_20
set_option maxHeartbeats 4000000 in
set_option maxRecDepth 100000 in
theorem k389_X1_isStroke (l : Launch) (D : va_G) (cy : Nat → ClassId) (g : Nat → Nat) (x0 : Int32) (sz : Nat)  : Met l yX1_isStroke [.code yX1_isStroke cX1_isStroke 2 (some .boolean)] ({ frames := 0, cells := 0, slots := 0, locals := 0 }) (PC D cy g [] sz [.int 118, .int x0]) (QI D 1 (fun ad => []) (va_A [] sz)) 0 0 (va_A [] sz) := by
  refine st_I (by decide) (Nat.le_of_ble_eq_true rfl) ?_
  intro p e s m args below meth c A ls hx hb hr hml hown hlk hnm hsz hP hD hA hE hts hS hl
  have hown : s.vm.findClass RX1 = some m.cls := hown
  have hl : lv_has ls 2 [(0, .int 118), (1, .int x0)] := hl
  refine lv_iload_n hx hb dX1_isStroke_0 rfl (lv_at hl 0 rfl) ?_
  refine lv_bipush (v := 118) hx hb dX1_isStroke_1 (by decide) ?_
  refine lv_icmp_eq (tgt := 28) hx hb dX1_isStroke_3 (by decide) (fun _ => ?_) (fun z => absurd (by decide) z)
  refine lv_iconst (v := 1) hx hb dX1_isStroke_28 (by decide) ?_
  refine lv_goto (tgt := 33) hx hb dX1_isStroke_29 (by decide) ?_
  exact en_z hx hb hr hlk hP hD hS rfl (fun _ => 0) (is := []) rfl rfl (Nat.le_of_ble_eq_true rfl) (Nat.le_of_ble_eq_true rfl) dX1_isStroke_33
set_option maxHeartbeats 4000000 in
set_option maxRecDepth 100000 in
theorem k390_X1_needsBody (l : Launch) (D : va_G) (cy : Nat → ClassId) (g : Nat → Nat)  (sz : Nat)  : Met l yX1_needsBody [.code yX1_needsBody cX1_needsBody 1 (some .boolean)] ({ frames := 0, cells := 0, slots := 0, locals := 0 }) (PC D cy g [] sz [.int 118]) (QI D 1 (fun ad => []) (va_A [] sz)) 0 0 (va_A [] sz) := by
  refine st_I (by decide) (Nat.le_of_ble_eq_true rfl) ?_
  intro p e s m args below meth c A ls hx hb hr hml hown hlk hnm hsz hP hD hA hE hts hS hl
  have hown : s.vm.findClass RX1 = some m.cls := hown
  have hl : lv_has ls 1 [(0, .int 118)] := hl
  refine lv_iload_n hx hb dX1_needsBody_0 rfl (lv_at hl 0 rfl) ?_
  refine lv_bipush (v := 97) hx hb dX1_needsBody_1 (by decide) ?_
  refine lv_icmp_eq (tgt := 10) hx hb dX1_needsBody_3 (by decide) (fun z => absurd z (by decide)) (fun _ => ?_)
  refine lv_iconst (v := 1) hx hb dX1_needsBody_6 (by decide) ?_
  refine lv_goto (tgt := 11) hx hb dX1_needsBody_7 (by decide) ?_
  exact en_z hx hb hr hlk hP hD hS rfl (fun _ => 0) (is := []) rfl rfl (Nat.le_of_ble_eq_true rfl) (Nat.le_of_ble_eq_true rfl) dX1_needsBody_11
set_option maxHeartbeats 4000000 in
set_option maxRecDepth 100000 in
theorem k391_X9_addStroke (l : Launch) (hst : l.stackTraces = false) (D : va_G) (cy : Nat → ClassId) (g : Nat → Nat) (x0 : Int32) (x1 : Int32) (a0 : Nat) (a1 : Nat) (v0 : Value) (v1 : Value) (v2 : Value) (v3 : Value) (v4 : Value) (v5 : Value) (v6 : Value) (v7 : Value) (v8 : Value) (v9 : Value) (v10 : Value) (v11 : Value) (v12 : Value) (v13 : Value) (sz : Nat) (h0 : x1 < 0) : vx_Met l yX9_addStroke [.code yX9_addStroke cX9_addStroke 4 (some .int)] ({ frames := 7, cells := 1, slots := 6, locals := 103 }) (PC D cy g [(a0, .inr (14, [.ref a1, v0, v1, v2, v3, v4, v5])), (a1, .inr (5, [v6, v7, v8, v9, v10, v11, v12, v13]))] sz [.ref a0, .int 118, .int x0, .int x1]) QN (XE "java/lang/IndexOutOfBoundsException" (va_A [(a0, .inr (14, [.ref a1, v0, v1, v2, v3, v4, v5])), (a1, .inr (5, [v6, v7, v8, v9, v10, v11, v12, v13]))] sz)) 1 6 (va_A [(a0, .inr (14, [.ref a1, v0, v1, v2, v3, v4, v5])), (a1, .inr (5, [v6, v7, v8, v9, v10, v11, v12, v13]))] sz) := by
  refine st_X (by decide) (Nat.le_of_ble_eq_true rfl) ?_
  intro p e s m args below meth c A ls hx hb hr hml hown hlk hnm hsz hP hD hA hE hts hS hl hout
  have hown : s.vm.findClass RX9 = some m.cls := hown
  have hl : lv_has ls 4 [(0, .ref a0), (1, .int 118), (2, .int x0), (3, .int x1)] := hl
  refine lv_iload_n hx hb dX9_addStroke_0 rfl (lv_at hl 1 rfl) ?_
  refine lv_iload_n hx hb dX9_addStroke_1 rfl (lv_at hl 2 rfl) ?_
  refine ca_i (isC := []) (isR := [0, 1]) (wr := [(a0, .inr (14, [.ref a1, v0, v1, v2, v3, v4, v5])), (a1, .inr (5, [v6, v7, v8, v9, v10, v11, v12, v13]))]) (rn_S (isC := []) (wc := []) (As := [.int 118, .int x0]) (rest := []) (n := 2) hx hb hml hown hts hE hS hP hD hA hl.1 (k389_X1_isStroke l D cy g x0 s.heap.size ) rfl rfl ax_277 rfl rfl ax_278 ⟨Nat.le_of_ble_eq_true rfl, Nat.le_of_ble_eq_true rfl⟩ rfl rfl (Nat.le_of_ble_eq_true rfl) dX9_addStroke_2 ⟨(Nat.le_of_ble_eq_true rfl), (Nat.le_of_ble_eq_true rfl)⟩) hP hD hS hA rfl rfl rfl (by decide) (fun ad2 H locs hP hD hS => ?_)
  have hP : va_P D vwCl [(a0, .inr (14, [.ref a1, v0, v1, v2, v3, v4, v5])), (a1, .inr (5, [v6, v7, v8, v9, v10, v11, v12, v13]))] H := hP
  have hD : va_D A [(a0, .inr (14, [.ref a1, v0, v1, v2, v3, v4, v5])), (a1, .inr (5, [v6, v7, v8, v9, v10, v11, v12, v13]))] := hD
  refine lv_if_ne (tgt := 18) hx hb dX9_addStroke_5 (by decide) (fun _ => ?_) (fun z => absurd z (by decide))
  refine lv_iload_n hx hb dX9_addStroke_18 rfl (lv_at hl 1 rfl) ?_
  refine ca_i (isC := []) (isR := [0, 1]) (wr := [(a0, .inr (14, [.ref a1, v0, v1, v2, v3, v4, v5])), (a1, .inr (5, [v6, v7, v8, v9, v10, v11, v12, v13]))]) (rn_S (isC := []) (wc := []) (As := [.int 118]) (rest := []) (n := 1) hx hb hml hown hts hE hS hP hD hA hl.1 (k390_X1_needsBody l D cy g  H.size ) rfl rfl ax_279 rfl rfl ax_280 ⟨Nat.le_of_ble_eq_true rfl, Nat.le_of_ble_eq_true rfl⟩ rfl rfl (Nat.le_of_ble_eq_true rfl) dX9_addStroke_19 ⟨(Nat.le_of_ble_eq_true rfl), (Nat.le_of_ble_eq_true rfl)⟩) hP hD hS hA rfl rfl rfl (by decide) (fun ad19 H locs hP hD hS => ?_)
  have hP : va_P D vwCl [(a0, .inr (14, [.ref a1, v0, v1, v2, v3, v4, v5])), (a1, .inr (5, [v6, v7, v8, v9, v10, v11, v12, v13]))] H := hP
  have hD : va_D A [(a0, .inr (14, [.ref a1, v0, v1, v2, v3, v4, v5])), (a1, .inr (5, [v6, v7, v8, v9, v10, v11, v12, v13]))] := hD
  refine lv_if_eq (tgt := 30) hx hb dX9_addStroke_22 (by decide) (fun z => absurd z (by decide)) (fun _ => ?_)
  refine lv_aload_n hx hb dX9_addStroke_25 rfl (lv_at hl 0 rfl) ?_
  refine lv_iload_n hx hb dX9_addStroke_26 rfl (lv_at hl 3 rfl) ?_
  exact cx_out (isC := [0, 1]) (rx_V (ci := 14) (q0 := 0) (isC := [0, 1]) (wc := [(a0, .inr (14, [.ref a1, v0, v1, v2, v3, v4, v5])), (a1, .inr (5, [v6, v7, v8, v9, v10, v11, v12, v13]))]) (As := [.int x1]) (rest := []) (n := 1) hx hb hml hown hts hE hS hP hD hA hl.1 (k67_X9_requireBody l hst D cy g x1 a0 a1 (v0) (v1) (v2) (v3) (v4) (v5) (v6) (v7) (v8) (v9) (v10) (v11) (v12) (v13) H.size h0) rfl rfl rfl rfl rfl ax_68 rfl rfl ax_69 ⟨Nat.le_of_ble_eq_true rfl, Nat.le_of_ble_eq_true rfl⟩ rfl rfl (Nat.le_of_ble_eq_true rfl) dX9_addStroke_27 ⟨(Nat.le_of_ble_eq_true rfl), (Nat.le_of_ble_eq_true rfl)⟩) hD hS hA rfl hout hlk (Nat.le_of_ble_eq_true rfl) (Nat.le_of_ble_eq_true rfl)
set_option maxHeartbeats 4000000 in
set_option maxRecDepth 100000 in
theorem k392_L_addStroke (l : Launch) (hst : l.stackTraces = false) (D : va_G) (cy : Nat → ClassId) (g : Nat → Nat) (x0 : Int32) (x1 : Int32) (a0 : Nat) (a1 : Nat) (b0 : Nat) (v0 : Value) (v1 : Value) (v2 : Value) (v3 : Value) (v4 : Value) (v5 : Value) (v6 : Value) (v7 : Value) (v8 : Value) (v9 : Value) (v10 : Value) (v11 : Value) (v12 : Value) (v13 : Value) (sz : Nat) (h0 : x1 < 0) : Met l yL_addStroke [.codeWith yL_addStroke cL_addStroke 6 (some .int) [(0, 12, 15, 13), (0, 12, 19, 21), (0, 12, 23, 15)]] ({ frames := 8, cells := 1, slots := 6, locals := 126 }) (PC D cy g [(a0, .inr (14, [.ref a1, v0, v1, v2, v3, v4, v5])), (a1, .inr (5, [v6, v7, v8, v9, v10, v11, v12, v13]))] sz [.ref a0, .int 118, .int x0, .int x1, .ref b0]) (QI D 2 (fun ad => []) (va_A [(a0, .inr (14, [.ref a1, v0, v1, v2, v3, v4, v5])), (a1, .inr (5, [v6, v7, v8, v9, v10, v11, v12, v13]))] sz)) 1 6 (va_A [(a0, .inr (14, [.ref a1, v0, v1, v2, v3, v4, v5])), (a1, .inr (5, [v6, v7, v8, v9, v10, v11, v12, v13]))] sz) := by
  refine sh_I (by decide) (Nat.le_of_ble_eq_true rfl) ?_
  intro p e s m args below meth c A ls hx hb hr hml hown hlk hnm hsz hP hD hA hE hts hS hl htb
  have hown : s.vm.findClass RL = some m.cls := hown
  have hl : lv_has ls 6 [(0, .ref a0), (1, .int 118), (2, .int x0), (3, .int x1), (4, .ref b0)] := hl
  refine lv_aload hx hb dL_addStroke_0 (lv_at hl 4 rfl) ?_
  refine lv_iconst (v := 0) hx hb dL_addStroke_2 (by decide) ?_
  refine lv_aload_n hx hb dL_addStroke_3 rfl (lv_at hl 0 rfl) ?_
  refine lv_iload_n hx hb dL_addStroke_4 rfl (lv_at hl 1 rfl) ?_
  refine lv_iload_n hx hb dL_addStroke_5 rfl (lv_at hl 2 rfl) ?_
  refine lv_iload_n hx hb dL_addStroke_6 rfl (lv_at hl 3 rfl) ?_
  refine cx_catch (isC := [0, 1]) (isR := []) (wr := []) (hp := [(0, 12, 15, 13)]) (z := (0, 12, 19, 21)) (hq := [(0, 12, 23, 15)]) (name := "java/lang/IndexOutOfBoundsException") (own := RL) (rx_V (ci := 14) (q0 := 0) (isC := [0, 1]) (wc := [(a0, .inr (14, [.ref a1, v0, v1, v2, v3, v4, v5])), (a1, .inr (5, [v6, v7, v8, v9, v10, v11, v12, v13]))]) (As := [.int 118, .int x0, .int x1]) (rest := [.int 0, .ref b0]) (n := 3) hx hb hml hown hts hE hS hP hD hA hl.1 (k391_X9_addStroke l hst D cy g x0 x1 a0 a1 (v0) (v1) (v2) (v3) (v4) (v5) (v6) (v7) (v8) (v9) (v10) (v11) (v12) (v13) s.heap.size h0) rfl rfl rfl rfl rfl ax_281 rfl rfl ax_282 ⟨Nat.le_of_ble_eq_true rfl, Nat.le_of_ble_eq_true rfl⟩ rfl rfl (Nat.le_of_ble_eq_true rfl) dL_addStroke_7 ⟨(Nat.le_of_ble_eq_true rfl), (Nat.le_of_ble_eq_true rfl)⟩) hP hD hS hA hown hts hE htb rfl rfl rfl rfl (by decide) (fun z hz => by rcases List.mem_singleton.mp hz with rfl; exact ⟨by decide, "java/lang/IllegalArgumentException", tw_302, by decide +kernel⟩) (by decide) (by decide) tw_398 tw_399 (fun qx H locs hP hD hS => ?_)
  have hP : va_P D vwCl [] H := hP
  have hD : va_D A [] := hD
  refine lv_astore (lv' := [(5, .ref qx), (0, .ref a0), (1, .int 118), (2, .int x0), (3, .int x1), (4, .ref b0)]) hx hb dL_addStroke_19 hl (Nat.le_of_ble_eq_true rfl) rfl (fun ls hl => ?_)
  refine lv_iconst (v := 2) hx hb dL_addStroke_21 (by decide) ?_
  exact en_z hx hb hr hlk hP hD hS rfl (fun _ => 0) (is := []) rfl rfl (Nat.le_of_ble_eq_true rfl) (Nat.le_of_ble_eq_true rfl) dL_addStroke_22
set_option maxHeartbeats 4000000 in
set_option maxRecDepth 100000 in
theorem k393_J0_isLatin1_aae02 (l : Launch) (D : va_G) (cy : Nat → ClassId) (g : Nat → Nat)  (sz : Nat)  : Met l yJ0_isLatin1_aae02 [.code yJ0_isLatin1_aae02 cJ0_isLatin1_aae02 1 (some .boolean)] ({ frames := 0, cells := 0, slots := 0, locals := 0 }) (PC D cy g [] sz [.ref (g (1 + 1))]) (QI D 1 (fun ad => []) (va_A [] sz)) 0 0 (va_A [] sz) := by
  refine st_I (by decide) (Nat.le_of_ble_eq_true rfl) ?_
  intro p e s m args below meth c A ls hx hb hr hml hown hlk hnm hsz hP hD hA hE hts hS hl
  have hown : s.vm.findClass RJ0 = some m.cls := hown
  have hl : lv_has ls 1 [(0, .ref (g (1 + 1)))] := hl
  refine va_gets (C := "java/lang/String") (n := "COMPACT_STRINGS") (d := "Z") hx hb hE.2.2.2.2.2.2.2.2.2.1 hS hown (hts _ tw_630) (fun _ h9 => h9) dJ0_isLatin1_aae02_0 ?_
  refine lv_if_eq (tgt := 17) hx hb dJ0_isLatin1_aae02_3 (by decide) (fun z => absurd z (by decide)) (fun _ => ?_)
  refine lv_aload_n hx hb dJ0_isLatin1_aae02_6 rfl (lv_at hl 0 rfl) ?_
  refine vk_getf (v := .int 0) hx hb (hE.2.2.2.2.2.2.2.2.2.2.1 1 (by decide)).2.1 hS hown (hts _ tw_631) (fun _ h9 => h9) dJ0_isLatin1_aae02_7 ?_
  refine lv_if_ne (tgt := 17) hx hb dJ0_isLatin1_aae02_10 (by decide) (fun z => absurd (by decide) z) (fun _ => ?_)
  refine lv_iconst (v := 1) hx hb dJ0_isLatin1_aae02_13 (by decide) ?_
  refine lv_goto (tgt := 18) hx hb dJ0_isLatin1_aae02_14 (by decide) ?_
  exact en_z hx hb hr hlk hP hD hS rfl (fun _ => 0) (is := []) rfl rfl (Nat.le_of_ble_eq_true rfl) (Nat.le_of_ble_eq_true rfl) dJ0_isLatin1_aae02_18
set_option maxHeartbeats 4000000 in
set_option maxRecDepth 100000 in
theorem k394_J0_coder_7d493 (l : Launch) (D : va_G) (cy : Nat → ClassId) (g : Nat → Nat)  (sz : Nat)  : Met l yJ0_coder_7d493 [.code yJ0_coder_7d493 cJ0_coder_7d493 1 (some .byte)] ({ frames := 0, cells := 0, slots := 0, locals := 0 }) (PC D cy g [] sz [.ref (g (1 + 1))]) (QI D 0 (fun ad => []) (va_A [] sz)) 0 0 (va_A [] sz) := by
  refine st_I (by decide) (Nat.le_of_ble_eq_true rfl) ?_
  intro p e s m args below meth c A ls hx hb hr hml hown hlk hnm hsz hP hD hA hE hts hS hl
  have hown : s.vm.findClass RJ0 = some m.cls := hown
  have hl : lv_has ls 1 [(0, .ref (g (1 + 1)))] := hl
  refine va_gets (C := "java/lang/String") (n := "COMPACT_STRINGS") (d := "Z") hx hb hE.2.2.2.2.2.2.2.2.2.1 hS hown (hts _ tw_630) (fun _ h9 => h9) dJ0_coder_7d493_0 ?_
  refine lv_if_eq (tgt := 13) hx hb dJ0_coder_7d493_3 (by decide) (fun z => absurd z (by decide)) (fun _ => ?_)
  refine lv_aload_n hx hb dJ0_coder_7d493_6 rfl (lv_at hl 0 rfl) ?_
  refine vk_getf (v := .int 0) hx hb (hE.2.2.2.2.2.2.2.2.2.2.1 1 (by decide)).2.1 hS hown (hts _ tw_631) (fun _ h9 => h9) dJ0_coder_7d493_7 ?_
  refine lv_goto (tgt := 14) hx hb dJ0_coder_7d493_10 (by decide) ?_
  exact en_z hx hb hr hlk hP hD hS rfl (fun _ => 0) (is := []) rfl rfl (Nat.le_of_ble_eq_true rfl) (Nat.le_of_ble_eq_true rfl) dJ0_coder_7d493_14
set_option maxHeartbeats 4000000 in
set_option maxRecDepth 100000 in
theorem k395_J0_length_8abf5 (l : Launch) (D : va_G) (cy : Nat → ClassId) (g : Nat → Nat)  (sz : Nat)  : Met l yJ0_length_8abf5 [.code yJ0_length_8abf5 cJ0_length_8abf5 1 (some .int)] ({ frames := 1, cells := 0, slots := 0, locals := 20 }) (PC D cy g [] sz [.ref (g (1 + 1))]) (QI D 3 (fun ad => []) (va_A [] sz)) 0 0 (va_A [] sz) := by
  refine st_I (by decide) (Nat.le_of_ble_eq_true rfl) ?_
  intro p e s m args below meth c A ls hx hb hr hml hown hlk hnm hsz hP hD hA hE hts hS hl
  have hown : s.vm.findClass RJ0 = some m.cls := hown
  have hl : lv_has ls 1 [(0, .ref (g (1 + 1)))] := hl
  refine lv_aload_n hx hb dJ0_length_8abf5_0 rfl (lv_at hl 0 rfl) ?_
  refine vk_getf (v := .ref (g (1 + 3))) hx hb (hE.2.2.2.2.2.2.2.2.2.2.1 1 (by decide)).2.2.1 hS hown (hts _ tw_632) (fun _ h9 => h9) dJ0_length_8abf5_1 ?_
  refine va_tlen (v := 3) hx hb (hE.2.2.2.2.2.2.2.2.2.2.1 1 (by decide)).2.2.2 hS (by decide) dJ0_length_8abf5_4 ?_
  refine lv_aload_n hx hb dJ0_length_8abf5_5 rfl (lv_at hl 0 rfl) ?_
  refine ca_i (isC := []) (isR := []) (wr := []) (rn_VS (i := 1) (isC := []) (wc := []) (As := []) (rest := [.int 3]) (n := 0) hx hb hml hown hts hE hS hP hD hA hl.1 (k394_J0_coder_7d493 l D cy g  s.heap.size ) rfl rfl (by decide) rfl ax_186 rfl rfl ax_187 ⟨Nat.le_of_ble_eq_true rfl, Nat.le_of_ble_eq_true rfl⟩ rfl rfl (Nat.le_of_ble_eq_true rfl) dJ0_length_8abf5_6 ⟨(Nat.le_of_ble_eq_true rfl), (Nat.le_of_ble_eq_true rfl)⟩) hP hD hS hA rfl rfl rfl (by decide) (fun ad6 H locs hP hD hS => ?_)
  have hP : va_P D vwCl [] H := hP
  have hD : va_D A [] := hD
  refine lv_ishr hx hb dJ0_length_8abf5_9 ?_
  refine tp_i 3 (by decide) ?_
  exact en_z hx hb hr hlk hP hD hS rfl (fun _ => 0) (is := []) rfl rfl (Nat.le_of_ble_eq_true rfl) (Nat.le_of_ble_eq_true rfl) dJ0_length_8abf5_10
set_option maxHeartbeats 4000000 in
set_option maxRecDepth 100000 in
theorem k396_J1_indexOfChar_4cfef (l : Launch) (D : va_G) (cy : Nat → ClassId) (g : Nat → Nat)  (sz : Nat)  : Met l yJ1_indexOfChar_4cfef [.code yJ1_indexOfChar_4cfef cJ1_indexOfChar_4cfef 6 (some .int)] ({ frames := 0, cells := 0, slots := 0, locals := 0 }) (PC D cy g [] sz [.ref (g (1 + 3)), .int 118, .int 0, .int 3]) (QI D 2 (fun ad => []) (va_A [] sz)) 0 0 (va_A [] sz) := by
  refine st_I (by decide) (Nat.le_of_ble_eq_true rfl) ?_
  intro p e s m args below meth c A ls hx hb hr hml hown hlk hnm hsz hP hD hA hE hts hS hl
  have hown : s.vm.findClass RJ1 = some m.cls := hown
  have hl : lv_has ls 6 [(0, .ref (g (1 + 3))), (1, .int 118), (2, .int 0), (3, .int 3)] := hl
  refine lv_iload_n hx hb dJ1_indexOfChar_4cfef_0 rfl (lv_at hl 1 rfl) ?_
  refine lv_i2b (v := 118) hx hb dJ1_indexOfChar_4cfef_1 (by decide) ?_
  refine lv_istore (lv' := [(4, .int 118), (0, .ref (g (1 + 3))), (1, .int 118), (2, .int 0), (3, .int 3)]) hx hb dJ1_indexOfChar_4cfef_2 hl (Nat.le_of_ble_eq_true rfl) rfl (fun ls hl => ?_)
  refine lv_iload_n hx hb dJ1_indexOfChar_4cfef_4 rfl (lv_at hl 3 rfl) ?_
  refine lv_istore (lv' := [(5, .int 0), (4, .int 118), (0, .ref (g (1 + 3))), (1, .int 118), (2, .int 0), (3, .int 3)]) hx hb dJ1_indexOfChar_4cfef_5 hl (Nat.le_of_ble_eq_true rfl) rfl (fun ls hl => ?_)
  refine lv_iload hx hb dJ1_indexOfChar_4cfef_7 (lv_at hl 0 rfl) ?_
  refine lv_iload_n hx hb dJ1_indexOfChar_4cfef_9 rfl (lv_at hl 5 rfl) ?_
  refine lv_icmp_ge (tgt := 31) hx hb dJ1_indexOfChar_4cfef_10 (by decide) (fun z => absurd z (by decide)) (fun _ => ?_)
  refine lv_aload_n hx hb dJ1_indexOfChar_4cfef_13 rfl (lv_at hl 2 rfl) ?_
  refine lv_iload hx hb dJ1_indexOfChar_4cfef_14 (lv_at hl 0 rfl) ?_
  refine va_tb (v := .int 97) hx hb (hE.2.2.2.2.2.2.2.2.2.2.1 1 (by decide)).2.2.2 hS (by unfold vp_in; decide) rfl dJ1_indexOfChar_4cfef_16 ?_
  refine lv_iload hx hb dJ1_indexOfChar_4cfef_17 (lv_at hl 1 rfl) ?_
  refine lv_icmp_ne (tgt := 25) hx hb dJ1_indexOfChar_4cfef_19 (by decide) (fun _ => ?_) (fun z => absurd z (by decide))
  refine lv_iinc (v := 1) (lv' := [(5, .int 1), (4, .int 118), (0, .ref (g (1 + 3))), (1, .int 118), (2, .int 0), (3, .int 3)]) hx hb dJ1_indexOfChar_4cfef_25 hl (k := 0) rfl (by decide) (Nat.le_of_ble_eq_true rfl) rfl (fun ls hl => ?_)
  refine lv_goto (tgt := 7) hx hb dJ1_indexOfChar_4cfef_28 (by decide) ?_
  refine lv_iload hx hb dJ1_indexOfChar_4cfef_7 (lv_at hl 0 rfl) ?_
  refine lv_iload_n hx hb dJ1_indexOfChar_4cfef_9 rfl (lv_at hl 5 rfl) ?_
  refine lv_icmp_ge (tgt := 31) hx hb dJ1_indexOfChar_4cfef_10 (by decide) (fun z => absurd z (by decide)) (fun _ => ?_)
  refine lv_aload_n hx hb dJ1_indexOfChar_4cfef_13 rfl (lv_at hl 2 rfl) ?_
  refine lv_iload hx hb dJ1_indexOfChar_4cfef_14 (lv_at hl 0 rfl) ?_
  refine va_tb (v := .int 105) hx hb (hE.2.2.2.2.2.2.2.2.2.2.1 1 (by decide)).2.2.2 hS (by unfold vp_in; decide) rfl dJ1_indexOfChar_4cfef_16 ?_
  refine lv_iload hx hb dJ1_indexOfChar_4cfef_17 (lv_at hl 1 rfl) ?_
  refine lv_icmp_ne (tgt := 25) hx hb dJ1_indexOfChar_4cfef_19 (by decide) (fun _ => ?_) (fun z => absurd z (by decide))
  refine lv_iinc (v := 2) (lv' := [(5, .int 2), (4, .int 118), (0, .ref (g (1 + 3))), (1, .int 118), (2, .int 0), (3, .int 3)]) hx hb dJ1_indexOfChar_4cfef_25 hl (k := 0) rfl (by decide) (Nat.le_of_ble_eq_true rfl) rfl (fun ls hl => ?_)
  refine lv_goto (tgt := 7) hx hb dJ1_indexOfChar_4cfef_28 (by decide) ?_
  refine lv_iload hx hb dJ1_indexOfChar_4cfef_7 (lv_at hl 0 rfl) ?_
  refine lv_iload_n hx hb dJ1_indexOfChar_4cfef_9 rfl (lv_at hl 5 rfl) ?_
  refine lv_icmp_ge (tgt := 31) hx hb dJ1_indexOfChar_4cfef_10 (by decide) (fun z => absurd z (by decide)) (fun _ => ?_)
  refine lv_aload_n hx hb dJ1_indexOfChar_4cfef_13 rfl (lv_at hl 2 rfl) ?_
  refine lv_iload hx hb dJ1_indexOfChar_4cfef_14 (lv_at hl 0 rfl) ?_
  refine va_tb (v := .int 118) hx hb (hE.2.2.2.2.2.2.2.2.2.2.1 1 (by decide)).2.2.2 hS (by unfold vp_in; decide) rfl dJ1_indexOfChar_4cfef_16 ?_
  refine lv_iload hx hb dJ1_indexOfChar_4cfef_17 (lv_at hl 1 rfl) ?_
  refine lv_icmp_ne (tgt := 25) hx hb dJ1_indexOfChar_4cfef_19 (by decide) (fun z => absurd (by decide) z) (fun _ => ?_)
  refine lv_iload hx hb dJ1_indexOfChar_4cfef_22 (lv_at hl 0 rfl) ?_
  exact en_z hx hb hr hlk hP hD hS rfl (fun _ => 0) (is := []) rfl rfl (Nat.le_of_ble_eq_true rfl) (Nat.le_of_ble_eq_true rfl) dJ1_indexOfChar_4cfef_24
set_option maxHeartbeats 4000000 in
set_option maxRecDepth 100000 in
theorem k397_J1_indexOf_4cfef (l : Launch) (D : va_G) (cy : Nat → ClassId) (g : Nat → Nat)  (sz : Nat)  : Met l yJ1_indexOf_4cfef [.code yJ1_indexOf_4cfef cJ1_indexOf_4cfef 4 (some .int)] ({ frames := 1, cells := 0, slots := 0, locals := 25 }) (PC D cy g [] sz [.ref (g (1 + 3)), .int 118, .int 0, .int 3]) (QI D 2 (fun ad => []) (va_A [] sz)) 0 0 (va_A [] sz) := by
  refine st_I (by decide) (Nat.le_of_ble_eq_true rfl) ?_
  intro p e s m args below meth c A ls hx hb hr hml hown hlk hnm hsz hP hD hA hE hts hS hl
  have hown : s.vm.findClass RJ1 = some m.cls := hown
  have hl : lv_has ls 4 [(0, .ref (g (1 + 3))), (1, .int 118), (2, .int 0), (3, .int 3)] := hl
  refine lv_iload_n hx hb dJ1_indexOf_4cfef_0 rfl (lv_at hl 1 rfl) ?_
  refine ca_i (isC := []) (isR := []) (wr := []) (rn_S (isC := []) (wc := []) (As := [.int 118]) (rest := []) (n := 1) hx hb hml hown hts hE hS hP hD hA hl.1 (k281_J1_canEncode_9a6ad l D cy g  s.heap.size ) rfl rfl ax_188 rfl rfl ax_189 ⟨Nat.le_of_ble_eq_true rfl, Nat.le_of_ble_eq_true rfl⟩ rfl rfl (Nat.le_of_ble_eq_true rfl) dJ1_indexOf_4cfef_1 ⟨(Nat.le_of_ble_eq_true rfl), (Nat.le_of_ble_eq_true rfl)⟩) hP hD hS hA rfl rfl rfl (by decide) (fun ad1 H locs hP hD hS => ?_)
  have hP : va_P D vwCl [] H := hP
  have hD : va_D A [] := hD
  refine lv_if_ne (tgt := 9) hx hb dJ1_indexOf_4cfef_4 (by decide) (fun _ => ?_) (fun z => absurd z (by decide))
  refine lv_iload_n hx hb dJ1_indexOf_4cfef_9 rfl (lv_at hl 2 rfl) ?_
  refine lv_iconst (v := 0) hx hb dJ1_indexOf_4cfef_10 (by decide) ?_
  refine va_mmax hx hb (hml.trans hl.1.symm) hown (hts _ tw_642) (hts _ tw_344) (hts _ tw_345) (hts _ tw_346) (Nat.le_of_ble_eq_true rfl) (Nat.le_of_ble_eq_true rfl) (Nat.le_of_ble_eq_true rfl) (Nat.le_of_ble_eq_true rfl) dJ1_indexOf_4cfef_11 ?_
  refine tp_i 0 (by decide) ?_
  refine lv_istore_n (lv' := [(2, .int 0), (0, .ref (g (1 + 3))), (1, .int 118), (3, .int 3)]) hx hb dJ1_indexOf_4cfef_14 rfl hl (Nat.le_of_ble_eq_true rfl) rfl (fun ls hl => ?_)
  refine lv_iload_n hx hb dJ1_indexOf_4cfef_15 rfl (lv_at hl 3 rfl) ?_
  refine lv_aload_n hx hb dJ1_indexOf_4cfef_16 rfl (lv_at hl 1 rfl) ?_
  refine va_tlen (v := 3) hx hb (hE.2.2.2.2.2.2.2.2.2.2.1 1 (by decide)).2.2.2 hS (by decide) dJ1_indexOf_4cfef_17 ?_
  refine va_mmin hx hb (hml.trans hl.1.symm) hown (hts _ tw_643) (hts _ tw_644) (hts _ tw_345) (hts _ tw_645) (Nat.le_of_ble_eq_true rfl) (Nat.le_of_ble_eq_true rfl) (Nat.le_of_ble_eq_true rfl) (Nat.le_of_ble_eq_true rfl) dJ1_indexOf_4cfef_18 ?_
  refine tp_i 3 (by decide) ?_
  refine lv_istore_n (lv' := [(3, .int 3), (2, .int 0), (0, .ref (g (1 + 3))), (1, .int 118)]) hx hb dJ1_indexOf_4cfef_21 rfl hl (Nat.le_of_ble_eq_true rfl) rfl (fun ls hl => ?_)
  refine lv_iload_n hx hb dJ1_indexOf_4cfef_22 rfl (lv_at hl 1 rfl) ?_
  refine lv_iload_n hx hb dJ1_indexOf_4cfef_23 rfl (lv_at hl 0 rfl) ?_
  refine lv_icmp_lt (tgt := 29) hx hb dJ1_indexOf_4cfef_24 (by decide) (fun _ => ?_) (fun z => absurd (by decide) z)
  refine lv_aload_n hx hb dJ1_indexOf_4cfef_29 rfl (lv_at hl 2 rfl) ?_
  refine lv_iload_n hx hb dJ1_indexOf_4cfef_30 rfl (lv_at hl 3 rfl) ?_
  refine lv_iload_n hx hb dJ1_indexOf_4cfef_31 rfl (lv_at hl 1 rfl) ?_
  refine lv_iload_n hx hb dJ1_indexOf_4cfef_32 rfl (lv_at hl 0 rfl) ?_
  refine ca_i (isC := []) (isR := []) (wr := []) (rn_S (isC := []) (wc := []) (As := [.ref (g (1 + 3)), .int 118, .int 0, .int 3]) (rest := []) (n := 4) hx hb hml hown hts hE hS hP hD hA hl.1 (k396_J1_indexOfChar_4cfef l D cy g  H.size ) rfl rfl ax_190 rfl rfl ax_191 ⟨Nat.le_of_ble_eq_true rfl, Nat.le_of_ble_eq_true rfl⟩ rfl rfl (Nat.le_of_ble_eq_true rfl) dJ1_indexOf_4cfef_33 ⟨(Nat.le_of_ble_eq_true rfl), (Nat.le_of_ble_eq_true rfl)⟩) hP hD hS hA rfl rfl rfl (by decide) (fun ad33 H locs hP hD hS => ?_)
  have hP : va_P D vwCl [] H := hP
  have hD : va_D A [] := hD
  exact en_z hx hb hr hlk hP hD hS rfl (fun _ => 0) (is := []) rfl rfl (Nat.le_of_ble_eq_true rfl) (Nat.le_of_ble_eq_true rfl) dJ1_indexOf_4cfef_36
set_option maxHeartbeats 4000000 in
set_option maxRecDepth 100000 in
theorem k398_J0_indexOf_7cf53 (l : Launch) (D : va_G) (cy : Nat → ClassId) (g : Nat → Nat)  (sz : Nat)  : Met l yJ0_indexOf_7cf53 [.code yJ0_indexOf_7cf53 cJ0_indexOf_7cf53 3 (some .int)] ({ frames := 2, cells := 0, slots := 0, locals := 48 }) (PC D cy g [] sz [.ref (g (1 + 1)), .int 118, .int 0]) (QI D 2 (fun ad => []) (va_A [] sz)) 0 0 (va_A [] sz) := by
  refine st_I (by decide) (Nat.le_of_ble_eq_true rfl) ?_
  intro p e s m args below meth c A ls hx hb hr hml hown hlk hnm hsz hP hD hA hE hts hS hl
  have hown : s.vm.findClass RJ0 = some m.cls := hown
  have hl : lv_has ls 3 [(0, .ref (g (1 + 1))), (1, .int 118), (2, .int 0)] := hl
  refine lv_aload_n hx hb dJ0_indexOf_7cf53_0 rfl (lv_at hl 0 rfl) ?_
  refine ca_i (isC := []) (isR := []) (wr := []) (rn_VS (i := 1) (isC := []) (wc := []) (As := []) (rest := []) (n := 0) hx hb hml hown hts hE hS hP hD hA hl.1 (k393_J0_isLatin1_aae02 l D cy g  s.heap.size ) rfl rfl (by decide) rfl ax_192 rfl rfl ax_193 ⟨Nat.le_of_ble_eq_true rfl, Nat.le_of_ble_eq_true rfl⟩ rfl rfl (Nat.le_of_ble_eq_true rfl) dJ0_indexOf_7cf53_1 ⟨(Nat.le_of_ble_eq_true rfl), (Nat.le_of_ble_eq_true rfl)⟩) hP hD hS hA rfl rfl rfl (by decide) (fun ad1 H locs hP hD hS => ?_)
  have hP : va_P D vwCl [] H := hP
  have hD : va_D A [] := hD
  refine lv_if_eq (tgt := 23) hx hb dJ0_indexOf_7cf53_4 (by decide) (fun z => absurd z (by decide)) (fun _ => ?_)
  refine lv_aload_n hx hb dJ0_indexOf_7cf53_7 rfl (lv_at hl 0 rfl) ?_
  refine vk_getf (v := .ref (g (1 + 3))) hx hb (hE.2.2.2.2.2.2.2.2.2.2.1 1 (by decide)).2.2.1 hS hown (hts _ tw_632) (fun _ h9 => h9) dJ0_indexOf_7cf53_8 ?_
  refine lv_iload_n hx hb dJ0_indexOf_7cf53_11 rfl (lv_at hl 1 rfl) ?_
  refine lv_iload_n hx hb dJ0_indexOf_7cf53_12 rfl (lv_at hl 2 rfl) ?_
  refine lv_aload_n hx hb dJ0_indexOf_7cf53_13 rfl (lv_at hl 0 rfl) ?_
  refine ca_i (isC := []) (isR := []) (wr := []) (rn_VS (i := 1) (isC := []) (wc := []) (As := []) (rest := [.int 0, .int 118, .ref (g (1 + 3))]) (n := 0) hx hb hml hown hts hE hS hP hD hA hl.1 (k395_J0_length_8abf5 l D cy g  H.size ) rfl rfl (by decide) rfl ax_194 rfl rfl ax_195 ⟨Nat.le_of_ble_eq_true rfl, Nat.le_of_ble_eq_true rfl⟩ rfl rfl (Nat.le_of_ble_eq_true rfl) dJ0_indexOf_7cf53_14 ⟨(Nat.le_of_ble_eq_true rfl), (Nat.le_of_ble_eq_true rfl)⟩) hP hD hS hA rfl rfl rfl (by decide) (fun ad14 H locs hP hD hS => ?_)
  have hP : va_P D vwCl [] H := hP
  have hD : va_D A [] := hD
  refine ca_i (isC := []) (isR := []) (wr := []) (rn_S (isC := []) (wc := []) (As := [.ref (g (1 + 3)), .int 118, .int 0, .int 3]) (rest := []) (n := 4) hx hb hml hown hts hE hS hP hD hA hl.1 (k397_J1_indexOf_4cfef l D cy g  H.size ) rfl rfl ax_196 rfl rfl ax_197 ⟨Nat.le_of_ble_eq_true rfl, Nat.le_of_ble_eq_true rfl⟩ rfl rfl (Nat.le_of_ble_eq_true rfl) dJ0_indexOf_7cf53_17 ⟨(Nat.le_of_ble_eq_true rfl), (Nat.le_of_ble_eq_true rfl)⟩) hP hD hS hA rfl rfl rfl (by decide) (fun ad17 H locs hP hD hS => ?_)
  have hP : va_P D vwCl [] H := hP
  have hD : va_D A [] := hD
  refine lv_goto (tgt := 36) hx hb dJ0_indexOf_7cf53_20 (by decide) ?_
  exact en_z hx hb hr hlk hP hD hS rfl (fun _ => 0) (is := []) rfl rfl (Nat.le_of_ble_eq_true rfl) (Nat.le_of_ble_eq_true rfl) dJ0_indexOf_7cf53_36
set_option maxHeartbeats 4000000 in
set_option maxRecDepth 100000 in
theorem k399_J0_indexOf_0f7a4 (l : Launch) (D : va_G) (cy : Nat → ClassId) (g : Nat → Nat)  (sz : Nat)  : Met l yJ0_indexOf_0f7a4 [.code yJ0_indexOf_0f7a4 cJ0_indexOf_0f7a4 2 (some .int)] ({ frames := 3, cells := 0, slots := 0, locals := 70 }) (PC D cy g [] sz [.ref (g (1 + 1)), .int 118]) (QI D 2 (fun ad => []) (va_A [] sz)) 0 0 (va_A [] sz) := by
  refine st_I (by decide) (Nat.le_of_ble_eq_true rfl) ?_
  intro p e s m args below meth c A ls hx hb hr hml hown hlk hnm hsz hP hD hA hE hts hS hl
  have hown : s.vm.findClass RJ0 = some m.cls := hown
  have hl : lv_has ls 2 [(0, .ref (g (1 + 1))), (1, .int 118)] := hl
  refine lv_aload_n hx hb dJ0_indexOf_0f7a4_0 rfl (lv_at hl 0 rfl) ?_
  refine lv_iload_n hx hb dJ0_indexOf_0f7a4_1 rfl (lv_at hl 1 rfl) ?_
  refine lv_iconst (v := 0) hx hb dJ0_indexOf_0f7a4_2 (by decide) ?_
  refine ca_i (isC := []) (isR := []) (wr := []) (rn_VS (i := 1) (isC := []) (wc := []) (As := [.int 118, .int 0]) (rest := []) (n := 2) hx hb hml hown hts hE hS hP hD hA hl.1 (k398_J0_indexOf_7cf53 l D cy g  s.heap.size ) rfl rfl (by decide) rfl ax_198 rfl rfl ax_199 ⟨Nat.le_of_ble_eq_true rfl, Nat.le_of_ble_eq_true rfl⟩ rfl rfl (Nat.le_of_ble_eq_true rfl) dJ0_indexOf_0f7a4_3 ⟨(Nat.le_of_ble_eq_true rfl), (Nat.le_of_ble_eq_true rfl)⟩) hP hD hS hA rfl rfl rfl (by decide) (fun ad3 H locs hP hD hS => ?_)
  have hP : va_P D vwCl [] H := hP
  have hD : va_D A [] := hD
  exact en_z hx hb hr hlk hP hD hS rfl (fun _ => 0) (is := []) rfl rfl (Nat.le_of_ble_eq_true rfl) (Nat.le_of_ble_eq_true rfl) dJ0_indexOf_0f7a4_6
set_option maxHeartbeats 4000000 in
set_option maxRecDepth 100000 in
theorem k400_X10_addStroke (l : Launch) (D : va_G) (cy : Nat → ClassId) (g : Nat → Nat) (x0 : Int32) (x1 : Int32) (a0 : Nat) (a1 : Nat) (v0 : Value) (v1 : Value) (v2 : Value) (v3 : Value) (v4 : Value) (v5 : Value) (v6 : Value) (v7 : Value) (v8 : Value) (v9 : Value) (v10 : Value) (v11 : Value) (v12 : Value) (v13 : Value) (v14 : Value) (v15 : Value) (v16 : Value) (v17 : Value) (v18 : Value) (v19 : Value) (v20 : Value) (v21 : Value) (v22 : Value) (v23 : Value) (v24 : Value) (v25 : Value) (v26 : Value) (v27 : Value) (v28 : Value) (sz : Nat) (h0 : x1 < 0) : Met l yX10_addStroke [.code yX10_addStroke cX10_addStroke 4 (some .int)] ({ frames := 4, cells := 0, slots := 0, locals := 91 }) (PC D cy g [(a0, .inr (15, [v0, .ref a1, v1, v2, v3, v4, v5, v6, v7, v8, v9, v10, v11, v12, v13, v14, v15, v16, v17, v18, v19, v20, v21, v22, v23, v24, v25, v26])), (a1, .inr (4, [v27, v28, .int 0]))] sz [.ref a0, .int 118, .int x0, .int x1]) (QI D (-1) (fun ad => [(a0, .inr (15, [.int 2, .ref a1, v1, v2, v3, v4, v5, v6, v7, v8, v9, v10, v11, v12, v13, v14, v15, v16, v17, v18, v19, v20, v21, v22, v23, v24, v25, v26]))]) (va_A [(a0, .inr (15, [v0, .ref a1, v1, v2, v3, v4, v5, v6, v7, v8, v9, v10, v11, v12, v13, v14, v15, v16, v17, v18, v19, v20, v21, v22, v23, v24, v25, v26])), (a1, .inr (4, [v27, v28, .int 0]))] sz)) 0 0 (va_A [(a0, .inr (15, [v0, .ref a1, v1, v2, v3, v4, v5, v6, v7, v8, v9, v10, v11, v12, v13, v14, v15, v16, v17, v18, v19, v20, v21, v22, v23, v24, v25, v26])), (a1, .inr (4, [v27, v28, .int 0]))] sz) := by
  refine st_I (by decide) (Nat.le_of_ble_eq_true rfl) ?_
  intro p e s m args below meth c A ls hx hb hr hml hown hlk hnm hsz hP hD hA hE hts hS hl
  have hown : s.vm.findClass RX10 = some m.cls := hown
  have hl : lv_has ls 4 [(0, .ref a0), (1, .int 118), (2, .int x0), (3, .int x1)] := hl
  refine lv_aload_n hx hb dX10_addStroke_0 rfl (lv_at hl 0 rfl) ?_
  refine ca_v (isC := [0]) (isR := [1]) (wr := [(a1, .inr (4, [v27, v28, .int 0]))]) (rn_V (ci := 15) (q0 := 0) (isC := [0]) (wc := [(a0, .inr (15, [v0, .ref a1, v1, v2, v3, v4, v5, v6, v7, v8, v9, v10, v11, v12, v13, v14, v15, v16, v17, v18, v19, v20, v21, v22, v23, v24, v25, v26]))]) (As := []) (rest := []) (n := 0) hx hb hml hown hts hE hS hP hD hA hl.1 (k20_X10_begins l D cy g a0 (v0) (.ref a1) (v1) (v2) (v3) (v4) (v5) (v6) (v7) (v8) (v9) (v10) (v11) (v12) (v13) (v14) (v15) (v16) (v17) (v18) (v19) (v20) (v21) (v22) (v23) (v24) (v25) (v26) s.heap.size ) rfl rfl rfl rfl rfl ax_37 rfl rfl ax_38 ⟨Nat.le_of_ble_eq_true rfl, Nat.le_of_ble_eq_true rfl⟩ rfl rfl (Nat.le_of_ble_eq_true rfl) dX10_addStroke_1 ⟨(Nat.le_of_ble_eq_true rfl), (Nat.le_of_ble_eq_true rfl)⟩) hP hD hS hA rfl rfl rfl (by decide) (fun ad1 H locs hP hD hS => ?_)
  have hP : va_P D vwCl [(a1, .inr (4, [v27, v28, .int 0])), (a0, .inr (15, [.int 0, .ref a1, v1, v2, v3, v4, v5, v6, v7, v8, v9, v10, v11, v12, v13, v14, v15, v16, v17, v18, v19, v20, v21, v22, v23, v24, v25, v26]))] H := hP
  have hD : va_D A [(a1, .inr (4, [v27, v28, .int 0])), (a0, .inr (15, [.int 0, .ref a1, v1, v2, v3, v4, v5, v6, v7, v8, v9, v10, v11, v12, v13, v14, v15, v16, v17, v18, v19, v20, v21, v22, v23, v24, v25, v26]))] := hD
  refine lv_aload_n hx hb dX10_addStroke_4 rfl (lv_at hl 0 rfl) ?_
  refine va_ldcS (tx := "aiv") (q := (g (1 + 1))) hx hb hown hE.2.2.1.2.2 dX10_addStroke_5 ?_
  refine lv_iload_n hx hb dX10_addStroke_7 rfl (lv_at hl 1 rfl) ?_
  refine ca_i (isC := []) (isR := [0, 1]) (wr := [(a1, .inr (4, [v27, v28, .int 0])), (a0, .inr (15, [.int 0, .ref a1, v1, v2, v3, v4, v5, v6, v7, v8, v9, v10, v11, v12, v13, v14, v15, v16, v17, v18, v19, v20, v21, v22, v23, v24, v25, v26]))]) (rn_VS (i := 1) (isC := []) (wc := []) (As := [.int 118]) (rest := [.ref a0]) (n := 1) hx hb hml hown hts hE hS hP hD hA hl.1 (k399_J0_indexOf_0f7a4 l D cy g  H.size ) rfl rfl (by decide) rfl ax_200 rfl rfl ax_201 ⟨Nat.le_of_ble_eq_true rfl, Nat.le_of_ble_eq_true rfl⟩ rfl rfl (Nat.le_of_ble_eq_true rfl) dX10_addStroke_8 ⟨(Nat.le_of_ble_eq_true rfl), (Nat.le_of_ble_eq_true rfl)⟩) hP hD hS hA rfl rfl rfl (by decide) (fun ad8 H locs hP hD hS => ?_)
  have hP : va_P D vwCl [(a1, .inr (4, [v27, v28, .int 0])), (a0, .inr (15, [.int 0, .ref a1, v1, v2, v3, v4, v5, v6, v7, v8, v9, v10, v11, v12, v13, v14, v15, v16, v17, v18, v19, v20, v21, v22, v23, v24, v25, v26]))] H := hP
  have hD : va_D A [(a1, .inr (4, [v27, v28, .int 0])), (a0, .inr (15, [.int 0, .ref a1, v1, v2, v3, v4, v5, v6, v7, v8, v9, v10, v11, v12, v13, v14, v15, v16, v17, v18, v19, v20, v21, v22, v23, v24, v25, v26]))] := hD
  refine lv_if_lt (tgt := 32) hx hb dX10_addStroke_11 (by decide) (fun z => absurd z (by decide)) (fun _ => ?_)
  refine lv_iload_n hx hb dX10_addStroke_14 rfl (lv_at hl 1 rfl) ?_
  refine lv_bipush (v := 118) hx hb dX10_addStroke_15 (by decide) ?_
  refine lv_icmp_eq (tgt := 36) hx hb dX10_addStroke_17 (by decide) (fun _ => ?_) (fun z => absurd (by decide) z)
  refine lv_iconst (v := 0) hx hb dX10_addStroke_36 (by decide) ?_
  refine lv_iconst (v := 1) hx hb dX10_addStroke_37 (by decide) ?_
  refine ca_i (isC := [1]) (isR := [0]) (wr := [(a1, .inr (4, [v27, v28, .int 0]))]) (rn_V (ci := 15) (q0 := 1) (isC := [1]) (wc := [(a0, .inr (15, [.int 0, .ref a1, v1, v2, v3, v4, v5, v6, v7, v8, v9, v10, v11, v12, v13, v14, v15, v16, v17, v18, v19, v20, v21, v22, v23, v24, v25, v26]))]) (As := [.int 0, .int 1]) (rest := []) (n := 2) hx hb hml hown hts hE hS hP hD hA hl.1 (k43_X10_fails l D cy g a0 (.ref a1) (v1) (v2) (v3) (v4) (v5) (v6) (v7) (v8) (v9) (v10) (v11) (v12) (v13) (v14) (v15) (v16) (v17) (v18) (v19) (v20) (v21) (v22) (v23) (v24) (v25) (v26) H.size ) rfl rfl rfl rfl rfl ax_41 rfl rfl ax_42 ⟨Nat.le_of_ble_eq_true rfl, Nat.le_of_ble_eq_true rfl⟩ rfl rfl (Nat.le_of_ble_eq_true rfl) dX10_addStroke_38 ⟨(Nat.le_of_ble_eq_true rfl), (Nat.le_of_ble_eq_true rfl)⟩) hP hD hS hA rfl rfl rfl (by decide) (fun ad38 H locs hP hD hS => ?_)
  have hP : va_P D vwCl [(a1, .inr (4, [v27, v28, .int 0])), (a0, .inr (15, [.int 0, .ref a1, v1, v2, v3, v4, v5, v6, v7, v8, v9, v10, v11, v12, v13, v14, v15, v16, v17, v18, v19, v20, v21, v22, v23, v24, v25, v26]))] H := hP
  have hD : va_D A [(a1, .inr (4, [v27, v28, .int 0])), (a0, .inr (15, [.int 0, .ref a1, v1, v2, v3, v4, v5, v6, v7, v8, v9, v10, v11, v12, v13, v14, v15, v16, v17, v18, v19, v20, v21, v22, v23, v24, v25, v26]))] := hD
  refine lv_if_ne (tgt := 101) hx hb dX10_addStroke_41 (by decide) (fun z => absurd (by decide) z) (fun _ => ?_)
  refine lv_aload_n hx hb dX10_addStroke_44 rfl (lv_at hl 0 rfl) ?_
  refine lv_iload_n hx hb dX10_addStroke_45 rfl (lv_at hl 1 rfl) ?_
  refine lv_bipush (v := 97) hx hb dX10_addStroke_46 (by decide) ?_
  refine lv_icmp_eq (tgt := 66) hx hb dX10_addStroke_48 (by decide) (fun z => absurd z (by decide)) (fun _ => ?_)
  refine lv_aload_n hx hb dX10_addStroke_51 rfl (lv_at hl 0 rfl) ?_
  refine va_get (D := D) (ci := 15) (v := .ref a1) (C := RX10) (T := TX10) (N := 28) hx hb hts ax_29 hown hE.1 hP 1 rfl rfl 1 (by decide) (hts _ tw_277) (fun _ h9 => h9) rfl dX10_addStroke_52 ?_
  refine lv_iload_n hx hb dX10_addStroke_55 rfl (lv_at hl 3 rfl) ?_
  refine ca_i (isC := [0]) (isR := [1]) (wr := [(a0, .inr (15, [.int 0, .ref a1, v1, v2, v3, v4, v5, v6, v7, v8, v9, v10, v11, v12, v13, v14, v15, v16, v17, v18, v19, v20, v21, v22, v23, v24, v25, v26]))]) (rn_S (isC := [0]) (wc := [(a1, .inr (4, [v27, v28, .int 0]))]) (As := [.ref a1, .int x1]) (rest := [.ref a0]) (n := 2) hx hb hml hown hts hE hS hP hD hA hl.1 (k70_X10_isOf l D cy g x1 a1 (v27) (v28) H.size h0) rfl rfl ax_74 rfl rfl ax_75 ⟨Nat.le_of_ble_eq_true rfl, Nat.le_of_ble_eq_true rfl⟩ rfl rfl (Nat.le_of_ble_eq_true rfl) dX10_addStroke_56 ⟨(Nat.le_of_ble_eq_true rfl), (Nat.le_of_ble_eq_true rfl)⟩) hP hD hS hA rfl rfl rfl (by decide) (fun ad56 H locs hP hD hS => ?_)
  have hP : va_P D vwCl [(a0, .inr (15, [.int 0, .ref a1, v1, v2, v3, v4, v5, v6, v7, v8, v9, v10, v11, v12, v13, v14, v15, v16, v17, v18, v19, v20, v21, v22, v23, v24, v25, v26])), (a1, .inr (4, [v27, v28, .int 0]))] H := hP
  have hD : va_D A [(a0, .inr (15, [.int 0, .ref a1, v1, v2, v3, v4, v5, v6, v7, v8, v9, v10, v11, v12, v13, v14, v15, v16, v17, v18, v19, v20, v21, v22, v23, v24, v25, v26])), (a1, .inr (4, [v27, v28, .int 0]))] := hD
  refine lv_if_ne (tgt := 66) hx hb dX10_addStroke_59 (by decide) (fun z => absurd (by decide) z) (fun _ => ?_)
  refine lv_iconst (v := 1) hx hb dX10_addStroke_62 (by decide) ?_
  refine lv_goto (tgt := 67) hx hb dX10_addStroke_63 (by decide) ?_
  refine lv_iconst (v := 2) hx hb dX10_addStroke_67 (by decide) ?_
  refine ca_i (isC := [0]) (isR := [1]) (wr := [(a1, .inr (4, [v27, v28, .int 0]))]) (rn_V (ci := 15) (q0 := 0) (isC := [0]) (wc := [(a0, .inr (15, [.int 0, .ref a1, v1, v2, v3, v4, v5, v6, v7, v8, v9, v10, v11, v12, v13, v14, v15, v16, v17, v18, v19, v20, v21, v22, v23, v24, v25, v26]))]) (As := [.int 1, .int 2]) (rest := []) (n := 2) hx hb hml hown hts hE hS hP hD hA hl.1 (k146_X10_fails l D cy g a0 (.ref a1) (v1) (v2) (v3) (v4) (v5) (v6) (v7) (v8) (v9) (v10) (v11) (v12) (v13) (v14) (v15) (v16) (v17) (v18) (v19) (v20) (v21) (v22) (v23) (v24) (v25) (v26) H.size ) rfl rfl rfl rfl rfl ax_41 rfl rfl ax_42 ⟨Nat.le_of_ble_eq_true rfl, Nat.le_of_ble_eq_true rfl⟩ rfl rfl (Nat.le_of_ble_eq_true rfl) dX10_addStroke_68 ⟨(Nat.le_of_ble_eq_true rfl), (Nat.le_of_ble_eq_true rfl)⟩) hP hD hS hA rfl rfl rfl (by decide) (fun ad68 H locs hP hD hS => ?_)
  have hP : va_P D vwCl [(a1, .inr (4, [v27, v28, .int 0])), (a0, .inr (15, [.int 2, .ref a1, v1, v2, v3, v4, v5, v6, v7, v8, v9, v10, v11, v12, v13, v14, v15, v16, v17, v18, v19, v20, v21, v22, v23, v24, v25, v26]))] H := hP
  have hD : va_D A [(a1, .inr (4, [v27, v28, .int 0])), (a0, .inr (15, [.int 2, .ref a1, v1, v2, v3, v4, v5, v6, v7, v8, v9, v10, v11, v12, v13, v14, v15, v16, v17, v18, v19, v20, v21, v22, v23, v24, v25, v26]))] := hD
  refine lv_if_ne (tgt := 101) hx hb dX10_addStroke_71 (by decide) (fun _ => ?_) (fun z => absurd z (by decide))
  refine lv_iconst (v := (-1)) hx hb dX10_addStroke_101 (by decide) ?_
  exact en_z hx hb hr hlk hP hD hS rfl (fun _ => 0) (is := [1]) rfl rfl (Nat.le_of_ble_eq_true rfl) (Nat.le_of_ble_eq_true rfl) dX10_addStroke_102
set_option maxHeartbeats 4000000 in
set_option maxRecDepth 100000 in
theorem k401_X9_addStroke (l : Launch) (hst : l.stackTraces = false) (D : va_G) (cy : Nat → ClassId) (g : Nat → Nat) (x0 : Int32) (x1 : Int32) (a0 : Nat) (a1 : Nat) (v0 : Value) (v1 : Value) (v2 : Value) (v3 : Value) (v4 : Value) (v5 : Value) (v6 : Value) (v7 : Value) (v8 : Value) (v9 : Value) (v10 : Value) (v11 : Value) (v12 : Value) (sz : Nat) (h0 : ¬ x1 < 0) : vx_Met l yX9_addStroke [.code yX9_addStroke cX9_addStroke 4 (some .int)] ({ frames := 7, cells := 1, slots := 6, locals := 103 }) (PC D cy g [(a0, .inr (14, [.ref a1, v0, v1, v2, v3, v4, v5])), (a1, .inr (5, [v6, v7, .int 0, v8, v9, v10, v11, v12]))] sz [.ref a0, .int 118, .int x0, .int x1]) QN (XE "java/lang/IndexOutOfBoundsException" (va_A [(a0, .inr (14, [.ref a1, v0, v1, v2, v3, v4, v5])), (a1, .inr (5, [v6, v7, .int 0, v8, v9, v10, v11, v12]))] sz)) 1 6 (va_A [(a0, .inr (14, [.ref a1, v0, v1, v2, v3, v4, v5])), (a1, .inr (5, [v6, v7, .int 0, v8, v9, v10, v11, v12]))] sz) := by
  refine st_X (by decide) (Nat.le_of_ble_eq_true rfl) ?_
  intro p e s m args below meth c A ls hx hb hr hml hown hlk hnm hsz hP hD hA hE hts hS hl hout
  have hown : s.vm.findClass RX9 = some m.cls := hown
  have hl : lv_has ls 4 [(0, .ref a0), (1, .int 118), (2, .int x0), (3, .int x1)] := hl
  refine lv_iload_n hx hb dX9_addStroke_0 rfl (lv_at hl 1 rfl) ?_
  refine lv_iload_n hx hb dX9_addStroke_1 rfl (lv_at hl 2 rfl) ?_
  refine ca_i (isC := []) (isR := [0, 1]) (wr := [(a0, .inr (14, [.ref a1, v0, v1, v2, v3, v4, v5])), (a1, .inr (5, [v6, v7, .int 0, v8, v9, v10, v11, v12]))]) (rn_S (isC := []) (wc := []) (As := [.int 118, .int x0]) (rest := []) (n := 2) hx hb hml hown hts hE hS hP hD hA hl.1 (k389_X1_isStroke l D cy g x0 s.heap.size ) rfl rfl ax_277 rfl rfl ax_278 ⟨Nat.le_of_ble_eq_true rfl, Nat.le_of_ble_eq_true rfl⟩ rfl rfl (Nat.le_of_ble_eq_true rfl) dX9_addStroke_2 ⟨(Nat.le_of_ble_eq_true rfl), (Nat.le_of_ble_eq_true rfl)⟩) hP hD hS hA rfl rfl rfl (by decide) (fun ad2 H locs hP hD hS => ?_)
  have hP : va_P D vwCl [(a0, .inr (14, [.ref a1, v0, v1, v2, v3, v4, v5])), (a1, .inr (5, [v6, v7, .int 0, v8, v9, v10, v11, v12]))] H := hP
  have hD : va_D A [(a0, .inr (14, [.ref a1, v0, v1, v2, v3, v4, v5])), (a1, .inr (5, [v6, v7, .int 0, v8, v9, v10, v11, v12]))] := hD
  refine lv_if_ne (tgt := 18) hx hb dX9_addStroke_5 (by decide) (fun _ => ?_) (fun z => absurd z (by decide))
  refine lv_iload_n hx hb dX9_addStroke_18 rfl (lv_at hl 1 rfl) ?_
  refine ca_i (isC := []) (isR := [0, 1]) (wr := [(a0, .inr (14, [.ref a1, v0, v1, v2, v3, v4, v5])), (a1, .inr (5, [v6, v7, .int 0, v8, v9, v10, v11, v12]))]) (rn_S (isC := []) (wc := []) (As := [.int 118]) (rest := []) (n := 1) hx hb hml hown hts hE hS hP hD hA hl.1 (k390_X1_needsBody l D cy g  H.size ) rfl rfl ax_279 rfl rfl ax_280 ⟨Nat.le_of_ble_eq_true rfl, Nat.le_of_ble_eq_true rfl⟩ rfl rfl (Nat.le_of_ble_eq_true rfl) dX9_addStroke_19 ⟨(Nat.le_of_ble_eq_true rfl), (Nat.le_of_ble_eq_true rfl)⟩) hP hD hS hA rfl rfl rfl (by decide) (fun ad19 H locs hP hD hS => ?_)
  have hP : va_P D vwCl [(a0, .inr (14, [.ref a1, v0, v1, v2, v3, v4, v5])), (a1, .inr (5, [v6, v7, .int 0, v8, v9, v10, v11, v12]))] H := hP
  have hD : va_D A [(a0, .inr (14, [.ref a1, v0, v1, v2, v3, v4, v5])), (a1, .inr (5, [v6, v7, .int 0, v8, v9, v10, v11, v12]))] := hD
  refine lv_if_eq (tgt := 30) hx hb dX9_addStroke_22 (by decide) (fun z => absurd z (by decide)) (fun _ => ?_)
  refine lv_aload_n hx hb dX9_addStroke_25 rfl (lv_at hl 0 rfl) ?_
  refine lv_iload_n hx hb dX9_addStroke_26 rfl (lv_at hl 3 rfl) ?_
  exact cx_out (isC := [0, 1]) (rx_V (ci := 14) (q0 := 0) (isC := [0, 1]) (wc := [(a0, .inr (14, [.ref a1, v0, v1, v2, v3, v4, v5])), (a1, .inr (5, [v6, v7, .int 0, v8, v9, v10, v11, v12]))]) (As := [.int x1]) (rest := []) (n := 1) hx hb hml hown hts hE hS hP hD hA hl.1 (k74_X9_requireBody l hst D cy g x1 a0 a1 (v0) (v1) (v2) (v3) (v4) (v5) (v6) (v7) (v8) (v9) (v10) (v11) (v12) H.size h0) rfl rfl rfl rfl rfl ax_68 rfl rfl ax_69 ⟨Nat.le_of_ble_eq_true rfl, Nat.le_of_ble_eq_true rfl⟩ rfl rfl (Nat.le_of_ble_eq_true rfl) dX9_addStroke_27 ⟨(Nat.le_of_ble_eq_true rfl), (Nat.le_of_ble_eq_true rfl)⟩) hD hS hA rfl hout hlk (Nat.le_of_ble_eq_true rfl) (Nat.le_of_ble_eq_true rfl)
set_option maxHeartbeats 4000000 in
set_option maxRecDepth 100000 in
theorem k402_L_addStroke (l : Launch) (hst : l.stackTraces = false) (D : va_G) (cy : Nat → ClassId) (g : Nat → Nat) (x0 : Int32) (x1 : Int32) (a0 : Nat) (a1 : Nat) (b0 : Nat) (v0 : Value) (v1 : Value) (v2 : Value) (v3 : Value) (v4 : Value) (v5 : Value) (v6 : Value) (v7 : Value) (v8 : Value) (v9 : Value) (v10 : Value) (v11 : Value) (v12 : Value) (sz : Nat) (h0 : ¬ x1 < 0) : Met l yL_addStroke [.codeWith yL_addStroke cL_addStroke 6 (some .int) [(0, 12, 15, 13), (0, 12, 19, 21), (0, 12, 23, 15)]] ({ frames := 8, cells := 1, slots := 6, locals := 126 }) (PC D cy g [(a0, .inr (14, [.ref a1, v0, v1, v2, v3, v4, v5])), (a1, .inr (5, [v6, v7, .int 0, v8, v9, v10, v11, v12]))] sz [.ref a0, .int 118, .int x0, .int x1, .ref b0]) (QI D 2 (fun ad => []) (va_A [(a0, .inr (14, [.ref a1, v0, v1, v2, v3, v4, v5])), (a1, .inr (5, [v6, v7, .int 0, v8, v9, v10, v11, v12]))] sz)) 1 6 (va_A [(a0, .inr (14, [.ref a1, v0, v1, v2, v3, v4, v5])), (a1, .inr (5, [v6, v7, .int 0, v8, v9, v10, v11, v12]))] sz) := by
  refine sh_I (by decide) (Nat.le_of_ble_eq_true rfl) ?_
  intro p e s m args below meth c A ls hx hb hr hml hown hlk hnm hsz hP hD hA hE hts hS hl htb
  have hown : s.vm.findClass RL = some m.cls := hown
  have hl : lv_has ls 6 [(0, .ref a0), (1, .int 118), (2, .int x0), (3, .int x1), (4, .ref b0)] := hl
  refine lv_aload hx hb dL_addStroke_0 (lv_at hl 4 rfl) ?_
  refine lv_iconst (v := 0) hx hb dL_addStroke_2 (by decide) ?_
  refine lv_aload_n hx hb dL_addStroke_3 rfl (lv_at hl 0 rfl) ?_
  refine lv_iload_n hx hb dL_addStroke_4 rfl (lv_at hl 1 rfl) ?_
  refine lv_iload_n hx hb dL_addStroke_5 rfl (lv_at hl 2 rfl) ?_
  refine lv_iload_n hx hb dL_addStroke_6 rfl (lv_at hl 3 rfl) ?_
  refine cx_catch (isC := [0, 1]) (isR := []) (wr := []) (hp := [(0, 12, 15, 13)]) (z := (0, 12, 19, 21)) (hq := [(0, 12, 23, 15)]) (name := "java/lang/IndexOutOfBoundsException") (own := RL) (rx_V (ci := 14) (q0 := 0) (isC := [0, 1]) (wc := [(a0, .inr (14, [.ref a1, v0, v1, v2, v3, v4, v5])), (a1, .inr (5, [v6, v7, .int 0, v8, v9, v10, v11, v12]))]) (As := [.int 118, .int x0, .int x1]) (rest := [.int 0, .ref b0]) (n := 3) hx hb hml hown hts hE hS hP hD hA hl.1 (k401_X9_addStroke l hst D cy g x0 x1 a0 a1 (v0) (v1) (v2) (v3) (v4) (v5) (v6) (v7) (v8) (v9) (v10) (v11) (v12) s.heap.size h0) rfl rfl rfl rfl rfl ax_281 rfl rfl ax_282 ⟨Nat.le_of_ble_eq_true rfl, Nat.le_of_ble_eq_true rfl⟩ rfl rfl (Nat.le_of_ble_eq_true rfl) dL_addStroke_7 ⟨(Nat.le_of_ble_eq_true rfl), (Nat.le_of_ble_eq_true rfl)⟩) hP hD hS hA hown hts hE htb rfl rfl rfl rfl (by decide) (fun z hz => by rcases List.mem_singleton.mp hz with rfl; exact ⟨by decide, "java/lang/IllegalArgumentException", tw_302, by decide +kernel⟩) (by decide) (by decide) tw_398 tw_399 (fun qx H locs hP hD hS => ?_)
  have hP : va_P D vwCl [] H := hP
  have hD : va_D A [] := hD
  refine lv_astore (lv' := [(5, .ref qx), (0, .ref a0), (1, .int 118), (2, .int x0), (3, .int x1), (4, .ref b0)]) hx hb dL_addStroke_19 hl (Nat.le_of_ble_eq_true rfl) rfl (fun ls hl => ?_)
  refine lv_iconst (v := 2) hx hb dL_addStroke_21 (by decide) ?_
  exact en_z hx hb hr hlk hP hD hS rfl (fun _ => 0) (is := []) rfl rfl (Nat.le_of_ble_eq_true rfl) (Nat.le_of_ble_eq_true rfl) dL_addStroke_22
set_option maxHeartbeats 4000000 in
set_option maxRecDepth 100000 in
theorem k403_X10_addStroke (l : Launch) (D : va_G) (cy : Nat → ClassId) (g : Nat → Nat) (x0 : Int32) (x1 : Int32) (a0 : Nat) (a1 : Nat) (v0 : Value) (v1 : Value) (v2 : Value) (v3 : Value) (v4 : Value) (v5 : Value) (v6 : Value) (v7 : Value) (v8 : Value) (v9 : Value) (v10 : Value) (v11 : Value) (v12 : Value) (v13 : Value) (v14 : Value) (v15 : Value) (v16 : Value) (v17 : Value) (v18 : Value) (v19 : Value) (v20 : Value) (v21 : Value) (v22 : Value) (v23 : Value) (v24 : Value) (v25 : Value) (v26 : Value) (v27 : Value) (v28 : Value) (sz : Nat) (h0 : ¬ x1 < 0) (h1 : (-1 : Int32) < x1) : Met l yX10_addStroke [.code yX10_addStroke cX10_addStroke 4 (some .int)] ({ frames := 4, cells := 0, slots := 0, locals := 91 }) (PC D cy g [(a0, .inr (15, [v0, .ref a1, v1, v2, v3, v4, v5, v6, v7, v8, v9, v10, v11, v12, v13, v14, v15, v16, v17, v18, v19, v20, v21, v22, v23, v24, v25, v26])), (a1, .inr (4, [v27, v28, .int 0]))] sz [.ref a0, .int 118, .int x0, .int x1]) (QI D (-1) (fun ad => [(a0, .inr (15, [.int 2, .ref a1, v1, v2, v3, v4, v5, v6, v7, v8, v9, v10, v11, v12, v13, v14, v15, v16, v17, v18, v19, v20, v21, v22, v23, v24, v25, v26]))]) (va_A [(a0, .inr (15, [v0, .ref a1, v1, v2, v3, v4, v5, v6, v7, v8, v9, v10, v11, v12, v13, v14, v15, v16, v17, v18, v19, v20, v21, v22, v23, v24, v25, v26])), (a1, .inr (4, [v27, v28, .int 0]))] sz)) 0 0 (va_A [(a0, .inr (15, [v0, .ref a1, v1, v2, v3, v4, v5, v6, v7, v8, v9, v10, v11, v12, v13, v14, v15, v16, v17, v18, v19, v20, v21, v22, v23, v24, v25, v26])), (a1, .inr (4, [v27, v28, .int 0]))] sz) := by
  refine st_I (by decide) (Nat.le_of_ble_eq_true rfl) ?_
  intro p e s m args below meth c A ls hx hb hr hml hown hlk hnm hsz hP hD hA hE hts hS hl
  have hown : s.vm.findClass RX10 = some m.cls := hown
  have hl : lv_has ls 4 [(0, .ref a0), (1, .int 118), (2, .int x0), (3, .int x1)] := hl
  refine lv_aload_n hx hb dX10_addStroke_0 rfl (lv_at hl 0 rfl) ?_
  refine ca_v (isC := [0]) (isR := [1]) (wr := [(a1, .inr (4, [v27, v28, .int 0]))]) (rn_V (ci := 15) (q0 := 0) (isC := [0]) (wc := [(a0, .inr (15, [v0, .ref a1, v1, v2, v3, v4, v5, v6, v7, v8, v9, v10, v11, v12, v13, v14, v15, v16, v17, v18, v19, v20, v21, v22, v23, v24, v25, v26]))]) (As := []) (rest := []) (n := 0) hx hb hml hown hts hE hS hP hD hA hl.1 (k20_X10_begins l D cy g a0 (v0) (.ref a1) (v1) (v2) (v3) (v4) (v5) (v6) (v7) (v8) (v9) (v10) (v11) (v12) (v13) (v14) (v15) (v16) (v17) (v18) (v19) (v20) (v21) (v22) (v23) (v24) (v25) (v26) s.heap.size ) rfl rfl rfl rfl rfl ax_37 rfl rfl ax_38 ⟨Nat.le_of_ble_eq_true rfl, Nat.le_of_ble_eq_true rfl⟩ rfl rfl (Nat.le_of_ble_eq_true rfl) dX10_addStroke_1 ⟨(Nat.le_of_ble_eq_true rfl), (Nat.le_of_ble_eq_true rfl)⟩) hP hD hS hA rfl rfl rfl (by decide) (fun ad1 H locs hP hD hS => ?_)
  have hP : va_P D vwCl [(a1, .inr (4, [v27, v28, .int 0])), (a0, .inr (15, [.int 0, .ref a1, v1, v2, v3, v4, v5, v6, v7, v8, v9, v10, v11, v12, v13, v14, v15, v16, v17, v18, v19, v20, v21, v22, v23, v24, v25, v26]))] H := hP
  have hD : va_D A [(a1, .inr (4, [v27, v28, .int 0])), (a0, .inr (15, [.int 0, .ref a1, v1, v2, v3, v4, v5, v6, v7, v8, v9, v10, v11, v12, v13, v14, v15, v16, v17, v18, v19, v20, v21, v22, v23, v24, v25, v26]))] := hD
  refine lv_aload_n hx hb dX10_addStroke_4 rfl (lv_at hl 0 rfl) ?_
  refine va_ldcS (tx := "aiv") (q := (g (1 + 1))) hx hb hown hE.2.2.1.2.2 dX10_addStroke_5 ?_
  refine lv_iload_n hx hb dX10_addStroke_7 rfl (lv_at hl 1 rfl) ?_
  refine ca_i (isC := []) (isR := [0, 1]) (wr := [(a1, .inr (4, [v27, v28, .int 0])), (a0, .inr (15, [.int 0, .ref a1, v1, v2, v3, v4, v5, v6, v7, v8, v9, v10, v11, v12, v13, v14, v15, v16, v17, v18, v19, v20, v21, v22, v23, v24, v25, v26]))]) (rn_VS (i := 1) (isC := []) (wc := []) (As := [.int 118]) (rest := [.ref a0]) (n := 1) hx hb hml hown hts hE hS hP hD hA hl.1 (k399_J0_indexOf_0f7a4 l D cy g  H.size ) rfl rfl (by decide) rfl ax_200 rfl rfl ax_201 ⟨Nat.le_of_ble_eq_true rfl, Nat.le_of_ble_eq_true rfl⟩ rfl rfl (Nat.le_of_ble_eq_true rfl) dX10_addStroke_8 ⟨(Nat.le_of_ble_eq_true rfl), (Nat.le_of_ble_eq_true rfl)⟩) hP hD hS hA rfl rfl rfl (by decide) (fun ad8 H locs hP hD hS => ?_)
  have hP : va_P D vwCl [(a1, .inr (4, [v27, v28, .int 0])), (a0, .inr (15, [.int 0, .ref a1, v1, v2, v3, v4, v5, v6, v7, v8, v9, v10, v11, v12, v13, v14, v15, v16, v17, v18, v19, v20, v21, v22, v23, v24, v25, v26]))] H := hP
  have hD : va_D A [(a1, .inr (4, [v27, v28, .int 0])), (a0, .inr (15, [.int 0, .ref a1, v1, v2, v3, v4, v5, v6, v7, v8, v9, v10, v11, v12, v13, v14, v15, v16, v17, v18, v19, v20, v21, v22, v23, v24, v25, v26]))] := hD
  refine lv_if_lt (tgt := 32) hx hb dX10_addStroke_11 (by decide) (fun z => absurd z (by decide)) (fun _ => ?_)
  refine lv_iload_n hx hb dX10_addStroke_14 rfl (lv_at hl 1 rfl) ?_
  refine lv_bipush (v := 118) hx hb dX10_addStroke_15 (by decide) ?_
  refine lv_icmp_eq (tgt := 36) hx hb dX10_addStroke_17 (by decide) (fun _ => ?_) (fun z => absurd (by decide) z)
  refine lv_iconst (v := 0) hx hb dX10_addStroke_36 (by decide) ?_
  refine lv_iconst (v := 1) hx hb dX10_addStroke_37 (by decide) ?_
  refine ca_i (isC := [1]) (isR := [0]) (wr := [(a1, .inr (4, [v27, v28, .int 0]))]) (rn_V (ci := 15) (q0 := 1) (isC := [1]) (wc := [(a0, .inr (15, [.int 0, .ref a1, v1, v2, v3, v4, v5, v6, v7, v8, v9, v10, v11, v12, v13, v14, v15, v16, v17, v18, v19, v20, v21, v22, v23, v24, v25, v26]))]) (As := [.int 0, .int 1]) (rest := []) (n := 2) hx hb hml hown hts hE hS hP hD hA hl.1 (k43_X10_fails l D cy g a0 (.ref a1) (v1) (v2) (v3) (v4) (v5) (v6) (v7) (v8) (v9) (v10) (v11) (v12) (v13) (v14) (v15) (v16) (v17) (v18) (v19) (v20) (v21) (v22) (v23) (v24) (v25) (v26) H.size ) rfl rfl rfl rfl rfl ax_41 rfl rfl ax_42 ⟨Nat.le_of_ble_eq_true rfl, Nat.le_of_ble_eq_true rfl⟩ rfl rfl (Nat.le_of_ble_eq_true rfl) dX10_addStroke_38 ⟨(Nat.le_of_ble_eq_true rfl), (Nat.le_of_ble_eq_true rfl)⟩) hP hD hS hA rfl rfl rfl (by decide) (fun ad38 H locs hP hD hS => ?_)
  have hP : va_P D vwCl [(a1, .inr (4, [v27, v28, .int 0])), (a0, .inr (15, [.int 0, .ref a1, v1, v2, v3, v4, v5, v6, v7, v8, v9, v10, v11, v12, v13, v14, v15, v16, v17, v18, v19, v20, v21, v22, v23, v24, v25, v26]))] H := hP
  have hD : va_D A [(a1, .inr (4, [v27, v28, .int 0])), (a0, .inr (15, [.int 0, .ref a1, v1, v2, v3, v4, v5, v6, v7, v8, v9, v10, v11, v12, v13, v14, v15, v16, v17, v18, v19, v20, v21, v22, v23, v24, v25, v26]))] := hD
  refine lv_if_ne (tgt := 101) hx hb dX10_addStroke_41 (by decide) (fun z => absurd (by decide) z) (fun _ => ?_)
  refine lv_aload_n hx hb dX10_addStroke_44 rfl (lv_at hl 0 rfl) ?_
  refine lv_iload_n hx hb dX10_addStroke_45 rfl (lv_at hl 1 rfl) ?_
  refine lv_bipush (v := 97) hx hb dX10_addStroke_46 (by decide) ?_
  refine lv_icmp_eq (tgt := 66) hx hb dX10_addStroke_48 (by decide) (fun z => absurd z (by decide)) (fun _ => ?_)
  refine lv_aload_n hx hb dX10_addStroke_51 rfl (lv_at hl 0 rfl) ?_
  refine va_get (D := D) (ci := 15) (v := .ref a1) (C := RX10) (T := TX10) (N := 28) hx hb hts ax_29 hown hE.1 hP 1 rfl rfl 1 (by decide) (hts _ tw_277) (fun _ h9 => h9) rfl dX10_addStroke_52 ?_
  refine lv_iload_n hx hb dX10_addStroke_55 rfl (lv_at hl 3 rfl) ?_
  refine ca_i (isC := [0]) (isR := [1]) (wr := [(a0, .inr (15, [.int 0, .ref a1, v1, v2, v3, v4, v5, v6, v7, v8, v9, v10, v11, v12, v13, v14, v15, v16, v17, v18, v19, v20, v21, v22, v23, v24, v25, v26]))]) (rn_S (isC := [0]) (wc := [(a1, .inr (4, [v27, v28, .int 0]))]) (As := [.ref a1, .int x1]) (rest := [.ref a0]) (n := 2) hx hb hml hown hts hE hS hP hD hA hl.1 (k77_X10_isOf l D cy g x1 a1 (v27) (v28) H.size h0 h1) rfl rfl ax_74 rfl rfl ax_75 ⟨Nat.le_of_ble_eq_true rfl, Nat.le_of_ble_eq_true rfl⟩ rfl rfl (Nat.le_of_ble_eq_true rfl) dX10_addStroke_56 ⟨(Nat.le_of_ble_eq_true rfl), (Nat.le_of_ble_eq_true rfl)⟩) hP hD hS hA rfl rfl rfl (by decide) (fun ad56 H locs hP hD hS => ?_)
  have hP : va_P D vwCl [(a0, .inr (15, [.int 0, .ref a1, v1, v2, v3, v4, v5, v6, v7, v8, v9, v10, v11, v12, v13, v14, v15, v16, v17, v18, v19, v20, v21, v22, v23, v24, v25, v26])), (a1, .inr (4, [v27, v28, .int 0]))] H := hP
  have hD : va_D A [(a0, .inr (15, [.int 0, .ref a1, v1, v2, v3, v4, v5, v6, v7, v8, v9, v10, v11, v12, v13, v14, v15, v16, v17, v18, v19, v20, v21, v22, v23, v24, v25, v26])), (a1, .inr (4, [v27, v28, .int 0]))] := hD
  refine lv_if_ne (tgt := 66) hx hb dX10_addStroke_59 (by decide) (fun z => absurd (by decide) z) (fun _ => ?_)
  refine lv_iconst (v := 1) hx hb dX10_addStroke_62 (by decide) ?_
  refine lv_goto (tgt := 67) hx hb dX10_addStroke_63 (by decide) ?_
  refine lv_iconst (v := 2) hx hb dX10_addStroke_67 (by decide) ?_
  refine ca_i (isC := [0]) (isR := [1]) (wr := [(a1, .inr (4, [v27, v28, .int 0]))]) (rn_V (ci := 15) (q0 := 0) (isC := [0]) (wc := [(a0, .inr (15, [.int 0, .ref a1, v1, v2, v3, v4, v5, v6, v7, v8, v9, v10, v11, v12, v13, v14, v15, v16, v17, v18, v19, v20, v21, v22, v23, v24, v25, v26]))]) (As := [.int 1, .int 2]) (rest := []) (n := 2) hx hb hml hown hts hE hS hP hD hA hl.1 (k146_X10_fails l D cy g a0 (.ref a1) (v1) (v2) (v3) (v4) (v5) (v6) (v7) (v8) (v9) (v10) (v11) (v12) (v13) (v14) (v15) (v16) (v17) (v18) (v19) (v20) (v21) (v22) (v23) (v24) (v25) (v26) H.size ) rfl rfl rfl rfl rfl ax_41 rfl rfl ax_42 ⟨Nat.le_of_ble_eq_true rfl, Nat.le_of_ble_eq_true rfl⟩ rfl rfl (Nat.le_of_ble_eq_true rfl) dX10_addStroke_68 ⟨(Nat.le_of_ble_eq_true rfl), (Nat.le_of_ble_eq_true rfl)⟩) hP hD hS hA rfl rfl rfl (by decide) (fun ad68 H locs hP hD hS => ?_)
  have hP : va_P D vwCl [(a1, .inr (4, [v27, v28, .int 0])), (a0, .inr (15, [.int 2, .ref a1, v1, v2, v3, v4, v5, v6, v7, v8, v9, v10, v11, v12, v13, v14, v15, v16, v17, v18, v19, v20, v21, v22, v23, v24, v25, v26]))] H := hP
  have hD : va_D A [(a1, .inr (4, [v27, v28, .int 0])), (a0, .inr (15, [.int 2, .ref a1, v1, v2, v3, v4, v5, v6, v7, v8, v9, v10, v11, v12, v13, v14, v15, v16, v17, v18, v19, v20, v21, v22, v23, v24, v25, v26]))] := hD
  refine lv_if_ne (tgt := 101) hx hb dX10_addStroke_71 (by decide) (fun _ => ?_) (fun z => absurd z (by decide))
  refine lv_iconst (v := (-1)) hx hb dX10_addStroke_101 (by decide) ?_
  exact en_z hx hb hr hlk hP hD hS rfl (fun _ => 0) (is := [1]) rfl rfl (Nat.le_of_ble_eq_true rfl) (Nat.le_of_ble_eq_true rfl) dX10_addStroke_102
set_option maxHeartbeats 4000000 in
set_option maxRecDepth 100000 in
theorem k404_X1_isStroke (l : Launch) (D : va_G) (cy : Nat → ClassId) (g : Nat → Nat) (x0 : Int32) (sz : Nat) (h0 : x0 < 1) : Met l yX1_isStroke [.code yX1_isStroke cX1_isStroke 2 (some .boolean)] ({ frames := 1, cells := 0, slots := 0, locals := 22 }) (PC D cy g [] sz [.int 97, .int x0]) (QI D 0 (fun ad => []) (va_A [] sz)) 0 0 (va_A [] sz) := by
  refine st_I (by decide) (Nat.le_of_ble_eq_true rfl) ?_
  intro p e s m args below meth c A ls hx hb hr hml hown hlk hnm hsz hP hD hA hE hts hS hl
  have hown : s.vm.findClass RX1 = some m.cls := hown
  have hl : lv_has ls 2 [(0, .int 97), (1, .int x0)] := hl
  refine lv_iload_n hx hb dX1_isStroke_0 rfl (lv_at hl 0 rfl) ?_
  refine lv_bipush (v := 118) hx hb dX1_isStroke_1 (by decide) ?_
  refine lv_icmp_eq (tgt := 28) hx hb dX1_isStroke_3 (by decide) (fun z => absurd z (by decide)) (fun _ => ?_)
  refine lv_iload_n hx hb dX1_isStroke_6 rfl (lv_at hl 0 rfl) ?_
  refine lv_bipush (v := 97) hx hb dX1_isStroke_7 (by decide) ?_
  refine lv_icmp_eq (tgt := 18) hx hb dX1_isStroke_9 (by decide) (fun _ => ?_) (fun z => absurd (by decide) z)
  refine lv_iload_n hx hb dX1_isStroke_18 rfl (lv_at hl 1 rfl) ?_
  refine lv_iconst (v := 1) hx hb dX1_isStroke_19 (by decide) ?_
  refine lv_bipush (v := 100) hx hb dX1_isStroke_20 (by decide) ?_
  refine ca_i (isC := []) (isR := []) (wr := []) (rn_SN (isC := []) (wc := []) (As := [.int x0, .int 1, .int 100]) (rest := []) (n := 3) hx hb hml hown hts hE hS hP hD hA hl.1 (k17_X9_isOutside l D cy g x0 1 100 s.heap.size h0) rfl rfl tw_835 tw_293 tw_294 tw_295 rfl rfl ax_31 ⟨Nat.le_of_ble_eq_true rfl, Nat.le_of_ble_eq_true rfl⟩ rfl rfl (Nat.le_of_ble_eq_true rfl) dX1_isStroke_22 ⟨(Nat.le_of_ble_eq_true rfl), (Nat.le_of_ble_eq_true rfl)⟩) hP hD hS hA rfl rfl rfl (by decide) (fun ad22 H locs hP hD hS => ?_)
  have hP : va_P D vwCl [] H := hP
  have hD : va_D A [] := hD
  refine lv_if_ne (tgt := 32) hx hb dX1_isStroke_25 (by decide) (fun _ => ?_) (fun z => absurd z (by decide))
  refine lv_iconst (v := 0) hx hb dX1_isStroke_32 (by decide) ?_
  exact en_z hx hb hr hlk hP hD hS rfl (fun _ => 0) (is := []) rfl rfl (Nat.le_of_ble_eq_true rfl) (Nat.le_of_ble_eq_true rfl) dX1_isStroke_33
set_option maxHeartbeats 4000000 in
set_option maxRecDepth 100000 in
theorem k405_X9_addStroke (l : Launch) (hst : l.stackTraces = false) (D : va_G) (cy : Nat → ClassId) (g : Nat → Nat) (x0 : Int32) (x1 : Int32) (b0 : Nat) (sz : Nat) (h0 : x0 < 1) : vx_Met l yX9_addStroke [.code yX9_addStroke cX9_addStroke 4 (some .int)] ({ frames := 6, cells := 1, slots := 6, locals := 82 }) (PC D cy g [] sz [.ref b0, .int 97, .int x0, .int x1]) QN (XE "java/lang/IllegalArgumentException" (va_A [] sz)) 1 6 (va_A [] sz) := by
  refine st_X (by decide) (Nat.le_of_ble_eq_true rfl) ?_
  intro p e s m args below meth c A ls hx hb hr hml hown hlk hnm hsz hP hD hA hE hts hS hl hout
  have hown : s.vm.findClass RX9 = some m.cls := hown
  have hl : lv_has ls 4 [(0, .ref b0), (1, .int 97), (2, .int x0), (3, .int x1)] := hl
  refine lv_iload_n hx hb dX9_addStroke_0 rfl (lv_at hl 1 rfl) ?_
  refine lv_iload_n hx hb dX9_addStroke_1 rfl (lv_at hl 2 rfl) ?_
  refine ca_i (isC := []) (isR := []) (wr := []) (rn_S (isC := []) (wc := []) (As := [.int 97, .int x0]) (rest := []) (n := 2) hx hb hml hown hts hE hS hP hD hA hl.1 (k404_X1_isStroke l D cy g x0 s.heap.size h0) rfl rfl ax_277 rfl rfl ax_278 ⟨Nat.le_of_ble_eq_true rfl, Nat.le_of_ble_eq_true rfl⟩ rfl rfl (Nat.le_of_ble_eq_true rfl) dX9_addStroke_2 ⟨(Nat.le_of_ble_eq_true rfl), (Nat.le_of_ble_eq_true rfl)⟩) hP hD hS hA rfl rfl rfl (by decide) (fun ad2 H locs hP hD hS => ?_)
  have hP : va_P D vwCl [] H := hP
  have hD : va_D A [] := hD
  refine lv_if_ne (tgt := 18) hx hb dX9_addStroke_5 (by decide) (fun z => absurd (by decide) z) (fun _ => ?_)
  exact th_S (text := "there is no such stroke") hx hb hst hown hts hE hS (hl.1.trans hml.symm) hout hlk (by decide +kernel) tw_296 tw_297 ax_32 (by decide +kernel) dX9_addStroke_8 dX9_addStroke_11 dX9_addStroke_12 dX9_addStroke_14 dX9_addStroke_17 ⟨Nat.le_of_ble_eq_true rfl, Nat.le_of_ble_eq_true rfl, Nat.le_of_ble_eq_true rfl, Nat.le_of_ble_eq_true rfl⟩ (Nat.le_of_ble_eq_true rfl) (Nat.le_of_ble_eq_true rfl)
set_option maxHeartbeats 4000000 in
set_option maxRecDepth 100000 in
theorem k406_L_addStroke (l : Launch) (hst : l.stackTraces = false) (D : va_G) (cy : Nat → ClassId) (g : Nat → Nat) (x0 : Int32) (x1 : Int32) (a0 : Nat) (b0 : Nat) (v0 : Value) (v1 : Value) (v2 : Value) (v3 : Value) (v4 : Value) (v5 : Value) (v6 : Value) (sz : Nat) (h0 : x0 < 1) : Met l yL_addStroke [.codeWith yL_addStroke cL_addStroke 6 (some .int) [(0, 12, 15, 13), (0, 12, 19, 21), (0, 12, 23, 15)]] ({ frames := 7, cells := 1, slots := 6, locals := 105 }) (PC D cy g [(a0, .inr (14, [v0, v1, v2, v3, v4, v5, v6]))] sz [.ref a0, .int 97, .int x0, .int x1, .ref b0]) (QI D 1 (fun ad => []) (va_A [(a0, .inr (14, [v0, v1, v2, v3, v4, v5, v6]))] sz)) 1 6 (va_A [(a0, .inr (14, [v0, v1, v2, v3, v4, v5, v6]))] sz) := by
  refine sh_I (by decide) (Nat.le_of_ble_eq_true rfl) ?_
  intro p e s m args below meth c A ls hx hb hr hml hown hlk hnm hsz hP hD hA hE hts hS hl htb
  have hown : s.vm.findClass RL = some m.cls := hown
  have hl : lv_has ls 6 [(0, .ref a0), (1, .int 97), (2, .int x0), (3, .int x1), (4, .ref b0)] := hl
  refine lv_aload hx hb dL_addStroke_0 (lv_at hl 4 rfl) ?_
  refine lv_iconst (v := 0) hx hb dL_addStroke_2 (by decide) ?_
  refine lv_aload_n hx hb dL_addStroke_3 rfl (lv_at hl 0 rfl) ?_
  refine lv_iload_n hx hb dL_addStroke_4 rfl (lv_at hl 1 rfl) ?_
  refine lv_iload_n hx hb dL_addStroke_5 rfl (lv_at hl 2 rfl) ?_
  refine lv_iload_n hx hb dL_addStroke_6 rfl (lv_at hl 3 rfl) ?_
  refine cx_catch (isC := []) (isR := [0]) (wr := [(a0, .inr (14, [v0, v1, v2, v3, v4, v5, v6]))]) (hp := []) (z := (0, 12, 15, 13)) (hq := [(0, 12, 19, 21), (0, 12, 23, 15)]) (name := "java/lang/IllegalArgumentException") (own := RL) (rx_V (ci := 14) (q0 := 0) (isC := []) (wc := []) (As := [.int 97, .int x0, .int x1]) (rest := [.int 0, .ref b0]) (n := 3) hx hb hml hown hts hE hS hP hD hA hl.1 (k405_X9_addStroke l hst D cy g x0 x1 a0 s.heap.size h0) rfl rfl rfl rfl rfl ax_281 rfl rfl ax_282 ⟨Nat.le_of_ble_eq_true rfl, Nat.le_of_ble_eq_true rfl⟩ rfl rfl (Nat.le_of_ble_eq_true rfl) dL_addStroke_7 ⟨(Nat.le_of_ble_eq_true rfl), (Nat.le_of_ble_eq_true rfl)⟩) hP hD hS hA hown hts hE htb rfl rfl rfl rfl (by decide) (fun z hz => by cases hz) (by decide) (by decide) tw_302 tw_303 (fun qx H locs hP hD hS => ?_)
  have hP : va_P D vwCl [(a0, .inr (14, [v0, v1, v2, v3, v4, v5, v6]))] H := hP
  have hD : va_D A [(a0, .inr (14, [v0, v1, v2, v3, v4, v5, v6]))] := hD
  refine lv_astore (lv' := [(5, .ref qx), (0, .ref a0), (1, .int 97), (2, .int x0), (3, .int x1), (4, .ref b0)]) hx hb dL_addStroke_15 hl (Nat.le_of_ble_eq_true rfl) rfl (fun ls hl => ?_)
  refine lv_iconst (v := 1) hx hb dL_addStroke_17 (by decide) ?_
  exact en_z hx hb hr hlk hP hD hS rfl (fun _ => 0) (is := []) rfl rfl (Nat.le_of_ble_eq_true rfl) (Nat.le_of_ble_eq_true rfl) dL_addStroke_18
set_option maxHeartbeats 4000000 in
set_option maxRecDepth 100000 in
theorem k407_J1_canEncode_9a6ad (l : Launch) (D : va_G) (cy : Nat → ClassId) (g : Nat → Nat)  (sz : Nat)  : Met l yJ1_canEncode_9a6ad [.code yJ1_canEncode_9a6ad cJ1_canEncode_9a6ad 1 (some .boolean)] ({ frames := 0, cells := 0, slots := 0, locals := 0 }) (PC D cy g [] sz [.int 97]) (QI D 1 (fun ad => []) (va_A [] sz)) 0 0 (va_A [] sz) := by
  refine st_I (by decide) (Nat.le_of_ble_eq_true rfl) ?_
  intro p e s m args below meth c A ls hx hb hr hml hown hlk hnm hsz hP hD hA hE hts hS hl
  have hown : s.vm.findClass RJ1 = some m.cls := hown
  have hl : lv_has ls 1 [(0, .int 97)] := hl
  refine lv_iload_n hx hb dJ1_canEncode_9a6ad_0 rfl (lv_at hl 0 rfl) ?_
  refine lv_if_lt (tgt := 15) hx hb dJ1_canEncode_9a6ad_1 (by decide) (fun z => absurd z (by decide)) (fun _ => ?_)
  refine lv_iload_n hx hb dJ1_canEncode_9a6ad_4 rfl (lv_at hl 0 rfl) ?_
  refine lv_sipush (v := 255) hx hb dJ1_canEncode_9a6ad_5 (by decide) ?_
  refine lv_icmp_gt (tgt := 15) hx hb dJ1_canEncode_9a6ad_8 (by decide) (fun z => absurd z (by decide)) (fun _ => ?_)
  refine lv_iconst (v := 1) hx hb dJ1_canEncode_9a6ad_11 (by decide) ?_
  refine lv_goto (tgt := 16) hx hb dJ1_canEncode_9a6ad_12 (by decide) ?_
  exact en_z hx hb hr hlk hP hD hS rfl (fun _ => 0) (is := []) rfl rfl (Nat.le_of_ble_eq_true rfl) (Nat.le_of_ble_eq_true rfl) dJ1_canEncode_9a6ad_16
set_option maxHeartbeats 4000000 in
set_option maxRecDepth 100000 in
theorem k408_J1_indexOfChar_4cfef (l : Launch) (D : va_G) (cy : Nat → ClassId) (g : Nat → Nat)  (sz : Nat)  : Met l yJ1_indexOfChar_4cfef [.code yJ1_indexOfChar_4cfef cJ1_indexOfChar_4cfef 6 (some .int)] ({ frames := 0, cells := 0, slots := 0, locals := 0 }) (PC D cy g [] sz [.ref (g (1 + 3)), .int 97, .int 0, .int 3]) (QI D 0 (fun ad => []) (va_A [] sz)) 0 0 (va_A [] sz) := by
  refine st_I (by decide) (Nat.le_of_ble_eq_true rfl) ?_
  intro p e s m args below meth c A ls hx hb hr hml hown hlk hnm hsz hP hD hA hE hts hS hl
  have hown : s.vm.findClass RJ1 = some m.cls := hown
  have hl : lv_has ls 6 [(0, .ref (g (1 + 3))), (1, .int 97), (2, .int 0), (3, .int 3)] := hl
  refine lv_iload_n hx hb dJ1_indexOfChar_4cfef_0 rfl (lv_at hl 1 rfl) ?_
  refine lv_i2b (v := 97) hx hb dJ1_indexOfChar_4cfef_1 (by decide) ?_
  refine lv_istore (lv' := [(4, .int 97), (0, .ref (g (1 + 3))), (1, .int 97), (2, .int 0), (3, .int 3)]) hx hb dJ1_indexOfChar_4cfef_2 hl (Nat.le_of_ble_eq_true rfl) rfl (fun ls hl => ?_)
  refine lv_iload_n hx hb dJ1_indexOfChar_4cfef_4 rfl (lv_at hl 3 rfl) ?_
  refine lv_istore (lv' := [(5, .int 0), (4, .int 97), (0, .ref (g (1 + 3))), (1, .int 97), (2, .int 0), (3, .int 3)]) hx hb dJ1_indexOfChar_4cfef_5 hl (Nat.le_of_ble_eq_true rfl) rfl (fun ls hl => ?_)
  refine lv_iload hx hb dJ1_indexOfChar_4cfef_7 (lv_at hl 0 rfl) ?_
  refine lv_iload_n hx hb dJ1_indexOfChar_4cfef_9 rfl (lv_at hl 5 rfl) ?_
  refine lv_icmp_ge (tgt := 31) hx hb dJ1_indexOfChar_4cfef_10 (by decide) (fun z => absurd z (by decide)) (fun _ => ?_)
  refine lv_aload_n hx hb dJ1_indexOfChar_4cfef_13 rfl (lv_at hl 2 rfl) ?_
  refine lv_iload hx hb dJ1_indexOfChar_4cfef_14 (lv_at hl 0 rfl) ?_
  refine va_tb (v := .int 97) hx hb (hE.2.2.2.2.2.2.2.2.2.2.1 1 (by decide)).2.2.2 hS (by unfold vp_in; decide) rfl dJ1_indexOfChar_4cfef_16 ?_
  refine lv_iload hx hb dJ1_indexOfChar_4cfef_17 (lv_at hl 1 rfl) ?_
  refine lv_icmp_ne (tgt := 25) hx hb dJ1_indexOfChar_4cfef_19 (by decide) (fun z => absurd (by decide) z) (fun _ => ?_)
  refine lv_iload hx hb dJ1_indexOfChar_4cfef_22 (lv_at hl 0 rfl) ?_
  exact en_z hx hb hr hlk hP hD hS rfl (fun _ => 0) (is := []) rfl rfl (Nat.le_of_ble_eq_true rfl) (Nat.le_of_ble_eq_true rfl) dJ1_indexOfChar_4cfef_24
set_option maxHeartbeats 4000000 in
set_option maxRecDepth 100000 in
theorem k409_J1_indexOf_4cfef (l : Launch) (D : va_G) (cy : Nat → ClassId) (g : Nat → Nat)  (sz : Nat)  : Met l yJ1_indexOf_4cfef [.code yJ1_indexOf_4cfef cJ1_indexOf_4cfef 4 (some .int)] ({ frames := 1, cells := 0, slots := 0, locals := 25 }) (PC D cy g [] sz [.ref (g (1 + 3)), .int 97, .int 0, .int 3]) (QI D 0 (fun ad => []) (va_A [] sz)) 0 0 (va_A [] sz) := by
  refine st_I (by decide) (Nat.le_of_ble_eq_true rfl) ?_
  intro p e s m args below meth c A ls hx hb hr hml hown hlk hnm hsz hP hD hA hE hts hS hl
  have hown : s.vm.findClass RJ1 = some m.cls := hown
  have hl : lv_has ls 4 [(0, .ref (g (1 + 3))), (1, .int 97), (2, .int 0), (3, .int 3)] := hl
  refine lv_iload_n hx hb dJ1_indexOf_4cfef_0 rfl (lv_at hl 1 rfl) ?_
  refine ca_i (isC := []) (isR := []) (wr := []) (rn_S (isC := []) (wc := []) (As := [.int 97]) (rest := []) (n := 1) hx hb hml hown hts hE hS hP hD hA hl.1 (k407_J1_canEncode_9a6ad l D cy g  s.heap.size ) rfl rfl ax_188 rfl rfl ax_189 ⟨Nat.le_of_ble_eq_true rfl, Nat.le_of_ble_eq_true rfl⟩ rfl rfl (Nat.le_of_ble_eq_true rfl) dJ1_indexOf_4cfef_1 ⟨(Nat.le_of_ble_eq_true rfl), (Nat.le_of_ble_eq_true rfl)⟩) hP hD hS hA rfl rfl rfl (by decide) (fun ad1 H locs hP hD hS => ?_)
  have hP : va_P D vwCl [] H := hP
  have hD : va_D A [] := hD
  refine lv_if_ne (tgt := 9) hx hb dJ1_indexOf_4cfef_4 (by decide) (fun _ => ?_) (fun z => absurd z (by decide))
  refine lv_iload_n hx hb dJ1_indexOf_4cfef_9 rfl (lv_at hl 2 rfl) ?_
  refine lv_iconst (v := 0) hx hb dJ1_indexOf_4cfef_10 (by decide) ?_
  refine va_mmax hx hb (hml.trans hl.1.symm) hown (hts _ tw_642) (hts _ tw_344) (hts _ tw_345) (hts _ tw_346) (Nat.le_of_ble_eq_true rfl) (Nat.le_of_ble_eq_true rfl) (Nat.le_of_ble_eq_true rfl) (Nat.le_of_ble_eq_true rfl) dJ1_indexOf_4cfef_11 ?_
  refine tp_i 0 (by decide) ?_
  refine lv_istore_n (lv' := [(2, .int 0), (0, .ref (g (1 + 3))), (1, .int 97), (3, .int 3)]) hx hb dJ1_indexOf_4cfef_14 rfl hl (Nat.le_of_ble_eq_true rfl) rfl (fun ls hl => ?_)
  refine lv_iload_n hx hb dJ1_indexOf_4cfef_15 rfl (lv_at hl 3 rfl) ?_
  refine lv_aload_n hx hb dJ1_indexOf_4cfef_16 rfl (lv_at hl 1 rfl) ?_
  refine va_tlen (v := 3) hx hb (hE.2.2.2.2.2.2.2.2.2.2.1 1 (by decide)).2.2.2 hS (by decide) dJ1_indexOf_4cfef_17 ?_
  refine va_mmin hx hb (hml.trans hl.1.symm) hown (hts _ tw_643) (hts _ tw_644) (hts _ tw_345) (hts _ tw_645) (Nat.le_of_ble_eq_true rfl) (Nat.le_of_ble_eq_true rfl) (Nat.le_of_ble_eq_true rfl) (Nat.le_of_ble_eq_true rfl) dJ1_indexOf_4cfef_18 ?_
  refine tp_i 3 (by decide) ?_
  refine lv_istore_n (lv' := [(3, .int 3), (2, .int 0), (0, .ref (g (1 + 3))), (1, .int 97)]) hx hb dJ1_indexOf_4cfef_21 rfl hl (Nat.le_of_ble_eq_true rfl) rfl (fun ls hl => ?_)
  refine lv_iload_n hx hb dJ1_indexOf_4cfef_22 rfl (lv_at hl 1 rfl) ?_
  refine lv_iload_n hx hb dJ1_indexOf_4cfef_23 rfl (lv_at hl 0 rfl) ?_
  refine lv_icmp_lt (tgt := 29) hx hb dJ1_indexOf_4cfef_24 (by decide) (fun _ => ?_) (fun z => absurd (by decide) z)
  refine lv_aload_n hx hb dJ1_indexOf_4cfef_29 rfl (lv_at hl 2 rfl) ?_
  refine lv_iload_n hx hb dJ1_indexOf_4cfef_30 rfl (lv_at hl 3 rfl) ?_
  refine lv_iload_n hx hb dJ1_indexOf_4cfef_31 rfl (lv_at hl 1 rfl) ?_
  refine lv_iload_n hx hb dJ1_indexOf_4cfef_32 rfl (lv_at hl 0 rfl) ?_
  refine ca_i (isC := []) (isR := []) (wr := []) (rn_S (isC := []) (wc := []) (As := [.ref (g (1 + 3)), .int 97, .int 0, .int 3]) (rest := []) (n := 4) hx hb hml hown hts hE hS hP hD hA hl.1 (k408_J1_indexOfChar_4cfef l D cy g  H.size ) rfl rfl ax_190 rfl rfl ax_191 ⟨Nat.le_of_ble_eq_true rfl, Nat.le_of_ble_eq_true rfl⟩ rfl rfl (Nat.le_of_ble_eq_true rfl) dJ1_indexOf_4cfef_33 ⟨(Nat.le_of_ble_eq_true rfl), (Nat.le_of_ble_eq_true rfl)⟩) hP hD hS hA rfl rfl rfl (by decide) (fun ad33 H locs hP hD hS => ?_)
  have hP : va_P D vwCl [] H := hP
  have hD : va_D A [] := hD
  exact en_z hx hb hr hlk hP hD hS rfl (fun _ => 0) (is := []) rfl rfl (Nat.le_of_ble_eq_true rfl) (Nat.le_of_ble_eq_true rfl) dJ1_indexOf_4cfef_36
set_option maxHeartbeats 4000000 in
set_option maxRecDepth 100000 in
theorem k410_J0_indexOf_7cf53 (l : Launch) (D : va_G) (cy : Nat → ClassId) (g : Nat → Nat)  (sz : Nat)  : Met l yJ0_indexOf_7cf53 [.code yJ0_indexOf_7cf53 cJ0_indexOf_7cf53 3 (some .int)] ({ frames := 2, cells := 0, slots := 0, locals := 48 }) (PC D cy g [] sz [.ref (g (1 + 1)), .int 97, .int 0]) (QI D 0 (fun ad => []) (va_A [] sz)) 0 0 (va_A [] sz) := by
  refine st_I (by decide) (Nat.le_of_ble_eq_true rfl) ?_
  intro p e s m args below meth c A ls hx hb hr hml hown hlk hnm hsz hP hD hA hE hts hS hl
  have hown : s.vm.findClass RJ0 = some m.cls := hown
  have hl : lv_has ls 3 [(0, .ref (g (1 + 1))), (1, .int 97), (2, .int 0)] := hl
  refine lv_aload_n hx hb dJ0_indexOf_7cf53_0 rfl (lv_at hl 0 rfl) ?_
  refine ca_i (isC := []) (isR := []) (wr := []) (rn_VS (i := 1) (isC := []) (wc := []) (As := []) (rest := []) (n := 0) hx hb hml hown hts hE hS hP hD hA hl.1 (k393_J0_isLatin1_aae02 l D cy g  s.heap.size ) rfl rfl (by decide) rfl ax_192 rfl rfl ax_193 ⟨Nat.le_of_ble_eq_true rfl, Nat.le_of_ble_eq_true rfl⟩ rfl rfl (Nat.le_of_ble_eq_true rfl) dJ0_indexOf_7cf53_1 ⟨(Nat.le_of_ble_eq_true rfl), (Nat.le_of_ble_eq_true rfl)⟩) hP hD hS hA rfl rfl rfl (by decide) (fun ad1 H locs hP hD hS => ?_)
  have hP : va_P D vwCl [] H := hP
  have hD : va_D A [] := hD
  refine lv_if_eq (tgt := 23) hx hb dJ0_indexOf_7cf53_4 (by decide) (fun z => absurd z (by decide)) (fun _ => ?_)
  refine lv_aload_n hx hb dJ0_indexOf_7cf53_7 rfl (lv_at hl 0 rfl) ?_
  refine vk_getf (v := .ref (g (1 + 3))) hx hb (hE.2.2.2.2.2.2.2.2.2.2.1 1 (by decide)).2.2.1 hS hown (hts _ tw_632) (fun _ h9 => h9) dJ0_indexOf_7cf53_8 ?_
  refine lv_iload_n hx hb dJ0_indexOf_7cf53_11 rfl (lv_at hl 1 rfl) ?_
  refine lv_iload_n hx hb dJ0_indexOf_7cf53_12 rfl (lv_at hl 2 rfl) ?_
  refine lv_aload_n hx hb dJ0_indexOf_7cf53_13 rfl (lv_at hl 0 rfl) ?_
  refine ca_i (isC := []) (isR := []) (wr := []) (rn_VS (i := 1) (isC := []) (wc := []) (As := []) (rest := [.int 0, .int 97, .ref (g (1 + 3))]) (n := 0) hx hb hml hown hts hE hS hP hD hA hl.1 (k395_J0_length_8abf5 l D cy g  H.size ) rfl rfl (by decide) rfl ax_194 rfl rfl ax_195 ⟨Nat.le_of_ble_eq_true rfl, Nat.le_of_ble_eq_true rfl⟩ rfl rfl (Nat.le_of_ble_eq_true rfl) dJ0_indexOf_7cf53_14 ⟨(Nat.le_of_ble_eq_true rfl), (Nat.le_of_ble_eq_true rfl)⟩) hP hD hS hA rfl rfl rfl (by decide) (fun ad14 H locs hP hD hS => ?_)
  have hP : va_P D vwCl [] H := hP
  have hD : va_D A [] := hD
  refine ca_i (isC := []) (isR := []) (wr := []) (rn_S (isC := []) (wc := []) (As := [.ref (g (1 + 3)), .int 97, .int 0, .int 3]) (rest := []) (n := 4) hx hb hml hown hts hE hS hP hD hA hl.1 (k409_J1_indexOf_4cfef l D cy g  H.size ) rfl rfl ax_196 rfl rfl ax_197 ⟨Nat.le_of_ble_eq_true rfl, Nat.le_of_ble_eq_true rfl⟩ rfl rfl (Nat.le_of_ble_eq_true rfl) dJ0_indexOf_7cf53_17 ⟨(Nat.le_of_ble_eq_true rfl), (Nat.le_of_ble_eq_true rfl)⟩) hP hD hS hA rfl rfl rfl (by decide) (fun ad17 H locs hP hD hS => ?_)
  have hP : va_P D vwCl [] H := hP
  have hD : va_D A [] := hD
  refine lv_goto (tgt := 36) hx hb dJ0_indexOf_7cf53_20 (by decide) ?_
  exact en_z hx hb hr hlk hP hD hS rfl (fun _ => 0) (is := []) rfl rfl (Nat.le_of_ble_eq_true rfl) (Nat.le_of_ble_eq_true rfl) dJ0_indexOf_7cf53_36
set_option maxHeartbeats 4000000 in
set_option maxRecDepth 100000 in
theorem k411_J0_indexOf_0f7a4 (l : Launch) (D : va_G) (cy : Nat → ClassId) (g : Nat → Nat)  (sz : Nat)  : Met l yJ0_indexOf_0f7a4 [.code yJ0_indexOf_0f7a4 cJ0_indexOf_0f7a4 2 (some .int)] ({ frames := 3, cells := 0, slots := 0, locals := 70 }) (PC D cy g [] sz [.ref (g (1 + 1)), .int 97]) (QI D 0 (fun ad => []) (va_A [] sz)) 0 0 (va_A [] sz) := by
  refine st_I (by decide) (Nat.le_of_ble_eq_true rfl) ?_
  intro p e s m args below meth c A ls hx hb hr hml hown hlk hnm hsz hP hD hA hE hts hS hl
  have hown : s.vm.findClass RJ0 = some m.cls := hown
  have hl : lv_has ls 2 [(0, .ref (g (1 + 1))), (1, .int 97)] := hl
  refine lv_aload_n hx hb dJ0_indexOf_0f7a4_0 rfl (lv_at hl 0 rfl) ?_
  refine lv_iload_n hx hb dJ0_indexOf_0f7a4_1 rfl (lv_at hl 1 rfl) ?_
  refine lv_iconst (v := 0) hx hb dJ0_indexOf_0f7a4_2 (by decide) ?_
  refine ca_i (isC := []) (isR := []) (wr := []) (rn_VS (i := 1) (isC := []) (wc := []) (As := [.int 97, .int 0]) (rest := []) (n := 2) hx hb hml hown hts hE hS hP hD hA hl.1 (k410_J0_indexOf_7cf53 l D cy g  s.heap.size ) rfl rfl (by decide) rfl ax_198 rfl rfl ax_199 ⟨Nat.le_of_ble_eq_true rfl, Nat.le_of_ble_eq_true rfl⟩ rfl rfl (Nat.le_of_ble_eq_true rfl) dJ0_indexOf_0f7a4_3 ⟨(Nat.le_of_ble_eq_true rfl), (Nat.le_of_ble_eq_true rfl)⟩) hP hD hS hA rfl rfl rfl (by decide) (fun ad3 H locs hP hD hS => ?_)
  have hP : va_P D vwCl [] H := hP
  have hD : va_D A [] := hD
  exact en_z hx hb hr hlk hP hD hS rfl (fun _ => 0) (is := []) rfl rfl (Nat.le_of_ble_eq_true rfl) (Nat.le_of_ble_eq_true rfl) dJ0_indexOf_0f7a4_6
set_option maxHeartbeats 4000000 in
set_option maxRecDepth 100000 in
theorem k412_X10_addStroke (l : Launch) (D : va_G) (cy : Nat → ClassId) (g : Nat → Nat) (x0 : Int32) (x1 : Int32) (a0 : Nat) (v0 : Value) (v1 : Value) (v2 : Value) (v3 : Value) (v4 : Value) (v5 : Value) (v6 : Value) (v7 : Value) (v8 : Value) (v9 : Value) (v10 : Value) (v11 : Value) (v12 : Value) (v13 : Value) (v14 : Value) (v15 : Value) (v16 : Value) (v17 : Value) (v18 : Value) (v19 : Value) (v20 : Value) (v21 : Value) (v22 : Value) (v23 : Value) (v24 : Value) (v25 : Value) (v26 : Value) (v27 : Value) (sz : Nat) (h0 : x0 < 1) : Met l yX10_addStroke [.code yX10_addStroke cX10_addStroke 4 (some .int)] ({ frames := 4, cells := 0, slots := 0, locals := 91 }) (PC D cy g [(a0, .inr (15, [v0, v1, v2, v3, v4, v5, v6, v7, v8, v9, v10, v11, v12, v13, v14, v15, v16, v17, v18, v19, v20, v21, v22, v23, v24, v25, v26, v27]))] sz [.ref a0, .int 97, .int x0, .int x1]) (QI D (-1) (fun ad => [(a0, .inr (15, [.int 1, v1, v2, v3, v4, v5, v6, v7, v8, v9, v10, v11, v12, v13, v14, v15, v16, v17, v18, v19, v20, v21, v22, v23, v24, v25, v26, v27]))]) (va_A [(a0, .inr (15, [v0, v1, v2, v3, v4, v5, v6, v7, v8, v9, v10, v11, v12, v13, v14, v15, v16, v17, v18, v19, v20, v21, v22, v23, v24, v25, v26, v27]))] sz)) 0 0 (va_A [(a0, .inr (15, [v0, v1, v2, v3, v4, v5, v6, v7, v8, v9, v10, v11, v12, v13, v14, v15, v16, v17, v18, v19, v20, v21, v22, v23, v24, v25, v26, v27]))] sz) := by
  refine st_I (by decide) (Nat.le_of_ble_eq_true rfl) ?_
  intro p e s m args below meth c A ls hx hb hr hml hown hlk hnm hsz hP hD hA hE hts hS hl
  have hown : s.vm.findClass RX10 = some m.cls := hown
  have hl : lv_has ls 4 [(0, .ref a0), (1, .int 97), (2, .int x0), (3, .int x1)] := hl
  refine lv_aload_n hx hb dX10_addStroke_0 rfl (lv_at hl 0 rfl) ?_
  refine ca_v (isC := [0]) (isR := []) (wr := []) (rn_V (ci := 15) (q0 := 0) (isC := [0]) (wc := [(a0, .inr (15, [v0, v1, v2, v3, v4, v5, v6, v7, v8, v9, v10, v11, v12, v13, v14, v15, v16, v17, v18, v19, v20, v21, v22, v23, v24, v25, v26, v27]))]) (As := []) (rest := []) (n := 0) hx hb hml hown hts hE hS hP hD hA hl.1 (k20_X10_begins l D cy g a0 (v0) (v1) (v2) (v3) (v4) (v5) (v6) (v7) (v8) (v9) (v10) (v11) (v12) (v13) (v14) (v15) (v16) (v17) (v18) (v19) (v20) (v21) (v22) (v23) (v24) (v25) (v26) (v27) s.heap.size ) rfl rfl rfl rfl rfl ax_37 rfl rfl ax_38 ⟨Nat.le_of_ble_eq_true rfl, Nat.le_of_ble_eq_true rfl⟩ rfl rfl (Nat.le_of_ble_eq_true rfl) dX10_addStroke_1 ⟨(Nat.le_of_ble_eq_true rfl), (Nat.le_of_ble_eq_true rfl)⟩) hP hD hS hA rfl rfl rfl (by decide) (fun ad1 H locs hP hD hS => ?_)
  have hP : va_P D vwCl [(a0, .inr (15, [.int 0, v1, v2, v3, v4, v5, v6, v7, v8, v9, v10, v11, v12, v13, v14, v15, v16, v17, v18, v19, v20, v21, v22, v23, v24, v25, v26, v27]))] H := hP
  have hD : va_D A [(a0, .inr (15, [.int 0, v1, v2, v3, v4, v5, v6, v7, v8, v9, v10, v11, v12, v13, v14, v15, v16, v17, v18, v19, v20, v21, v22, v23, v24, v25, v26, v27]))] := hD
  refine lv_aload_n hx hb dX10_addStroke_4 rfl (lv_at hl 0 rfl) ?_
  refine va_ldcS (tx := "aiv") (q := (g (1 + 1))) hx hb hown hE.2.2.1.2.2 dX10_addStroke_5 ?_
  refine lv_iload_n hx hb dX10_addStroke_7 rfl (lv_at hl 1 rfl) ?_
  refine ca_i (isC := []) (isR := [0]) (wr := [(a0, .inr (15, [.int 0, v1, v2, v3, v4, v5, v6, v7, v8, v9, v10, v11, v12, v13, v14, v15, v16, v17, v18, v19, v20, v21, v22, v23, v24, v25, v26, v27]))]) (rn_VS (i := 1) (isC := []) (wc := []) (As := [.int 97]) (rest := [.ref a0]) (n := 1) hx hb hml hown hts hE hS hP hD hA hl.1 (k411_J0_indexOf_0f7a4 l D cy g  H.size ) rfl rfl (by decide) rfl ax_200 rfl rfl ax_201 ⟨Nat.le_of_ble_eq_true rfl, Nat.le_of_ble_eq_true rfl⟩ rfl rfl (Nat.le_of_ble_eq_true rfl) dX10_addStroke_8 ⟨(Nat.le_of_ble_eq_true rfl), (Nat.le_of_ble_eq_true rfl)⟩) hP hD hS hA rfl rfl rfl (by decide) (fun ad8 H locs hP hD hS => ?_)
  have hP : va_P D vwCl [(a0, .inr (15, [.int 0, v1, v2, v3, v4, v5, v6, v7, v8, v9, v10, v11, v12, v13, v14, v15, v16, v17, v18, v19, v20, v21, v22, v23, v24, v25, v26, v27]))] H := hP
  have hD : va_D A [(a0, .inr (15, [.int 0, v1, v2, v3, v4, v5, v6, v7, v8, v9, v10, v11, v12, v13, v14, v15, v16, v17, v18, v19, v20, v21, v22, v23, v24, v25, v26, v27]))] := hD
  refine lv_if_lt (tgt := 32) hx hb dX10_addStroke_11 (by decide) (fun z => absurd z (by decide)) (fun _ => ?_)
  refine lv_iload_n hx hb dX10_addStroke_14 rfl (lv_at hl 1 rfl) ?_
  refine lv_bipush (v := 118) hx hb dX10_addStroke_15 (by decide) ?_
  refine lv_icmp_eq (tgt := 36) hx hb dX10_addStroke_17 (by decide) (fun z => absurd z (by decide)) (fun _ => ?_)
  refine lv_iload_n hx hb dX10_addStroke_20 rfl (lv_at hl 2 rfl) ?_
  refine lv_i2l (v := x0.toInt64) hx hb dX10_addStroke_21 rfl ?_
  refine lv_lconst (v := 1) hx hb dX10_addStroke_22 (by decide) ?_
  refine lv_ldc2 (v := 100) hx hb hown (hts _ tw_681) dX10_addStroke_23 ?_
  refine ca_i (isC := []) (isR := [0]) (wr := [(a0, .inr (15, [.int 0, v1, v2, v3, v4, v5, v6, v7, v8, v9, v10, v11, v12, v13, v14, v15, v16, v17, v18, v19, v20, v21, v22, v23, v24, v25, v26, v27]))]) (rn_S (isC := []) (wc := []) (As := [.long x0.toInt64, .long 1, .long 100]) (rest := [.ref a0]) (n := 3) hx hb hml hown hts hE hS hP hD hA hl.1 (k21_X10_in l D cy g x0.toInt64 1 100 H.size (wl_lt rfl (by decide) h0)) rfl rfl ax_39 rfl rfl ax_40 ⟨Nat.le_of_ble_eq_true rfl, Nat.le_of_ble_eq_true rfl⟩ rfl rfl (Nat.le_of_ble_eq_true rfl) dX10_addStroke_26 ⟨(Nat.le_of_ble_eq_true rfl), (Nat.le_of_ble_eq_true rfl)⟩) hP hD hS hA rfl rfl rfl (by decide) (fun ad26 H locs hP hD hS => ?_)
  have hP : va_P D vwCl [(a0, .inr (15, [.int 0, v1, v2, v3, v4, v5, v6, v7, v8, v9, v10, v11, v12, v13, v14, v15, v16, v17, v18, v19, v20, v21, v22, v23, v24, v25, v26, v27]))] H := hP
  have hD : va_D A [(a0, .inr (15, [.int 0, v1, v2, v3, v4, v5, v6, v7, v8, v9, v10, v11, v12, v13, v14, v15, v16, v17, v18, v19, v20, v21, v22, v23, v24, v25, v26, v27]))] := hD
  refine lv_if_ne (tgt := 36) hx hb dX10_addStroke_29 (by decide) (fun z => absurd (by decide) z) (fun _ => ?_)
  refine lv_iconst (v := 1) hx hb dX10_addStroke_32 (by decide) ?_
  refine lv_goto (tgt := 37) hx hb dX10_addStroke_33 (by decide) ?_
  refine lv_iconst (v := 1) hx hb dX10_addStroke_37 (by decide) ?_
  refine ca_i (isC := [0]) (isR := []) (wr := []) (rn_V (ci := 15) (q0 := 0) (isC := [0]) (wc := [(a0, .inr (15, [.int 0, v1, v2, v3, v4, v5, v6, v7, v8, v9, v10, v11, v12, v13, v14, v15, v16, v17, v18, v19, v20, v21, v22, v23, v24, v25, v26, v27]))]) (As := [.int 1, .int 1]) (rest := []) (n := 2) hx hb hml hown hts hE hS hP hD hA hl.1 (k22_X10_fails l D cy g a0 (v1) (v2) (v3) (v4) (v5) (v6) (v7) (v8) (v9) (v10) (v11) (v12) (v13) (v14) (v15) (v16) (v17) (v18) (v19) (v20) (v21) (v22) (v23) (v24) (v25) (v26) (v27) H.size ) rfl rfl rfl rfl rfl ax_41 rfl rfl ax_42 ⟨Nat.le_of_ble_eq_true rfl, Nat.le_of_ble_eq_true rfl⟩ rfl rfl (Nat.le_of_ble_eq_true rfl) dX10_addStroke_38 ⟨(Nat.le_of_ble_eq_true rfl), (Nat.le_of_ble_eq_true rfl)⟩) hP hD hS hA rfl rfl rfl (by decide) (fun ad38 H locs hP hD hS => ?_)
  have hP : va_P D vwCl [(a0, .inr (15, [.int 1, v1, v2, v3, v4, v5, v6, v7, v8, v9, v10, v11, v12, v13, v14, v15, v16, v17, v18, v19, v20, v21, v22, v23, v24, v25, v26, v27]))] H := hP
  have hD : va_D A [(a0, .inr (15, [.int 1, v1, v2, v3, v4, v5, v6, v7, v8, v9, v10, v11, v12, v13, v14, v15, v16, v17, v18, v19, v20, v21, v22, v23, v24, v25, v26, v27]))] := hD
  refine lv_if_ne (tgt := 101) hx hb dX10_addStroke_41 (by decide) (fun _ => ?_) (fun z => absurd z (by decide))
  refine lv_iconst (v := (-1)) hx hb dX10_addStroke_101 (by decide) ?_
  exact en_z hx hb hr hlk hP hD hS rfl (fun _ => 0) (is := [0]) rfl rfl (Nat.le_of_ble_eq_true rfl) (Nat.le_of_ble_eq_true rfl) dX10_addStroke_102
set_option maxHeartbeats 4000000 in
set_option maxRecDepth 100000 in
theorem k413_X1_isStroke (l : Launch) (D : va_G) (cy : Nat → ClassId) (g : Nat → Nat) (x0 : Int32) (sz : Nat) (h0 : ¬ x0 < 1) (h1 : (100 : Int32) < x0) : Met l yX1_isStroke [.code yX1_isStroke cX1_isStroke 2 (some .boolean)] ({ frames := 1, cells := 0, slots := 0, locals := 22 }) (PC D cy g [] sz [.int 97, .int x0]) (QI D 0 (fun ad => []) (va_A [] sz)) 0 0 (va_A [] sz) := by
  refine st_I (by decide) (Nat.le_of_ble_eq_true rfl) ?_
  intro p e s m args below meth c A ls hx hb hr hml hown hlk hnm hsz hP hD hA hE hts hS hl
  have hown : s.vm.findClass RX1 = some m.cls := hown
  have hl : lv_has ls 2 [(0, .int 97), (1, .int x0)] := hl
  refine lv_iload_n hx hb dX1_isStroke_0 rfl (lv_at hl 0 rfl) ?_
  refine lv_bipush (v := 118) hx hb dX1_isStroke_1 (by decide) ?_
  refine lv_icmp_eq (tgt := 28) hx hb dX1_isStroke_3 (by decide) (fun z => absurd z (by decide)) (fun _ => ?_)
  refine lv_iload_n hx hb dX1_isStroke_6 rfl (lv_at hl 0 rfl) ?_
  refine lv_bipush (v := 97) hx hb dX1_isStroke_7 (by decide) ?_
  refine lv_icmp_eq (tgt := 18) hx hb dX1_isStroke_9 (by decide) (fun _ => ?_) (fun z => absurd (by decide) z)
  refine lv_iload_n hx hb dX1_isStroke_18 rfl (lv_at hl 1 rfl) ?_
  refine lv_iconst (v := 1) hx hb dX1_isStroke_19 (by decide) ?_
  refine lv_bipush (v := 100) hx hb dX1_isStroke_20 (by decide) ?_
  refine ca_i (isC := []) (isR := []) (wr := []) (rn_SN (isC := []) (wc := []) (As := [.int x0, .int 1, .int 100]) (rest := []) (n := 3) hx hb hml hown hts hE hS hP hD hA hl.1 (k25_X9_isOutside l D cy g x0 1 100 s.heap.size h0 h1) rfl rfl tw_835 tw_293 tw_294 tw_295 rfl rfl ax_31 ⟨Nat.le_of_ble_eq_true rfl, Nat.le_of_ble_eq_true rfl⟩ rfl rfl (Nat.le_of_ble_eq_true rfl) dX1_isStroke_22 ⟨(Nat.le_of_ble_eq_true rfl), (Nat.le_of_ble_eq_true rfl)⟩) hP hD hS hA rfl rfl rfl (by decide) (fun ad22 H locs hP hD hS => ?_)
  have hP : va_P D vwCl [] H := hP
  have hD : va_D A [] := hD
  refine lv_if_ne (tgt := 32) hx hb dX1_isStroke_25 (by decide) (fun _ => ?_) (fun z => absurd z (by decide))
  refine lv_iconst (v := 0) hx hb dX1_isStroke_32 (by decide) ?_
  exact en_z hx hb hr hlk hP hD hS rfl (fun _ => 0) (is := []) rfl rfl (Nat.le_of_ble_eq_true rfl) (Nat.le_of_ble_eq_true rfl) dX1_isStroke_33
set_option maxHeartbeats 4000000 in
set_option maxRecDepth 100000 in
theorem k414_X9_addStroke (l : Launch) (hst : l.stackTraces = false) (D : va_G) (cy : Nat → ClassId) (g : Nat → Nat) (x0 : Int32) (x1 : Int32) (b0 : Nat) (sz : Nat) (h0 : ¬ x0 < 1) (h1 : (100 : Int32) < x0) : vx_Met l yX9_addStroke [.code yX9_addStroke cX9_addStroke 4 (some .int)] ({ frames := 6, cells := 1, slots := 6, locals := 82 }) (PC D cy g [] sz [.ref b0, .int 97, .int x0, .int x1]) QN (XE "java/lang/IllegalArgumentException" (va_A [] sz)) 1 6 (va_A [] sz) := by
  refine st_X (by decide) (Nat.le_of_ble_eq_true rfl) ?_
  intro p e s m args below meth c A ls hx hb hr hml hown hlk hnm hsz hP hD hA hE hts hS hl hout
  have hown : s.vm.findClass RX9 = some m.cls := hown
  have hl : lv_has ls 4 [(0, .ref b0), (1, .int 97), (2, .int x0), (3, .int x1)] := hl
  refine lv_iload_n hx hb dX9_addStroke_0 rfl (lv_at hl 1 rfl) ?_
  refine lv_iload_n hx hb dX9_addStroke_1 rfl (lv_at hl 2 rfl) ?_
  refine ca_i (isC := []) (isR := []) (wr := []) (rn_S (isC := []) (wc := []) (As := [.int 97, .int x0]) (rest := []) (n := 2) hx hb hml hown hts hE hS hP hD hA hl.1 (k413_X1_isStroke l D cy g x0 s.heap.size h0 h1) rfl rfl ax_277 rfl rfl ax_278 ⟨Nat.le_of_ble_eq_true rfl, Nat.le_of_ble_eq_true rfl⟩ rfl rfl (Nat.le_of_ble_eq_true rfl) dX9_addStroke_2 ⟨(Nat.le_of_ble_eq_true rfl), (Nat.le_of_ble_eq_true rfl)⟩) hP hD hS hA rfl rfl rfl (by decide) (fun ad2 H locs hP hD hS => ?_)
  have hP : va_P D vwCl [] H := hP
  have hD : va_D A [] := hD
  refine lv_if_ne (tgt := 18) hx hb dX9_addStroke_5 (by decide) (fun z => absurd (by decide) z) (fun _ => ?_)
  exact th_S (text := "there is no such stroke") hx hb hst hown hts hE hS (hl.1.trans hml.symm) hout hlk (by decide +kernel) tw_296 tw_297 ax_32 (by decide +kernel) dX9_addStroke_8 dX9_addStroke_11 dX9_addStroke_12 dX9_addStroke_14 dX9_addStroke_17 ⟨Nat.le_of_ble_eq_true rfl, Nat.le_of_ble_eq_true rfl, Nat.le_of_ble_eq_true rfl, Nat.le_of_ble_eq_true rfl⟩ (Nat.le_of_ble_eq_true rfl) (Nat.le_of_ble_eq_true rfl)
set_option maxHeartbeats 4000000 in
set_option maxRecDepth 100000 in
theorem k415_L_addStroke (l : Launch) (hst : l.stackTraces = false) (D : va_G) (cy : Nat → ClassId) (g : Nat → Nat) (x0 : Int32) (x1 : Int32) (a0 : Nat) (b0 : Nat) (v0 : Value) (v1 : Value) (v2 : Value) (v3 : Value) (v4 : Value) (v5 : Value) (v6 : Value) (sz : Nat) (h0 : ¬ x0 < 1) (h1 : (100 : Int32) < x0) : Met l yL_addStroke [.codeWith yL_addStroke cL_addStroke 6 (some .int) [(0, 12, 15, 13), (0, 12, 19, 21), (0, 12, 23, 15)]] ({ frames := 7, cells := 1, slots := 6, locals := 105 }) (PC D cy g [(a0, .inr (14, [v0, v1, v2, v3, v4, v5, v6]))] sz [.ref a0, .int 97, .int x0, .int x1, .ref b0]) (QI D 1 (fun ad => []) (va_A [(a0, .inr (14, [v0, v1, v2, v3, v4, v5, v6]))] sz)) 1 6 (va_A [(a0, .inr (14, [v0, v1, v2, v3, v4, v5, v6]))] sz) := by
  refine sh_I (by decide) (Nat.le_of_ble_eq_true rfl) ?_
  intro p e s m args below meth c A ls hx hb hr hml hown hlk hnm hsz hP hD hA hE hts hS hl htb
  have hown : s.vm.findClass RL = some m.cls := hown
  have hl : lv_has ls 6 [(0, .ref a0), (1, .int 97), (2, .int x0), (3, .int x1), (4, .ref b0)] := hl
  refine lv_aload hx hb dL_addStroke_0 (lv_at hl 4 rfl) ?_
  refine lv_iconst (v := 0) hx hb dL_addStroke_2 (by decide) ?_
  refine lv_aload_n hx hb dL_addStroke_3 rfl (lv_at hl 0 rfl) ?_
  refine lv_iload_n hx hb dL_addStroke_4 rfl (lv_at hl 1 rfl) ?_
  refine lv_iload_n hx hb dL_addStroke_5 rfl (lv_at hl 2 rfl) ?_
  refine lv_iload_n hx hb dL_addStroke_6 rfl (lv_at hl 3 rfl) ?_
  refine cx_catch (isC := []) (isR := [0]) (wr := [(a0, .inr (14, [v0, v1, v2, v3, v4, v5, v6]))]) (hp := []) (z := (0, 12, 15, 13)) (hq := [(0, 12, 19, 21), (0, 12, 23, 15)]) (name := "java/lang/IllegalArgumentException") (own := RL) (rx_V (ci := 14) (q0 := 0) (isC := []) (wc := []) (As := [.int 97, .int x0, .int x1]) (rest := [.int 0, .ref b0]) (n := 3) hx hb hml hown hts hE hS hP hD hA hl.1 (k414_X9_addStroke l hst D cy g x0 x1 a0 s.heap.size h0 h1) rfl rfl rfl rfl rfl ax_281 rfl rfl ax_282 ⟨Nat.le_of_ble_eq_true rfl, Nat.le_of_ble_eq_true rfl⟩ rfl rfl (Nat.le_of_ble_eq_true rfl) dL_addStroke_7 ⟨(Nat.le_of_ble_eq_true rfl), (Nat.le_of_ble_eq_true rfl)⟩) hP hD hS hA hown hts hE htb rfl rfl rfl rfl (by decide) (fun z hz => by cases hz) (by decide) (by decide) tw_302 tw_303 (fun qx H locs hP hD hS => ?_)
  have hP : va_P D vwCl [(a0, .inr (14, [v0, v1, v2, v3, v4, v5, v6]))] H := hP
  have hD : va_D A [(a0, .inr (14, [v0, v1, v2, v3, v4, v5, v6]))] := hD
  refine lv_astore (lv' := [(5, .ref qx), (0, .ref a0), (1, .int 97), (2, .int x0), (3, .int x1), (4, .ref b0)]) hx hb dL_addStroke_15 hl (Nat.le_of_ble_eq_true rfl) rfl (fun ls hl => ?_)
  refine lv_iconst (v := 1) hx hb dL_addStroke_17 (by decide) ?_
  exact en_z hx hb hr hlk hP hD hS rfl (fun _ => 0) (is := []) rfl rfl (Nat.le_of_ble_eq_true rfl) (Nat.le_of_ble_eq_true rfl) dL_addStroke_18
set_option maxHeartbeats 4000000 in
set_option maxRecDepth 100000 in
theorem k416_X10_addStroke (l : Launch) (D : va_G) (cy : Nat → ClassId) (g : Nat → Nat) (x0 : Int32) (x1 : Int32) (a0 : Nat) (v0 : Value) (v1 : Value) (v2 : Value) (v3 : Value) (v4 : Value) (v5 : Value) (v6 : Value) (v7 : Value) (v8 : Value) (v9 : Value) (v10 : Value) (v11 : Value) (v12 : Value) (v13 : Value) (v14 : Value) (v15 : Value) (v16 : Value) (v17 : Value) (v18 : Value) (v19 : Value) (v20 : Value) (v21 : Value) (v22 : Value) (v23 : Value) (v24 : Value) (v25 : Value) (v26 : Value) (v27 : Value) (sz : Nat) (h0 : ¬ x0 < 1) (h1 : (100 : Int32) < x0) : Met l yX10_addStroke [.code yX10_addStroke cX10_addStroke 4 (some .int)] ({ frames := 4, cells := 0, slots := 0, locals := 91 }) (PC D cy g [(a0, .inr (15, [v0, v1, v2, v3, v4, v5, v6, v7, v8, v9, v10, v11, v12, v13, v14, v15, v16, v17, v18, v19, v20, v21, v22, v23, v24, v25, v26, v27]))] sz [.ref a0, .int 97, .int x0, .int x1]) (QI D (-1) (fun ad => [(a0, .inr (15, [.int 1, v1, v2, v3, v4, v5, v6, v7, v8, v9, v10, v11, v12, v13, v14, v15, v16, v17, v18, v19, v20, v21, v22, v23, v24, v25, v26, v27]))]) (va_A [(a0, .inr (15, [v0, v1, v2, v3, v4, v5, v6, v7, v8, v9, v10, v11, v12, v13, v14, v15, v16, v17, v18, v19, v20, v21, v22, v23, v24, v25, v26, v27]))] sz)) 0 0 (va_A [(a0, .inr (15, [v0, v1, v2, v3, v4, v5, v6, v7, v8, v9, v10, v11, v12, v13, v14, v15, v16, v17, v18, v19, v20, v21, v22, v23, v24, v25, v26, v27]))] sz) := by
  refine st_I (by decide) (Nat.le_of_ble_eq_true rfl) ?_
  intro p e s m args below meth c A ls hx hb hr hml hown hlk hnm hsz hP hD hA hE hts hS hl
  have hown : s.vm.findClass RX10 = some m.cls := hown
  have hl : lv_has ls 4 [(0, .ref a0), (1, .int 97), (2, .int x0), (3, .int x1)] := hl
  refine lv_aload_n hx hb dX10_addStroke_0 rfl (lv_at hl 0 rfl) ?_
  refine ca_v (isC := [0]) (isR := []) (wr := []) (rn_V (ci := 15) (q0 := 0) (isC := [0]) (wc := [(a0, .inr (15, [v0, v1, v2, v3, v4, v5, v6, v7, v8, v9, v10, v11, v12, v13, v14, v15, v16, v17, v18, v19, v20, v21, v22, v23, v24, v25, v26, v27]))]) (As := []) (rest := []) (n := 0) hx hb hml hown hts hE hS hP hD hA hl.1 (k20_X10_begins l D cy g a0 (v0) (v1) (v2) (v3) (v4) (v5) (v6) (v7) (v8) (v9) (v10) (v11) (v12) (v13) (v14) (v15) (v16) (v17) (v18) (v19) (v20) (v21) (v22) (v23) (v24) (v25) (v26) (v27) s.heap.size ) rfl rfl rfl rfl rfl ax_37 rfl rfl ax_38 ⟨Nat.le_of_ble_eq_true rfl, Nat.le_of_ble_eq_true rfl⟩ rfl rfl (Nat.le_of_ble_eq_true rfl) dX10_addStroke_1 ⟨(Nat.le_of_ble_eq_true rfl), (Nat.le_of_ble_eq_true rfl)⟩) hP hD hS hA rfl rfl rfl (by decide) (fun ad1 H locs hP hD hS => ?_)
  have hP : va_P D vwCl [(a0, .inr (15, [.int 0, v1, v2, v3, v4, v5, v6, v7, v8, v9, v10, v11, v12, v13, v14, v15, v16, v17, v18, v19, v20, v21, v22, v23, v24, v25, v26, v27]))] H := hP
  have hD : va_D A [(a0, .inr (15, [.int 0, v1, v2, v3, v4, v5, v6, v7, v8, v9, v10, v11, v12, v13, v14, v15, v16, v17, v18, v19, v20, v21, v22, v23, v24, v25, v26, v27]))] := hD
  refine lv_aload_n hx hb dX10_addStroke_4 rfl (lv_at hl 0 rfl) ?_
  refine va_ldcS (tx := "aiv") (q := (g (1 + 1))) hx hb hown hE.2.2.1.2.2 dX10_addStroke_5 ?_
  refine lv_iload_n hx hb dX10_addStroke_7 rfl (lv_at hl 1 rfl) ?_
  refine ca_i (isC := []) (isR := [0]) (wr := [(a0, .inr (15, [.int 0, v1, v2, v3, v4, v5, v6, v7, v8, v9, v10, v11, v12, v13, v14, v15, v16, v17, v18, v19, v20, v21, v22, v23, v24, v25, v26, v27]))]) (rn_VS (i := 1) (isC := []) (wc := []) (As := [.int 97]) (rest := [.ref a0]) (n := 1) hx hb hml hown hts hE hS hP hD hA hl.1 (k411_J0_indexOf_0f7a4 l D cy g  H.size ) rfl rfl (by decide) rfl ax_200 rfl rfl ax_201 ⟨Nat.le_of_ble_eq_true rfl, Nat.le_of_ble_eq_true rfl⟩ rfl rfl (Nat.le_of_ble_eq_true rfl) dX10_addStroke_8 ⟨(Nat.le_of_ble_eq_true rfl), (Nat.le_of_ble_eq_true rfl)⟩) hP hD hS hA rfl rfl rfl (by decide) (fun ad8 H locs hP hD hS => ?_)
  have hP : va_P D vwCl [(a0, .inr (15, [.int 0, v1, v2, v3, v4, v5, v6, v7, v8, v9, v10, v11, v12, v13, v14, v15, v16, v17, v18, v19, v20, v21, v22, v23, v24, v25, v26, v27]))] H := hP
  have hD : va_D A [(a0, .inr (15, [.int 0, v1, v2, v3, v4, v5, v6, v7, v8, v9, v10, v11, v12, v13, v14, v15, v16, v17, v18, v19, v20, v21, v22, v23, v24, v25, v26, v27]))] := hD
  refine lv_if_lt (tgt := 32) hx hb dX10_addStroke_11 (by decide) (fun z => absurd z (by decide)) (fun _ => ?_)
  refine lv_iload_n hx hb dX10_addStroke_14 rfl (lv_at hl 1 rfl) ?_
  refine lv_bipush (v := 118) hx hb dX10_addStroke_15 (by decide) ?_
  refine lv_icmp_eq (tgt := 36) hx hb dX10_addStroke_17 (by decide) (fun z => absurd z (by decide)) (fun _ => ?_)
  refine lv_iload_n hx hb dX10_addStroke_20 rfl (lv_at hl 2 rfl) ?_
  refine lv_i2l (v := x0.toInt64) hx hb dX10_addStroke_21 rfl ?_
  refine lv_lconst (v := 1) hx hb dX10_addStroke_22 (by decide) ?_
  refine lv_ldc2 (v := 100) hx hb hown (hts _ tw_681) dX10_addStroke_23 ?_
  refine ca_i (isC := []) (isR := [0]) (wr := [(a0, .inr (15, [.int 0, v1, v2, v3, v4, v5, v6, v7, v8, v9, v10, v11, v12, v13, v14, v15, v16, v17, v18, v19, v20, v21, v22, v23, v24, v25, v26, v27]))]) (rn_S (isC := []) (wc := []) (As := [.long x0.toInt64, .long 1, .long 100]) (rest := [.ref a0]) (n := 3) hx hb hml hown hts hE hS hP hD hA hl.1 (k28_X10_in l D cy g x0.toInt64 1 100 H.size (wl_nlt rfl (by decide) h0) (wl_lt (by decide) rfl h1)) rfl rfl ax_39 rfl rfl ax_40 ⟨Nat.le_of_ble_eq_true rfl, Nat.le_of_ble_eq_true rfl⟩ rfl rfl (Nat.le_of_ble_eq_true rfl) dX10_addStroke_26 ⟨(Nat.le_of_ble_eq_true rfl), (Nat.le_of_ble_eq_true rfl)⟩) hP hD hS hA rfl rfl rfl (by decide) (fun ad26 H locs hP hD hS => ?_)
  have hP : va_P D vwCl [(a0, .inr (15, [.int 0, v1, v2, v3, v4, v5, v6, v7, v8, v9, v10, v11, v12, v13, v14, v15, v16, v17, v18, v19, v20, v21, v22, v23, v24, v25, v26, v27]))] H := hP
  have hD : va_D A [(a0, .inr (15, [.int 0, v1, v2, v3, v4, v5, v6, v7, v8, v9, v10, v11, v12, v13, v14, v15, v16, v17, v18, v19, v20, v21, v22, v23, v24, v25, v26, v27]))] := hD
  refine lv_if_ne (tgt := 36) hx hb dX10_addStroke_29 (by decide) (fun z => absurd (by decide) z) (fun _ => ?_)
  refine lv_iconst (v := 1) hx hb dX10_addStroke_32 (by decide) ?_
  refine lv_goto (tgt := 37) hx hb dX10_addStroke_33 (by decide) ?_
  refine lv_iconst (v := 1) hx hb dX10_addStroke_37 (by decide) ?_
  refine ca_i (isC := [0]) (isR := []) (wr := []) (rn_V (ci := 15) (q0 := 0) (isC := [0]) (wc := [(a0, .inr (15, [.int 0, v1, v2, v3, v4, v5, v6, v7, v8, v9, v10, v11, v12, v13, v14, v15, v16, v17, v18, v19, v20, v21, v22, v23, v24, v25, v26, v27]))]) (As := [.int 1, .int 1]) (rest := []) (n := 2) hx hb hml hown hts hE hS hP hD hA hl.1 (k22_X10_fails l D cy g a0 (v1) (v2) (v3) (v4) (v5) (v6) (v7) (v8) (v9) (v10) (v11) (v12) (v13) (v14) (v15) (v16) (v17) (v18) (v19) (v20) (v21) (v22) (v23) (v24) (v25) (v26) (v27) H.size ) rfl rfl rfl rfl rfl ax_41 rfl rfl ax_42 ⟨Nat.le_of_ble_eq_true rfl, Nat.le_of_ble_eq_true rfl⟩ rfl rfl (Nat.le_of_ble_eq_true rfl) dX10_addStroke_38 ⟨(Nat.le_of_ble_eq_true rfl), (Nat.le_of_ble_eq_true rfl)⟩) hP hD hS hA rfl rfl rfl (by decide) (fun ad38 H locs hP hD hS => ?_)
  have hP : va_P D vwCl [(a0, .inr (15, [.int 1, v1, v2, v3, v4, v5, v6, v7, v8, v9, v10, v11, v12, v13, v14, v15, v16, v17, v18, v19, v20, v21, v22, v23, v24, v25, v26, v27]))] H := hP
  have hD : va_D A [(a0, .inr (15, [.int 1, v1, v2, v3, v4, v5, v6, v7, v8, v9, v10, v11, v12, v13, v14, v15, v16, v17, v18, v19, v20, v21, v22, v23, v24, v25, v26, v27]))] := hD
  refine lv_if_ne (tgt := 101) hx hb dX10_addStroke_41 (by decide) (fun _ => ?_) (fun z => absurd z (by decide))
  refine lv_iconst (v := (-1)) hx hb dX10_addStroke_101 (by decide) ?_
  exact en_z hx hb hr hlk hP hD hS rfl (fun _ => 0) (is := [0]) rfl rfl (Nat.le_of_ble_eq_true rfl) (Nat.le_of_ble_eq_true rfl) dX10_addStroke_102
set_option maxHeartbeats 4000000 in
set_option maxRecDepth 100000 in
theorem k417_X1_isStroke (l : Launch) (D : va_G) (cy : Nat → ClassId) (g : Nat → Nat) (x0 : Int32) (sz : Nat) (h0 : ¬ x0 < 1) (h1 : ¬ (100 : Int32) < x0) : Met l yX1_isStroke [.code yX1_isStroke cX1_isStroke 2 (some .boolean)] ({ frames := 1, cells := 0, slots := 0, locals := 22 }) (PC D cy g [] sz [.int 97, .int x0]) (QI D 1 (fun ad => []) (va_A [] sz)) 0 0 (va_A [] sz) := by
  refine st_I (by decide) (Nat.le_of_ble_eq_true rfl) ?_
  intro p e s m args below meth c A ls hx hb hr hml hown hlk hnm hsz hP hD hA hE hts hS hl
  have hown : s.vm.findClass RX1 = some m.cls := hown
  have hl : lv_has ls 2 [(0, .int 97), (1, .int x0)] := hl
  refine lv_iload_n hx hb dX1_isStroke_0 rfl (lv_at hl 0 rfl) ?_
  refine lv_bipush (v := 118) hx hb dX1_isStroke_1 (by decide) ?_
  refine lv_icmp_eq (tgt := 28) hx hb dX1_isStroke_3 (by decide) (fun z => absurd z (by decide)) (fun _ => ?_)
  refine lv_iload_n hx hb dX1_isStroke_6 rfl (lv_at hl 0 rfl) ?_
  refine lv_bipush (v := 97) hx hb dX1_isStroke_7 (by decide) ?_
  refine lv_icmp_eq (tgt := 18) hx hb dX1_isStroke_9 (by decide) (fun _ => ?_) (fun z => absurd (by decide) z)
  refine lv_iload_n hx hb dX1_isStroke_18 rfl (lv_at hl 1 rfl) ?_
  refine lv_iconst (v := 1) hx hb dX1_isStroke_19 (by decide) ?_
  refine lv_bipush (v := 100) hx hb dX1_isStroke_20 (by decide) ?_
  refine ca_i (isC := []) (isR := []) (wr := []) (rn_SN (isC := []) (wc := []) (As := [.int x0, .int 1, .int 100]) (rest := []) (n := 3) hx hb hml hown hts hE hS hP hD hA hl.1 (k30_X9_isOutside l D cy g x0 1 100 s.heap.size h0 h1) rfl rfl tw_835 tw_293 tw_294 tw_295 rfl rfl ax_31 ⟨Nat.le_of_ble_eq_true rfl, Nat.le_of_ble_eq_true rfl⟩ rfl rfl (Nat.le_of_ble_eq_true rfl) dX1_isStroke_22 ⟨(Nat.le_of_ble_eq_true rfl), (Nat.le_of_ble_eq_true rfl)⟩) hP hD hS hA rfl rfl rfl (by decide) (fun ad22 H locs hP hD hS => ?_)
  have hP : va_P D vwCl [] H := hP
  have hD : va_D A [] := hD
  refine lv_if_ne (tgt := 32) hx hb dX1_isStroke_25 (by decide) (fun z => absurd (by decide) z) (fun _ => ?_)
  refine lv_iconst (v := 1) hx hb dX1_isStroke_28 (by decide) ?_
  refine lv_goto (tgt := 33) hx hb dX1_isStroke_29 (by decide) ?_
  exact en_z hx hb hr hlk hP hD hS rfl (fun _ => 0) (is := []) rfl rfl (Nat.le_of_ble_eq_true rfl) (Nat.le_of_ble_eq_true rfl) dX1_isStroke_33
set_option maxHeartbeats 4000000 in
set_option maxRecDepth 100000 in
theorem k418_X1_needsBody (l : Launch) (D : va_G) (cy : Nat → ClassId) (g : Nat → Nat)  (sz : Nat)  : Met l yX1_needsBody [.code yX1_needsBody cX1_needsBody 1 (some .boolean)] ({ frames := 0, cells := 0, slots := 0, locals := 0 }) (PC D cy g [] sz [.int 97]) (QI D 0 (fun ad => []) (va_A [] sz)) 0 0 (va_A [] sz) := by
  refine st_I (by decide) (Nat.le_of_ble_eq_true rfl) ?_
  intro p e s m args below meth c A ls hx hb hr hml hown hlk hnm hsz hP hD hA hE hts hS hl
  have hown : s.vm.findClass RX1 = some m.cls := hown
  have hl : lv_has ls 1 [(0, .int 97)] := hl
  refine lv_iload_n hx hb dX1_needsBody_0 rfl (lv_at hl 0 rfl) ?_
  refine lv_bipush (v := 97) hx hb dX1_needsBody_1 (by decide) ?_
  refine lv_icmp_eq (tgt := 10) hx hb dX1_needsBody_3 (by decide) (fun _ => ?_) (fun z => absurd (by decide) z)
  refine lv_iconst (v := 0) hx hb dX1_needsBody_10 (by decide) ?_
  exact en_z hx hb hr hlk hP hD hS rfl (fun _ => 0) (is := []) rfl rfl (Nat.le_of_ble_eq_true rfl) (Nat.le_of_ble_eq_true rfl) dX1_needsBody_11
set_option maxHeartbeats 4000000 in
set_option maxRecDepth 100000 in
theorem k419_X1_isFull (l : Launch) (D : va_G) (cy : Nat → ClassId) (g : Nat → Nat) (a0 : Nat) (v0 : Value) (v1 : Value) (v2 : Value) (v3 : Value) (v4 : Value) (v5 : Value) (v6 : Value) (v7 : Value) (v8 : Value) (v9 : Value) (v10 : Value) (v11 : Value) (sz : Nat)  : Met l yX1_isFull [.code yX1_isFull cX1_isFull 1 (some .boolean)] ({ frames := 0, cells := 0, slots := 0, locals := 0 }) (PC D cy g [(a0, .inr (6, [v0, v1, v2, .int 0, v3, v4, v5, v6, v7, v8, v9, v10, v11]))] sz [.ref a0]) (QI D 0 (fun ad => [(a0, .inr (6, [v0, v1, v2, .int 0, v3, v4, v5, v6, v7, v8, v9, v10, v11]))]) (va_A [(a0, .inr (6, [v0, v1, v2, .int 0, v3, v4, v5, v6, v7, v8, v9, v10, v11]))] sz)) 0 0 (va_A [(a0, .inr (6, [v0, v1, v2, .int 0, v3, v4, v5, v6, v7, v8, v9, v10, v11]))] sz) := by
  refine st_I (by decide) (Nat.le_of_ble_eq_true rfl) ?_
  intro p e s m args below meth c A ls hx hb hr hml hown hlk hnm hsz hP hD hA hE hts hS hl
  have hown : s.vm.findClass RX1 = some m.cls := hown
  have hl : lv_has ls 1 [(0, .ref a0)] := hl
  refine lv_aload_n hx hb dX1_isFull_0 rfl (lv_at hl 0 rfl) ?_
  refine va_get (D := D) (ci := 6) (v := .int 0) (C := RX1) (T := TX1) (N := 13) hx hb hts ax_7 hown hE.1 hP 0 rfl rfl 3 (by decide) (hts _ tw_110) (fun _ h9 => h9) rfl dX1_isFull_1 ?_
  refine lv_bipush (v := 8) hx hb dX1_isFull_4 (by decide) ?_
  refine lv_icmp_lt (tgt := 13) hx hb dX1_isFull_6 (by decide) (fun _ => ?_) (fun z => absurd (by decide) z)
  refine lv_iconst (v := 0) hx hb dX1_isFull_13 (by decide) ?_
  exact en_z hx hb hr hlk hP hD hS rfl (fun _ => 0) (is := [0]) rfl rfl (Nat.le_of_ble_eq_true rfl) (Nat.le_of_ble_eq_true rfl) dX1_isFull_14

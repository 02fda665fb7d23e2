set_option maxHeartbeats 4000000 in
set_option maxRecDepth 100000 in
theorem k180_X10_noState (l : Launch) (D : va_G) (cy : Nat → ClassId) (g : Nat → Nat) (x0 : Int32) (x1 : Int32) (a0 : Nat) (a1 : Nat) (v0 : Value) (v1 : Value) (v2 : Value) (v3 : Value) (v4 : Value) (v5 : Value) (v6 : Value) (v7 : Value) (v8 : Value) (v9 : Value) (v10 : Value) (v11 : Value) (v12 : Value) (v13 : Value) (v14 : Value) (v15 : Value) (v16 : Value) (v17 : Value) (v18 : Value) (v19 : Value) (v20 : Value) (v21 : Value) (v22 : Value) (v23 : Value) (v24 : Value) (v25 : Value) (v26 : Value) (v27 : Value) (sz : Nat) (h0 : ¬ x1 < 0) (h1 : ¬ (20000 : Int32) < x1) : Met l yX10_noState [.code yX10_noState cX10_noState 3 (some .boolean)] ({ frames := 2, cells := 0, slots := 0, locals := 41 }) (PC D cy g [(a0, .inr (15, [.int 0, v0, v1, v2, v3, v4, .ref a1, v5, v6, v7, v8, v9, v10, v11, v12, v13, v14, v15, v16, v17, v18, v19, v20, v21, v22, v23, v24, v25])), (a1, .inr (4, [v26, v27, .int 0]))] sz [.ref a0, .int x0, .int x1]) (QI D 1 (fun ad => [(a0, .inr (15, [.int 2, v0, v1, v2, v3, v4, .ref a1, v5, v6, v7, v8, v9, v10, v11, v12, v13, v14, v15, v16, v17, v18, v19, v20, v21, v22, v23, v24, v25])), (a1, .inr (4, [v26, v27, .int 0]))]) (va_A [(a0, .inr (15, [.int 0, v0, v1, v2, v3, v4, .ref a1, v5, v6, v7, v8, v9, v10, v11, v12, v13, v14, v15, v16, v17, v18, v19, v20, v21, v22, v23, v24, v25])), (a1, .inr (4, [v26, v27, .int 0]))] sz)) 0 0 (va_A [(a0, .inr (15, [.int 0, v0, v1, v2, v3, v4, .ref a1, v5, v6, v7, v8, v9, v10, v11, v12, v13, v14, v15, v16, v17, v18, v19, v20, v21, v22, v23, v24, v25])), (a1, .inr (4, [v26, v27, .int 0]))] sz) := by
  refine st_I (by decide) (Nat.le_of_ble_eq_true rfl) ?_
  intro p e s m args below meth c A ls hx hb hr hml hown hlk hnm hsz hP hD hA hE hts hS hl
  have hown : s.vm.findClass RX10 = some m.cls := hown
  have hl : lv_has ls 3 [(0, .ref a0), (1, .int x0), (2, .int x1)] := hl
  refine lv_aload_n hx hb dX10_noState_0 rfl (lv_at hl 0 rfl) ?_
  refine lv_iload_n hx hb dX10_noState_1 rfl (lv_at hl 2 rfl) ?_
  refine lv_i2l (v := x1.toInt64) hx hb dX10_noState_2 rfl ?_
  refine lv_lconst (v := 0) hx hb dX10_noState_3 (by decide) ?_
  refine lv_ldc2 (v := 20000) hx hb hown (hts _ tw_588) dX10_noState_4 ?_
  refine ca_i (isC := []) (isR := [0, 1]) (wr := [(a0, .inr (15, [.int 0, v0, v1, v2, v3, v4, .ref a1, v5, v6, v7, v8, v9, v10, v11, v12, v13, v14, v15, v16, v17, v18, v19, v20, v21, v22, v23, v24, v25])), (a1, .inr (4, [v26, v27, .int 0]))]) (rn_S (isC := []) (wc := []) (As := [.long x1.toInt64, .long 0, .long 20000]) (rest := [.ref a0]) (n := 3) hx hb hml hown hts hE hS hP hD hA hl.1 (k33_X10_in l D cy g x1.toInt64 0 20000 s.heap.size (wl_nlt rfl (by decide) h0) (wl_nlt (by decide) rfl h1)) rfl rfl ax_39 rfl rfl ax_40 ⟨Nat.le_of_ble_eq_true rfl, Nat.le_of_ble_eq_true rfl⟩ rfl rfl (Nat.le_of_ble_eq_true rfl) dX10_noState_7 ⟨(Nat.le_of_ble_eq_true rfl), (Nat.le_of_ble_eq_true rfl)⟩) hP hD hS hA rfl rfl rfl (by decide) (fun ad7 H locs hP hD hS => ?_)
  have hP : va_P D vwCl [(a0, .inr (15, [.int 0, v0, v1, v2, v3, v4, .ref a1, v5, v6, v7, v8, v9, v10, v11, v12, v13, v14, v15, v16, v17, v18, v19, v20, v21, v22, v23, v24, v25])), (a1, .inr (4, [v26, v27, .int 0]))] H := hP
  have hD : va_D A [(a0, .inr (15, [.int 0, v0, v1, v2, v3, v4, .ref a1, v5, v6, v7, v8, v9, v10, v11, v12, v13, v14, v15, v16, v17, v18, v19, v20, v21, v22, v23, v24, v25])), (a1, .inr (4, [v26, v27, .int 0]))] := hD
  refine lv_if_ne (tgt := 17) hx hb dX10_noState_10 (by decide) (fun _ => ?_) (fun z => absurd z (by decide))
  refine lv_iconst (v := 0) hx hb dX10_noState_17 (by decide) ?_
  refine lv_iconst (v := 1) hx hb dX10_noState_18 (by decide) ?_
  refine ca_i (isC := [0]) (isR := [1]) (wr := [(a1, .inr (4, [v26, v27, .int 0]))]) (rn_V (ci := 15) (q0 := 0) (isC := [0]) (wc := [(a0, .inr (15, [.int 0, v0, v1, v2, v3, v4, .ref a1, v5, v6, v7, v8, v9, v10, v11, v12, v13, v14, v15, v16, v17, v18, v19, v20, v21, v22, v23, v24, v25]))]) (As := [.int 0, .int 1]) (rest := []) (n := 2) hx hb hml hown hts hE hS hP hD hA hl.1 (k43_X10_fails l D cy g a0 (v0) (v1) (v2) (v3) (v4) (.ref a1) (v5) (v6) (v7) (v8) (v9) (v10) (v11) (v12) (v13) (v14) (v15) (v16) (v17) (v18) (v19) (v20) (v21) (v22) (v23) (v24) (v25) H.size ) rfl rfl rfl rfl rfl ax_41 rfl rfl ax_42 ⟨Nat.le_of_ble_eq_true rfl, Nat.le_of_ble_eq_true rfl⟩ rfl rfl (Nat.le_of_ble_eq_true rfl) dX10_noState_19 ⟨(Nat.le_of_ble_eq_true rfl), (Nat.le_of_ble_eq_true rfl)⟩) hP hD hS hA rfl rfl rfl (by decide) (fun ad19 H locs hP hD hS => ?_)
  have hP : va_P D vwCl [(a1, .inr (4, [v26, v27, .int 0])), (a0, .inr (15, [.int 0, v0, v1, v2, v3, v4, .ref a1, v5, v6, v7, v8, v9, v10, v11, v12, v13, v14, v15, v16, v17, v18, v19, v20, v21, v22, v23, v24, v25]))] H := hP
  have hD : va_D A [(a1, .inr (4, [v26, v27, .int 0])), (a0, .inr (15, [.int 0, v0, v1, v2, v3, v4, .ref a1, v5, v6, v7, v8, v9, v10, v11, v12, v13, v14, v15, v16, v17, v18, v19, v20, v21, v22, v23, v24, v25]))] := hD
  refine lv_if_ne (tgt := 46) hx hb dX10_noState_22 (by decide) (fun z => absurd (by decide) z) (fun _ => ?_)
  refine lv_aload_n hx hb dX10_noState_25 rfl (lv_at hl 0 rfl) ?_
  refine lv_aload_n hx hb dX10_noState_26 rfl (lv_at hl 0 rfl) ?_
  refine lv_iload_n hx hb dX10_noState_27 rfl (lv_at hl 1 rfl) ?_
  refine ca_i (isC := [1, 0]) (isR := []) (wr := []) (rn_V (ci := 15) (q0 := 1) (isC := [1, 0]) (wc := [(a0, .inr (15, [.int 0, v0, v1, v2, v3, v4, .ref a1, v5, v6, v7, v8, v9, v10, v11, v12, v13, v14, v15, v16, v17, v18, v19, v20, v21, v22, v23, v24, v25])), (a1, .inr (4, [v26, v27, .int 0]))]) (As := [.int x0]) (rest := [.ref a0]) (n := 1) hx hb hml hown hts hE hS hP hD hA hl.1 (k153_X10_isIn l D cy g x0 a0 a1 (.int 0) (v0) (v1) (v2) (v3) (v4) (v5) (v6) (v7) (v8) (v9) (v10) (v11) (v12) (v13) (v14) (v15) (v16) (v17) (v18) (v19) (v20) (v21) (v22) (v23) (v24) (v25) (v26) (v27) H.size ) rfl rfl rfl rfl rfl ax_138 rfl rfl ax_139 ⟨Nat.le_of_ble_eq_true rfl, Nat.le_of_ble_eq_true rfl⟩ rfl rfl (Nat.le_of_ble_eq_true rfl) dX10_noState_28 ⟨(Nat.le_of_ble_eq_true rfl), (Nat.le_of_ble_eq_true rfl)⟩) hP hD hS hA rfl rfl rfl (by decide) (fun ad28 H locs hP hD hS => ?_)
  have hP : va_P D vwCl [(a0, .inr (15, [.int 0, v0, v1, v2, v3, v4, .ref a1, v5, v6, v7, v8, v9, v10, v11, v12, v13, v14, v15, v16, v17, v18, v19, v20, v21, v22, v23, v24, v25])), (a1, .inr (4, [v26, v27, .int 0]))] H := hP
  have hD : va_D A [(a0, .inr (15, [.int 0, v0, v1, v2, v3, v4, .ref a1, v5, v6, v7, v8, v9, v10, v11, v12, v13, v14, v15, v16, v17, v18, v19, v20, v21, v22, v23, v24, v25])), (a1, .inr (4, [v26, v27, .int 0]))] := hD
  refine lv_if_ne (tgt := 38) hx hb dX10_noState_31 (by decide) (fun z => absurd (by decide) z) (fun _ => ?_)
  refine lv_iconst (v := 1) hx hb dX10_noState_34 (by decide) ?_
  refine lv_goto (tgt := 39) hx hb dX10_noState_35 (by decide) ?_
  refine lv_iconst (v := 2) hx hb dX10_noState_39 (by decide) ?_
  refine ca_i (isC := [0]) (isR := [1]) (wr := [(a1, .inr (4, [v26, v27, .int 0]))]) (rn_V (ci := 15) (q0 := 0) (isC := [0]) (wc := [(a0, .inr (15, [.int 0, v0, v1, v2, v3, v4, .ref a1, v5, v6, v7, v8, v9, v10, v11, v12, v13, v14, v15, v16, v17, v18, v19, v20, v21, v22, v23, v24, v25]))]) (As := [.int 1, .int 2]) (rest := []) (n := 2) hx hb hml hown hts hE hS hP hD hA hl.1 (k146_X10_fails l D cy g a0 (v0) (v1) (v2) (v3) (v4) (.ref a1) (v5) (v6) (v7) (v8) (v9) (v10) (v11) (v12) (v13) (v14) (v15) (v16) (v17) (v18) (v19) (v20) (v21) (v22) (v23) (v24) (v25) H.size ) rfl rfl rfl rfl rfl ax_41 rfl rfl ax_42 ⟨Nat.le_of_ble_eq_true rfl, Nat.le_of_ble_eq_true rfl⟩ rfl rfl (Nat.le_of_ble_eq_true rfl) dX10_noState_40 ⟨(Nat.le_of_ble_eq_true rfl), (Nat.le_of_ble_eq_true rfl)⟩) hP hD hS hA rfl rfl rfl (by decide) (fun ad40 H locs hP hD hS => ?_)
  have hP : va_P D vwCl [(a1, .inr (4, [v26, v27, .int 0])), (a0, .inr (15, [.int 2, v0, v1, v2, v3, v4, .ref a1, v5, v6, v7, v8, v9, v10, v11, v12, v13, v14, v15, v16, v17, v18, v19, v20, v21, v22, v23, v24, v25]))] H := hP
  have hD : va_D A [(a1, .inr (4, [v26, v27, .int 0])), (a0, .inr (15, [.int 2, v0, v1, v2, v3, v4, .ref a1, v5, v6, v7, v8, v9, v10, v11, v12, v13, v14, v15, v16, v17, v18, v19, v20, v21, v22, v23, v24, v25]))] := hD
  refine lv_if_eq (tgt := 50) hx hb dX10_noState_43 (by decide) (fun z => absurd z (by decide)) (fun _ => ?_)
  refine lv_iconst (v := 1) hx hb dX10_noState_46 (by decide) ?_
  refine lv_goto (tgt := 51) hx hb dX10_noState_47 (by decide) ?_
  exact en_z hx hb hr hlk hP hD hS rfl (fun _ => 0) (is := [1, 0]) rfl rfl (Nat.le_of_ble_eq_true rfl) (Nat.le_of_ble_eq_true rfl) dX10_noState_51
set_option maxHeartbeats 4000000 in
set_option maxRecDepth 100000 in
theorem k181_X10_getPhase (l : Launch) (D : va_G) (cy : Nat → ClassId) (g : Nat → Nat) (x0 : Int32) (x1 : Int32) (a0 : Nat) (a1 : Nat) (v0 : Value) (v1 : Value) (v2 : Value) (v3 : Value) (v4 : Value) (v5 : Value) (v6 : Value) (v7 : Value) (v8 : Value) (v9 : Value) (v10 : Value) (v11 : Value) (v12 : Value) (v13 : Value) (v14 : Value) (v15 : Value) (v16 : Value) (v17 : Value) (v18 : Value) (v19 : Value) (v20 : Value) (v21 : Value) (v22 : Value) (v23 : Value) (v24 : Value) (v25 : Value) (v26 : Value) (v27 : Value) (v28 : Value) (sz : Nat) (h0 : ¬ x1 < 0) (h1 : ¬ (20000 : Int32) < x1) : Met l yX10_getPhase [.code yX10_getPhase cX10_getPhase 3 (some .char)] ({ frames := 3, cells := 0, slots := 0, locals := 63 }) (PC D cy g [(a0, .inr (15, [v0, v1, v2, v3, v4, v5, .ref a1, v6, v7, v8, v9, v10, v11, v12, v13, v14, v15, v16, v17, v18, v19, v20, v21, v22, v23, v24, v25, v26])), (a1, .inr (4, [v27, v28, .int 0]))] sz [.ref a0, .int x0, .int x1]) (QI D 32 (fun ad => [(a0, .inr (15, [.int 2, v1, v2, v3, v4, v5, .ref a1, v6, v7, v8, v9, v10, v11, v12, v13, v14, v15, v16, v17, v18, v19, v20, v21, v22, v23, v24, v25, v26]))]) (va_A [(a0, .inr (15, [v0, v1, v2, v3, v4, v5, .ref a1, v6, v7, v8, v9, v10, v11, v12, v13, v14, v15, v16, v17, v18, v19, v20, v21, v22, v23, v24, v25, v26])), (a1, .inr (4, [v27, v28, .int 0]))] sz)) 0 0 (va_A [(a0, .inr (15, [v0, v1, v2, v3, v4, v5, .ref a1, v6, v7, v8, v9, v10, v11, v12, v13, v14, v15, v16, v17, v18, v19, v20, v21, v22, v23, v24, v25, v26])), (a1, .inr (4, [v27, v28, .int 0]))] sz) := by
  refine st_I (by decide) (Nat.le_of_ble_eq_true rfl) ?_
  intro p e s m args below meth c A ls hx hb hr hml hown hlk hnm hsz hP hD hA hE hts hS hl
  have hown : s.vm.findClass RX10 = some m.cls := hown
  have hl : lv_has ls 3 [(0, .ref a0), (1, .int x0), (2, .int x1)] := hl
  refine lv_aload_n hx hb dX10_getPhase_0 rfl (lv_at hl 0 rfl) ?_
  refine ca_v (isC := [0]) (isR := [1]) (wr := [(a1, .inr (4, [v27, v28, .int 0]))]) (rn_V (ci := 15) (q0 := 0) (isC := [0]) (wc := [(a0, .inr (15, [v0, v1, v2, v3, v4, v5, .ref a1, v6, v7, v8, v9, v10, v11, v12, v13, v14, v15, v16, v17, v18, v19, v20, v21, v22, v23, v24, v25, v26]))]) (As := []) (rest := []) (n := 0) hx hb hml hown hts hE hS hP hD hA hl.1 (k20_X10_begins l D cy g a0 (v0) (v1) (v2) (v3) (v4) (v5) (.ref a1) (v6) (v7) (v8) (v9) (v10) (v11) (v12) (v13) (v14) (v15) (v16) (v17) (v18) (v19) (v20) (v21) (v22) (v23) (v24) (v25) (v26) s.heap.size ) rfl rfl rfl rfl rfl ax_37 rfl rfl ax_38 ⟨Nat.le_of_ble_eq_true rfl, Nat.le_of_ble_eq_true rfl⟩ rfl rfl (Nat.le_of_ble_eq_true rfl) dX10_getPhase_1 ⟨(Nat.le_of_ble_eq_true rfl), (Nat.le_of_ble_eq_true rfl)⟩) hP hD hS hA rfl rfl rfl (by decide) (fun ad1 H locs hP hD hS => ?_)
  have hP : va_P D vwCl [(a1, .inr (4, [v27, v28, .int 0])), (a0, .inr (15, [.int 0, v1, v2, v3, v4, v5, .ref a1, v6, v7, v8, v9, v10, v11, v12, v13, v14, v15, v16, v17, v18, v19, v20, v21, v22, v23, v24, v25, v26]))] H := hP
  have hD : va_D A [(a1, .inr (4, [v27, v28, .int 0])), (a0, .inr (15, [.int 0, v1, v2, v3, v4, v5, .ref a1, v6, v7, v8, v9, v10, v11, v12, v13, v14, v15, v16, v17, v18, v19, v20, v21, v22, v23, v24, v25, v26]))] := hD
  refine lv_aload_n hx hb dX10_getPhase_4 rfl (lv_at hl 0 rfl) ?_
  refine lv_iload_n hx hb dX10_getPhase_5 rfl (lv_at hl 1 rfl) ?_
  refine lv_iload_n hx hb dX10_getPhase_6 rfl (lv_at hl 2 rfl) ?_
  refine ca_i (isC := [1, 0]) (isR := []) (wr := []) (rn_V (ci := 15) (q0 := 1) (isC := [1, 0]) (wc := [(a0, .inr (15, [.int 0, v1, v2, v3, v4, v5, .ref a1, v6, v7, v8, v9, v10, v11, v12, v13, v14, v15, v16, v17, v18, v19, v20, v21, v22, v23, v24, v25, v26])), (a1, .inr (4, [v27, v28, .int 0]))]) (As := [.int x0, .int x1]) (rest := []) (n := 2) hx hb hml hown hts hE hS hP hD hA hl.1 (k180_X10_noState l D cy g x0 x1 a0 a1 (v1) (v2) (v3) (v4) (v5) (v6) (v7) (v8) (v9) (v10) (v11) (v12) (v13) (v14) (v15) (v16) (v17) (v18) (v19) (v20) (v21) (v22) (v23) (v24) (v25) (v26) (v27) (v28) H.size h0 h1) rfl rfl rfl rfl rfl ax_164 rfl rfl ax_165 ⟨Nat.le_of_ble_eq_true rfl, Nat.le_of_ble_eq_true rfl⟩ rfl rfl (Nat.le_of_ble_eq_true rfl) dX10_getPhase_7 ⟨(Nat.le_of_ble_eq_true rfl), (Nat.le_of_ble_eq_true rfl)⟩) hP hD hS hA rfl rfl rfl (by decide) (fun ad7 H locs hP hD hS => ?_)
  have hP : va_P D vwCl [(a0, .inr (15, [.int 2, v1, v2, v3, v4, v5, .ref a1, v6, v7, v8, v9, v10, v11, v12, v13, v14, v15, v16, v17, v18, v19, v20, v21, v22, v23, v24, v25, v26])), (a1, .inr (4, [v27, v28, .int 0]))] H := hP
  have hD : va_D A [(a0, .inr (15, [.int 2, v1, v2, v3, v4, v5, .ref a1, v6, v7, v8, v9, v10, v11, v12, v13, v14, v15, v16, v17, v18, v19, v20, v21, v22, v23, v24, v25, v26])), (a1, .inr (4, [v27, v28, .int 0]))] := hD
  refine lv_if_eq (tgt := 18) hx hb dX10_getPhase_10 (by decide) (fun z => absurd z (by decide)) (fun _ => ?_)
  refine lv_bipush (v := 32) hx hb dX10_getPhase_13 (by decide) ?_
  refine lv_goto (tgt := 24) hx hb dX10_getPhase_15 (by decide) ?_
  exact en_z hx hb hr hlk hP hD hS rfl (fun _ => 0) (is := [0]) rfl rfl (Nat.le_of_ble_eq_true rfl) (Nat.le_of_ble_eq_true rfl) dX10_getPhase_24
set_option maxHeartbeats 4000000 in
set_option maxRecDepth 100000 in
theorem k182_X9_getDryness (l : Launch) (hst : l.stackTraces = false) (D : va_G) (cy : Nat → ClassId) (g : Nat → Nat) (x0 : Int32) (x1 : Int32) (a0 : Nat) (v0 : Value) (v1 : Value) (v2 : Value) (v3 : Value) (v4 : Value) (v5 : Value) (v6 : Value) (sz : Nat) (h0 : x1 < 0) : vx_Met l yX9_getDryness [.code yX9_getDryness cX9_getDryness 3 (some .int)] ({ frames := 8, cells := 1, slots := 6, locals := 125 }) (PC D cy g [(a0, .inr (14, [v0, v1, v2, v3, v4, v5, v6]))] sz [.ref a0, .int x0, .int x1]) QN (XE "java/lang/IllegalArgumentException" (va_A [(a0, .inr (14, [v0, v1, v2, v3, v4, v5, v6]))] sz)) 1 6 (va_A [(a0, .inr (14, [v0, v1, v2, v3, v4, v5, v6]))] sz) := by
  refine st_X (by decide) (Nat.le_of_ble_eq_true rfl) ?_
  intro p e s m args below meth c A ls hx hb hr hml hown hlk hnm hsz hP hD hA hE hts hS hl hout
  have hown : s.vm.findClass RX9 = some m.cls := hown
  have hl : lv_has ls 3 [(0, .ref a0), (1, .int x0), (2, .int x1)] := hl
  refine lv_aload_n hx hb dX9_getDryness_0 rfl (lv_at hl 0 rfl) ?_
  refine lv_iload_n hx hb dX9_getDryness_1 rfl (lv_at hl 1 rfl) ?_
  refine lv_iload_n hx hb dX9_getDryness_2 rfl (lv_at hl 2 rfl) ?_
  exact cx_out (isC := [0]) (rx_V (ci := 14) (q0 := 0) (isC := [0]) (wc := [(a0, .inr (14, [v0, v1, v2, v3, v4, v5, v6]))]) (As := [.int x0, .int x1]) (rest := []) (n := 2) hx hb hml hown hts hE hS hP hD hA hl.1 (k165_X9_requireState l hst D cy g x0 x1 a0 (v0) (v1) (v2) (v3) (v4) (v5) (v6) s.heap.size h0) rfl rfl rfl rfl rfl ax_158 rfl rfl ax_159 ⟨Nat.le_of_ble_eq_true rfl, Nat.le_of_ble_eq_true rfl⟩ rfl rfl (Nat.le_of_ble_eq_true rfl) dX9_getDryness_3 ⟨(Nat.le_of_ble_eq_true rfl), (Nat.le_of_ble_eq_true rfl)⟩) hD hS hA rfl hout hlk (Nat.le_of_ble_eq_true rfl) (Nat.le_of_ble_eq_true rfl)
set_option maxHeartbeats 4000000 in
set_option maxRecDepth 100000 in
theorem k183_L_getDryness (l : Launch) (hst : l.stackTraces = false) (D : va_G) (cy : Nat → ClassId) (g : Nat → Nat) (x0 : Int32) (x1 : Int32) (a0 : Nat) (b0 : Nat) (v0 : Value) (v1 : Value) (v2 : Value) (v3 : Value) (v4 : Value) (v5 : Value) (v6 : Value) (sz : Nat) (h0 : x1 < 0) : Met l yL_getDryness [.codeWith yL_getDryness cL_getDryness 5 (some .int) [(0, 10, 13, 13), (0, 10, 17, 45)]] ({ frames := 9, cells := 1, slots := 6, locals := 147 }) (PC D cy g [(a0, .inr (14, [v0, v1, v2, v3, v4, v5, v6]))] sz [.ref a0, .int x0, .int x1, .ref b0]) (QI D 1 (fun ad => []) (va_A [(a0, .inr (14, [v0, v1, v2, v3, v4, v5, v6]))] sz)) 1 6 (va_A [(a0, .inr (14, [v0, v1, v2, v3, v4, v5, v6]))] sz) := by
  refine sh_I (by decide) (Nat.le_of_ble_eq_true rfl) ?_
  intro p e s m args below meth c A ls hx hb hr hml hown hlk hnm hsz hP hD hA hE hts hS hl htb
  have hown : s.vm.findClass RL = some m.cls := hown
  have hl : lv_has ls 5 [(0, .ref a0), (1, .int x0), (2, .int x1), (3, .ref b0)] := hl
  refine lv_aload_n hx hb dL_getDryness_0 rfl (lv_at hl 3 rfl) ?_
  refine lv_iconst (v := 0) hx hb dL_getDryness_1 (by decide) ?_
  refine lv_aload_n hx hb dL_getDryness_2 rfl (lv_at hl 0 rfl) ?_
  refine lv_iload_n hx hb dL_getDryness_3 rfl (lv_at hl 1 rfl) ?_
  refine lv_iload_n hx hb dL_getDryness_4 rfl (lv_at hl 2 rfl) ?_
  refine cx_catch (isC := [0]) (isR := []) (wr := []) (hp := []) (z := (0, 10, 13, 13)) (hq := [(0, 10, 17, 45)]) (name := "java/lang/IllegalArgumentException") (own := RL) (rx_V (ci := 14) (q0 := 0) (isC := [0]) (wc := [(a0, .inr (14, [v0, v1, v2, v3, v4, v5, v6]))]) (As := [.int x0, .int x1]) (rest := [.int 0, .ref b0]) (n := 2) hx hb hml hown hts hE hS hP hD hA hl.1 (k182_X9_getDryness l hst D cy g x0 x1 a0 (v0) (v1) (v2) (v3) (v4) (v5) (v6) s.heap.size h0) rfl rfl rfl rfl rfl ax_168 rfl rfl ax_169 ⟨Nat.le_of_ble_eq_true rfl, Nat.le_of_ble_eq_true rfl⟩ rfl rfl (Nat.le_of_ble_eq_true rfl) dL_getDryness_5 ⟨(Nat.le_of_ble_eq_true rfl), (Nat.le_of_ble_eq_true rfl)⟩) hP hD hS hA hown hts hE htb rfl rfl rfl rfl (by decide) (fun z hz => by cases hz) (by decide) (by decide) tw_302 tw_303 (fun qx H locs hP hD hS => ?_)
  have hP : va_P D vwCl [] H := hP
  have hD : va_D A [] := hD
  refine lv_astore (lv' := [(4, .ref qx), (0, .ref a0), (1, .int x0), (2, .int x1), (3, .ref b0)]) hx hb dL_getDryness_13 hl (Nat.le_of_ble_eq_true rfl) rfl (fun ls hl => ?_)
  refine lv_iconst (v := 1) hx hb dL_getDryness_15 (by decide) ?_
  exact en_z hx hb hr hlk hP hD hS rfl (fun _ => 0) (is := []) rfl rfl (Nat.le_of_ble_eq_true rfl) (Nat.le_of_ble_eq_true rfl) dL_getDryness_16
set_option maxHeartbeats 4000000 in
set_option maxRecDepth 100000 in
theorem k184_X10_getDryness (l : Launch) (D : va_G) (cy : Nat → ClassId) (g : Nat → Nat) (x0 : Int32) (x1 : Int32) (a0 : Nat) (v0 : Value) (v1 : Value) (v2 : Value) (v3 : Value) (v4 : Value) (v5 : Value) (v6 : Value) (v7 : Value) (v8 : Value) (v9 : Value) (v10 : Value) (v11 : Value) (v12 : Value) (v13 : Value) (v14 : Value) (v15 : Value) (v16 : Value) (v17 : Value) (v18 : Value) (v19 : Value) (v20 : Value) (v21 : Value) (v22 : Value) (v23 : Value) (v24 : Value) (v25 : Value) (v26 : Value) (v27 : Value) (sz : Nat) (h0 : x1 < 0) : Met l yX10_getDryness [.code yX10_getDryness cX10_getDryness 5 (some .int)] ({ frames := 2, cells := 0, slots := 0, locals := 47 }) (PC D cy g [(a0, .inr (15, [v0, v1, v2, v3, v4, v5, v6, v7, v8, v9, v10, v11, v12, v13, v14, v15, v16, v17, v18, v19, v20, v21, v22, v23, v24, v25, v26, v27]))] sz [.ref a0, .int x0, .int x1]) (QI D (-1) (fun ad => [(a0, .inr (15, [.int 1, v1, v2, v3, v4, v5, v6, v7, v8, v9, v10, v11, v12, v13, v14, v15, v16, v17, v18, v19, v20, v21, v22, v23, v24, v25, v26, v27]))]) (va_A [(a0, .inr (15, [v0, v1, v2, v3, v4, v5, v6, v7, v8, v9, v10, v11, v12, v13, v14, v15, v16, v17, v18, v19, v20, v21, v22, v23, v24, v25, v26, v27]))] sz)) 0 0 (va_A [(a0, .inr (15, [v0, v1, v2, v3, v4, v5, v6, v7, v8, v9, v10, v11, v12, v13, v14, v15, v16, v17, v18, v19, v20, v21, v22, v23, v24, v25, v26, v27]))] sz) := by
  refine st_I (by decide) (Nat.le_of_ble_eq_true rfl) ?_
  intro p e s m args below meth c A ls hx hb hr hml hown hlk hnm hsz hP hD hA hE hts hS hl
  have hown : s.vm.findClass RX10 = some m.cls := hown
  have hl : lv_has ls 5 [(0, .ref a0), (1, .int x0), (2, .int x1)] := hl
  refine lv_aload_n hx hb dX10_getDryness_0 rfl (lv_at hl 0 rfl) ?_
  refine ca_v (isC := [0]) (isR := []) (wr := []) (rn_V (ci := 15) (q0 := 0) (isC := [0]) (wc := [(a0, .inr (15, [v0, v1, v2, v3, v4, v5, v6, v7, v8, v9, v10, v11, v12, v13, v14, v15, v16, v17, v18, v19, v20, v21, v22, v23, v24, v25, v26, v27]))]) (As := []) (rest := []) (n := 0) hx hb hml hown hts hE hS hP hD hA hl.1 (k20_X10_begins l D cy g a0 (v0) (v1) (v2) (v3) (v4) (v5) (v6) (v7) (v8) (v9) (v10) (v11) (v12) (v13) (v14) (v15) (v16) (v17) (v18) (v19) (v20) (v21) (v22) (v23) (v24) (v25) (v26) (v27) s.heap.size ) rfl rfl rfl rfl rfl ax_37 rfl rfl ax_38 ⟨Nat.le_of_ble_eq_true rfl, Nat.le_of_ble_eq_true rfl⟩ rfl rfl (Nat.le_of_ble_eq_true rfl) dX10_getDryness_1 ⟨(Nat.le_of_ble_eq_true rfl), (Nat.le_of_ble_eq_true rfl)⟩) hP hD hS hA rfl rfl rfl (by decide) (fun ad1 H locs hP hD hS => ?_)
  have hP : va_P D vwCl [(a0, .inr (15, [.int 0, v1, v2, v3, v4, v5, v6, v7, v8, v9, v10, v11, v12, v13, v14, v15, v16, v17, v18, v19, v20, v21, v22, v23, v24, v25, v26, v27]))] H := hP
  have hD : va_D A [(a0, .inr (15, [.int 0, v1, v2, v3, v4, v5, v6, v7, v8, v9, v10, v11, v12, v13, v14, v15, v16, v17, v18, v19, v20, v21, v22, v23, v24, v25, v26, v27]))] := hD
  refine lv_aload_n hx hb dX10_getDryness_4 rfl (lv_at hl 0 rfl) ?_
  refine lv_iload_n hx hb dX10_getDryness_5 rfl (lv_at hl 1 rfl) ?_
  refine lv_iload_n hx hb dX10_getDryness_6 rfl (lv_at hl 2 rfl) ?_
  refine ca_i (isC := [0]) (isR := []) (wr := []) (rn_V (ci := 15) (q0 := 0) (isC := [0]) (wc := [(a0, .inr (15, [.int 0, v1, v2, v3, v4, v5, v6, v7, v8, v9, v10, v11, v12, v13, v14, v15, v16, v17, v18, v19, v20, v21, v22, v23, v24, v25, v26, v27]))]) (As := [.int x0, .int x1]) (rest := []) (n := 2) hx hb hml hown hts hE hS hP hD hA hl.1 (k168_X10_noState l D cy g x0 x1 a0 (v1) (v2) (v3) (v4) (v5) (v6) (v7) (v8) (v9) (v10) (v11) (v12) (v13) (v14) (v15) (v16) (v17) (v18) (v19) (v20) (v21) (v22) (v23) (v24) (v25) (v26) (v27) H.size h0) rfl rfl rfl rfl rfl ax_164 rfl rfl ax_165 ⟨Nat.le_of_ble_eq_true rfl, Nat.le_of_ble_eq_true rfl⟩ rfl rfl (Nat.le_of_ble_eq_true rfl) dX10_getDryness_7 ⟨(Nat.le_of_ble_eq_true rfl), (Nat.le_of_ble_eq_true rfl)⟩) hP hD hS hA rfl rfl rfl (by decide) (fun ad7 H locs hP hD hS => ?_)
  have hP : va_P D vwCl [(a0, .inr (15, [.int 1, v1, v2, v3, v4, v5, v6, v7, v8, v9, v10, v11, v12, v13, v14, v15, v16, v17, v18, v19, v20, v21, v22, v23, v24, v25, v26, v27]))] H := hP
  have hD : va_D A [(a0, .inr (15, [.int 1, v1, v2, v3, v4, v5, v6, v7, v8, v9, v10, v11, v12, v13, v14, v15, v16, v17, v18, v19, v20, v21, v22, v23, v24, v25, v26, v27]))] := hD
  refine lv_if_eq (tgt := 15) hx hb dX10_getDryness_10 (by decide) (fun z => absurd z (by decide)) (fun _ => ?_)
  refine lv_iconst (v := (-1)) hx hb dX10_getDryness_13 (by decide) ?_
  exact en_z hx hb hr hlk hP hD hS rfl (fun _ => 0) (is := [0]) rfl rfl (Nat.le_of_ble_eq_true rfl) (Nat.le_of_ble_eq_true rfl) dX10_getDryness_14
set_option maxHeartbeats 4000000 in
set_option maxRecDepth 100000 in
theorem k185_X9_getDryness (l : Launch) (hst : l.stackTraces = false) (D : va_G) (cy : Nat → ClassId) (g : Nat → Nat) (x0 : Int32) (x1 : Int32) (a0 : Nat) (v0 : Value) (v1 : Value) (v2 : Value) (v3 : Value) (v4 : Value) (v5 : Value) (v6 : Value) (sz : Nat) (h0 : ¬ x1 < 0) (h1 : (20000 : Int32) < x1) : vx_Met l yX9_getDryness [.code yX9_getDryness cX9_getDryness 3 (some .int)] ({ frames := 8, cells := 1, slots := 6, locals := 125 }) (PC D cy g [(a0, .inr (14, [v0, v1, v2, v3, v4, v5, v6]))] sz [.ref a0, .int x0, .int x1]) QN (XE "java/lang/IllegalArgumentException" (va_A [(a0, .inr (14, [v0, v1, v2, v3, v4, v5, v6]))] sz)) 1 6 (va_A [(a0, .inr (14, [v0, v1, v2, v3, v4, v5, v6]))] sz) := by
  refine st_X (by decide) (Nat.le_of_ble_eq_true rfl) ?_
  intro p e s m args below meth c A ls hx hb hr hml hown hlk hnm hsz hP hD hA hE hts hS hl hout
  have hown : s.vm.findClass RX9 = some m.cls := hown
  have hl : lv_has ls 3 [(0, .ref a0), (1, .int x0), (2, .int x1)] := hl
  refine lv_aload_n hx hb dX9_getDryness_0 rfl (lv_at hl 0 rfl) ?_
  refine lv_iload_n hx hb dX9_getDryness_1 rfl (lv_at hl 1 rfl) ?_
  refine lv_iload_n hx hb dX9_getDryness_2 rfl (lv_at hl 2 rfl) ?_
  exact cx_out (isC := [0]) (rx_V (ci := 14) (q0 := 0) (isC := [0]) (wc := [(a0, .inr (14, [v0, v1, v2, v3, v4, v5, v6]))]) (As := [.int x0, .int x1]) (rest := []) (n := 2) hx hb hml hown hts hE hS hP hD hA hl.1 (k171_X9_requireState l hst D cy g x0 x1 a0 (v0) (v1) (v2) (v3) (v4) (v5) (v6) s.heap.size h0 h1) rfl rfl rfl rfl rfl ax_158 rfl rfl ax_159 ⟨Nat.le_of_ble_eq_true rfl, Nat.le_of_ble_eq_true rfl⟩ rfl rfl (Nat.le_of_ble_eq_true rfl) dX9_getDryness_3 ⟨(Nat.le_of_ble_eq_true rfl), (Nat.le_of_ble_eq_true rfl)⟩) hD hS hA rfl hout hlk (Nat.le_of_ble_eq_true rfl) (Nat.le_of_ble_eq_true rfl)
set_option maxHeartbeats 4000000 in
set_option maxRecDepth 100000 in
theorem k186_L_getDryness (l : Launch) (hst : l.stackTraces = false) (D : va_G) (cy : Nat → ClassId) (g : Nat → Nat) (x0 : Int32) (x1 : Int32) (a0 : Nat) (b0 : Nat) (v0 : Value) (v1 : Value) (v2 : Value) (v3 : Value) (v4 : Value) (v5 : Value) (v6 : Value) (sz : Nat) (h0 : ¬ x1 < 0) (h1 : (20000 : Int32) < x1) : Met l yL_getDryness [.codeWith yL_getDryness cL_getDryness 5 (some .int) [(0, 10, 13, 13), (0, 10, 17, 45)]] ({ frames := 9, cells := 1, slots := 6, locals := 147 }) (PC D cy g [(a0, .inr (14, [v0, v1, v2, v3, v4, v5, v6]))] sz [.ref a0, .int x0, .int x1, .ref b0]) (QI D 1 (fun ad => []) (va_A [(a0, .inr (14, [v0, v1, v2, v3, v4, v5, v6]))] sz)) 1 6 (va_A [(a0, .inr (14, [v0, v1, v2, v3, v4, v5, v6]))] sz) := by
  refine sh_I (by decide) (Nat.le_of_ble_eq_true rfl) ?_
  intro p e s m args below meth c A ls hx hb hr hml hown hlk hnm hsz hP hD hA hE hts hS hl htb
  have hown : s.vm.findClass RL = some m.cls := hown
  have hl : lv_has ls 5 [(0, .ref a0), (1, .int x0), (2, .int x1), (3, .ref b0)] := hl
  refine lv_aload_n hx hb dL_getDryness_0 rfl (lv_at hl 3 rfl) ?_
  refine lv_iconst (v := 0) hx hb dL_getDryness_1 (by decide) ?_
  refine lv_aload_n hx hb dL_getDryness_2 rfl (lv_at hl 0 rfl) ?_
  refine lv_iload_n hx hb dL_getDryness_3 rfl (lv_at hl 1 rfl) ?_
  refine lv_iload_n hx hb dL_getDryness_4 rfl (lv_at hl 2 rfl) ?_
  refine cx_catch (isC := [0]) (isR := []) (wr := []) (hp := []) (z := (0, 10, 13, 13)) (hq := [(0, 10, 17, 45)]) (name := "java/lang/IllegalArgumentException") (own := RL) (rx_V (ci := 14) (q0 := 0) (isC := [0]) (wc := [(a0, .inr (14, [v0, v1, v2, v3, v4, v5, v6]))]) (As := [.int x0, .int x1]) (rest := [.int 0, .ref b0]) (n := 2) hx hb hml hown hts hE hS hP hD hA hl.1 (k185_X9_getDryness l hst D cy g x0 x1 a0 (v0) (v1) (v2) (v3) (v4) (v5) (v6) s.heap.size h0 h1) rfl rfl rfl rfl rfl ax_168 rfl rfl ax_169 ⟨Nat.le_of_ble_eq_true rfl, Nat.le_of_ble_eq_true rfl⟩ rfl rfl (Nat.le_of_ble_eq_true rfl) dL_getDryness_5 ⟨(Nat.le_of_ble_eq_true rfl), (Nat.le_of_ble_eq_true rfl)⟩) hP hD hS hA hown hts hE htb rfl rfl rfl rfl (by decide) (fun z hz => by cases hz) (by decide) (by decide) tw_302 tw_303 (fun qx H locs hP hD hS => ?_)
  have hP : va_P D vwCl [] H := hP
  have hD : va_D A [] := hD
  refine lv_astore (lv' := [(4, .ref qx), (0, .ref a0), (1, .int x0), (2, .int x1), (3, .ref b0)]) hx hb dL_getDryness_13 hl (Nat.le_of_ble_eq_true rfl) rfl (fun ls hl => ?_)
  refine lv_iconst (v := 1) hx hb dL_getDryness_15 (by decide) ?_
  exact en_z hx hb hr hlk hP hD hS rfl (fun _ => 0) (is := []) rfl rfl (Nat.le_of_ble_eq_true rfl) (Nat.le_of_ble_eq_true rfl) dL_getDryness_16
set_option maxHeartbeats 4000000 in
set_option maxRecDepth 100000 in
theorem k187_X10_getDryness (l : Launch) (D : va_G) (cy : Nat → ClassId) (g : Nat → Nat) (x0 : Int32) (x1 : Int32) (a0 : Nat) (v0 : Value) (v1 : Value) (v2 : Value) (v3 : Value) (v4 : Value) (v5 : Value) (v6 : Value) (v7 : Value) (v8 : Value) (v9 : Value) (v10 : Value) (v11 : Value) (v12 : Value) (v13 : Value) (v14 : Value) (v15 : Value) (v16 : Value) (v17 : Value) (v18 : Value) (v19 : Value) (v20 : Value) (v21 : Value) (v22 : Value) (v23 : Value) (v24 : Value) (v25 : Value) (v26 : Value) (v27 : Value) (sz : Nat) (h0 : ¬ x1 < 0) (h1 : (20000 : Int32) < x1) : Met l yX10_getDryness [.code yX10_getDryness cX10_getDryness 5 (some .int)] ({ frames := 2, cells := 0, slots := 0, locals := 47 }) (PC D cy g [(a0, .inr (15, [v0, v1, v2, v3, v4, v5, v6, v7, v8, v9, v10, v11, v12, v13, v14, v15, v16, v17, v18, v19, v20, v21, v22, v23, v24, v25, v26, v27]))] sz [.ref a0, .int x0, .int x1]) (QI D (-1) (fun ad => [(a0, .inr (15, [.int 1, v1, v2, v3, v4, v5, v6, v7, v8, v9, v10, v11, v12, v13, v14, v15, v16, v17, v18, v19, v20, v21, v22, v23, v24, v25, v26, v27]))]) (va_A [(a0, .inr (15, [v0, v1, v2, v3, v4, v5, v6, v7, v8, v9, v10, v11, v12, v13, v14, v15, v16, v17, v18, v19, v20, v21, v22, v23, v24, v25, v26, v27]))] sz)) 0 0 (va_A [(a0, .inr (15, [v0, v1, v2, v3, v4, v5, v6, v7, v8, v9, v10, v11, v12, v13, v14, v15, v16, v17, v18, v19, v20, v21, v22, v23, v24, v25, v26, v27]))] sz) := by
  refine st_I (by decide) (Nat.le_of_ble_eq_true rfl) ?_
  intro p e s m args below meth c A ls hx hb hr hml hown hlk hnm hsz hP hD hA hE hts hS hl
  have hown : s.vm.findClass RX10 = some m.cls := hown
  have hl : lv_has ls 5 [(0, .ref a0), (1, .int x0), (2, .int x1)] := hl
  refine lv_aload_n hx hb dX10_getDryness_0 rfl (lv_at hl 0 rfl) ?_
  refine ca_v (isC := [0]) (isR := []) (wr := []) (rn_V (ci := 15) (q0 := 0) (isC := [0]) (wc := [(a0, .inr (15, [v0, v1, v2, v3, v4, v5, v6, v7, v8, v9, v10, v11, v12, v13, v14, v15, v16, v17, v18, v19, v20, v21, v22, v23, v24, v25, v26, v27]))]) (As := []) (rest := []) (n := 0) hx hb hml hown hts hE hS hP hD hA hl.1 (k20_X10_begins l D cy g a0 (v0) (v1) (v2) (v3) (v4) (v5) (v6) (v7) (v8) (v9) (v10) (v11) (v12) (v13) (v14) (v15) (v16) (v17) (v18) (v19) (v20) (v21) (v22) (v23) (v24) (v25) (v26) (v27) s.heap.size ) rfl rfl rfl rfl rfl ax_37 rfl rfl ax_38 ⟨Nat.le_of_ble_eq_true rfl, Nat.le_of_ble_eq_true rfl⟩ rfl rfl (Nat.le_of_ble_eq_true rfl) dX10_getDryness_1 ⟨(Nat.le_of_ble_eq_true rfl), (Nat.le_of_ble_eq_true rfl)⟩) hP hD hS hA rfl rfl rfl (by decide) (fun ad1 H locs hP hD hS => ?_)
  have hP : va_P D vwCl [(a0, .inr (15, [.int 0, v1, v2, v3, v4, v5, v6, v7, v8, v9, v10, v11, v12, v13, v14, v15, v16, v17, v18, v19, v20, v21, v22, v23, v24, v25, v26, v27]))] H := hP
  have hD : va_D A [(a0, .inr (15, [.int 0, v1, v2, v3, v4, v5, v6, v7, v8, v9, v10, v11, v12, v13, v14, v15, v16, v17, v18, v19, v20, v21, v22, v23, v24, v25, v26, v27]))] := hD
  refine lv_aload_n hx hb dX10_getDryness_4 rfl (lv_at hl 0 rfl) ?_
  refine lv_iload_n hx hb dX10_getDryness_5 rfl (lv_at hl 1 rfl) ?_
  refine lv_iload_n hx hb dX10_getDryness_6 rfl (lv_at hl 2 rfl) ?_
  refine ca_i (isC := [0]) (isR := []) (wr := []) (rn_V (ci := 15) (q0 := 0) (isC := [0]) (wc := [(a0, .inr (15, [.int 0, v1, v2, v3, v4, v5, v6, v7, v8, v9, v10, v11, v12, v13, v14, v15, v16, v17, v18, v19, v20, v21, v22, v23, v24, v25, v26, v27]))]) (As := [.int x0, .int x1]) (rest := []) (n := 2) hx hb hml hown hts hE hS hP hD hA hl.1 (k174_X10_noState l D cy g x0 x1 a0 (v1) (v2) (v3) (v4) (v5) (v6) (v7) (v8) (v9) (v10) (v11) (v12) (v13) (v14) (v15) (v16) (v17) (v18) (v19) (v20) (v21) (v22) (v23) (v24) (v25) (v26) (v27) H.size h0 h1) rfl rfl rfl rfl rfl ax_164 rfl rfl ax_165 ⟨Nat.le_of_ble_eq_true rfl, Nat.le_of_ble_eq_true rfl⟩ rfl rfl (Nat.le_of_ble_eq_true rfl) dX10_getDryness_7 ⟨(Nat.le_of_ble_eq_true rfl), (Nat.le_of_ble_eq_true rfl)⟩) hP hD hS hA rfl rfl rfl (by decide) (fun ad7 H locs hP hD hS => ?_)
  have hP : va_P D vwCl [(a0, .inr (15, [.int 1, v1, v2, v3, v4, v5, v6, v7, v8, v9, v10, v11, v12, v13, v14, v15, v16, v17, v18, v19, v20, v21, v22, v23, v24, v25, v26, v27]))] H := hP
  have hD : va_D A [(a0, .inr (15, [.int 1, v1, v2, v3, v4, v5, v6, v7, v8, v9, v10, v11, v12, v13, v14, v15, v16, v17, v18, v19, v20, v21, v22, v23, v24, v25, v26, v27]))] := hD
  refine lv_if_eq (tgt := 15) hx hb dX10_getDryness_10 (by decide) (fun z => absurd z (by decide)) (fun _ => ?_)
  refine lv_iconst (v := (-1)) hx hb dX10_getDryness_13 (by decide) ?_
  exact en_z hx hb hr hlk hP hD hS rfl (fun _ => 0) (is := [0]) rfl rfl (Nat.le_of_ble_eq_true rfl) (Nat.le_of_ble_eq_true rfl) dX10_getDryness_14
set_option maxHeartbeats 4000000 in
set_option maxRecDepth 100000 in
theorem k188_X9_getDryness (l : Launch) (hst : l.stackTraces = false) (D : va_G) (cy : Nat → ClassId) (g : Nat → Nat) (x0 : Int32) (x1 : Int32) (a0 : Nat) (a1 : Nat) (v0 : Value) (v1 : Value) (v2 : Value) (v3 : Value) (v4 : Value) (v5 : Value) (v6 : Value) (v7 : Value) (v8 : Value) (v9 : Value) (sz : Nat) (h0 : ¬ x1 < 0) (h1 : ¬ (20000 : Int32) < x1) : vx_Met l yX9_getDryness [.code yX9_getDryness cX9_getDryness 3 (some .int)] ({ frames := 8, cells := 1, slots := 6, locals := 125 }) (PC D cy g [(a0, .inr (14, [v0, .ref a1, v1, v2, v3, v4, v5])), (a1, .inr (12, [v6, v7, v8, v9, .int 0]))] sz [.ref a0, .int x0, .int x1]) QN (XE "java/util/NoSuchElementException" (va_A [(a0, .inr (14, [v0, .ref a1, v1, v2, v3, v4, v5])), (a1, .inr (12, [v6, v7, v8, v9, .int 0]))] sz)) 1 6 (va_A [(a0, .inr (14, [v0, .ref a1, v1, v2, v3, v4, v5])), (a1, .inr (12, [v6, v7, v8, v9, .int 0]))] sz) := by
  refine st_X (by decide) (Nat.le_of_ble_eq_true rfl) ?_
  intro p e s m args below meth c A ls hx hb hr hml hown hlk hnm hsz hP hD hA hE hts hS hl hout
  have hown : s.vm.findClass RX9 = some m.cls := hown
  have hl : lv_has ls 3 [(0, .ref a0), (1, .int x0), (2, .int x1)] := hl
  refine lv_aload_n hx hb dX9_getDryness_0 rfl (lv_at hl 0 rfl) ?_
  refine lv_iload_n hx hb dX9_getDryness_1 rfl (lv_at hl 1 rfl) ?_
  refine lv_iload_n hx hb dX9_getDryness_2 rfl (lv_at hl 2 rfl) ?_
  exact cx_out (isC := [0, 1]) (rx_V (ci := 14) (q0 := 0) (isC := [0, 1]) (wc := [(a0, .inr (14, [v0, .ref a1, v1, v2, v3, v4, v5])), (a1, .inr (12, [v6, v7, v8, v9, .int 0]))]) (As := [.int x0, .int x1]) (rest := []) (n := 2) hx hb hml hown hts hE hS hP hD hA hl.1 (k177_X9_requireState l hst D cy g x0 x1 a0 a1 (v0) (v1) (v2) (v3) (v4) (v5) (v6) (v7) (v8) (v9) s.heap.size h0 h1) rfl rfl rfl rfl rfl ax_158 rfl rfl ax_159 ⟨Nat.le_of_ble_eq_true rfl, Nat.le_of_ble_eq_true rfl⟩ rfl rfl (Nat.le_of_ble_eq_true rfl) dX9_getDryness_3 ⟨(Nat.le_of_ble_eq_true rfl), (Nat.le_of_ble_eq_true rfl)⟩) hD hS hA rfl hout hlk (Nat.le_of_ble_eq_true rfl) (Nat.le_of_ble_eq_true rfl)
set_option maxHeartbeats 4000000 in
set_option maxRecDepth 100000 in
theorem k189_L_getDryness (l : Launch) (hst : l.stackTraces = false) (D : va_G) (cy : Nat → ClassId) (g : Nat → Nat) (x0 : Int32) (x1 : Int32) (a0 : Nat) (a1 : Nat) (b0 : Nat) (v0 : Value) (v1 : Value) (v2 : Value) (v3 : Value) (v4 : Value) (v5 : Value) (v6 : Value) (v7 : Value) (v8 : Value) (v9 : Value) (sz : Nat) (h0 : ¬ x1 < 0) (h1 : ¬ (20000 : Int32) < x1) : Met l yL_getDryness [.codeWith yL_getDryness cL_getDryness 5 (some .int) [(0, 10, 13, 13), (0, 10, 17, 45)]] ({ frames := 9, cells := 1, slots := 6, locals := 147 }) (PC D cy g [(a0, .inr (14, [v0, .ref a1, v1, v2, v3, v4, v5])), (a1, .inr (12, [v6, v7, v8, v9, .int 0]))] sz [.ref a0, .int x0, .int x1, .ref b0]) (QI D 2 (fun ad => []) (va_A [(a0, .inr (14, [v0, .ref a1, v1, v2, v3, v4, v5])), (a1, .inr (12, [v6, v7, v8, v9, .int 0]))] sz)) 1 6 (va_A [(a0, .inr (14, [v0, .ref a1, v1, v2, v3, v4, v5])), (a1, .inr (12, [v6, v7, v8, v9, .int 0]))] sz) := by
  refine sh_I (by decide) (Nat.le_of_ble_eq_true rfl) ?_
  intro p e s m args below meth c A ls hx hb hr hml hown hlk hnm hsz hP hD hA hE hts hS hl htb
  have hown : s.vm.findClass RL = some m.cls := hown
  have hl : lv_has ls 5 [(0, .ref a0), (1, .int x0), (2, .int x1), (3, .ref b0)] := hl
  refine lv_aload_n hx hb dL_getDryness_0 rfl (lv_at hl 3 rfl) ?_
  refine lv_iconst (v := 0) hx hb dL_getDryness_1 (by decide) ?_
  refine lv_aload_n hx hb dL_getDryness_2 rfl (lv_at hl 0 rfl) ?_
  refine lv_iload_n hx hb dL_getDryness_3 rfl (lv_at hl 1 rfl) ?_
  refine lv_iload_n hx hb dL_getDryness_4 rfl (lv_at hl 2 rfl) ?_
  refine cx_catch (isC := [0, 1]) (isR := []) (wr := []) (hp := [(0, 10, 13, 13)]) (z := (0, 10, 17, 45)) (hq := []) (name := "java/util/NoSuchElementException") (own := RL) (rx_V (ci := 14) (q0 := 0) (isC := [0, 1]) (wc := [(a0, .inr (14, [v0, .ref a1, v1, v2, v3, v4, v5])), (a1, .inr (12, [v6, v7, v8, v9, .int 0]))]) (As := [.int x0, .int x1]) (rest := [.int 0, .ref b0]) (n := 2) hx hb hml hown hts hE hS hP hD hA hl.1 (k188_X9_getDryness l hst D cy g x0 x1 a0 a1 (v0) (v1) (v2) (v3) (v4) (v5) (v6) (v7) (v8) (v9) s.heap.size h0 h1) rfl rfl rfl rfl rfl ax_168 rfl rfl ax_169 ⟨Nat.le_of_ble_eq_true rfl, Nat.le_of_ble_eq_true rfl⟩ rfl rfl (Nat.le_of_ble_eq_true rfl) dL_getDryness_5 ⟨(Nat.le_of_ble_eq_true rfl), (Nat.le_of_ble_eq_true rfl)⟩) hP hD hS hA hown hts hE htb rfl rfl rfl rfl (by decide) (fun z hz => by rcases List.mem_singleton.mp hz with rfl; exact ⟨by decide, "java/lang/IllegalArgumentException", tw_302, by decide +kernel⟩) (by decide) (by decide) tw_534 tw_535 (fun qx H locs hP hD hS => ?_)
  have hP : va_P D vwCl [] H := hP
  have hD : va_D A [] := hD
  refine lv_astore (lv' := [(4, .ref qx), (0, .ref a0), (1, .int x0), (2, .int x1), (3, .ref b0)]) hx hb dL_getDryness_17 hl (Nat.le_of_ble_eq_true rfl) rfl (fun ls hl => ?_)
  refine lv_iconst (v := 2) hx hb dL_getDryness_19 (by decide) ?_
  exact en_z hx hb hr hlk hP hD hS rfl (fun _ => 0) (is := []) rfl rfl (Nat.le_of_ble_eq_true rfl) (Nat.le_of_ble_eq_true rfl) dL_getDryness_20
set_option maxHeartbeats 4000000 in
set_option maxRecDepth 100000 in
theorem k190_X10_getDryness (l : Launch) (D : va_G) (cy : Nat → ClassId) (g : Nat → Nat) (x0 : Int32) (x1 : Int32) (a0 : Nat) (a1 : Nat) (v0 : Value) (v1 : Value) (v2 : Value) (v3 : Value) (v4 : Value) (v5 : Value) (v6 : Value) (v7 : Value) (v8 : Value) (v9 : Value) (v10 : Value) (v11 : Value) (v12 : Value) (v13 : Value) (v14 : Value) (v15 : Value) (v16 : Value) (v17 : Value) (v18 : Value) (v19 : Value) (v20 : Value) (v21 : Value) (v22 : Value) (v23 : Value) (v24 : Value) (v25 : Value) (v26 : Value) (v27 : Value) (v28 : Value) (sz : Nat) (h0 : ¬ x1 < 0) (h1 : ¬ (20000 : Int32) < x1) : Met l yX10_getDryness [.code yX10_getDryness cX10_getDryness 5 (some .int)] ({ frames := 3, cells := 0, slots := 0, locals := 63 }) (PC D cy g [(a0, .inr (15, [v0, v1, v2, v3, v4, v5, .ref a1, v6, v7, v8, v9, v10, v11, v12, v13, v14, v15, v16, v17, v18, v19, v20, v21, v22, v23, v24, v25, v26])), (a1, .inr (4, [v27, v28, .int 0]))] sz [.ref a0, .int x0, .int x1]) (QI D (-1) (fun ad => [(a0, .inr (15, [.int 2, v1, v2, v3, v4, v5, .ref a1, v6, v7, v8, v9, v10, v11, v12, v13, v14, v15, v16, v17, v18, v19, v20, v21, v22, v23, v24, v25, v26]))]) (va_A [(a0, .inr (15, [v0, v1, v2, v3, v4, v5, .ref a1, v6, v7, v8, v9, v10, v11, v12, v13, v14, v15, v16, v17, v18, v19, v20, v21, v22, v23, v24, v25, v26])), (a1, .inr (4, [v27, v28, .int 0]))] sz)) 0 0 (va_A [(a0, .inr (15, [v0, v1, v2, v3, v4, v5, .ref a1, v6, v7, v8, v9, v10, v11, v12, v13, v14, v15, v16, v17, v18, v19, v20, v21, v22, v23, v24, v25, v26])), (a1, .inr (4, [v27, v28, .int 0]))] sz) := by
  refine st_I (by decide) (Nat.le_of_ble_eq_true rfl) ?_
  intro p e s m args below meth c A ls hx hb hr hml hown hlk hnm hsz hP hD hA hE hts hS hl
  have hown : s.vm.findClass RX10 = some m.cls := hown
  have hl : lv_has ls 5 [(0, .ref a0), (1, .int x0), (2, .int x1)] := hl
  refine lv_aload_n hx hb dX10_getDryness_0 rfl (lv_at hl 0 rfl) ?_
  refine ca_v (isC := [0]) (isR := [1]) (wr := [(a1, .inr (4, [v27, v28, .int 0]))]) (rn_V (ci := 15) (q0 := 0) (isC := [0]) (wc := [(a0, .inr (15, [v0, v1, v2, v3, v4, v5, .ref a1, v6, v7, v8, v9, v10, v11, v12, v13, v14, v15, v16, v17, v18, v19, v20, v21, v22, v23, v24, v25, v26]))]) (As := []) (rest := []) (n := 0) hx hb hml hown hts hE hS hP hD hA hl.1 (k20_X10_begins l D cy g a0 (v0) (v1) (v2) (v3) (v4) (v5) (.ref a1) (v6) (v7) (v8) (v9) (v10) (v11) (v12) (v13) (v14) (v15) (v16) (v17) (v18) (v19) (v20) (v21) (v22) (v23) (v24) (v25) (v26) s.heap.size ) rfl rfl rfl rfl rfl ax_37 rfl rfl ax_38 ⟨Nat.le_of_ble_eq_true rfl, Nat.le_of_ble_eq_true rfl⟩ rfl rfl (Nat.le_of_ble_eq_true rfl) dX10_getDryness_1 ⟨(Nat.le_of_ble_eq_true rfl), (Nat.le_of_ble_eq_true rfl)⟩) hP hD hS hA rfl rfl rfl (by decide) (fun ad1 H locs hP hD hS => ?_)
  have hP : va_P D vwCl [(a1, .inr (4, [v27, v28, .int 0])), (a0, .inr (15, [.int 0, v1, v2, v3, v4, v5, .ref a1, v6, v7, v8, v9, v10, v11, v12, v13, v14, v15, v16, v17, v18, v19, v20, v21, v22, v23, v24, v25, v26]))] H := hP
  have hD : va_D A [(a1, .inr (4, [v27, v28, .int 0])), (a0, .inr (15, [.int 0, v1, v2, v3, v4, v5, .ref a1, v6, v7, v8, v9, v10, v11, v12, v13, v14, v15, v16, v17, v18, v19, v20, v21, v22, v23, v24, v25, v26]))] := hD
  refine lv_aload_n hx hb dX10_getDryness_4 rfl (lv_at hl 0 rfl) ?_
  refine lv_iload_n hx hb dX10_getDryness_5 rfl (lv_at hl 1 rfl) ?_
  refine lv_iload_n hx hb dX10_getDryness_6 rfl (lv_at hl 2 rfl) ?_
  refine ca_i (isC := [1, 0]) (isR := []) (wr := []) (rn_V (ci := 15) (q0 := 1) (isC := [1, 0]) (wc := [(a0, .inr (15, [.int 0, v1, v2, v3, v4, v5, .ref a1, v6, v7, v8, v9, v10, v11, v12, v13, v14, v15, v16, v17, v18, v19, v20, v21, v22, v23, v24, v25, v26])), (a1, .inr (4, [v27, v28, .int 0]))]) (As := [.int x0, .int x1]) (rest := []) (n := 2) hx hb hml hown hts hE hS hP hD hA hl.1 (k180_X10_noState l D cy g x0 x1 a0 a1 (v1) (v2) (v3) (v4) (v5) (v6) (v7) (v8) (v9) (v10) (v11) (v12) (v13) (v14) (v15) (v16) (v17) (v18) (v19) (v20) (v21) (v22) (v23) (v24) (v25) (v26) (v27) (v28) H.size h0 h1) rfl rfl rfl rfl rfl ax_164 rfl rfl ax_165 ⟨Nat.le_of_ble_eq_true rfl, Nat.le_of_ble_eq_true rfl⟩ rfl rfl (Nat.le_of_ble_eq_true rfl) dX10_getDryness_7 ⟨(Nat.le_of_ble_eq_true rfl), (Nat.le_of_ble_eq_true rfl)⟩) hP hD hS hA rfl rfl rfl (by decide) (fun ad7 H locs hP hD hS => ?_)
  have hP : va_P D vwCl [(a0, .inr (15, [.int 2, v1, v2, v3, v4, v5, .ref a1, v6, v7, v8, v9, v10, v11, v12, v13, v14, v15, v16, v17, v18, v19, v20, v21, v22, v23, v24, v25, v26])), (a1, .inr (4, [v27, v28, .int 0]))] H := hP
  have hD : va_D A [(a0, .inr (15, [.int 2, v1, v2, v3, v4, v5, .ref a1, v6, v7, v8, v9, v10, v11, v12, v13, v14, v15, v16, v17, v18, v19, v20, v21, v22, v23, v24, v25, v26])), (a1, .inr (4, [v27, v28, .int 0]))] := hD
  refine lv_if_eq (tgt := 15) hx hb dX10_getDryness_10 (by decide) (fun z => absurd z (by decide)) (fun _ => ?_)
  refine lv_iconst (v := (-1)) hx hb dX10_getDryness_13 (by decide) ?_
  exact en_z hx hb hr hlk hP hD hS rfl (fun _ => 0) (is := [0]) rfl rfl (Nat.le_of_ble_eq_true rfl) (Nat.le_of_ble_eq_true rfl) dX10_getDryness_14
set_option maxHeartbeats 4000000 in
set_option maxRecDepth 100000 in
theorem k191_X9_stateTemperature (l : Launch) (hst : l.stackTraces = false) (D : va_G) (cy : Nat → ClassId) (g : Nat → Nat) (x0 : Int32) (x1 : Int32) (a0 : Nat) (v0 : Value) (v1 : Value) (v2 : Value) (v3 : Value) (v4 : Value) (v5 : Value) (v6 : Value) (sz : Nat) (h0 : x1 < 0) : vx_Met l yX9_stateTemperature [.code yX9_stateTemperature cX9_stateTemperature 3 (some .int)] ({ frames := 8, cells := 1, slots := 6, locals := 125 }) (PC D cy g [(a0, .inr (14, [v0, v1, v2, v3, v4, v5, v6]))] sz [.ref a0, .int x0, .int x1]) QN (XE "java/lang/IllegalArgumentException" (va_A [(a0, .inr (14, [v0, v1, v2, v3, v4, v5, v6]))] sz)) 1 6 (va_A [(a0, .inr (14, [v0, v1, v2, v3, v4, v5, v6]))] sz) := by
  refine st_X (by decide) (Nat.le_of_ble_eq_true rfl) ?_
  intro p e s m args below meth c A ls hx hb hr hml hown hlk hnm hsz hP hD hA hE hts hS hl hout
  have hown : s.vm.findClass RX9 = some m.cls := hown
  have hl : lv_has ls 3 [(0, .ref a0), (1, .int x0), (2, .int x1)] := hl
  refine lv_aload_n hx hb dX9_stateTemperature_0 rfl (lv_at hl 0 rfl) ?_
  refine lv_iload_n hx hb dX9_stateTemperature_1 rfl (lv_at hl 1 rfl) ?_
  refine lv_iload_n hx hb dX9_stateTemperature_2 rfl (lv_at hl 2 rfl) ?_
  exact cx_out (isC := [0]) (rx_V (ci := 14) (q0 := 0) (isC := [0]) (wc := [(a0, .inr (14, [v0, v1, v2, v3, v4, v5, v6]))]) (As := [.int x0, .int x1]) (rest := []) (n := 2) hx hb hml hown hts hE hS hP hD hA hl.1 (k165_X9_requireState l hst D cy g x0 x1 a0 (v0) (v1) (v2) (v3) (v4) (v5) (v6) s.heap.size h0) rfl rfl rfl rfl rfl ax_158 rfl rfl ax_159 ⟨Nat.le_of_ble_eq_true rfl, Nat.le_of_ble_eq_true rfl⟩ rfl rfl (Nat.le_of_ble_eq_true rfl) dX9_stateTemperature_3 ⟨(Nat.le_of_ble_eq_true rfl), (Nat.le_of_ble_eq_true rfl)⟩) hD hS hA rfl hout hlk (Nat.le_of_ble_eq_true rfl) (Nat.le_of_ble_eq_true rfl)
set_option maxHeartbeats 4000000 in
set_option maxRecDepth 100000 in
theorem k192_L_stateTemperature (l : Launch) (hst : l.stackTraces = false) (D : va_G) (cy : Nat → ClassId) (g : Nat → Nat) (x0 : Int32) (x1 : Int32) (a0 : Nat) (b0 : Nat) (v0 : Value) (v1 : Value) (v2 : Value) (v3 : Value) (v4 : Value) (v5 : Value) (v6 : Value) (sz : Nat) (h0 : x1 < 0) : Met l yL_stateTemperature [.codeWith yL_stateTemperature cL_stateTemperature 5 (some .int) [(0, 10, 13, 13), (0, 10, 17, 45)]] ({ frames := 9, cells := 1, slots := 6, locals := 147 }) (PC D cy g [(a0, .inr (14, [v0, v1, v2, v3, v4, v5, v6]))] sz [.ref a0, .int x0, .int x1, .ref b0]) (QI D 1 (fun ad => []) (va_A [(a0, .inr (14, [v0, v1, v2, v3, v4, v5, v6]))] sz)) 1 6 (va_A [(a0, .inr (14, [v0, v1, v2, v3, v4, v5, v6]))] sz) := by
  refine sh_I (by decide) (Nat.le_of_ble_eq_true rfl) ?_
  intro p e s m args below meth c A ls hx hb hr hml hown hlk hnm hsz hP hD hA hE hts hS hl htb
  have hown : s.vm.findClass RL = some m.cls := hown
  have hl : lv_has ls 5 [(0, .ref a0), (1, .int x0), (2, .int x1), (3, .ref b0)] := hl
  refine lv_aload_n hx hb dL_stateTemperature_0 rfl (lv_at hl 3 rfl) ?_
  refine lv_iconst (v := 0) hx hb dL_stateTemperature_1 (by decide) ?_
  refine lv_aload_n hx hb dL_stateTemperature_2 rfl (lv_at hl 0 rfl) ?_
  refine lv_iload_n hx hb dL_stateTemperature_3 rfl (lv_at hl 1 rfl) ?_
  refine lv_iload_n hx hb dL_stateTemperature_4 rfl (lv_at hl 2 rfl) ?_
  refine cx_catch (isC := [0]) (isR := []) (wr := []) (hp := []) (z := (0, 10, 13, 13)) (hq := [(0, 10, 17, 45)]) (name := "java/lang/IllegalArgumentException") (own := RL) (rx_V (ci := 14) (q0 := 0) (isC := [0]) (wc := [(a0, .inr (14, [v0, v1, v2, v3, v4, v5, v6]))]) (As := [.int x0, .int x1]) (rest := [.int 0, .ref b0]) (n := 2) hx hb hml hown hts hE hS hP hD hA hl.1 (k191_X9_stateTemperature l hst D cy g x0 x1 a0 (v0) (v1) (v2) (v3) (v4) (v5) (v6) s.heap.size h0) rfl rfl rfl rfl rfl ax_174 rfl rfl ax_175 ⟨Nat.le_of_ble_eq_true rfl, Nat.le_of_ble_eq_true rfl⟩ rfl rfl (Nat.le_of_ble_eq_true rfl) dL_stateTemperature_5 ⟨(Nat.le_of_ble_eq_true rfl), (Nat.le_of_ble_eq_true rfl)⟩) hP hD hS hA hown hts hE htb rfl rfl rfl rfl (by decide) (fun z hz => by cases hz) (by decide) (by decide) tw_302 tw_303 (fun qx H locs hP hD hS => ?_)
  have hP : va_P D vwCl [] H := hP
  have hD : va_D A [] := hD
  refine lv_astore (lv' := [(4, .ref qx), (0, .ref a0), (1, .int x0), (2, .int x1), (3, .ref b0)]) hx hb dL_stateTemperature_13 hl (Nat.le_of_ble_eq_true rfl) rfl (fun ls hl => ?_)
  refine lv_iconst (v := 1) hx hb dL_stateTemperature_15 (by decide) ?_
  exact en_z hx hb hr hlk hP hD hS rfl (fun _ => 0) (is := []) rfl rfl (Nat.le_of_ble_eq_true rfl) (Nat.le_of_ble_eq_true rfl) dL_stateTemperature_16
set_option maxHeartbeats 4000000 in
set_option maxRecDepth 100000 in
theorem k193_X10_stateTemperature (l : Launch) (D : va_G) (cy : Nat → ClassId) (g : Nat → Nat) (x0 : Int32) (x1 : Int32) (a0 : Nat) (v0 : Value) (v1 : Value) (v2 : Value) (v3 : Value) (v4 : Value) (v5 : Value) (v6 : Value) (v7 : Value) (v8 : Value) (v9 : Value) (v10 : Value) (v11 : Value) (v12 : Value) (v13 : Value) (v14 : Value) (v15 : Value) (v16 : Value) (v17 : Value) (v18 : Value) (v19 : Value) (v20 : Value) (v21 : Value) (v22 : Value) (v23 : Value) (v24 : Value) (v25 : Value) (v26 : Value) (v27 : Value) (sz : Nat) (h0 : x1 < 0) : Met l yX10_stateTemperature [.code yX10_stateTemperature cX10_stateTemperature 3 (some .int)] ({ frames := 2, cells := 0, slots := 0, locals := 47 }) (PC D cy g [(a0, .inr (15, [v0, v1, v2, v3, v4, v5, v6, v7, v8, v9, v10, v11, v12, v13, v14, v15, v16, v17, v18, v19, v20, v21, v22, v23, v24, v25, v26, v27]))] sz [.ref a0, .int x0, .int x1]) (QI D (-1) (fun ad => [(a0, .inr (15, [.int 1, v1, v2, v3, v4, v5, v6, v7, v8, v9, v10, v11, v12, v13, v14, v15, v16, v17, v18, v19, v20, v21, v22, v23, v24, v25, v26, v27]))]) (va_A [(a0, .inr (15, [v0, v1, v2, v3, v4, v5, v6, v7, v8, v9, v10, v11, v12, v13, v14, v15, v16, v17, v18, v19, v20, v21, v22, v23, v24, v25, v26, v27]))] sz)) 0 0 (va_A [(a0, .inr (15, [v0, v1, v2, v3, v4, v5, v6, v7, v8, v9, v10, v11, v12, v13, v14, v15, v16, v17, v18, v19, v20, v21, v22, v23, v24, v25, v26, v27]))] sz) := by
  refine st_I (by decide) (Nat.le_of_ble_eq_true rfl) ?_
  intro p e s m args below meth c A ls hx hb hr hml hown hlk hnm hsz hP hD hA hE hts hS hl
  have hown : s.vm.findClass RX10 = some m.cls := hown
  have hl : lv_has ls 3 [(0, .ref a0), (1, .int x0), (2, .int x1)] := hl
  refine lv_aload_n hx hb dX10_stateTemperature_0 rfl (lv_at hl 0 rfl) ?_
  refine ca_v (isC := [0]) (isR := []) (wr := []) (rn_V (ci := 15) (q0 := 0) (isC := [0]) (wc := [(a0, .inr (15, [v0, v1, v2, v3, v4, v5, v6, v7, v8, v9, v10, v11, v12, v13, v14, v15, v16, v17, v18, v19, v20, v21, v22, v23, v24, v25, v26, v27]))]) (As := []) (rest := []) (n := 0) hx hb hml hown hts hE hS hP hD hA hl.1 (k20_X10_begins l D cy g a0 (v0) (v1) (v2) (v3) (v4) (v5) (v6) (v7) (v8) (v9) (v10) (v11) (v12) (v13) (v14) (v15) (v16) (v17) (v18) (v19) (v20) (v21) (v22) (v23) (v24) (v25) (v26) (v27) s.heap.size ) rfl rfl rfl rfl rfl ax_37 rfl rfl ax_38 ⟨Nat.le_of_ble_eq_true rfl, Nat.le_of_ble_eq_true rfl⟩ rfl rfl (Nat.le_of_ble_eq_true rfl) dX10_stateTemperature_1 ⟨(Nat.le_of_ble_eq_true rfl), (Nat.le_of_ble_eq_true rfl)⟩) hP hD hS hA rfl rfl rfl (by decide) (fun ad1 H locs hP hD hS => ?_)
  have hP : va_P D vwCl [(a0, .inr (15, [.int 0, v1, v2, v3, v4, v5, v6, v7, v8, v9, v10, v11, v12, v13, v14, v15, v16, v17, v18, v19, v20, v21, v22, v23, v24, v25, v26, v27]))] H := hP
  have hD : va_D A [(a0, .inr (15, [.int 0, v1, v2, v3, v4, v5, v6, v7, v8, v9, v10, v11, v12, v13, v14, v15, v16, v17, v18, v19, v20, v21, v22, v23, v24, v25, v26, v27]))] := hD
  refine lv_aload_n hx hb dX10_stateTemperature_4 rfl (lv_at hl 0 rfl) ?_
  refine lv_iload_n hx hb dX10_stateTemperature_5 rfl (lv_at hl 1 rfl) ?_
  refine lv_iload_n hx hb dX10_stateTemperature_6 rfl (lv_at hl 2 rfl) ?_
  refine ca_i (isC := [0]) (isR := []) (wr := []) (rn_V (ci := 15) (q0 := 0) (isC := [0]) (wc := [(a0, .inr (15, [.int 0, v1, v2, v3, v4, v5, v6, v7, v8, v9, v10, v11, v12, v13, v14, v15, v16, v17, v18, v19, v20, v21, v22, v23, v24, v25, v26, v27]))]) (As := [.int x0, .int x1]) (rest := []) (n := 2) hx hb hml hown hts hE hS hP hD hA hl.1 (k168_X10_noState l D cy g x0 x1 a0 (v1) (v2) (v3) (v4) (v5) (v6) (v7) (v8) (v9) (v10) (v11) (v12) (v13) (v14) (v15) (v16) (v17) (v18) (v19) (v20) (v21) (v22) (v23) (v24) (v25) (v26) (v27) H.size h0) rfl rfl rfl rfl rfl ax_164 rfl rfl ax_165 ⟨Nat.le_of_ble_eq_true rfl, Nat.le_of_ble_eq_true rfl⟩ rfl rfl (Nat.le_of_ble_eq_true rfl) dX10_stateTemperature_7 ⟨(Nat.le_of_ble_eq_true rfl), (Nat.le_of_ble_eq_true rfl)⟩) hP hD hS hA rfl rfl rfl (by decide) (fun ad7 H locs hP hD hS => ?_)
  have hP : va_P D vwCl [(a0, .inr (15, [.int 1, v1, v2, v3, v4, v5, v6, v7, v8, v9, v10, v11, v12, v13, v14, v15, v16, v17, v18, v19, v20, v21, v22, v23, v24, v25, v26, v27]))] H := hP
  have hD : va_D A [(a0, .inr (15, [.int 1, v1, v2, v3, v4, v5, v6, v7, v8, v9, v10, v11, v12, v13, v14, v15, v16, v17, v18, v19, v20, v21, v22, v23, v24, v25, v26, v27]))] := hD
  refine lv_if_eq (tgt := 17) hx hb dX10_stateTemperature_10 (by decide) (fun z => absurd z (by decide)) (fun _ => ?_)
  refine lv_iconst (v := (-1)) hx hb dX10_stateTemperature_13 (by decide) ?_
  refine lv_goto (tgt := 23) hx hb dX10_stateTemperature_14 (by decide) ?_
  exact en_z hx hb hr hlk hP hD hS rfl (fun _ => 0) (is := [0]) rfl rfl (Nat.le_of_ble_eq_true rfl) (Nat.le_of_ble_eq_true rfl) dX10_stateTemperature_23
set_option maxHeartbeats 4000000 in
set_option maxRecDepth 100000 in
theorem k194_X9_stateTemperature (l : Launch) (hst : l.stackTraces = false) (D : va_G) (cy : Nat → ClassId) (g : Nat → Nat) (x0 : Int32) (x1 : Int32) (a0 : Nat) (v0 : Value) (v1 : Value) (v2 : Value) (v3 : Value) (v4 : Value) (v5 : Value) (v6 : Value) (sz : Nat) (h0 : ¬ x1 < 0) (h1 : (20000 : Int32) < x1) : vx_Met l yX9_stateTemperature [.code yX9_stateTemperature cX9_stateTemperature 3 (some .int)] ({ frames := 8, cells := 1, slots := 6, locals := 125 }) (PC D cy g [(a0, .inr (14, [v0, v1, v2, v3, v4, v5, v6]))] sz [.ref a0, .int x0, .int x1]) QN (XE "java/lang/IllegalArgumentException" (va_A [(a0, .inr (14, [v0, v1, v2, v3, v4, v5, v6]))] sz)) 1 6 (va_A [(a0, .inr (14, [v0, v1, v2, v3, v4, v5, v6]))] sz) := by
  refine st_X (by decide) (Nat.le_of_ble_eq_true rfl) ?_
  intro p e s m args below meth c A ls hx hb hr hml hown hlk hnm hsz hP hD hA hE hts hS hl hout
  have hown : s.vm.findClass RX9 = some m.cls := hown
  have hl : lv_has ls 3 [(0, .ref a0), (1, .int x0), (2, .int x1)] := hl
  refine lv_aload_n hx hb dX9_stateTemperature_0 rfl (lv_at hl 0 rfl) ?_
  refine lv_iload_n hx hb dX9_stateTemperature_1 rfl (lv_at hl 1 rfl) ?_
  refine lv_iload_n hx hb dX9_stateTemperature_2 rfl (lv_at hl 2 rfl) ?_
  exact cx_out (isC := [0]) (rx_V (ci := 14) (q0 := 0) (isC := [0]) (wc := [(a0, .inr (14, [v0, v1, v2, v3, v4, v5, v6]))]) (As := [.int x0, .int x1]) (rest := []) (n := 2) hx hb hml hown hts hE hS hP hD hA hl.1 (k171_X9_requireState l hst D cy g x0 x1 a0 (v0) (v1) (v2) (v3) (v4) (v5) (v6) s.heap.size h0 h1) rfl rfl rfl rfl rfl ax_158 rfl rfl ax_159 ⟨Nat.le_of_ble_eq_true rfl, Nat.le_of_ble_eq_true rfl⟩ rfl rfl (Nat.le_of_ble_eq_true rfl) dX9_stateTemperature_3 ⟨(Nat.le_of_ble_eq_true rfl), (Nat.le_of_ble_eq_true rfl)⟩) hD hS hA rfl hout hlk (Nat.le_of_ble_eq_true rfl) (Nat.le_of_ble_eq_true rfl)
set_option maxHeartbeats 4000000 in
set_option maxRecDepth 100000 in
theorem k195_L_stateTemperature (l : Launch) (hst : l.stackTraces = false) (D : va_G) (cy : Nat → ClassId) (g : Nat → Nat) (x0 : Int32) (x1 : Int32) (a0 : Nat) (b0 : Nat) (v0 : Value) (v1 : Value) (v2 : Value) (v3 : Value) (v4 : Value) (v5 : Value) (v6 : Value) (sz : Nat) (h0 : ¬ x1 < 0) (h1 : (20000 : Int32) < x1) : Met l yL_stateTemperature [.codeWith yL_stateTemperature cL_stateTemperature 5 (some .int) [(0, 10, 13, 13), (0, 10, 17, 45)]] ({ frames := 9, cells := 1, slots := 6, locals := 147 }) (PC D cy g [(a0, .inr (14, [v0, v1, v2, v3, v4, v5, v6]))] sz [.ref a0, .int x0, .int x1, .ref b0]) (QI D 1 (fun ad => []) (va_A [(a0, .inr (14, [v0, v1, v2, v3, v4, v5, v6]))] sz)) 1 6 (va_A [(a0, .inr (14, [v0, v1, v2, v3, v4, v5, v6]))] sz) := by
  refine sh_I (by decide) (Nat.le_of_ble_eq_true rfl) ?_
  intro p e s m args below meth c A ls hx hb hr hml hown hlk hnm hsz hP hD hA hE hts hS hl htb
  have hown : s.vm.findClass RL = some m.cls := hown
  have hl : lv_has ls 5 [(0, .ref a0), (1, .int x0), (2, .int x1), (3, .ref b0)] := hl
  refine lv_aload_n hx hb dL_stateTemperature_0 rfl (lv_at hl 3 rfl) ?_
  refine lv_iconst (v := 0) hx hb dL_stateTemperature_1 (by decide) ?_
  refine lv_aload_n hx hb dL_stateTemperature_2 rfl (lv_at hl 0 rfl) ?_
  refine lv_iload_n hx hb dL_stateTemperature_3 rfl (lv_at hl 1 rfl) ?_
  refine lv_iload_n hx hb dL_stateTemperature_4 rfl (lv_at hl 2 rfl) ?_
  refine cx_catch (isC := [0]) (isR := []) (wr := []) (hp := []) (z := (0, 10, 13, 13)) (hq := [(0, 10, 17, 45)]) (name := "java/lang/IllegalArgumentException") (own := RL) (rx_V (ci := 14) (q0 := 0) (isC := [0]) (wc := [(a0, .inr (14, [v0, v1, v2, v3, v4, v5, v6]))]) (As := [.int x0, .int x1]) (rest := [.int 0, .ref b0]) (n := 2) hx hb hml hown hts hE hS hP hD hA hl.1 (k194_X9_stateTemperature l hst D cy g x0 x1 a0 (v0) (v1) (v2) (v3) (v4) (v5) (v6) s.heap.size h0 h1) rfl rfl rfl rfl rfl ax_174 rfl rfl ax_175 ⟨Nat.le_of_ble_eq_true rfl, Nat.le_of_ble_eq_true rfl⟩ rfl rfl (Nat.le_of_ble_eq_true rfl) dL_stateTemperature_5 ⟨(Nat.le_of_ble_eq_true rfl), (Nat.le_of_ble_eq_true rfl)⟩) hP hD hS hA hown hts hE htb rfl rfl rfl rfl (by decide) (fun z hz => by cases hz) (by decide) (by decide) tw_302 tw_303 (fun qx H locs hP hD hS => ?_)
  have hP : va_P D vwCl [] H := hP
  have hD : va_D A [] := hD
  refine lv_astore (lv' := [(4, .ref qx), (0, .ref a0), (1, .int x0), (2, .int x1), (3, .ref b0)]) hx hb dL_stateTemperature_13 hl (Nat.le_of_ble_eq_true rfl) rfl (fun ls hl => ?_)
  refine lv_iconst (v := 1) hx hb dL_stateTemperature_15 (by decide) ?_
  exact en_z hx hb hr hlk hP hD hS rfl (fun _ => 0) (is := []) rfl rfl (Nat.le_of_ble_eq_true rfl) (Nat.le_of_ble_eq_true rfl) dL_stateTemperature_16
set_option maxHeartbeats 4000000 in
set_option maxRecDepth 100000 in
theorem k196_X10_stateTemperature (l : Launch) (D : va_G) (cy : Nat → ClassId) (g : Nat → Nat) (x0 : Int32) (x1 : Int32) (a0 : Nat) (v0 : Value) (v1 : Value) (v2 : Value) (v3 : Value) (v4 : Value) (v5 : Value) (v6 : Value) (v7 : Value) (v8 : Value) (v9 : Value) (v10 : Value) (v11 : Value) (v12 : Value) (v13 : Value) (v14 : Value) (v15 : Value) (v16 : Value) (v17 : Value) (v18 : Value) (v19 : Value) (v20 : Value) (v21 : Value) (v22 : Value) (v23 : Value) (v24 : Value) (v25 : Value) (v26 : Value) (v27 : Value) (sz : Nat) (h0 : ¬ x1 < 0) (h1 : (20000 : Int32) < x1) : Met l yX10_stateTemperature [.code yX10_stateTemperature cX10_stateTemperature 3 (some .int)] ({ frames := 2, cells := 0, slots := 0, locals := 47 }) (PC D cy g [(a0, .inr (15, [v0, v1, v2, v3, v4, v5, v6, v7, v8, v9, v10, v11, v12, v13, v14, v15, v16, v17, v18, v19, v20, v21, v22, v23, v24, v25, v26, v27]))] sz [.ref a0, .int x0, .int x1]) (QI D (-1) (fun ad => [(a0, .inr (15, [.int 1, v1, v2, v3, v4, v5, v6, v7, v8, v9, v10, v11, v12, v13, v14, v15, v16, v17, v18, v19, v20, v21, v22, v23, v24, v25, v26, v27]))]) (va_A [(a0, .inr (15, [v0, v1, v2, v3, v4, v5, v6, v7, v8, v9, v10, v11, v12, v13, v14, v15, v16, v17, v18, v19, v20, v21, v22, v23, v24, v25, v26, v27]))] sz)) 0 0 (va_A [(a0, .inr (15, [v0, v1, v2, v3, v4, v5, v6, v7, v8, v9, v10, v11, v12, v13, v14, v15, v16, v17, v18, v19, v20, v21, v22, v23, v24, v25, v26, v27]))] sz) := by
  refine st_I (by decide) (Nat.le_of_ble_eq_true rfl) ?_
  intro p e s m args below meth c A ls hx hb hr hml hown hlk hnm hsz hP hD hA hE hts hS hl
  have hown : s.vm.findClass RX10 = some m.cls := hown
  have hl : lv_has ls 3 [(0, .ref a0), (1, .int x0), (2, .int x1)] := hl
  refine lv_aload_n hx hb dX10_stateTemperature_0 rfl (lv_at hl 0 rfl) ?_
  refine ca_v (isC := [0]) (isR := []) (wr := []) (rn_V (ci := 15) (q0 := 0) (isC := [0]) (wc := [(a0, .inr (15, [v0, v1, v2, v3, v4, v5, v6, v7, v8, v9, v10, v11, v12, v13, v14, v15, v16, v17, v18, v19, v20, v21, v22, v23, v24, v25, v26, v27]))]) (As := []) (rest := []) (n := 0) hx hb hml hown hts hE hS hP hD hA hl.1 (k20_X10_begins l D cy g a0 (v0) (v1) (v2) (v3) (v4) (v5) (v6) (v7) (v8) (v9) (v10) (v11) (v12) (v13) (v14) (v15) (v16) (v17) (v18) (v19) (v20) (v21) (v22) (v23) (v24) (v25) (v26) (v27) s.heap.size ) rfl rfl rfl rfl rfl ax_37 rfl rfl ax_38 ⟨Nat.le_of_ble_eq_true rfl, Nat.le_of_ble_eq_true rfl⟩ rfl rfl (Nat.le_of_ble_eq_true rfl) dX10_stateTemperature_1 ⟨(Nat.le_of_ble_eq_true rfl), (Nat.le_of_ble_eq_true rfl)⟩) hP hD hS hA rfl rfl rfl (by decide) (fun ad1 H locs hP hD hS => ?_)
  have hP : va_P D vwCl [(a0, .inr (15, [.int 0, v1, v2, v3, v4, v5, v6, v7, v8, v9, v10, v11, v12, v13, v14, v15, v16, v17, v18, v19, v20, v21, v22, v23, v24, v25, v26, v27]))] H := hP
  have hD : va_D A [(a0, .inr (15, [.int 0, v1, v2, v3, v4, v5, v6, v7, v8, v9, v10, v11, v12, v13, v14, v15, v16, v17, v18, v19, v20, v21, v22, v23, v24, v25, v26, v27]))] := hD
  refine lv_aload_n hx hb dX10_stateTemperature_4 rfl (lv_at hl 0 rfl) ?_
  refine lv_iload_n hx hb dX10_stateTemperature_5 rfl (lv_at hl 1 rfl) ?_
  refine lv_iload_n hx hb dX10_stateTemperature_6 rfl (lv_at hl 2 rfl) ?_
  refine ca_i (isC := [0]) (isR := []) (wr := []) (rn_V (ci := 15) (q0 := 0) (isC := [0]) (wc := [(a0, .inr (15, [.int 0, v1, v2, v3, v4, v5, v6, v7, v8, v9, v10, v11, v12, v13, v14, v15, v16, v17, v18, v19, v20, v21, v22, v23, v24, v25, v26, v27]))]) (As := [.int x0, .int x1]) (rest := []) (n := 2) hx hb hml hown hts hE hS hP hD hA hl.1 (k174_X10_noState l D cy g x0 x1 a0 (v1) (v2) (v3) (v4) (v5) (v6) (v7) (v8) (v9) (v10) (v11) (v12) (v13) (v14) (v15) (v16) (v17) (v18) (v19) (v20) (v21) (v22) (v23) (v24) (v25) (v26) (v27) H.size h0 h1) rfl rfl rfl rfl rfl ax_164 rfl rfl ax_165 ⟨Nat.le_of_ble_eq_true rfl, Nat.le_of_ble_eq_true rfl⟩ rfl rfl (Nat.le_of_ble_eq_true rfl) dX10_stateTemperature_7 ⟨(Nat.le_of_ble_eq_true rfl), (Nat.le_of_ble_eq_true rfl)⟩) hP hD hS hA rfl rfl rfl (by decide) (fun ad7 H locs hP hD hS => ?_)
  have hP : va_P D vwCl [(a0, .inr (15, [.int 1, v1, v2, v3, v4, v5, v6, v7, v8, v9, v10, v11, v12, v13, v14, v15, v16, v17, v18, v19, v20, v21, v22, v23, v24, v25, v26, v27]))] H := hP
  have hD : va_D A [(a0, .inr (15, [.int 1, v1, v2, v3, v4, v5, v6, v7, v8, v9, v10, v11, v12, v13, v14, v15, v16, v17, v18, v19, v20, v21, v22, v23, v24, v25, v26, v27]))] := hD
  refine lv_if_eq (tgt := 17) hx hb dX10_stateTemperature_10 (by decide) (fun z => absurd z (by decide)) (fun _ => ?_)
  refine lv_iconst (v := (-1)) hx hb dX10_stateTemperature_13 (by decide) ?_
  refine lv_goto (tgt := 23) hx hb dX10_stateTemperature_14 (by decide) ?_
  exact en_z hx hb hr hlk hP hD hS rfl (fun _ => 0) (is := [0]) rfl rfl (Nat.le_of_ble_eq_true rfl) (Nat.le_of_ble_eq_true rfl) dX10_stateTemperature_23
set_option maxHeartbeats 4000000 in
set_option maxRecDepth 100000 in
theorem k197_X9_stateTemperature (l : Launch) (hst : l.stackTraces = false) (D : va_G) (cy : Nat → ClassId) (g : Nat → Nat) (x0 : Int32) (x1 : Int32) (a0 : Nat) (a1 : Nat) (v0 : Value) (v1 : Value) (v2 : Value) (v3 : Value) (v4 : Value) (v5 : Value) (v6 : Value) (v7 : Value) (v8 : Value) (v9 : Value) (sz : Nat) (h0 : ¬ x1 < 0) (h1 : ¬ (20000 : Int32) < x1) : vx_Met l yX9_stateTemperature [.code yX9_stateTemperature cX9_stateTemperature 3 (some .int)] ({ frames := 8, cells := 1, slots := 6, locals := 125 }) (PC D cy g [(a0, .inr (14, [v0, .ref a1, v1, v2, v3, v4, v5])), (a1, .inr (12, [v6, v7, v8, v9, .int 0]))] sz [.ref a0, .int x0, .int x1]) QN (XE "java/util/NoSuchElementException" (va_A [(a0, .inr (14, [v0, .ref a1, v1, v2, v3, v4, v5])), (a1, .inr (12, [v6, v7, v8, v9, .int 0]))] sz)) 1 6 (va_A [(a0, .inr (14, [v0, .ref a1, v1, v2, v3, v4, v5])), (a1, .inr (12, [v6, v7, v8, v9, .int 0]))] sz) := by
  refine st_X (by decide) (Nat.le_of_ble_eq_true rfl) ?_
  intro p e s m args below meth c A ls hx hb hr hml hown hlk hnm hsz hP hD hA hE hts hS hl hout
  have hown : s.vm.findClass RX9 = some m.cls := hown
  have hl : lv_has ls 3 [(0, .ref a0), (1, .int x0), (2, .int x1)] := hl
  refine lv_aload_n hx hb dX9_stateTemperature_0 rfl (lv_at hl 0 rfl) ?_
  refine lv_iload_n hx hb dX9_stateTemperature_1 rfl (lv_at hl 1 rfl) ?_
  refine lv_iload_n hx hb dX9_stateTemperature_2 rfl (lv_at hl 2 rfl) ?_
  exact cx_out (isC := [0, 1]) (rx_V (ci := 14) (q0 := 0) (isC := [0, 1]) (wc := [(a0, .inr (14, [v0, .ref a1, v1, v2, v3, v4, v5])), (a1, .inr (12, [v6, v7, v8, v9, .int 0]))]) (As := [.int x0, .int x1]) (rest := []) (n := 2) hx hb hml hown hts hE hS hP hD hA hl.1 (k177_X9_requireState l hst D cy g x0 x1 a0 a1 (v0) (v1) (v2) (v3) (v4) (v5) (v6) (v7) (v8) (v9) s.heap.size h0 h1) rfl rfl rfl rfl rfl ax_158 rfl rfl ax_159 ⟨Nat.le_of_ble_eq_true rfl, Nat.le_of_ble_eq_true rfl⟩ rfl rfl (Nat.le_of_ble_eq_true rfl) dX9_stateTemperature_3 ⟨(Nat.le_of_ble_eq_true rfl), (Nat.le_of_ble_eq_true rfl)⟩) hD hS hA rfl hout hlk (Nat.le_of_ble_eq_true rfl) (Nat.le_of_ble_eq_true rfl)
set_option maxHeartbeats 4000000 in
set_option maxRecDepth 100000 in
theorem k198_L_stateTemperature (l : Launch) (hst : l.stackTraces = false) (D : va_G) (cy : Nat → ClassId) (g : Nat → Nat) (x0 : Int32) (x1 : Int32) (a0 : Nat) (a1 : Nat) (b0 : Nat) (v0 : Value) (v1 : Value) (v2 : Value) (v3 : Value) (v4 : Value) (v5 : Value) (v6 : Value) (v7 : Value) (v8 : Value) (v9 : Value) (sz : Nat) (h0 : ¬ x1 < 0) (h1 : ¬ (20000 : Int32) < x1) : Met l yL_stateTemperature [.codeWith yL_stateTemperature cL_stateTemperature 5 (some .int) [(0, 10, 13, 13), (0, 10, 17, 45)]] ({ frames := 9, cells := 1, slots := 6, locals := 147 }) (PC D cy g [(a0, .inr (14, [v0, .ref a1, v1, v2, v3, v4, v5])), (a1, .inr (12, [v6, v7, v8, v9, .int 0]))] sz [.ref a0, .int x0, .int x1, .ref b0]) (QI D 2 (fun ad => []) (va_A [(a0, .inr (14, [v0, .ref a1, v1, v2, v3, v4, v5])), (a1, .inr (12, [v6, v7, v8, v9, .int 0]))] sz)) 1 6 (va_A [(a0, .inr (14, [v0, .ref a1, v1, v2, v3, v4, v5])), (a1, .inr (12, [v6, v7, v8, v9, .int 0]))] sz) := by
  refine sh_I (by decide) (Nat.le_of_ble_eq_true rfl) ?_
  intro p e s m args below meth c A ls hx hb hr hml hown hlk hnm hsz hP hD hA hE hts hS hl htb
  have hown : s.vm.findClass RL = some m.cls := hown
  have hl : lv_has ls 5 [(0, .ref a0), (1, .int x0), (2, .int x1), (3, .ref b0)] := hl
  refine lv_aload_n hx hb dL_stateTemperature_0 rfl (lv_at hl 3 rfl) ?_
  refine lv_iconst (v := 0) hx hb dL_stateTemperature_1 (by decide) ?_
  refine lv_aload_n hx hb dL_stateTemperature_2 rfl (lv_at hl 0 rfl) ?_
  refine lv_iload_n hx hb dL_stateTemperature_3 rfl (lv_at hl 1 rfl) ?_
  refine lv_iload_n hx hb dL_stateTemperature_4 rfl (lv_at hl 2 rfl) ?_
  refine cx_catch (isC := [0, 1]) (isR := []) (wr := []) (hp := [(0, 10, 13, 13)]) (z := (0, 10, 17, 45)) (hq := []) (name := "java/util/NoSuchElementException") (own := RL) (rx_V (ci := 14) (q0 := 0) (isC := [0, 1]) (wc := [(a0, .inr (14, [v0, .ref a1, v1, v2, v3, v4, v5])), (a1, .inr (12, [v6, v7, v8, v9, .int 0]))]) (As := [.int x0, .int x1]) (rest := [.int 0, .ref b0]) (n := 2) hx hb hml hown hts hE hS hP hD hA hl.1 (k197_X9_stateTemperature l hst D cy g x0 x1 a0 a1 (v0) (v1) (v2) (v3) (v4) (v5) (v6) (v7) (v8) (v9) s.heap.size h0 h1) rfl rfl rfl rfl rfl ax_174 rfl rfl ax_175 ⟨Nat.le_of_ble_eq_true rfl, Nat.le_of_ble_eq_true rfl⟩ rfl rfl (Nat.le_of_ble_eq_true rfl) dL_stateTemperature_5 ⟨(Nat.le_of_ble_eq_true rfl), (Nat.le_of_ble_eq_true rfl)⟩) hP hD hS hA hown hts hE htb rfl rfl rfl rfl (by decide) (fun z hz => by rcases List.mem_singleton.mp hz with rfl; exact ⟨by decide, "java/lang/IllegalArgumentException", tw_302, by decide +kernel⟩) (by decide) (by decide) tw_534 tw_535 (fun qx H locs hP hD hS => ?_)
  have hP : va_P D vwCl [] H := hP
  have hD : va_D A [] := hD
  refine lv_astore (lv' := [(4, .ref qx), (0, .ref a0), (1, .int x0), (2, .int x1), (3, .ref b0)]) hx hb dL_stateTemperature_17 hl (Nat.le_of_ble_eq_true rfl) rfl (fun ls hl => ?_)
  refine lv_iconst (v := 2) hx hb dL_stateTemperature_19 (by decide) ?_
  exact en_z hx hb hr hlk hP hD hS rfl (fun _ => 0) (is := []) rfl rfl (Nat.le_of_ble_eq_true rfl) (Nat.le_of_ble_eq_true rfl) dL_stateTemperature_20
set_option maxHeartbeats 4000000 in
set_option maxRecDepth 100000 in
theorem k199_X10_stateTemperature (l : Launch) (D : va_G) (cy : Nat → ClassId) (g : Nat → Nat) (x0 : Int32) (x1 : Int32) (a0 : Nat) (a1 : Nat) (v0 : Value) (v1 : Value) (v2 : Value) (v3 : Value) (v4 : Value) (v5 : Value) (v6 : Value) (v7 : Value) (v8 : Value) (v9 : Value) (v10 : Value) (v11 : Value) (v12 : Value) (v13 : Value) (v14 : Value) (v15 : Value) (v16 : Value) (v17 : Value) (v18 : Value) (v19 : Value) (v20 : Value) (v21 : Value) (v22 : Value) (v23 : Value) (v24 : Value) (v25 : Value) (v26 : Value) (v27 : Value) (v28 : Value) (sz : Nat) (h0 : ¬ x1 < 0) (h1 : ¬ (20000 : Int32) < x1) : Met l yX10_stateTemperature [.code yX10_stateTemperature cX10_stateTemperature 3 (some .int)] ({ frames := 3, cells := 0, slots := 0, locals := 63 }) (PC D cy g [(a0, .inr (15, [v0, v1, v2, v3, v4, v5, .ref a1, v6, v7, v8, v9, v10, v11, v12, v13, v14, v15, v16, v17, v18, v19, v20, v21, v22, v23, v24, v25, v26])), (a1, .inr (4, [v27, v28, .int 0]))] sz [.ref a0, .int x0, .int x1]) (QI D (-1) (fun ad => [(a0, .inr (15, [.int 2, v1, v2, v3, v4, v5, .ref a1, v6, v7, v8, v9, v10, v11, v12, v13, v14, v15, v16, v17, v18, v19, v20, v21, v22, v23, v24, v25, v26]))]) (va_A [(a0, .inr (15, [v0, v1, v2, v3, v4, v5, .ref a1, v6, v7, v8, v9, v10, v11, v12, v13, v14, v15, v16, v17, v18, v19, v20, v21, v22, v23, v24, v25, v26])), (a1, .inr (4, [v27, v28, .int 0]))] sz)) 0 0 (va_A [(a0, .inr (15, [v0, v1, v2, v3, v4, v5, .ref a1, v6, v7, v8, v9, v10, v11, v12, v13, v14, v15, v16, v17, v18, v19, v20, v21, v22, v23, v24, v25, v26])), (a1, .inr (4, [v27, v28, .int 0]))] sz) := by
  refine st_I (by decide) (Nat.le_of_ble_eq_true rfl) ?_
  intro p e s m args below meth c A ls hx hb hr hml hown hlk hnm hsz hP hD hA hE hts hS hl
  have hown : s.vm.findClass RX10 = some m.cls := hown
  have hl : lv_has ls 3 [(0, .ref a0), (1, .int x0), (2, .int x1)] := hl
  refine lv_aload_n hx hb dX10_stateTemperature_0 rfl (lv_at hl 0 rfl) ?_
  refine ca_v (isC := [0]) (isR := [1]) (wr := [(a1, .inr (4, [v27, v28, .int 0]))]) (rn_V (ci := 15) (q0 := 0) (isC := [0]) (wc := [(a0, .inr (15, [v0, v1, v2, v3, v4, v5, .ref a1, v6, v7, v8, v9, v10, v11, v12, v13, v14, v15, v16, v17, v18, v19, v20, v21, v22, v23, v24, v25, v26]))]) (As := []) (rest := []) (n := 0) hx hb hml hown hts hE hS hP hD hA hl.1 (k20_X10_begins l D cy g a0 (v0) (v1) (v2) (v3) (v4) (v5) (.ref a1) (v6) (v7) (v8) (v9) (v10) (v11) (v12) (v13) (v14) (v15) (v16) (v17) (v18) (v19) (v20) (v21) (v22) (v23) (v24) (v25) (v26) s.heap.size ) rfl rfl rfl rfl rfl ax_37 rfl rfl ax_38 ⟨Nat.le_of_ble_eq_true rfl, Nat.le_of_ble_eq_true rfl⟩ rfl rfl (Nat.le_of_ble_eq_true rfl) dX10_stateTemperature_1 ⟨(Nat.le_of_ble_eq_true rfl), (Nat.le_of_ble_eq_true rfl)⟩) hP hD hS hA rfl rfl rfl (by decide) (fun ad1 H locs hP hD hS => ?_)
  have hP : va_P D vwCl [(a1, .inr (4, [v27, v28, .int 0])), (a0, .inr (15, [.int 0, v1, v2, v3, v4, v5, .ref a1, v6, v7, v8, v9, v10, v11, v12, v13, v14, v15, v16, v17, v18, v19, v20, v21, v22, v23, v24, v25, v26]))] H := hP
  have hD : va_D A [(a1, .inr (4, [v27, v28, .int 0])), (a0, .inr (15, [.int 0, v1, v2, v3, v4, v5, .ref a1, v6, v7, v8, v9, v10, v11, v12, v13, v14, v15, v16, v17, v18, v19, v20, v21, v22, v23, v24, v25, v26]))] := hD
  refine lv_aload_n hx hb dX10_stateTemperature_4 rfl (lv_at hl 0 rfl) ?_
  refine lv_iload_n hx hb dX10_stateTemperature_5 rfl (lv_at hl 1 rfl) ?_
  refine lv_iload_n hx hb dX10_stateTemperature_6 rfl (lv_at hl 2 rfl) ?_
  refine ca_i (isC := [1, 0]) (isR := []) (wr := []) (rn_V (ci := 15) (q0 := 1) (isC := [1, 0]) (wc := [(a0, .inr (15, [.int 0, v1, v2, v3, v4, v5, .ref a1, v6, v7, v8, v9, v10, v11, v12, v13, v14, v15, v16, v17, v18, v19, v20, v21, v22, v23, v24, v25, v26])), (a1, .inr (4, [v27, v28, .int 0]))]) (As := [.int x0, .int x1]) (rest := []) (n := 2) hx hb hml hown hts hE hS hP hD hA hl.1 (k180_X10_noState l D cy g x0 x1 a0 a1 (v1) (v2) (v3) (v4) (v5) (v6) (v7) (v8) (v9) (v10) (v11) (v12) (v13) (v14) (v15) (v16) (v17) (v18) (v19) (v20) (v21) (v22) (v23) (v24) (v25) (v26) (v27) (v28) H.size h0 h1) rfl rfl rfl rfl rfl ax_164 rfl rfl ax_165 ⟨Nat.le_of_ble_eq_true rfl, Nat.le_of_ble_eq_true rfl⟩ rfl rfl (Nat.le_of_ble_eq_true rfl) dX10_stateTemperature_7 ⟨(Nat.le_of_ble_eq_true rfl), (Nat.le_of_ble_eq_true rfl)⟩) hP hD hS hA rfl rfl rfl (by decide) (fun ad7 H locs hP hD hS => ?_)
  have hP : va_P D vwCl [(a0, .inr (15, [.int 2, v1, v2, v3, v4, v5, .ref a1, v6, v7, v8, v9, v10, v11, v12, v13, v14, v15, v16, v17, v18, v19, v20, v21, v22, v23, v24, v25, v26])), (a1, .inr (4, [v27, v28, .int 0]))] H := hP
  have hD : va_D A [(a0, .inr (15, [.int 2, v1, v2, v3, v4, v5, .ref a1, v6, v7, v8, v9, v10, v11, v12, v13, v14, v15, v16, v17, v18, v19, v20, v21, v22, v23, v24, v25, v26])), (a1, .inr (4, [v27, v28, .int 0]))] := hD
  refine lv_if_eq (tgt := 17) hx hb dX10_stateTemperature_10 (by decide) (fun z => absurd z (by decide)) (fun _ => ?_)
  refine lv_iconst (v := (-1)) hx hb dX10_stateTemperature_13 (by decide) ?_
  refine lv_goto (tgt := 23) hx hb dX10_stateTemperature_14 (by decide) ?_
  exact en_z hx hb hr hlk hP hD hS rfl (fun _ => 0) (is := [0]) rfl rfl (Nat.le_of_ble_eq_true rfl) (Nat.le_of_ble_eq_true rfl) dX10_stateTemperature_23
set_option maxHeartbeats 4000000 in
set_option maxRecDepth 100000 in
theorem k200_X3_isPart (l : Launch) (D : va_G) (cy : Nat → ClassId) (g : Nat → Nat) (x0 : Int32) (x1 : Int32) (sz : Nat) (h0 : x0 < 1) : Met l yX3_isPart [.code yX3_isPart cX3_isPart 3 (some .boolean)] ({ frames := 1, cells := 0, slots := 0, locals := 22 }) (PC D cy g [] sz [.int 104, .int x0, .int x1]) (QI D 0 (fun ad => []) (va_A [] sz)) 0 0 (va_A [] sz) := by
  refine st_I (by decide) (Nat.le_of_ble_eq_true rfl) ?_
  intro p e s m args below meth c A ls hx hb hr hml hown hlk hnm hsz hP hD hA hE hts hS hl
  have hown : s.vm.findClass RX3 = some m.cls := hown
  have hl : lv_has ls 3 [(0, .int 104), (1, .int x0), (2, .int x1)] := hl
  refine lv_iload_n hx hb dX3_isPart_0 rfl (lv_at hl 0 rfl) ?_
  refine lv_bipush (v := 104) hx hb dX3_isPart_1 (by decide) ?_
  refine lv_icmp_ne (tgt := 23) hx hb dX3_isPart_3 (by decide) (fun z => absurd (by decide) z) (fun _ => ?_)
  refine lv_iload_n hx hb dX3_isPart_6 rfl (lv_at hl 1 rfl) ?_
  refine lv_iconst (v := 1) hx hb dX3_isPart_7 (by decide) ?_
  refine lv_sipush (v := 9999) hx hb dX3_isPart_8 (by decide) ?_
  refine ca_i (isC := []) (isR := []) (wr := []) (rn_SN (isC := []) (wc := []) (As := [.int x0, .int 1, .int 9999]) (rest := []) (n := 3) hx hb hml hown hts hE hS hP hD hA hl.1 (k17_X9_isOutside l D cy g x0 1 9999 s.heap.size h0) rfl rfl tw_619 tw_293 tw_294 tw_295 rfl rfl ax_31 ⟨Nat.le_of_ble_eq_true rfl, Nat.le_of_ble_eq_true rfl⟩ rfl rfl (Nat.le_of_ble_eq_true rfl) dX3_isPart_11 ⟨(Nat.le_of_ble_eq_true rfl), (Nat.le_of_ble_eq_true rfl)⟩) hP hD hS hA rfl rfl rfl (by decide) (fun ad11 H locs hP hD hS => ?_)
  have hP : va_P D vwCl [] H := hP
  have hD : va_D A [] := hD
  refine lv_if_ne (tgt := 21) hx hb dX3_isPart_14 (by decide) (fun _ => ?_) (fun z => absurd z (by decide))
  refine lv_iconst (v := 0) hx hb dX3_isPart_21 (by decide) ?_
  exact en_z hx hb hr hlk hP hD hS rfl (fun _ => 0) (is := []) rfl rfl (Nat.le_of_ble_eq_true rfl) (Nat.le_of_ble_eq_true rfl) dX3_isPart_22
set_option maxHeartbeats 4000000 in
set_option maxRecDepth 100000 in
theorem k201_X9_addPart (l : Launch) (hst : l.stackTraces = false) (D : va_G) (cy : Nat → ClassId) (g : Nat → Nat) (x0 : Int32) (x1 : Int32) (b0 : Nat) (sz : Nat) (h0 : x0 < 1) : vx_Met l yX9_addPart [.code yX9_addPart cX9_addPart 4 (some .int)] ({ frames := 6, cells := 1, slots := 6, locals := 82 }) (PC D cy g [] sz [.ref b0, .int 104, .int x0, .int x1]) QN (XE "java/lang/IllegalArgumentException" (va_A [] sz)) 1 6 (va_A [] sz) := by
  refine st_X (by decide) (Nat.le_of_ble_eq_true rfl) ?_
  intro p e s m args below meth c A ls hx hb hr hml hown hlk hnm hsz hP hD hA hE hts hS hl hout
  have hown : s.vm.findClass RX9 = some m.cls := hown
  have hl : lv_has ls 4 [(0, .ref b0), (1, .int 104), (2, .int x0), (3, .int x1)] := hl
  refine lv_iload_n hx hb dX9_addPart_0 rfl (lv_at hl 1 rfl) ?_
  refine lv_iload_n hx hb dX9_addPart_1 rfl (lv_at hl 2 rfl) ?_
  refine lv_iload_n hx hb dX9_addPart_2 rfl (lv_at hl 3 rfl) ?_
  refine ca_i (isC := []) (isR := []) (wr := []) (rn_S (isC := []) (wc := []) (As := [.int 104, .int x0, .int x1]) (rest := []) (n := 3) hx hb hml hown hts hE hS hP hD hA hl.1 (k200_X3_isPart l D cy g x0 x1 s.heap.size h0) rfl rfl ax_180 rfl rfl ax_181 ⟨Nat.le_of_ble_eq_true rfl, Nat.le_of_ble_eq_true rfl⟩ rfl rfl (Nat.le_of_ble_eq_true rfl) dX9_addPart_3 ⟨(Nat.le_of_ble_eq_true rfl), (Nat.le_of_ble_eq_true rfl)⟩) hP hD hS hA rfl rfl rfl (by decide) (fun ad3 H locs hP hD hS => ?_)
  have hP : va_P D vwCl [] H := hP
  have hD : va_D A [] := hD
  refine lv_if_ne (tgt := 19) hx hb dX9_addPart_6 (by decide) (fun z => absurd (by decide) z) (fun _ => ?_)
  exact th_S (text := "there is no such part") hx hb hst hown hts hE hS (hl.1.trans hml.symm) hout hlk (by decide +kernel) tw_296 tw_297 ax_32 (by decide +kernel) dX9_addPart_9 dX9_addPart_12 dX9_addPart_13 dX9_addPart_15 dX9_addPart_18 ⟨Nat.le_of_ble_eq_true rfl, Nat.le_of_ble_eq_true rfl, Nat.le_of_ble_eq_true rfl, Nat.le_of_ble_eq_true rfl⟩ (Nat.le_of_ble_eq_true rfl) (Nat.le_of_ble_eq_true rfl)
set_option maxHeartbeats 4000000 in
set_option maxRecDepth 100000 in
theorem k202_L_addPart (l : Launch) (hst : l.stackTraces = false) (D : va_G) (cy : Nat → ClassId) (g : Nat → Nat) (x0 : Int32) (x1 : Int32) (a0 : Nat) (b0 : Nat) (v0 : Value) (v1 : Value) (v2 : Value) (v3 : Value) (v4 : Value) (v5 : Value) (v6 : Value) (sz : Nat) (h0 : x0 < 1) : Met l yL_addPart [.codeWith yL_addPart cL_addPart 6 (some .int) [(0, 12, 15, 13), (0, 12, 19, 15)]] ({ frames := 7, cells := 1, slots := 6, locals := 105 }) (PC D cy g [(a0, .inr (14, [v0, v1, v2, v3, v4, v5, v6]))] sz [.ref a0, .int 104, .int x0, .int x1, .ref b0]) (QI D 1 (fun ad => []) (va_A [(a0, .inr (14, [v0, v1, v2, v3, v4, v5, v6]))] sz)) 1 6 (va_A [(a0, .inr (14, [v0, v1, v2, v3, v4, v5, v6]))] sz) := by
  refine sh_I (by decide) (Nat.le_of_ble_eq_true rfl) ?_
  intro p e s m args below meth c A ls hx hb hr hml hown hlk hnm hsz hP hD hA hE hts hS hl htb
  have hown : s.vm.findClass RL = some m.cls := hown
  have hl : lv_has ls 6 [(0, .ref a0), (1, .int 104), (2, .int x0), (3, .int x1), (4, .ref b0)] := hl
  refine lv_aload hx hb dL_addPart_0 (lv_at hl 4 rfl) ?_
  refine lv_iconst (v := 0) hx hb dL_addPart_2 (by decide) ?_
  refine lv_aload_n hx hb dL_addPart_3 rfl (lv_at hl 0 rfl) ?_
  refine lv_iload_n hx hb dL_addPart_4 rfl (lv_at hl 1 rfl) ?_
  refine lv_iload_n hx hb dL_addPart_5 rfl (lv_at hl 2 rfl) ?_
  refine lv_iload_n hx hb dL_addPart_6 rfl (lv_at hl 3 rfl) ?_
  refine cx_catch (isC := []) (isR := [0]) (wr := [(a0, .inr (14, [v0, v1, v2, v3, v4, v5, v6]))]) (hp := []) (z := (0, 12, 15, 13)) (hq := [(0, 12, 19, 15)]) (name := "java/lang/IllegalArgumentException") (own := RL) (rx_V (ci := 14) (q0 := 0) (isC := []) (wc := []) (As := [.int 104, .int x0, .int x1]) (rest := [.int 0, .ref b0]) (n := 3) hx hb hml hown hts hE hS hP hD hA hl.1 (k201_X9_addPart l hst D cy g x0 x1 a0 s.heap.size h0) rfl rfl rfl rfl rfl ax_182 rfl rfl ax_183 ⟨Nat.le_of_ble_eq_true rfl, Nat.le_of_ble_eq_true rfl⟩ rfl rfl (Nat.le_of_ble_eq_true rfl) dL_addPart_7 ⟨(Nat.le_of_ble_eq_true rfl), (Nat.le_of_ble_eq_true rfl)⟩) hP hD hS hA hown hts hE htb rfl rfl rfl rfl (by decide) (fun z hz => by cases hz) (by decide) (by decide) tw_302 tw_303 (fun qx H locs hP hD hS => ?_)
  have hP : va_P D vwCl [(a0, .inr (14, [v0, v1, v2, v3, v4, v5, v6]))] H := hP
  have hD : va_D A [(a0, .inr (14, [v0, v1, v2, v3, v4, v5, v6]))] := hD
  refine lv_astore (lv' := [(5, .ref qx), (0, .ref a0), (1, .int 104), (2, .int x0), (3, .int x1), (4, .ref b0)]) hx hb dL_addPart_15 hl (Nat.le_of_ble_eq_true rfl) rfl (fun ls hl => ?_)
  refine lv_iconst (v := 1) hx hb dL_addPart_17 (by decide) ?_
  exact en_z hx hb hr hlk hP hD hS rfl (fun _ => 0) (is := []) rfl rfl (Nat.le_of_ble_eq_true rfl) (Nat.le_of_ble_eq_true rfl) dL_addPart_18
set_option maxHeartbeats 4000000 in
set_option maxRecDepth 100000 in
theorem k203_J0_isLatin1_aae02 (l : Launch) (D : va_G) (cy : Nat → ClassId) (g : Nat → Nat)  (sz : Nat)  : Met l yJ0_isLatin1_aae02 [.code yJ0_isLatin1_aae02 cJ0_isLatin1_aae02 1 (some .boolean)] ({ frames := 0, cells := 0, slots := 0, locals := 0 }) (PC D cy g [] sz [.ref (g (0 + 1))]) (QI D 1 (fun ad => []) (va_A [] sz)) 0 0 (va_A [] sz) := by
  refine st_I (by decide) (Nat.le_of_ble_eq_true rfl) ?_
  intro p e s m args below meth c A ls hx hb hr hml hown hlk hnm hsz hP hD hA hE hts hS hl
  have hown : s.vm.findClass RJ0 = some m.cls := hown
  have hl : lv_has ls 1 [(0, .ref (g (0 + 1)))] := hl
  refine va_gets (C := "java/lang/String") (n := "COMPACT_STRINGS") (d := "Z") hx hb hE.2.2.2.2.2.2.2.2.2.1 hS hown (hts _ tw_630) (fun _ h9 => h9) dJ0_isLatin1_aae02_0 ?_
  refine lv_if_eq (tgt := 17) hx hb dJ0_isLatin1_aae02_3 (by decide) (fun z => absurd z (by decide)) (fun _ => ?_)
  refine lv_aload_n hx hb dJ0_isLatin1_aae02_6 rfl (lv_at hl 0 rfl) ?_
  refine vk_getf (v := .int 0) hx hb (hE.2.2.2.2.2.2.2.2.2.2.1 0 (by decide)).2.1 hS hown (hts _ tw_631) (fun _ h9 => h9) dJ0_isLatin1_aae02_7 ?_
  refine lv_if_ne (tgt := 17) hx hb dJ0_isLatin1_aae02_10 (by decide) (fun z => absurd (by decide) z) (fun _ => ?_)
  refine lv_iconst (v := 1) hx hb dJ0_isLatin1_aae02_13 (by decide) ?_
  refine lv_goto (tgt := 18) hx hb dJ0_isLatin1_aae02_14 (by decide) ?_
  exact en_z hx hb hr hlk hP hD hS rfl (fun _ => 0) (is := []) rfl rfl (Nat.le_of_ble_eq_true rfl) (Nat.le_of_ble_eq_true rfl) dJ0_isLatin1_aae02_18
set_option maxHeartbeats 4000000 in
set_option maxRecDepth 100000 in
theorem k204_J0_coder_7d493 (l : Launch) (D : va_G) (cy : Nat → ClassId) (g : Nat → Nat)  (sz : Nat)  : Met l yJ0_coder_7d493 [.code yJ0_coder_7d493 cJ0_coder_7d493 1 (some .byte)] ({ frames := 0, cells := 0, slots := 0, locals := 0 }) (PC D cy g [] sz [.ref (g (0 + 1))]) (QI D 0 (fun ad => []) (va_A [] sz)) 0 0 (va_A [] sz) := by
  refine st_I (by decide) (Nat.le_of_ble_eq_true rfl) ?_
  intro p e s m args below meth c A ls hx hb hr hml hown hlk hnm hsz hP hD hA hE hts hS hl
  have hown : s.vm.findClass RJ0 = some m.cls := hown
  have hl : lv_has ls 1 [(0, .ref (g (0 + 1)))] := hl
  refine va_gets (C := "java/lang/String") (n := "COMPACT_STRINGS") (d := "Z") hx hb hE.2.2.2.2.2.2.2.2.2.1 hS hown (hts _ tw_630) (fun _ h9 => h9) dJ0_coder_7d493_0 ?_
  refine lv_if_eq (tgt := 13) hx hb dJ0_coder_7d493_3 (by decide) (fun z => absurd z (by decide)) (fun _ => ?_)
  refine lv_aload_n hx hb dJ0_coder_7d493_6 rfl (lv_at hl 0 rfl) ?_
  refine vk_getf (v := .int 0) hx hb (hE.2.2.2.2.2.2.2.2.2.2.1 0 (by decide)).2.1 hS hown (hts _ tw_631) (fun _ h9 => h9) dJ0_coder_7d493_7 ?_
  refine lv_goto (tgt := 14) hx hb dJ0_coder_7d493_10 (by decide) ?_
  exact en_z hx hb hr hlk hP hD hS rfl (fun _ => 0) (is := []) rfl rfl (Nat.le_of_ble_eq_true rfl) (Nat.le_of_ble_eq_true rfl) dJ0_coder_7d493_14
set_option maxHeartbeats 4000000 in
set_option maxRecDepth 100000 in
theorem k205_J0_length_8abf5 (l : Launch) (D : va_G) (cy : Nat → ClassId) (g : Nat → Nat)  (sz : Nat)  : Met l yJ0_length_8abf5 [.code yJ0_length_8abf5 cJ0_length_8abf5 1 (some .int)] ({ frames := 1, cells := 0, slots := 0, locals := 20 }) (PC D cy g [] sz [.ref (g (0 + 1))]) (QI D 5 (fun ad => []) (va_A [] sz)) 0 0 (va_A [] sz) := by
  refine st_I (by decide) (Nat.le_of_ble_eq_true rfl) ?_
  intro p e s m args below meth c A ls hx hb hr hml hown hlk hnm hsz hP hD hA hE hts hS hl
  have hown : s.vm.findClass RJ0 = some m.cls := hown
  have hl : lv_has ls 1 [(0, .ref (g (0 + 1)))] := hl
  refine lv_aload_n hx hb dJ0_length_8abf5_0 rfl (lv_at hl 0 rfl) ?_
  refine vk_getf (v := .ref (g (0 + 3))) hx hb (hE.2.2.2.2.2.2.2.2.2.2.1 0 (by decide)).2.2.1 hS hown (hts _ tw_632) (fun _ h9 => h9) dJ0_length_8abf5_1 ?_
  refine va_tlen (v := 5) hx hb (hE.2.2.2.2.2.2.2.2.2.2.1 0 (by decide)).2.2.2 hS (by decide) dJ0_length_8abf5_4 ?_
  refine lv_aload_n hx hb dJ0_length_8abf5_5 rfl (lv_at hl 0 rfl) ?_
  refine ca_i (isC := []) (isR := []) (wr := []) (rn_VS (i := 0) (isC := []) (wc := []) (As := []) (rest := [.int 5]) (n := 0) hx hb hml hown hts hE hS hP hD hA hl.1 (k204_J0_coder_7d493 l D cy g  s.heap.size ) rfl rfl (by decide) rfl ax_186 rfl rfl ax_187 ⟨Nat.le_of_ble_eq_true rfl, Nat.le_of_ble_eq_true rfl⟩ rfl rfl (Nat.le_of_ble_eq_true rfl) dJ0_length_8abf5_6 ⟨(Nat.le_of_ble_eq_true rfl), (Nat.le_of_ble_eq_true rfl)⟩) hP hD hS hA rfl rfl rfl (by decide) (fun ad6 H locs hP hD hS => ?_)
  have hP : va_P D vwCl [] H := hP
  have hD : va_D A [] := hD
  refine lv_ishr hx hb dJ0_length_8abf5_9 ?_
  refine tp_i 5 (by decide) ?_
  exact en_z hx hb hr hlk hP hD hS rfl (fun _ => 0) (is := []) rfl rfl (Nat.le_of_ble_eq_true rfl) (Nat.le_of_ble_eq_true rfl) dJ0_length_8abf5_10
set_option maxHeartbeats 4000000 in
set_option maxRecDepth 100000 in
theorem k206_J1_canEncode_9a6ad (l : Launch) (D : va_G) (cy : Nat → ClassId) (g : Nat → Nat)  (sz : Nat)  : Met l yJ1_canEncode_9a6ad [.code yJ1_canEncode_9a6ad cJ1_canEncode_9a6ad 1 (some .boolean)] ({ frames := 0, cells := 0, slots := 0, locals := 0 }) (PC D cy g [] sz [.int 104]) (QI D 1 (fun ad => []) (va_A [] sz)) 0 0 (va_A [] sz) := by
  refine st_I (by decide) (Nat.le_of_ble_eq_true rfl) ?_
  intro p e s m args below meth c A ls hx hb hr hml hown hlk hnm hsz hP hD hA hE hts hS hl
  have hown : s.vm.findClass RJ1 = some m.cls := hown
  have hl : lv_has ls 1 [(0, .int 104)] := hl
  refine lv_iload_n hx hb dJ1_canEncode_9a6ad_0 rfl (lv_at hl 0 rfl) ?_
  refine lv_if_lt (tgt := 15) hx hb dJ1_canEncode_9a6ad_1 (by decide) (fun z => absurd z (by decide)) (fun _ => ?_)
  refine lv_iload_n hx hb dJ1_canEncode_9a6ad_4 rfl (lv_at hl 0 rfl) ?_
  refine lv_sipush (v := 255) hx hb dJ1_canEncode_9a6ad_5 (by decide) ?_
  refine lv_icmp_gt (tgt := 15) hx hb dJ1_canEncode_9a6ad_8 (by decide) (fun z => absurd z (by decide)) (fun _ => ?_)
  refine lv_iconst (v := 1) hx hb dJ1_canEncode_9a6ad_11 (by decide) ?_
  refine lv_goto (tgt := 16) hx hb dJ1_canEncode_9a6ad_12 (by decide) ?_
  exact en_z hx hb hr hlk hP hD hS rfl (fun _ => 0) (is := []) rfl rfl (Nat.le_of_ble_eq_true rfl) (Nat.le_of_ble_eq_true rfl) dJ1_canEncode_9a6ad_16
set_option maxHeartbeats 4000000 in
set_option maxRecDepth 100000 in
theorem k207_J1_indexOfChar_4cfef (l : Launch) (D : va_G) (cy : Nat → ClassId) (g : Nat → Nat)  (sz : Nat)  : Met l yJ1_indexOfChar_4cfef [.code yJ1_indexOfChar_4cfef cJ1_indexOfChar_4cfef 6 (some .int)] ({ frames := 0, cells := 0, slots := 0, locals := 0 }) (PC D cy g [] sz [.ref (g (0 + 3)), .int 104, .int 0, .int 5]) (QI D 1 (fun ad => []) (va_A [] sz)) 0 0 (va_A [] sz) := by
  refine st_I (by decide) (Nat.le_of_ble_eq_true rfl) ?_
  intro p e s m args below meth c A ls hx hb hr hml hown hlk hnm hsz hP hD hA hE hts hS hl
  have hown : s.vm.findClass RJ1 = some m.cls := hown
  have hl : lv_has ls 6 [(0, .ref (g (0 + 3))), (1, .int 104), (2, .int 0), (3, .int 5)] := hl
  refine lv_iload_n hx hb dJ1_indexOfChar_4cfef_0 rfl (lv_at hl 1 rfl) ?_
  refine lv_i2b (v := 104) hx hb dJ1_indexOfChar_4cfef_1 (by decide) ?_
  refine lv_istore (lv' := [(4, .int 104), (0, .ref (g (0 + 3))), (1, .int 104), (2, .int 0), (3, .int 5)]) hx hb dJ1_indexOfChar_4cfef_2 hl (Nat.le_of_ble_eq_true rfl) rfl (fun ls hl => ?_)
  refine lv_iload_n hx hb dJ1_indexOfChar_4cfef_4 rfl (lv_at hl 3 rfl) ?_
  refine lv_istore (lv' := [(5, .int 0), (4, .int 104), (0, .ref (g (0 + 3))), (1, .int 104), (2, .int 0), (3, .int 5)]) hx hb dJ1_indexOfChar_4cfef_5 hl (Nat.le_of_ble_eq_true rfl) rfl (fun ls hl => ?_)
  refine lv_iload hx hb dJ1_indexOfChar_4cfef_7 (lv_at hl 0 rfl) ?_
  refine lv_iload_n hx hb dJ1_indexOfChar_4cfef_9 rfl (lv_at hl 5 rfl) ?_
  refine lv_icmp_ge (tgt := 31) hx hb dJ1_indexOfChar_4cfef_10 (by decide) (fun z => absurd z (by decide)) (fun _ => ?_)
  refine lv_aload_n hx hb dJ1_indexOfChar_4cfef_13 rfl (lv_at hl 2 rfl) ?_
  refine lv_iload hx hb dJ1_indexOfChar_4cfef_14 (lv_at hl 0 rfl) ?_
  refine va_tb (v := .int 112) hx hb (hE.2.2.2.2.2.2.2.2.2.2.1 0 (by decide)).2.2.2 hS (by unfold vp_in; decide) rfl dJ1_indexOfChar_4cfef_16 ?_
  refine lv_iload hx hb dJ1_indexOfChar_4cfef_17 (lv_at hl 1 rfl) ?_
  refine lv_icmp_ne (tgt := 25) hx hb dJ1_indexOfChar_4cfef_19 (by decide) (fun _ => ?_) (fun z => absurd z (by decide))
  refine lv_iinc (v := 1) (lv' := [(5, .int 1), (4, .int 104), (0, .ref (g (0 + 3))), (1, .int 104), (2, .int 0), (3, .int 5)]) hx hb dJ1_indexOfChar_4cfef_25 hl (k := 0) rfl (by decide) (Nat.le_of_ble_eq_true rfl) rfl (fun ls hl => ?_)
  refine lv_goto (tgt := 7) hx hb dJ1_indexOfChar_4cfef_28 (by decide) ?_
  refine lv_iload hx hb dJ1_indexOfChar_4cfef_7 (lv_at hl 0 rfl) ?_
  refine lv_iload_n hx hb dJ1_indexOfChar_4cfef_9 rfl (lv_at hl 5 rfl) ?_
  refine lv_icmp_ge (tgt := 31) hx hb dJ1_indexOfChar_4cfef_10 (by decide) (fun z => absurd z (by decide)) (fun _ => ?_)
  refine lv_aload_n hx hb dJ1_indexOfChar_4cfef_13 rfl (lv_at hl 2 rfl) ?_
  refine lv_iload hx hb dJ1_indexOfChar_4cfef_14 (lv_at hl 0 rfl) ?_
  refine va_tb (v := .int 104) hx hb (hE.2.2.2.2.2.2.2.2.2.2.1 0 (by decide)).2.2.2 hS (by unfold vp_in; decide) rfl dJ1_indexOfChar_4cfef_16 ?_
  refine lv_iload hx hb dJ1_indexOfChar_4cfef_17 (lv_at hl 1 rfl) ?_
  refine lv_icmp_ne (tgt := 25) hx hb dJ1_indexOfChar_4cfef_19 (by decide) (fun z => absurd (by decide) z) (fun _ => ?_)
  refine lv_iload hx hb dJ1_indexOfChar_4cfef_22 (lv_at hl 0 rfl) ?_
  exact en_z hx hb hr hlk hP hD hS rfl (fun _ => 0) (is := []) rfl rfl (Nat.le_of_ble_eq_true rfl) (Nat.le_of_ble_eq_true rfl) dJ1_indexOfChar_4cfef_24
set_option maxHeartbeats 4000000 in
set_option maxRecDepth 100000 in
theorem k208_J1_indexOf_4cfef (l : Launch) (D : va_G) (cy : Nat → ClassId) (g : Nat → Nat)  (sz : Nat)  : Met l yJ1_indexOf_4cfef [.code yJ1_indexOf_4cfef cJ1_indexOf_4cfef 4 (some .int)] ({ frames := 1, cells := 0, slots := 0, locals := 25 }) (PC D cy g [] sz [.ref (g (0 + 3)), .int 104, .int 0, .int 5]) (QI D 1 (fun ad => []) (va_A [] sz)) 0 0 (va_A [] sz) := by
  refine st_I (by decide) (Nat.le_of_ble_eq_true rfl) ?_
  intro p e s m args below meth c A ls hx hb hr hml hown hlk hnm hsz hP hD hA hE hts hS hl
  have hown : s.vm.findClass RJ1 = some m.cls := hown
  have hl : lv_has ls 4 [(0, .ref (g (0 + 3))), (1, .int 104), (2, .int 0), (3, .int 5)] := hl
  refine lv_iload_n hx hb dJ1_indexOf_4cfef_0 rfl (lv_at hl 1 rfl) ?_
  refine ca_i (isC := []) (isR := []) (wr := []) (rn_S (isC := []) (wc := []) (As := [.int 104]) (rest := []) (n := 1) hx hb hml hown hts hE hS hP hD hA hl.1 (k206_J1_canEncode_9a6ad l D cy g  s.heap.size ) rfl rfl ax_188 rfl rfl ax_189 ⟨Nat.le_of_ble_eq_true rfl, Nat.le_of_ble_eq_true rfl⟩ rfl rfl (Nat.le_of_ble_eq_true rfl) dJ1_indexOf_4cfef_1 ⟨(Nat.le_of_ble_eq_true rfl), (Nat.le_of_ble_eq_true rfl)⟩) hP hD hS hA rfl rfl rfl (by decide) (fun ad1 H locs hP hD hS => ?_)
  have hP : va_P D vwCl [] H := hP
  have hD : va_D A [] := hD
  refine lv_if_ne (tgt := 9) hx hb dJ1_indexOf_4cfef_4 (by decide) (fun _ => ?_) (fun z => absurd z (by decide))
  refine lv_iload_n hx hb dJ1_indexOf_4cfef_9 rfl (lv_at hl 2 rfl) ?_
  refine lv_iconst (v := 0) hx hb dJ1_indexOf_4cfef_10 (by decide) ?_
  refine va_mmax hx hb (hml.trans hl.1.symm) hown (hts _ tw_642) (hts _ tw_344) (hts _ tw_345) (hts _ tw_346) (Nat.le_of_ble_eq_true rfl) (Nat.le_of_ble_eq_true rfl) (Nat.le_of_ble_eq_true rfl) (Nat.le_of_ble_eq_true rfl) dJ1_indexOf_4cfef_11 ?_
  refine tp_i 0 (by decide) ?_
  refine lv_istore_n (lv' := [(2, .int 0), (0, .ref (g (0 + 3))), (1, .int 104), (3, .int 5)]) hx hb dJ1_indexOf_4cfef_14 rfl hl (Nat.le_of_ble_eq_true rfl) rfl (fun ls hl => ?_)
  refine lv_iload_n hx hb dJ1_indexOf_4cfef_15 rfl (lv_at hl 3 rfl) ?_
  refine lv_aload_n hx hb dJ1_indexOf_4cfef_16 rfl (lv_at hl 1 rfl) ?_
  refine va_tlen (v := 5) hx hb (hE.2.2.2.2.2.2.2.2.2.2.1 0 (by decide)).2.2.2 hS (by decide) dJ1_indexOf_4cfef_17 ?_
  refine va_mmin hx hb (hml.trans hl.1.symm) hown (hts _ tw_643) (hts _ tw_644) (hts _ tw_345) (hts _ tw_645) (Nat.le_of_ble_eq_true rfl) (Nat.le_of_ble_eq_true rfl) (Nat.le_of_ble_eq_true rfl) (Nat.le_of_ble_eq_true rfl) dJ1_indexOf_4cfef_18 ?_
  refine tp_i 5 (by decide) ?_
  refine lv_istore_n (lv' := [(3, .int 5), (2, .int 0), (0, .ref (g (0 + 3))), (1, .int 104)]) hx hb dJ1_indexOf_4cfef_21 rfl hl (Nat.le_of_ble_eq_true rfl) rfl (fun ls hl => ?_)
  refine lv_iload_n hx hb dJ1_indexOf_4cfef_22 rfl (lv_at hl 1 rfl) ?_
  refine lv_iload_n hx hb dJ1_indexOf_4cfef_23 rfl (lv_at hl 0 rfl) ?_
  refine lv_icmp_lt (tgt := 29) hx hb dJ1_indexOf_4cfef_24 (by decide) (fun _ => ?_) (fun z => absurd (by decide) z)
  refine lv_aload_n hx hb dJ1_indexOf_4cfef_29 rfl (lv_at hl 2 rfl) ?_
  refine lv_iload_n hx hb dJ1_indexOf_4cfef_30 rfl (lv_at hl 3 rfl) ?_
  refine lv_iload_n hx hb dJ1_indexOf_4cfef_31 rfl (lv_at hl 1 rfl) ?_
  refine lv_iload_n hx hb dJ1_indexOf_4cfef_32 rfl (lv_at hl 0 rfl) ?_
  refine ca_i (isC := []) (isR := []) (wr := []) (rn_S (isC := []) (wc := []) (As := [.ref (g (0 + 3)), .int 104, .int 0, .int 5]) (rest := []) (n := 4) hx hb hml hown hts hE hS hP hD hA hl.1 (k207_J1_indexOfChar_4cfef l D cy g  H.size ) rfl rfl ax_190 rfl rfl ax_191 ⟨Nat.le_of_ble_eq_true rfl, Nat.le_of_ble_eq_true rfl⟩ rfl rfl (Nat.le_of_ble_eq_true rfl) dJ1_indexOf_4cfef_33 ⟨(Nat.le_of_ble_eq_true rfl), (Nat.le_of_ble_eq_true rfl)⟩) hP hD hS hA rfl rfl rfl (by decide) (fun ad33 H locs hP hD hS => ?_)
  have hP : va_P D vwCl [] H := hP
  have hD : va_D A [] := hD
  exact en_z hx hb hr hlk hP hD hS rfl (fun _ => 0) (is := []) rfl rfl (Nat.le_of_ble_eq_true rfl) (Nat.le_of_ble_eq_true rfl) dJ1_indexOf_4cfef_36
set_option maxHeartbeats 4000000 in
set_option maxRecDepth 100000 in
theorem k209_J0_indexOf_7cf53 (l : Launch) (D : va_G) (cy : Nat → ClassId) (g : Nat → Nat)  (sz : Nat)  : Met l yJ0_indexOf_7cf53 [.code yJ0_indexOf_7cf53 cJ0_indexOf_7cf53 3 (some .int)] ({ frames := 2, cells := 0, slots := 0, locals := 48 }) (PC D cy g [] sz [.ref (g (0 + 1)), .int 104, .int 0]) (QI D 1 (fun ad => []) (va_A [] sz)) 0 0 (va_A [] sz) := by
  refine st_I (by decide) (Nat.le_of_ble_eq_true rfl) ?_
  intro p e s m args below meth c A ls hx hb hr hml hown hlk hnm hsz hP hD hA hE hts hS hl
  have hown : s.vm.findClass RJ0 = some m.cls := hown
  have hl : lv_has ls 3 [(0, .ref (g (0 + 1))), (1, .int 104), (2, .int 0)] := hl
  refine lv_aload_n hx hb dJ0_indexOf_7cf53_0 rfl (lv_at hl 0 rfl) ?_
  refine ca_i (isC := []) (isR := []) (wr := []) (rn_VS (i := 0) (isC := []) (wc := []) (As := []) (rest := []) (n := 0) hx hb hml hown hts hE hS hP hD hA hl.1 (k203_J0_isLatin1_aae02 l D cy g  s.heap.size ) rfl rfl (by decide) rfl ax_192 rfl rfl ax_193 ⟨Nat.le_of_ble_eq_true rfl, Nat.le_of_ble_eq_true rfl⟩ rfl rfl (Nat.le_of_ble_eq_true rfl) dJ0_indexOf_7cf53_1 ⟨(Nat.le_of_ble_eq_true rfl), (Nat.le_of_ble_eq_true rfl)⟩) hP hD hS hA rfl rfl rfl (by decide) (fun ad1 H locs hP hD hS => ?_)
  have hP : va_P D vwCl [] H := hP
  have hD : va_D A [] := hD
  refine lv_if_eq (tgt := 23) hx hb dJ0_indexOf_7cf53_4 (by decide) (fun z => absurd z (by decide)) (fun _ => ?_)
  refine lv_aload_n hx hb dJ0_indexOf_7cf53_7 rfl (lv_at hl 0 rfl) ?_
  refine vk_getf (v := .ref (g (0 + 3))) hx hb (hE.2.2.2.2.2.2.2.2.2.2.1 0 (by decide)).2.2.1 hS hown (hts _ tw_632) (fun _ h9 => h9) dJ0_indexOf_7cf53_8 ?_
  refine lv_iload_n hx hb dJ0_indexOf_7cf53_11 rfl (lv_at hl 1 rfl) ?_
  refine lv_iload_n hx hb dJ0_indexOf_7cf53_12 rfl (lv_at hl 2 rfl) ?_
  refine lv_aload_n hx hb dJ0_indexOf_7cf53_13 rfl (lv_at hl 0 rfl) ?_
  refine ca_i (isC := []) (isR := []) (wr := []) (rn_VS (i := 0) (isC := []) (wc := []) (As := []) (rest := [.int 0, .int 104, .ref (g (0 + 3))]) (n := 0) hx hb hml hown hts hE hS hP hD hA hl.1 (k205_J0_length_8abf5 l D cy g  H.size ) rfl rfl (by decide) rfl ax_194 rfl rfl ax_195 ⟨Nat.le_of_ble_eq_true rfl, Nat.le_of_ble_eq_true rfl⟩ rfl rfl (Nat.le_of_ble_eq_true rfl) dJ0_indexOf_7cf53_14 ⟨(Nat.le_of_ble_eq_true rfl), (Nat.le_of_ble_eq_true rfl)⟩) hP hD hS hA rfl rfl rfl (by decide) (fun ad14 H locs hP hD hS => ?_)
  have hP : va_P D vwCl [] H := hP
  have hD : va_D A [] := hD
  refine ca_i (isC := []) (isR := []) (wr := []) (rn_S (isC := []) (wc := []) (As := [.ref (g (0 + 3)), .int 104, .int 0, .int 5]) (rest := []) (n := 4) hx hb hml hown hts hE hS hP hD hA hl.1 (k208_J1_indexOf_4cfef l D cy g  H.size ) rfl rfl ax_196 rfl rfl ax_197 ⟨Nat.le_of_ble_eq_true rfl, Nat.le_of_ble_eq_true rfl⟩ rfl rfl (Nat.le_of_ble_eq_true rfl) dJ0_indexOf_7cf53_17 ⟨(Nat.le_of_ble_eq_true rfl), (Nat.le_of_ble_eq_true rfl)⟩) hP hD hS hA rfl rfl rfl (by decide) (fun ad17 H locs hP hD hS => ?_)
  have hP : va_P D vwCl [] H := hP
  have hD : va_D A [] := hD
  refine lv_goto (tgt := 36) hx hb dJ0_indexOf_7cf53_20 (by decide) ?_
  exact en_z hx hb hr hlk hP hD hS rfl (fun _ => 0) (is := []) rfl rfl (Nat.le_of_ble_eq_true rfl) (Nat.le_of_ble_eq_true rfl) dJ0_indexOf_7cf53_36
set_option maxHeartbeats 4000000 in
set_option maxRecDepth 100000 in
theorem k210_J0_indexOf_0f7a4 (l : Launch) (D : va_G) (cy : Nat → ClassId) (g : Nat → Nat)  (sz : Nat)  : Met l yJ0_indexOf_0f7a4 [.code yJ0_indexOf_0f7a4 cJ0_indexOf_0f7a4 2 (some .int)] ({ frames := 3, cells := 0, slots := 0, locals := 70 }) (PC D cy g [] sz [.ref (g (0 + 1)), .int 104]) (QI D 1 (fun ad => []) (va_A [] sz)) 0 0 (va_A [] sz) := by
  refine st_I (by decide) (Nat.le_of_ble_eq_true rfl) ?_
  intro p e s m args below meth c A ls hx hb hr hml hown hlk hnm hsz hP hD hA hE hts hS hl
  have hown : s.vm.findClass RJ0 = some m.cls := hown
  have hl : lv_has ls 2 [(0, .ref (g (0 + 1))), (1, .int 104)] := hl
  refine lv_aload_n hx hb dJ0_indexOf_0f7a4_0 rfl (lv_at hl 0 rfl) ?_
  refine lv_iload_n hx hb dJ0_indexOf_0f7a4_1 rfl (lv_at hl 1 rfl) ?_
  refine lv_iconst (v := 0) hx hb dJ0_indexOf_0f7a4_2 (by decide) ?_
  refine ca_i (isC := []) (isR := []) (wr := []) (rn_VS (i := 0) (isC := []) (wc := []) (As := [.int 104, .int 0]) (rest := []) (n := 2) hx hb hml hown hts hE hS hP hD hA hl.1 (k209_J0_indexOf_7cf53 l D cy g  s.heap.size ) rfl rfl (by decide) rfl ax_198 rfl rfl ax_199 ⟨Nat.le_of_ble_eq_true rfl, Nat.le_of_ble_eq_true rfl⟩ rfl rfl (Nat.le_of_ble_eq_true rfl) dJ0_indexOf_0f7a4_3 ⟨(Nat.le_of_ble_eq_true rfl), (Nat.le_of_ble_eq_true rfl)⟩) hP hD hS hA rfl rfl rfl (by decide) (fun ad3 H locs hP hD hS => ?_)
  have hP : va_P D vwCl [] H := hP
  have hD : va_D A [] := hD
  exact en_z hx hb hr hlk hP hD hS rfl (fun _ => 0) (is := []) rfl rfl (Nat.le_of_ble_eq_true rfl) (Nat.le_of_ble_eq_true rfl) dJ0_indexOf_0f7a4_6
set_option maxHeartbeats 4000000 in
set_option maxRecDepth 100000 in
theorem k211_X10_addPart (l : Launch) (D : va_G) (cy : Nat → ClassId) (g : Nat → Nat) (x0 : Int32) (x1 : Int32) (a0 : Nat) (v0 : Value) (v1 : Value) (v2 : Value) (v3 : Value) (v4 : Value) (v5 : Value) (v6 : Value) (v7 : Value) (v8 : Value) (v9 : Value) (v10 : Value) (v11 : Value) (v12 : Value) (v13 : Value) (v14 : Value) (v15 : Value) (v16 : Value) (v17 : Value) (v18 : Value) (v19 : Value) (v20 : Value) (v21 : Value) (v22 : Value) (v23 : Value) (v24 : Value) (v25 : Value) (v26 : Value) (v27 : Value) (sz : Nat) (h0 : x0 < 1) : Met l yX10_addPart [.code yX10_addPart cX10_addPart 5 (some .int)] ({ frames := 4, cells := 0, slots := 0, locals := 91 }) (PC D cy g [(a0, .inr (15, [v0, v1, v2, v3, v4, v5, v6, v7, v8, v9, v10, v11, v12, v13, v14, v15, v16, v17, v18, v19, v20, v21, v22, v23, v24, v25, v26, v27]))] sz [.ref a0, .int 104, .int x0, .int x1]) (QI D (-1) (fun ad => [(a0, .inr (15, [.int 1, v1, v2, v3, v4, v5, v6, v7, v8, v9, v10, v11, v12, v13, v14, v15, v16, v17, v18, v19, v20, v21, v22, v23, v24, v25, v26, v27]))]) (va_A [(a0, .inr (15, [v0, v1, v2, v3, v4, v5, v6, v7, v8, v9, v10, v11, v12, v13, v14, v15, v16, v17, v18, v19, v20, v21, v22, v23, v24, v25, v26, v27]))] sz)) 0 0 (va_A [(a0, .inr (15, [v0, v1, v2, v3, v4, v5, v6, v7, v8, v9, v10, v11, v12, v13, v14, v15, v16, v17, v18, v19, v20, v21, v22, v23, v24, v25, v26, v27]))] sz) := by
  refine st_I (by decide) (Nat.le_of_ble_eq_true rfl) ?_
  intro p e s m args below meth c A ls hx hb hr hml hown hlk hnm hsz hP hD hA hE hts hS hl
  have hown : s.vm.findClass RX10 = some m.cls := hown
  have hl : lv_has ls 5 [(0, .ref a0), (1, .int 104), (2, .int x0), (3, .int x1)] := hl
  refine lv_aload_n hx hb dX10_addPart_0 rfl (lv_at hl 0 rfl) ?_
  refine ca_v (isC := [0]) (isR := []) (wr := []) (rn_V (ci := 15) (q0 := 0) (isC := [0]) (wc := [(a0, .inr (15, [v0, v1, v2, v3, v4, v5, v6, v7, v8, v9, v10, v11, v12, v13, v14, v15, v16, v17, v18, v19, v20, v21, v22, v23, v24, v25, v26, v27]))]) (As := []) (rest := []) (n := 0) hx hb hml hown hts hE hS hP hD hA hl.1 (k20_X10_begins l D cy g a0 (v0) (v1) (v2) (v3) (v4) (v5) (v6) (v7) (v8) (v9) (v10) (v11) (v12) (v13) (v14) (v15) (v16) (v17) (v18) (v19) (v20) (v21) (v22) (v23) (v24) (v25) (v26) (v27) s.heap.size ) rfl rfl rfl rfl rfl ax_37 rfl rfl ax_38 ⟨Nat.le_of_ble_eq_true rfl, Nat.le_of_ble_eq_true rfl⟩ rfl rfl (Nat.le_of_ble_eq_true rfl) dX10_addPart_1 ⟨(Nat.le_of_ble_eq_true rfl), (Nat.le_of_ble_eq_true rfl)⟩) hP hD hS hA rfl rfl rfl (by decide) (fun ad1 H locs hP hD hS => ?_)
  have hP : va_P D vwCl [(a0, .inr (15, [.int 0, v1, v2, v3, v4, v5, v6, v7, v8, v9, v10, v11, v12, v13, v14, v15, v16, v17, v18, v19, v20, v21, v22, v23, v24, v25, v26, v27]))] H := hP
  have hD : va_D A [(a0, .inr (15, [.int 0, v1, v2, v3, v4, v5, v6, v7, v8, v9, v10, v11, v12, v13, v14, v15, v16, v17, v18, v19, v20, v21, v22, v23, v24, v25, v26, v27]))] := hD
  refine va_ldcS (tx := "phtcv") (q := (g (0 + 1))) hx hb hown hE.2.2.1.2.1 dX10_addPart_4 ?_
  refine lv_iload_n hx hb dX10_addPart_6 rfl (lv_at hl 1 rfl) ?_
  refine ca_i (isC := []) (isR := [0]) (wr := [(a0, .inr (15, [.int 0, v1, v2, v3, v4, v5, v6, v7, v8, v9, v10, v11, v12, v13, v14, v15, v16, v17, v18, v19, v20, v21, v22, v23, v24, v25, v26, v27]))]) (rn_VS (i := 0) (isC := []) (wc := []) (As := [.int 104]) (rest := []) (n := 1) hx hb hml hown hts hE hS hP hD hA hl.1 (k210_J0_indexOf_0f7a4 l D cy g  H.size ) rfl rfl (by decide) rfl ax_200 rfl rfl ax_201 ⟨Nat.le_of_ble_eq_true rfl, Nat.le_of_ble_eq_true rfl⟩ rfl rfl (Nat.le_of_ble_eq_true rfl) dX10_addPart_7 ⟨(Nat.le_of_ble_eq_true rfl), (Nat.le_of_ble_eq_true rfl)⟩) hP hD hS hA rfl rfl rfl (by decide) (fun ad7 H locs hP hD hS => ?_)
  have hP : va_P D vwCl [(a0, .inr (15, [.int 0, v1, v2, v3, v4, v5, v6, v7, v8, v9, v10, v11, v12, v13, v14, v15, v16, v17, v18, v19, v20, v21, v22, v23, v24, v25, v26, v27]))] H := hP
  have hD : va_D A [(a0, .inr (15, [.int 0, v1, v2, v3, v4, v5, v6, v7, v8, v9, v10, v11, v12, v13, v14, v15, v16, v17, v18, v19, v20, v21, v22, v23, v24, v25, v26, v27]))] := hD
  refine lv_if_lt (tgt := 65) hx hb dX10_addPart_10 (by decide) (fun z => absurd z (by decide)) (fun _ => ?_)
  refine lv_iload_n hx hb dX10_addPart_13 rfl (lv_at hl 1 rfl) ?_
  refine lv_bipush (v := 99) hx hb dX10_addPart_14 (by decide) ?_
  refine lv_icmp_eq (tgt := 43) hx hb dX10_addPart_16 (by decide) (fun z => absurd z (by decide)) (fun _ => ?_)
  refine lv_iload_n hx hb dX10_addPart_19 rfl (lv_at hl 2 rfl) ?_
  refine lv_i2l (v := x0.toInt64) hx hb dX10_addPart_20 rfl ?_
  refine lv_lconst (v := 1) hx hb dX10_addPart_21 (by decide) ?_
  refine lv_iload_n hx hb dX10_addPart_22 rfl (lv_at hl 1 rfl) ?_
  refine lv_bipush (v := 104) hx hb dX10_addPart_23 (by decide) ?_
  refine lv_icmp_ne (tgt := 34) hx hb dX10_addPart_25 (by decide) (fun z => absurd (by decide) z) (fun _ => ?_)
  refine lv_ldc2 (v := 9999) hx hb hown (hts _ tw_494) dX10_addPart_28 ?_
  refine lv_goto (tgt := 37) hx hb dX10_addPart_31 (by decide) ?_
  refine ca_i (isC := []) (isR := [0]) (wr := [(a0, .inr (15, [.int 0, v1, v2, v3, v4, v5, v6, v7, v8, v9, v10, v11, v12, v13, v14, v15, v16, v17, v18, v19, v20, v21, v22, v23, v24, v25, v26, v27]))]) (rn_S (isC := []) (wc := []) (As := [.long x0.toInt64, .long 1, .long 9999]) (rest := []) (n := 3) hx hb hml hown hts hE hS hP hD hA hl.1 (k21_X10_in l D cy g x0.toInt64 1 9999 H.size (wl_lt rfl (by decide) h0)) rfl rfl ax_39 rfl rfl ax_40 ⟨Nat.le_of_ble_eq_true rfl, Nat.le_of_ble_eq_true rfl⟩ rfl rfl (Nat.le_of_ble_eq_true rfl) dX10_addPart_37 ⟨(Nat.le_of_ble_eq_true rfl), (Nat.le_of_ble_eq_true rfl)⟩) hP hD hS hA rfl rfl rfl (by decide) (fun ad37 H locs hP hD hS => ?_)
  have hP : va_P D vwCl [(a0, .inr (15, [.int 0, v1, v2, v3, v4, v5, v6, v7, v8, v9, v10, v11, v12, v13, v14, v15, v16, v17, v18, v19, v20, v21, v22, v23, v24, v25, v26, v27]))] H := hP
  have hD : va_D A [(a0, .inr (15, [.int 0, v1, v2, v3, v4, v5, v6, v7, v8, v9, v10, v11, v12, v13, v14, v15, v16, v17, v18, v19, v20, v21, v22, v23, v24, v25, v26, v27]))] := hD
  refine lv_if_eq (tgt := 65) hx hb dX10_addPart_40 (by decide) (fun _ => ?_) (fun z => absurd (by decide) z)
  refine lv_iconst (v := 0) hx hb dX10_addPart_65 (by decide) ?_
  refine lv_istore (lv' := [(4, .int 0), (0, .ref a0), (1, .int 104), (2, .int x0), (3, .int x1)]) hx hb dX10_addPart_66 hl (Nat.le_of_ble_eq_true rfl) rfl (fun ls hl => ?_)
  refine lv_aload_n hx hb dX10_addPart_68 rfl (lv_at hl 1 rfl) ?_
  refine lv_iload hx hb dX10_addPart_69 (lv_at hl 0 rfl) ?_
  refine lv_if_ne (tgt := 78) hx hb dX10_addPart_71 (by decide) (fun z => absurd (by decide) z) (fun _ => ?_)
  refine lv_iconst (v := 1) hx hb dX10_addPart_74 (by decide) ?_
  refine lv_goto (tgt := 79) hx hb dX10_addPart_75 (by decide) ?_
  refine lv_iconst (v := 1) hx hb dX10_addPart_79 (by decide) ?_
  refine ca_i (isC := [0]) (isR := []) (wr := []) (rn_V (ci := 15) (q0 := 0) (isC := [0]) (wc := [(a0, .inr (15, [.int 0, v1, v2, v3, v4, v5, v6, v7, v8, v9, v10, v11, v12, v13, v14, v15, v16, v17, v18, v19, v20, v21, v22, v23, v24, v25, v26, v27]))]) (As := [.int 1, .int 1]) (rest := []) (n := 2) hx hb hml hown hts hE hS hP hD hA hl.1 (k22_X10_fails l D cy g a0 (v1) (v2) (v3) (v4) (v5) (v6) (v7) (v8) (v9) (v10) (v11) (v12) (v13) (v14) (v15) (v16) (v17) (v18) (v19) (v20) (v21) (v22) (v23) (v24) (v25) (v26) (v27) H.size ) rfl rfl rfl rfl rfl ax_41 rfl rfl ax_42 ⟨Nat.le_of_ble_eq_true rfl, Nat.le_of_ble_eq_true rfl⟩ rfl rfl (Nat.le_of_ble_eq_true rfl) dX10_addPart_80 ⟨(Nat.le_of_ble_eq_true rfl), (Nat.le_of_ble_eq_true rfl)⟩) hP hD hS hA rfl rfl rfl (by decide) (fun ad80 H locs hP hD hS => ?_)
  have hP : va_P D vwCl [(a0, .inr (15, [.int 1, v1, v2, v3, v4, v5, v6, v7, v8, v9, v10, v11, v12, v13, v14, v15, v16, v17, v18, v19, v20, v21, v22, v23, v24, v25, v26, v27]))] H := hP
  have hD : va_D A [(a0, .inr (15, [.int 1, v1, v2, v3, v4, v5, v6, v7, v8, v9, v10, v11, v12, v13, v14, v15, v16, v17, v18, v19, v20, v21, v22, v23, v24, v25, v26, v27]))] := hD
  refine lv_if_ne (tgt := 113) hx hb dX10_addPart_83 (by decide) (fun _ => ?_) (fun z => absurd z (by decide))
  refine lv_iconst (v := (-1)) hx hb dX10_addPart_113 (by decide) ?_
  exact en_z hx hb hr hlk hP hD hS rfl (fun _ => 0) (is := [0]) rfl rfl (Nat.le_of_ble_eq_true rfl) (Nat.le_of_ble_eq_true rfl) dX10_addPart_114
set_option maxHeartbeats 4000000 in
set_option maxRecDepth 100000 in
theorem k212_X3_isPart (l : Launch) (D : va_G) (cy : Nat → ClassId) (g : Nat → Nat) (x0 : Int32) (x1 : Int32) (sz : Nat) (h0 : ¬ x0 < 1) (h1 : (9999 : Int32) < x0) : Met l yX3_isPart [.code yX3_isPart cX3_isPart 3 (some .boolean)] ({ frames := 1, cells := 0, slots := 0, locals := 22 }) (PC D cy g [] sz [.int 104, .int x0, .int x1]) (QI D 0 (fun ad => []) (va_A [] sz)) 0 0 (va_A [] sz) := by
  refine st_I (by decide) (Nat.le_of_ble_eq_true rfl) ?_
  intro p e s m args below meth c A ls hx hb hr hml hown hlk hnm hsz hP hD hA hE hts hS hl
  have hown : s.vm.findClass RX3 = some m.cls := hown
  have hl : lv_has ls 3 [(0, .int 104), (1, .int x0), (2, .int x1)] := hl
  refine lv_iload_n hx hb dX3_isPart_0 rfl (lv_at hl 0 rfl) ?_
  refine lv_bipush (v := 104) hx hb dX3_isPart_1 (by decide) ?_
  refine lv_icmp_ne (tgt := 23) hx hb dX3_isPart_3 (by decide) (fun z => absurd (by decide) z) (fun _ => ?_)
  refine lv_iload_n hx hb dX3_isPart_6 rfl (lv_at hl 1 rfl) ?_
  refine lv_iconst (v := 1) hx hb dX3_isPart_7 (by decide) ?_
  refine lv_sipush (v := 9999) hx hb dX3_isPart_8 (by decide) ?_
  refine ca_i (isC := []) (isR := []) (wr := []) (rn_SN (isC := []) (wc := []) (As := [.int x0, .int 1, .int 9999]) (rest := []) (n := 3) hx hb hml hown hts hE hS hP hD hA hl.1 (k25_X9_isOutside l D cy g x0 1 9999 s.heap.size h0 h1) rfl rfl tw_619 tw_293 tw_294 tw_295 rfl rfl ax_31 ⟨Nat.le_of_ble_eq_true rfl, Nat.le_of_ble_eq_true rfl⟩ rfl rfl (Nat.le_of_ble_eq_true rfl) dX3_isPart_11 ⟨(Nat.le_of_ble_eq_true rfl), (Nat.le_of_ble_eq_true rfl)⟩) hP hD hS hA rfl rfl rfl (by decide) (fun ad11 H locs hP hD hS => ?_)
  have hP : va_P D vwCl [] H := hP
  have hD : va_D A [] := hD
  refine lv_if_ne (tgt := 21) hx hb dX3_isPart_14 (by decide) (fun _ => ?_) (fun z => absurd z (by decide))
  refine lv_iconst (v := 0) hx hb dX3_isPart_21 (by decide) ?_
  exact en_z hx hb hr hlk hP hD hS rfl (fun _ => 0) (is := []) rfl rfl (Nat.le_of_ble_eq_true rfl) (Nat.le_of_ble_eq_true rfl) dX3_isPart_22
set_option maxHeartbeats 4000000 in
set_option maxRecDepth 100000 in
theorem k213_X9_addPart (l : Launch) (hst : l.stackTraces = false) (D : va_G) (cy : Nat → ClassId) (g : Nat → Nat) (x0 : Int32) (x1 : Int32) (b0 : Nat) (sz : Nat) (h0 : ¬ x0 < 1) (h1 : (9999 : Int32) < x0) : vx_Met l yX9_addPart [.code yX9_addPart cX9_addPart 4 (some .int)] ({ frames := 6, cells := 1, slots := 6, locals := 82 }) (PC D cy g [] sz [.ref b0, .int 104, .int x0, .int x1]) QN (XE "java/lang/IllegalArgumentException" (va_A [] sz)) 1 6 (va_A [] sz) := by
  refine st_X (by decide) (Nat.le_of_ble_eq_true rfl) ?_
  intro p e s m args below meth c A ls hx hb hr hml hown hlk hnm hsz hP hD hA hE hts hS hl hout
  have hown : s.vm.findClass RX9 = some m.cls := hown
  have hl : lv_has ls 4 [(0, .ref b0), (1, .int 104), (2, .int x0), (3, .int x1)] := hl
  refine lv_iload_n hx hb dX9_addPart_0 rfl (lv_at hl 1 rfl) ?_
  refine lv_iload_n hx hb dX9_addPart_1 rfl (lv_at hl 2 rfl) ?_
  refine lv_iload_n hx hb dX9_addPart_2 rfl (lv_at hl 3 rfl) ?_
  refine ca_i (isC := []) (isR := []) (wr := []) (rn_S (isC := []) (wc := []) (As := [.int 104, .int x0, .int x1]) (rest := []) (n := 3) hx hb hml hown hts hE hS hP hD hA hl.1 (k212_X3_isPart l D cy g x0 x1 s.heap.size h0 h1) rfl rfl ax_180 rfl rfl ax_181 ⟨Nat.le_of_ble_eq_true rfl, Nat.le_of_ble_eq_true rfl⟩ rfl rfl (Nat.le_of_ble_eq_true rfl) dX9_addPart_3 ⟨(Nat.le_of_ble_eq_true rfl), (Nat.le_of_ble_eq_true rfl)⟩) hP hD hS hA rfl rfl rfl (by decide) (fun ad3 H locs hP hD hS => ?_)
  have hP : va_P D vwCl [] H := hP
  have hD : va_D A [] := hD
  refine lv_if_ne (tgt := 19) hx hb dX9_addPart_6 (by decide) (fun z => absurd (by decide) z) (fun _ => ?_)
  exact th_S (text := "there is no such part") hx hb hst hown hts hE hS (hl.1.trans hml.symm) hout hlk (by decide +kernel) tw_296 tw_297 ax_32 (by decide +kernel) dX9_addPart_9 dX9_addPart_12 dX9_addPart_13 dX9_addPart_15 dX9_addPart_18 ⟨Nat.le_of_ble_eq_true rfl, Nat.le_of_ble_eq_true rfl, Nat.le_of_ble_eq_true rfl, Nat.le_of_ble_eq_true rfl⟩ (Nat.le_of_ble_eq_true rfl) (Nat.le_of_ble_eq_true rfl)
set_option maxHeartbeats 4000000 in
set_option maxRecDepth 100000 in
theorem k214_L_addPart (l : Launch) (hst : l.stackTraces = false) (D : va_G) (cy : Nat → ClassId) (g : Nat → Nat) (x0 : Int32) (x1 : Int32) (a0 : Nat) (b0 : Nat) (v0 : Value) (v1 : Value) (v2 : Value) (v3 : Value) (v4 : Value) (v5 : Value) (v6 : Value) (sz : Nat) (h0 : ¬ x0 < 1) (h1 : (9999 : Int32) < x0) : Met l yL_addPart [.codeWith yL_addPart cL_addPart 6 (some .int) [(0, 12, 15, 13), (0, 12, 19, 15)]] ({ frames := 7, cells := 1, slots := 6, locals := 105 }) (PC D cy g [(a0, .inr (14, [v0, v1, v2, v3, v4, v5, v6]))] sz [.ref a0, .int 104, .int x0, .int x1, .ref b0]) (QI D 1 (fun ad => []) (va_A [(a0, .inr (14, [v0, v1, v2, v3, v4, v5, v6]))] sz)) 1 6 (va_A [(a0, .inr (14, [v0, v1, v2, v3, v4, v5, v6]))] sz) := by
  refine sh_I (by decide) (Nat.le_of_ble_eq_true rfl) ?_
  intro p e s m args below meth c A ls hx hb hr hml hown hlk hnm hsz hP hD hA hE hts hS hl htb
  have hown : s.vm.findClass RL = some m.cls := hown
  have hl : lv_has ls 6 [(0, .ref a0), (1, .int 104), (2, .int x0), (3, .int x1), (4, .ref b0)] := hl
  refine lv_aload hx hb dL_addPart_0 (lv_at hl 4 rfl) ?_
  refine lv_iconst (v := 0) hx hb dL_addPart_2 (by decide) ?_
  refine lv_aload_n hx hb dL_addPart_3 rfl (lv_at hl 0 rfl) ?_
  refine lv_iload_n hx hb dL_addPart_4 rfl (lv_at hl 1 rfl) ?_
  refine lv_iload_n hx hb dL_addPart_5 rfl (lv_at hl 2 rfl) ?_
  refine lv_iload_n hx hb dL_addPart_6 rfl (lv_at hl 3 rfl) ?_
  refine cx_catch (isC := []) (isR := [0]) (wr := [(a0, .inr (14, [v0, v1, v2, v3, v4, v5, v6]))]) (hp := []) (z := (0, 12, 15, 13)) (hq := [(0, 12, 19, 15)]) (name := "java/lang/IllegalArgumentException") (own := RL) (rx_V (ci := 14) (q0 := 0) (isC := []) (wc := []) (As := [.int 104, .int x0, .int x1]) (rest := [.int 0, .ref b0]) (n := 3) hx hb hml hown hts hE hS hP hD hA hl.1 (k213_X9_addPart l hst D cy g x0 x1 a0 s.heap.size h0 h1) rfl rfl rfl rfl rfl ax_182 rfl rfl ax_183 ⟨Nat.le_of_ble_eq_true rfl, Nat.le_of_ble_eq_true rfl⟩ rfl rfl (Nat.le_of_ble_eq_true rfl) dL_addPart_7 ⟨(Nat.le_of_ble_eq_true rfl), (Nat.le_of_ble_eq_true rfl)⟩) hP hD hS hA hown hts hE htb rfl rfl rfl rfl (by decide) (fun z hz => by cases hz) (by decide) (by decide) tw_302 tw_303 (fun qx H locs hP hD hS => ?_)
  have hP : va_P D vwCl [(a0, .inr (14, [v0, v1, v2, v3, v4, v5, v6]))] H := hP
  have hD : va_D A [(a0, .inr (14, [v0, v1, v2, v3, v4, v5, v6]))] := hD
  refine lv_astore (lv' := [(5, .ref qx), (0, .ref a0), (1, .int 104), (2, .int x0), (3, .int x1), (4, .ref b0)]) hx hb dL_addPart_15 hl (Nat.le_of_ble_eq_true rfl) rfl (fun ls hl => ?_)
  refine lv_iconst (v := 1) hx hb dL_addPart_17 (by decide) ?_
  exact en_z hx hb hr hlk hP hD hS rfl (fun _ => 0) (is := []) rfl rfl (Nat.le_of_ble_eq_true rfl) (Nat.le_of_ble_eq_true rfl) dL_addPart_18
set_option maxHeartbeats 4000000 in
set_option maxRecDepth 100000 in
theorem k215_X10_addPart (l : Launch) (D : va_G) (cy : Nat → ClassId) (g : Nat → Nat) (x0 : Int32) (x1 : Int32) (a0 : Nat) (v0 : Value) (v1 : Value) (v2 : Value) (v3 : Value) (v4 : Value) (v5 : Value) (v6 : Value) (v7 : Value) (v8 : Value) (v9 : Value) (v10 : Value) (v11 : Value) (v12 : Value) (v13 : Value) (v14 : Value) (v15 : Value) (v16 : Value) (v17 : Value) (v18 : Value) (v19 : Value) (v20 : Value) (v21 : Value) (v22 : Value) (v23 : Value) (v24 : Value) (v25 : Value) (v26 : Value) (v27 : Value) (sz : Nat) (h0 : ¬ x0 < 1) (h1 : (9999 : Int32) < x0) : Met l yX10_addPart [.code yX10_addPart cX10_addPart 5 (some .int)] ({ frames := 4, cells := 0, slots := 0, locals := 91 }) (PC D cy g [(a0, .inr (15, [v0, v1, v2, v3, v4, v5, v6, v7, v8, v9, v10, v11, v12, v13, v14, v15, v16, v17, v18, v19, v20, v21, v22, v23, v24, v25, v26, v27]))] sz [.ref a0, .int 104, .int x0, .int x1]) (QI D (-1) (fun ad => [(a0, .inr (15, [.int 1, v1, v2, v3, v4, v5, v6, v7, v8, v9, v10, v11, v12, v13, v14, v15, v16, v17, v18, v19, v20, v21, v22, v23, v24, v25, v26, v27]))]) (va_A [(a0, .inr (15, [v0, v1, v2, v3, v4, v5, v6, v7, v8, v9, v10, v11, v12, v13, v14, v15, v16, v17, v18, v19, v20, v21, v22, v23, v24, v25, v26, v27]))] sz)) 0 0 (va_A [(a0, .inr (15, [v0, v1, v2, v3, v4, v5, v6, v7, v8, v9, v10, v11, v12, v13, v14, v15, v16, v17, v18, v19, v20, v21, v22, v23, v24, v25, v26, v27]))] sz) := by
  refine st_I (by decide) (Nat.le_of_ble_eq_true rfl) ?_
  intro p e s m args below meth c A ls hx hb hr hml hown hlk hnm hsz hP hD hA hE hts hS hl
  have hown : s.vm.findClass RX10 = some m.cls := hown
  have hl : lv_has ls 5 [(0, .ref a0), (1, .int 104), (2, .int x0), (3, .int x1)] := hl
  refine lv_aload_n hx hb dX10_addPart_0 rfl (lv_at hl 0 rfl) ?_
  refine ca_v (isC := [0]) (isR := []) (wr := []) (rn_V (ci := 15) (q0 := 0) (isC := [0]) (wc := [(a0, .inr (15, [v0, v1, v2, v3, v4, v5, v6, v7, v8, v9, v10, v11, v12, v13, v14, v15, v16, v17, v18, v19, v20, v21, v22, v23, v24, v25, v26, v27]))]) (As := []) (rest := []) (n := 0) hx hb hml hown hts hE hS hP hD hA hl.1 (k20_X10_begins l D cy g a0 (v0) (v1) (v2) (v3) (v4) (v5) (v6) (v7) (v8) (v9) (v10) (v11) (v12) (v13) (v14) (v15) (v16) (v17) (v18) (v19) (v20) (v21) (v22) (v23) (v24) (v25) (v26) (v27) s.heap.size ) rfl rfl rfl rfl rfl ax_37 rfl rfl ax_38 ⟨Nat.le_of_ble_eq_true rfl, Nat.le_of_ble_eq_true rfl⟩ rfl rfl (Nat.le_of_ble_eq_true rfl) dX10_addPart_1 ⟨(Nat.le_of_ble_eq_true rfl), (Nat.le_of_ble_eq_true rfl)⟩) hP hD hS hA rfl rfl rfl (by decide) (fun ad1 H locs hP hD hS => ?_)
  have hP : va_P D vwCl [(a0, .inr (15, [.int 0, v1, v2, v3, v4, v5, v6, v7, v8, v9, v10, v11, v12, v13, v14, v15, v16, v17, v18, v19, v20, v21, v22, v23, v24, v25, v26, v27]))] H := hP
  have hD : va_D A [(a0, .inr (15, [.int 0, v1, v2, v3, v4, v5, v6, v7, v8, v9, v10, v11, v12, v13, v14, v15, v16, v17, v18, v19, v20, v21, v22, v23, v24, v25, v26, v27]))] := hD
  refine va_ldcS (tx := "phtcv") (q := (g (0 + 1))) hx hb hown hE.2.2.1.2.1 dX10_addPart_4 ?_
  refine lv_iload_n hx hb dX10_addPart_6 rfl (lv_at hl 1 rfl) ?_
  refine ca_i (isC := []) (isR := [0]) (wr := [(a0, .inr (15, [.int 0, v1, v2, v3, v4, v5, v6, v7, v8, v9, v10, v11, v12, v13, v14, v15, v16, v17, v18, v19, v20, v21, v22, v23, v24, v25, v26, v27]))]) (rn_VS (i := 0) (isC := []) (wc := []) (As := [.int 104]) (rest := []) (n := 1) hx hb hml hown hts hE hS hP hD hA hl.1 (k210_J0_indexOf_0f7a4 l D cy g  H.size ) rfl rfl (by decide) rfl ax_200 rfl rfl ax_201 ⟨Nat.le_of_ble_eq_true rfl, Nat.le_of_ble_eq_true rfl⟩ rfl rfl (Nat.le_of_ble_eq_true rfl) dX10_addPart_7 ⟨(Nat.le_of_ble_eq_true rfl), (Nat.le_of_ble_eq_true rfl)⟩) hP hD hS hA rfl rfl rfl (by decide) (fun ad7 H locs hP hD hS => ?_)
  have hP : va_P D vwCl [(a0, .inr (15, [.int 0, v1, v2, v3, v4, v5, v6, v7, v8, v9, v10, v11, v12, v13, v14, v15, v16, v17, v18, v19, v20, v21, v22, v23, v24, v25, v26, v27]))] H := hP
  have hD : va_D A [(a0, .inr (15, [.int 0, v1, v2, v3, v4, v5, v6, v7, v8, v9, v10, v11, v12, v13, v14, v15, v16, v17, v18, v19, v20, v21, v22, v23, v24, v25, v26, v27]))] := hD
  refine lv_if_lt (tgt := 65) hx hb dX10_addPart_10 (by decide) (fun z => absurd z (by decide)) (fun _ => ?_)
  refine lv_iload_n hx hb dX10_addPart_13 rfl (lv_at hl 1 rfl) ?_
  refine lv_bipush (v := 99) hx hb dX10_addPart_14 (by decide) ?_
  refine lv_icmp_eq (tgt := 43) hx hb dX10_addPart_16 (by decide) (fun z => absurd z (by decide)) (fun _ => ?_)
  refine lv_iload_n hx hb dX10_addPart_19 rfl (lv_at hl 2 rfl) ?_
  refine lv_i2l (v := x0.toInt64) hx hb dX10_addPart_20 rfl ?_
  refine lv_lconst (v := 1) hx hb dX10_addPart_21 (by decide) ?_
  refine lv_iload_n hx hb dX10_addPart_22 rfl (lv_at hl 1 rfl) ?_
  refine lv_bipush (v := 104) hx hb dX10_addPart_23 (by decide) ?_
  refine lv_icmp_ne (tgt := 34) hx hb dX10_addPart_25 (by decide) (fun z => absurd (by decide) z) (fun _ => ?_)
  refine lv_ldc2 (v := 9999) hx hb hown (hts _ tw_494) dX10_addPart_28 ?_
  refine lv_goto (tgt := 37) hx hb dX10_addPart_31 (by decide) ?_
  refine ca_i (isC := []) (isR := [0]) (wr := [(a0, .inr (15, [.int 0, v1, v2, v3, v4, v5, v6, v7, v8, v9, v10, v11, v12, v13, v14, v15, v16, v17, v18, v19, v20, v21, v22, v23, v24, v25, v26, v27]))]) (rn_S (isC := []) (wc := []) (As := [.long x0.toInt64, .long 1, .long 9999]) (rest := []) (n := 3) hx hb hml hown hts hE hS hP hD hA hl.1 (k28_X10_in l D cy g x0.toInt64 1 9999 H.size (wl_nlt rfl (by decide) h0) (wl_lt (by decide) rfl h1)) rfl rfl ax_39 rfl rfl ax_40 ⟨Nat.le_of_ble_eq_true rfl, Nat.le_of_ble_eq_true rfl⟩ rfl rfl (Nat.le_of_ble_eq_true rfl) dX10_addPart_37 ⟨(Nat.le_of_ble_eq_true rfl), (Nat.le_of_ble_eq_true rfl)⟩) hP hD hS hA rfl rfl rfl (by decide) (fun ad37 H locs hP hD hS => ?_)
  have hP : va_P D vwCl [(a0, .inr (15, [.int 0, v1, v2, v3, v4, v5, v6, v7, v8, v9, v10, v11, v12, v13, v14, v15, v16, v17, v18, v19, v20, v21, v22, v23, v24, v25, v26, v27]))] H := hP
  have hD : va_D A [(a0, .inr (15, [.int 0, v1, v2, v3, v4, v5, v6, v7, v8, v9, v10, v11, v12, v13, v14, v15, v16, v17, v18, v19, v20, v21, v22, v23, v24, v25, v26, v27]))] := hD
  refine lv_if_eq (tgt := 65) hx hb dX10_addPart_40 (by decide) (fun _ => ?_) (fun z => absurd (by decide) z)
  refine lv_iconst (v := 0) hx hb dX10_addPart_65 (by decide) ?_
  refine lv_istore (lv' := [(4, .int 0), (0, .ref a0), (1, .int 104), (2, .int x0), (3, .int x1)]) hx hb dX10_addPart_66 hl (Nat.le_of_ble_eq_true rfl) rfl (fun ls hl => ?_)
  refine lv_aload_n hx hb dX10_addPart_68 rfl (lv_at hl 1 rfl) ?_
  refine lv_iload hx hb dX10_addPart_69 (lv_at hl 0 rfl) ?_
  refine lv_if_ne (tgt := 78) hx hb dX10_addPart_71 (by decide) (fun z => absurd (by decide) z) (fun _ => ?_)
  refine lv_iconst (v := 1) hx hb dX10_addPart_74 (by decide) ?_
  refine lv_goto (tgt := 79) hx hb dX10_addPart_75 (by decide) ?_
  refine lv_iconst (v := 1) hx hb dX10_addPart_79 (by decide) ?_
  refine ca_i (isC := [0]) (isR := []) (wr := []) (rn_V (ci := 15) (q0 := 0) (isC := [0]) (wc := [(a0, .inr (15, [.int 0, v1, v2, v3, v4, v5, v6, v7, v8, v9, v10, v11, v12, v13, v14, v15, v16, v17, v18, v19, v20, v21, v22, v23, v24, v25, v26, v27]))]) (As := [.int 1, .int 1]) (rest := []) (n := 2) hx hb hml hown hts hE hS hP hD hA hl.1 (k22_X10_fails l D cy g a0 (v1) (v2) (v3) (v4) (v5) (v6) (v7) (v8) (v9) (v10) (v11) (v12) (v13) (v14) (v15) (v16) (v17) (v18) (v19) (v20) (v21) (v22) (v23) (v24) (v25) (v26) (v27) H.size ) rfl rfl rfl rfl rfl ax_41 rfl rfl ax_42 ⟨Nat.le_of_ble_eq_true rfl, Nat.le_of_ble_eq_true rfl⟩ rfl rfl (Nat.le_of_ble_eq_true rfl) dX10_addPart_80 ⟨(Nat.le_of_ble_eq_true rfl), (Nat.le_of_ble_eq_true rfl)⟩) hP hD hS hA rfl rfl rfl (by decide) (fun ad80 H locs hP hD hS => ?_)
  have hP : va_P D vwCl [(a0, .inr (15, [.int 1, v1, v2, v3, v4, v5, v6, v7, v8, v9, v10, v11, v12, v13, v14, v15, v16, v17, v18, v19, v20, v21, v22, v23, v24, v25, v26, v27]))] H := hP
  have hD : va_D A [(a0, .inr (15, [.int 1, v1, v2, v3, v4, v5, v6, v7, v8, v9, v10, v11, v12, v13, v14, v15, v16, v17, v18, v19, v20, v21, v22, v23, v24, v25, v26, v27]))] := hD
  refine lv_if_ne (tgt := 113) hx hb dX10_addPart_83 (by decide) (fun _ => ?_) (fun z => absurd z (by decide))
  refine lv_iconst (v := (-1)) hx hb dX10_addPart_113 (by decide) ?_
  exact en_z hx hb hr hlk hP hD hS rfl (fun _ => 0) (is := [0]) rfl rfl (Nat.le_of_ble_eq_true rfl) (Nat.le_of_ble_eq_true rfl) dX10_addPart_114
set_option maxHeartbeats 4000000 in
set_option maxRecDepth 100000 in
theorem k216_X3_isPart (l : Launch) (D : va_G) (cy : Nat → ClassId) (g : Nat → Nat) (x0 : Int32) (x1 : Int32) (sz : Nat) (h0 : ¬ x0 < 1) (h1 : ¬ (9999 : Int32) < x0) : Met l yX3_isPart [.code yX3_isPart cX3_isPart 3 (some .boolean)] ({ frames := 1, cells := 0, slots := 0, locals := 22 }) (PC D cy g [] sz [.int 104, .int x0, .int x1]) (QI D 1 (fun ad => []) (va_A [] sz)) 0 0 (va_A [] sz) := by
  refine st_I (by decide) (Nat.le_of_ble_eq_true rfl) ?_
  intro p e s m args below meth c A ls hx hb hr hml hown hlk hnm hsz hP hD hA hE hts hS hl
  have hown : s.vm.findClass RX3 = some m.cls := hown
  have hl : lv_has ls 3 [(0, .int 104), (1, .int x0), (2, .int x1)] := hl
  refine lv_iload_n hx hb dX3_isPart_0 rfl (lv_at hl 0 rfl) ?_
  refine lv_bipush (v := 104) hx hb dX3_isPart_1 (by decide) ?_
  refine lv_icmp_ne (tgt := 23) hx hb dX3_isPart_3 (by decide) (fun z => absurd (by decide) z) (fun _ => ?_)
  refine lv_iload_n hx hb dX3_isPart_6 rfl (lv_at hl 1 rfl) ?_
  refine lv_iconst (v := 1) hx hb dX3_isPart_7 (by decide) ?_
  refine lv_sipush (v := 9999) hx hb dX3_isPart_8 (by decide) ?_
  refine ca_i (isC := []) (isR := []) (wr := []) (rn_SN (isC := []) (wc := []) (As := [.int x0, .int 1, .int 9999]) (rest := []) (n := 3) hx hb hml hown hts hE hS hP hD hA hl.1 (k30_X9_isOutside l D cy g x0 1 9999 s.heap.size h0 h1) rfl rfl tw_619 tw_293 tw_294 tw_295 rfl rfl ax_31 ⟨Nat.le_of_ble_eq_true rfl, Nat.le_of_ble_eq_true rfl⟩ rfl rfl (Nat.le_of_ble_eq_true rfl) dX3_isPart_11 ⟨(Nat.le_of_ble_eq_true rfl), (Nat.le_of_ble_eq_true rfl)⟩) hP hD hS hA rfl rfl rfl (by decide) (fun ad11 H locs hP hD hS => ?_)
  have hP : va_P D vwCl [] H := hP
  have hD : va_D A [] := hD
  refine lv_if_ne (tgt := 21) hx hb dX3_isPart_14 (by decide) (fun z => absurd (by decide) z) (fun _ => ?_)
  refine lv_iconst (v := 1) hx hb dX3_isPart_17 (by decide) ?_
  refine lv_goto (tgt := 22) hx hb dX3_isPart_18 (by decide) ?_
  exact en_z hx hb hr hlk hP hD hS rfl (fun _ => 0) (is := []) rfl rfl (Nat.le_of_ble_eq_true rfl) (Nat.le_of_ble_eq_true rfl) dX3_isPart_22
set_option maxHeartbeats 4000000 in
set_option maxRecDepth 100000 in
theorem k217_X3_isFull (l : Launch) (D : va_G) (cy : Nat → ClassId) (g : Nat → Nat) (a0 : Nat) (v0 : Value) (v1 : Value) (v2 : Value) (v3 : Value) (v4 : Value) (v5 : Value) (v6 : Value) (v7 : Value) (sz : Nat)  : Met l yX3_isFull [.code yX3_isFull cX3_isFull 1 (some .boolean)] ({ frames := 0, cells := 0, slots := 0, locals := 0 }) (PC D cy g [(a0, .inr (8, [v0, v1, v2, .int 0, v3, v4, v5, v6, v7]))] sz [.ref a0]) (QI D 0 (fun ad => [(a0, .inr (8, [v0, v1, v2, .int 0, v3, v4, v5, v6, v7]))]) (va_A [(a0, .inr (8, [v0, v1, v2, .int 0, v3, v4, v5, v6, v7]))] sz)) 0 0 (va_A [(a0, .inr (8, [v0, v1, v2, .int 0, v3, v4, v5, v6, v7]))] sz) := by
  refine st_I (by decide) (Nat.le_of_ble_eq_true rfl) ?_
  intro p e s m args below meth c A ls hx hb hr hml hown hlk hnm hsz hP hD hA hE hts hS hl
  have hown : s.vm.findClass RX3 = some m.cls := hown
  have hl : lv_has ls 1 [(0, .ref a0)] := hl
  refine lv_aload_n hx hb dX3_isFull_0 rfl (lv_at hl 0 rfl) ?_
  refine va_get (D := D) (ci := 8) (v := .int 0) (C := RX3) (T := TX3) (N := 9) hx hb hts ax_5 hown hE.1 hP 0 rfl rfl 3 (by decide) (hts _ tw_72) (fun _ h9 => h9) rfl dX3_isFull_1 ?_
  refine lv_bipush (v := 8) hx hb dX3_isFull_4 (by decide) ?_
  refine lv_icmp_lt (tgt := 13) hx hb dX3_isFull_6 (by decide) (fun _ => ?_) (fun z => absurd (by decide) z)
  refine lv_iconst (v := 0) hx hb dX3_isFull_13 (by decide) ?_
  exact en_z hx hb hr hlk hP hD hS rfl (fun _ => 0) (is := [0]) rfl rfl (Nat.le_of_ble_eq_true rfl) (Nat.le_of_ble_eq_true rfl) dX3_isFull_14
set_option maxHeartbeats 4000000 in
set_option maxRecDepth 100000 in
theorem k218_X3_append (l : Launch) (D : va_G) (cy : Nat → ClassId) (g : Nat → Nat) (x0 : Int32) (x1 : Int32) (a0 : Nat) (a1 : Nat) (a2 : Nat) (a3 : Nat) (v0 : Value) (v1 : Value) (v2 : Value) (v3 : Value) (v4 : Value) (f0 : Nat → Int32) (f1 : Nat → Int32) (f2 : Nat → Int32) (sz : Nat)  : Met l yX3_append [.code yX3_append cX3_append 4 (some .int)] ({ frames := 1, cells := 0, slots := 0, locals := 20 }) (PC D cy g [(a0, .inr (8, [.ref a1, .ref a2, .ref a3, .int 0, v0, v1, v2, v3, v4])), (a1, .inl (cy 0, 8, .inl f0)), (a2, .inl (cy 1, 8, .inl f1)), (a3, .inl (cy 1, 8, .inl f2))] sz [.ref a0, .int 104, .int x0, .int x1]) (QI D 1 (fun ad => [(a0, .inr (8, [.ref a1, .ref a2, .ref a3, .int 1, v0, v1, v2, v3, v4])), (a1, .inl (cy 0, 8, .inl (upd f0 (0 : Int32).toNatClampNeg (vp_nar .char 104)))), (a2, .inl (cy 1, 8, .inl (upd f1 (0 : Int32).toNatClampNeg x0))), (a3, .inl (cy 1, 8, .inl (upd f2 (0 : Int32).toNatClampNeg 0)))]) (va_A [(a0, .inr (8, [.ref a1, .ref a2, .ref a3, .int 0, v0, v1, v2, v3, v4])), (a1, .inl (cy 0, 8, .inl f0)), (a2, .inl (cy 1, 8, .inl f1)), (a3, .inl (cy 1, 8, .inl f2))] sz)) 0 0 (va_A [(a0, .inr (8, [.ref a1, .ref a2, .ref a3, .int 0, v0, v1, v2, v3, v4])), (a1, .inl (cy 0, 8, .inl f0)), (a2, .inl (cy 1, 8, .inl f1)), (a3, .inl (cy 1, 8, .inl f2))] sz) := by
  refine st_I (by decide) (Nat.le_of_ble_eq_true rfl) ?_
  intro p e s m args below meth c A ls hx hb hr hml hown hlk hnm hsz hP hD hA hE hts hS hl
  have hown : s.vm.findClass RX3 = some m.cls := hown
  have hl : lv_has ls 4 [(0, .ref a0), (1, .int 104), (2, .int x0), (3, .int x1)] := hl
  refine lv_aload_n hx hb dX3_append_0 rfl (lv_at hl 0 rfl) ?_
  refine ca_i (isC := [0]) (isR := [1, 2, 3]) (wr := [(a1, .inl (cy 0, 8, .inl f0)), (a2, .inl (cy 1, 8, .inl f1)), (a3, .inl (cy 1, 8, .inl f2))]) (rn_V (ci := 8) (q0 := 0) (isC := [0]) (wc := [(a0, .inr (8, [.ref a1, .ref a2, .ref a3, .int 0, v0, v1, v2, v3, v4]))]) (As := []) (rest := []) (n := 0) hx hb hml hown hts hE hS hP hD hA hl.1 (k217_X3_isFull l D cy g a0 (.ref a1) (.ref a2) (.ref a3) (v0) (v1) (v2) (v3) (v4) s.heap.size ) rfl rfl rfl rfl rfl ax_204 rfl rfl ax_205 ⟨Nat.le_of_ble_eq_true rfl, Nat.le_of_ble_eq_true rfl⟩ rfl rfl (Nat.le_of_ble_eq_true rfl) dX3_append_1 ⟨(Nat.le_of_ble_eq_true rfl), (Nat.le_of_ble_eq_true rfl)⟩) hP hD hS hA rfl rfl rfl (by decide) (fun ad1 H locs hP hD hS => ?_)
  have hP : va_P D vwCl [(a1, .inl (cy 0, 8, .inl f0)), (a2, .inl (cy 1, 8, .inl f1)), (a3, .inl (cy 1, 8, .inl f2)), (a0, .inr (8, [.ref a1, .ref a2, .ref a3, .int 0, v0, v1, v2, v3, v4]))] H := hP
  have hD : va_D A [(a1, .inl (cy 0, 8, .inl f0)), (a2, .inl (cy 1, 8, .inl f1)), (a3, .inl (cy 1, 8, .inl f2)), (a0, .inr (8, [.ref a1, .ref a2, .ref a3, .int 0, v0, v1, v2, v3, v4]))] := hD
  refine lv_if_ne (tgt := 57) hx hb dX3_append_4 (by decide) (fun z => absurd (by decide) z) (fun _ => ?_)
  refine lv_aload_n hx hb dX3_append_7 rfl (lv_at hl 0 rfl) ?_
  refine va_get (D := D) (ci := 8) (v := .ref a1) (C := RX3) (T := TX3) (N := 9) hx hb hts ax_5 hown hE.1 hP 3 rfl rfl 0 (by decide) (hts _ tw_69) (fun _ h9 => h9) rfl dX3_append_8 ?_
  refine lv_aload_n hx hb dX3_append_11 rfl (lv_at hl 0 rfl) ?_
  refine va_get (D := D) (ci := 8) (v := .int 0) (C := RX3) (T := TX3) (N := 9) hx hb hts ax_5 hown hE.1 hP 3 rfl rfl 3 (by decide) (hts _ tw_72) (fun _ h9 => h9) rfl dX3_append_12 ?_
  refine lv_iload_n hx hb dX3_append_15 rfl (lv_at hl 1 rfl) ?_
  refine va_cast hx hb hE.1 hP hD hS 0 0 rfl rfl (by unfold vp_in; decide) dX3_append_16 (fun H locs hP hD hS => ?_)
  have hP : va_P D vwCl [(a1, .inl (cy 0, 8, .inl (upd f0 (0 : Int32).toNatClampNeg (vp_nar .char 104)))), (a2, .inl (cy 1, 8, .inl f1)), (a3, .inl (cy 1, 8, .inl f2)), (a0, .inr (8, [.ref a1, .ref a2, .ref a3, .int 0, v0, v1, v2, v3, v4]))] H := hP
  have hD : va_D A [(a1, .inl (cy 0, 8, .inl (upd f0 (0 : Int32).toNatClampNeg (vp_nar .char 104)))), (a2, .inl (cy 1, 8, .inl f1)), (a3, .inl (cy 1, 8, .inl f2)), (a0, .inr (8, [.ref a1, .ref a2, .ref a3, .int 0, v0, v1, v2, v3, v4]))] := hD
  refine lv_aload_n hx hb dX3_append_17 rfl (lv_at hl 0 rfl) ?_
  refine va_get (D := D) (ci := 8) (v := .ref a2) (C := RX3) (T := TX3) (N := 9) hx hb hts ax_5 hown hE.1 hP 3 rfl rfl 1 (by decide) (hts _ tw_70) (fun _ h9 => h9) rfl dX3_append_18 ?_
  refine lv_aload_n hx hb dX3_append_21 rfl (lv_at hl 0 rfl) ?_
  refine va_get (D := D) (ci := 8) (v := .int 0) (C := RX3) (T := TX3) (N := 9) hx hb hts ax_5 hown hE.1 hP 3 rfl rfl 3 (by decide) (hts _ tw_72) (fun _ h9 => h9) rfl dX3_append_22 ?_
  refine lv_iload_n hx hb dX3_append_25 rfl (lv_at hl 2 rfl) ?_
  refine va_iast hx hb hE.1 hP hD hS 1 1 rfl rfl (by unfold vp_in; decide) dX3_append_26 (fun H locs hP hD hS => ?_)
  have hP : va_P D vwCl [(a1, .inl (cy 0, 8, .inl (upd f0 (0 : Int32).toNatClampNeg (vp_nar .char 104)))), (a2, .inl (cy 1, 8, .inl (upd f1 (0 : Int32).toNatClampNeg x0))), (a3, .inl (cy 1, 8, .inl f2)), (a0, .inr (8, [.ref a1, .ref a2, .ref a3, .int 0, v0, v1, v2, v3, v4]))] H := hP
  have hD : va_D A [(a1, .inl (cy 0, 8, .inl (upd f0 (0 : Int32).toNatClampNeg (vp_nar .char 104)))), (a2, .inl (cy 1, 8, .inl (upd f1 (0 : Int32).toNatClampNeg x0))), (a3, .inl (cy 1, 8, .inl f2)), (a0, .inr (8, [.ref a1, .ref a2, .ref a3, .int 0, v0, v1, v2, v3, v4]))] := hD
  refine lv_aload_n hx hb dX3_append_27 rfl (lv_at hl 0 rfl) ?_
  refine va_get (D := D) (ci := 8) (v := .ref a3) (C := RX3) (T := TX3) (N := 9) hx hb hts ax_5 hown hE.1 hP 3 rfl rfl 2 (by decide) (hts _ tw_71) (fun _ h9 => h9) rfl dX3_append_28 ?_
  refine lv_aload_n hx hb dX3_append_31 rfl (lv_at hl 0 rfl) ?_
  refine va_get (D := D) (ci := 8) (v := .int 0) (C := RX3) (T := TX3) (N := 9) hx hb hts ax_5 hown hE.1 hP 3 rfl rfl 3 (by decide) (hts _ tw_72) (fun _ h9 => h9) rfl dX3_append_32 ?_
  refine lv_iload_n hx hb dX3_append_35 rfl (lv_at hl 1 rfl) ?_
  refine lv_bipush (v := 116) hx hb dX3_append_36 (by decide) ?_
  refine lv_icmp_ne (tgt := 45) hx hb dX3_append_38 (by decide) (fun _ => ?_) (fun z => absurd z (by decide))
  refine lv_iconst (v := 0) hx hb dX3_append_45 (by decide) ?_
  refine va_iast hx hb hE.1 hP hD hS 2 1 rfl rfl (by unfold vp_in; decide) dX3_append_46 (fun H locs hP hD hS => ?_)
  have hP : va_P D vwCl [(a1, .inl (cy 0, 8, .inl (upd f0 (0 : Int32).toNatClampNeg (vp_nar .char 104)))), (a2, .inl (cy 1, 8, .inl (upd f1 (0 : Int32).toNatClampNeg x0))), (a3, .inl (cy 1, 8, .inl (upd f2 (0 : Int32).toNatClampNeg 0))), (a0, .inr (8, [.ref a1, .ref a2, .ref a3, .int 0, v0, v1, v2, v3, v4]))] H := hP
  have hD : va_D A [(a1, .inl (cy 0, 8, .inl (upd f0 (0 : Int32).toNatClampNeg (vp_nar .char 104)))), (a2, .inl (cy 1, 8, .inl (upd f1 (0 : Int32).toNatClampNeg x0))), (a3, .inl (cy 1, 8, .inl (upd f2 (0 : Int32).toNatClampNeg 0))), (a0, .inr (8, [.ref a1, .ref a2, .ref a3, .int 0, v0, v1, v2, v3, v4]))] := hD
  refine lv_aload_n hx hb dX3_append_47 rfl (lv_at hl 0 rfl) ?_
  refine lv_dup hx hb dX3_append_48 rfl ?_
  refine va_get (D := D) (ci := 8) (v := .int 0) (C := RX3) (T := TX3) (N := 9) hx hb hts ax_5 hown hE.1 hP 3 rfl rfl 3 (by decide) (hts _ tw_72) (fun _ h9 => h9) rfl dX3_append_49 ?_
  refine lv_iconst (v := 1) hx hb dX3_append_52 (by decide) ?_
  refine lv_iadd hx hb dX3_append_53 ?_
  refine tp_i 1 (by decide) ?_
  refine va_put (D := D) (ci := 8) (v := .int 1) (ty := .int) (C := RX3) (T := TX3) (N := 9) hx hb hts ax_5 tyX3 tyX3_ok nmX3 hown hE.1 hP hD hS 3 rfl rfl 3 (by decide) (hts _ tw_72) (fun _ h9 => h9) rfl (by decide +kernel) rfl rfl (Nat.le_of_ble_eq_true rfl) dX3_append_54 (fun H locs hP hD hS => ?_)
  have hP : va_P D vwCl [(a1, .inl (cy 0, 8, .inl (upd f0 (0 : Int32).toNatClampNeg (vp_nar .char 104)))), (a2, .inl (cy 1, 8, .inl (upd f1 (0 : Int32).toNatClampNeg x0))), (a3, .inl (cy 1, 8, .inl (upd f2 (0 : Int32).toNatClampNeg 0))), (a0, .inr (8, [.ref a1, .ref a2, .ref a3, .int 1, v0, v1, v2, v3, v4]))] H := hP
  have hD : va_D A [(a1, .inl (cy 0, 8, .inl (upd f0 (0 : Int32).toNatClampNeg (vp_nar .char 104)))), (a2, .inl (cy 1, 8, .inl (upd f1 (0 : Int32).toNatClampNeg x0))), (a3, .inl (cy 1, 8, .inl (upd f2 (0 : Int32).toNatClampNeg 0))), (a0, .inr (8, [.ref a1, .ref a2, .ref a3, .int 1, v0, v1, v2, v3, v4]))] := hD
  refine lv_aload_n hx hb dX3_append_57 rfl (lv_at hl 0 rfl) ?_
  refine va_get (D := D) (ci := 8) (v := .int 1) (C := RX3) (T := TX3) (N := 9) hx hb hts ax_5 hown hE.1 hP 3 rfl rfl 3 (by decide) (hts _ tw_72) (fun _ h9 => h9) rfl dX3_append_58 ?_
  exact en_z hx hb hr hlk hP hD hS rfl (fun _ => 0) (is := [3, 0, 1, 2]) rfl rfl (Nat.le_of_ble_eq_true rfl) (Nat.le_of_ble_eq_true rfl) dX3_append_61
set_option maxHeartbeats 4000000 in
set_option maxRecDepth 100000 in
theorem k219_X9_addPart (l : Launch) (D : va_G) (cy : Nat → ClassId) (g : Nat → Nat) (x0 : Int32) (x1 : Int32) (a0 : Nat) (a1 : Nat) (a2 : Nat) (a3 : Nat) (a4 : Nat) (v0 : Value) (v1 : Value) (v2 : Value) (v3 : Value) (v4 : Value) (v5 : Value) (v6 : Value) (v7 : Value) (v8 : Value) (v9 : Value) (v10 : Value) (f0 : Nat → Int32) (f1 : Nat → Int32) (f2 : Nat → Int32) (sz : Nat) (h0 : ¬ x0 < 1) (h1 : ¬ (9999 : Int32) < x0) : Met l yX9_addPart [.code yX9_addPart cX9_addPart 4 (some .int)] ({ frames := 2, cells := 0, slots := 0, locals := 44 }) (PC D cy g [(a0, .inr (14, [v0, v1, .ref a1, v2, v3, v4, v5])), (a1, .inr (8, [.ref a2, .ref a3, .ref a4, .int 0, v6, v7, v8, v9, v10])), (a2, .inl (cy 0, 8, .inl f0)), (a3, .inl (cy 1, 8, .inl f1)), (a4, .inl (cy 1, 8, .inl f2))] sz [.ref a0, .int 104, .int x0, .int x1]) (QI D 1 (fun ad => [(a0, .inr (14, [v0, v1, .ref a1, v2, v3, v4, v5])), (a1, .inr (8, [.ref a2, .ref a3, .ref a4, .int 1, v6, v7, v8, v9, v10])), (a2, .inl (cy 0, 8, .inl (upd f0 (0 : Int32).toNatClampNeg (vp_nar .char 104)))), (a3, .inl (cy 1, 8, .inl (upd f1 (0 : Int32).toNatClampNeg x0))), (a4, .inl (cy 1, 8, .inl (upd f2 (0 : Int32).toNatClampNeg 0)))]) (va_A [(a0, .inr (14, [v0, v1, .ref a1, v2, v3, v4, v5])), (a1, .inr (8, [.ref a2, .ref a3, .ref a4, .int 0, v6, v7, v8, v9, v10])), (a2, .inl (cy 0, 8, .inl f0)), (a3, .inl (cy 1, 8, .inl f1)), (a4, .inl (cy 1, 8, .inl f2))] sz)) 0 0 (va_A [(a0, .inr (14, [v0, v1, .ref a1, v2, v3, v4, v5])), (a1, .inr (8, [.ref a2, .ref a3, .ref a4, .int 0, v6, v7, v8, v9, v10])), (a2, .inl (cy 0, 8, .inl f0)), (a3, .inl (cy 1, 8, .inl f1)), (a4, .inl (cy 1, 8, .inl f2))] sz) := by
  refine st_I (by decide) (Nat.le_of_ble_eq_true rfl) ?_
  intro p e s m args below meth c A ls hx hb hr hml hown hlk hnm hsz hP hD hA hE hts hS hl
  have hown : s.vm.findClass RX9 = some m.cls := hown
  have hl : lv_has ls 4 [(0, .ref a0), (1, .int 104), (2, .int x0), (3, .int x1)] := hl
  refine lv_iload_n hx hb dX9_addPart_0 rfl (lv_at hl 1 rfl) ?_
  refine lv_iload_n hx hb dX9_addPart_1 rfl (lv_at hl 2 rfl) ?_
  refine lv_iload_n hx hb dX9_addPart_2 rfl (lv_at hl 3 rfl) ?_
  refine ca_i (isC := []) (isR := [0, 1, 2, 3, 4]) (wr := [(a0, .inr (14, [v0, v1, .ref a1, v2, v3, v4, v5])), (a1, .inr (8, [.ref a2, .ref a3, .ref a4, .int 0, v6, v7, v8, v9, v10])), (a2, .inl (cy 0, 8, .inl f0)), (a3, .inl (cy 1, 8, .inl f1)), (a4, .inl (cy 1, 8, .inl f2))]) (rn_S (isC := []) (wc := []) (As := [.int 104, .int x0, .int x1]) (rest := []) (n := 3) hx hb hml hown hts hE hS hP hD hA hl.1 (k216_X3_isPart l D cy g x0 x1 s.heap.size h0 h1) rfl rfl ax_180 rfl rfl ax_181 ⟨Nat.le_of_ble_eq_true rfl, Nat.le_of_ble_eq_true rfl⟩ rfl rfl (Nat.le_of_ble_eq_true rfl) dX9_addPart_3 ⟨(Nat.le_of_ble_eq_true rfl), (Nat.le_of_ble_eq_true rfl)⟩) hP hD hS hA rfl rfl rfl (by decide) (fun ad3 H locs hP hD hS => ?_)
  have hP : va_P D vwCl [(a0, .inr (14, [v0, v1, .ref a1, v2, v3, v4, v5])), (a1, .inr (8, [.ref a2, .ref a3, .ref a4, .int 0, v6, v7, v8, v9, v10])), (a2, .inl (cy 0, 8, .inl f0)), (a3, .inl (cy 1, 8, .inl f1)), (a4, .inl (cy 1, 8, .inl f2))] H := hP
  have hD : va_D A [(a0, .inr (14, [v0, v1, .ref a1, v2, v3, v4, v5])), (a1, .inr (8, [.ref a2, .ref a3, .ref a4, .int 0, v6, v7, v8, v9, v10])), (a2, .inl (cy 0, 8, .inl f0)), (a3, .inl (cy 1, 8, .inl f1)), (a4, .inl (cy 1, 8, .inl f2))] := hD
  refine lv_if_ne (tgt := 19) hx hb dX9_addPart_6 (by decide) (fun _ => ?_) (fun z => absurd z (by decide))
  refine lv_aload_n hx hb dX9_addPart_19 rfl (lv_at hl 0 rfl) ?_
  refine va_get (D := D) (ci := 14) (v := .ref a1) (C := RX9) (T := TX9) (N := 7) hx hb hts ax_16 hown hE.1 hP 0 rfl rfl 2 (by decide) (hts _ tw_193) (fun _ h9 => h9) rfl dX9_addPart_20 ?_
  refine ca_i (isC := [1]) (isR := [0, 2, 3, 4]) (wr := [(a0, .inr (14, [v0, v1, .ref a1, v2, v3, v4, v5])), (a2, .inl (cy 0, 8, .inl f0)), (a3, .inl (cy 1, 8, .inl f1)), (a4, .inl (cy 1, 8, .inl f2))]) (rn_V (ci := 8) (q0 := 1) (isC := [1]) (wc := [(a1, .inr (8, [.ref a2, .ref a3, .ref a4, .int 0, v6, v7, v8, v9, v10]))]) (As := []) (rest := []) (n := 0) hx hb hml hown hts hE hS hP hD hA hl.1 (k217_X3_isFull l D cy g a1 (.ref a2) (.ref a3) (.ref a4) (v6) (v7) (v8) (v9) (v10) H.size ) rfl rfl rfl rfl rfl ax_206 rfl rfl ax_205 ⟨Nat.le_of_ble_eq_true rfl, Nat.le_of_ble_eq_true rfl⟩ rfl rfl (Nat.le_of_ble_eq_true rfl) dX9_addPart_23 ⟨(Nat.le_of_ble_eq_true rfl), (Nat.le_of_ble_eq_true rfl)⟩) hP hD hS hA rfl rfl rfl (by decide) (fun ad23 H locs hP hD hS => ?_)
  have hP : va_P D vwCl [(a0, .inr (14, [v0, v1, .ref a1, v2, v3, v4, v5])), (a2, .inl (cy 0, 8, .inl f0)), (a3, .inl (cy 1, 8, .inl f1)), (a4, .inl (cy 1, 8, .inl f2)), (a1, .inr (8, [.ref a2, .ref a3, .ref a4, .int 0, v6, v7, v8, v9, v10]))] H := hP
  have hD : va_D A [(a0, .inr (14, [v0, v1, .ref a1, v2, v3, v4, v5])), (a2, .inl (cy 0, 8, .inl f0)), (a3, .inl (cy 1, 8, .inl f1)), (a4, .inl (cy 1, 8, .inl f2)), (a1, .inr (8, [.ref a2, .ref a3, .ref a4, .int 0, v6, v7, v8, v9, v10]))] := hD
  refine lv_if_eq (tgt := 39) hx hb dX9_addPart_26 (by decide) (fun _ => ?_) (fun z => absurd (by decide) z)
  refine lv_aload_n hx hb dX9_addPart_39 rfl (lv_at hl 0 rfl) ?_
  refine va_get (D := D) (ci := 14) (v := .ref a1) (C := RX9) (T := TX9) (N := 7) hx hb hts ax_16 hown hE.1 hP 0 rfl rfl 2 (by decide) (hts _ tw_193) (fun _ h9 => h9) rfl dX9_addPart_40 ?_
  refine lv_iload_n hx hb dX9_addPart_43 rfl (lv_at hl 1 rfl) ?_
  refine lv_iload_n hx hb dX9_addPart_44 rfl (lv_at hl 2 rfl) ?_
  refine lv_iload_n hx hb dX9_addPart_45 rfl (lv_at hl 3 rfl) ?_
  refine ca_i (isC := [4, 1, 2, 3]) (isR := [0]) (wr := [(a0, .inr (14, [v0, v1, .ref a1, v2, v3, v4, v5]))]) (rn_V (ci := 8) (q0 := 4) (isC := [4, 1, 2, 3]) (wc := [(a1, .inr (8, [.ref a2, .ref a3, .ref a4, .int 0, v6, v7, v8, v9, v10])), (a2, .inl (cy 0, 8, .inl f0)), (a3, .inl (cy 1, 8, .inl f1)), (a4, .inl (cy 1, 8, .inl f2))]) (As := [.int 104, .int x0, .int x1]) (rest := []) (n := 3) hx hb hml hown hts hE hS hP hD hA hl.1 (k218_X3_append l D cy g x0 x1 a1 a2 a3 a4 (v6) (v7) (v8) (v9) (v10) f0 f1 f2 H.size ) rfl rfl rfl rfl rfl ax_207 rfl rfl ax_208 ⟨Nat.le_of_ble_eq_true rfl, Nat.le_of_ble_eq_true rfl⟩ rfl rfl (Nat.le_of_ble_eq_true rfl) dX9_addPart_46 ⟨(Nat.le_of_ble_eq_true rfl), (Nat.le_of_ble_eq_true rfl)⟩) hP hD hS hA rfl rfl rfl (by decide) (fun ad46 H locs hP hD hS => ?_)
  have hP : va_P D vwCl [(a0, .inr (14, [v0, v1, .ref a1, v2, v3, v4, v5])), (a1, .inr (8, [.ref a2, .ref a3, .ref a4, .int 1, v6, v7, v8, v9, v10])), (a2, .inl (cy 0, 8, .inl (upd f0 (0 : Int32).toNatClampNeg (vp_nar .char 104)))), (a3, .inl (cy 1, 8, .inl (upd f1 (0 : Int32).toNatClampNeg x0))), (a4, .inl (cy 1, 8, .inl (upd f2 (0 : Int32).toNatClampNeg 0)))] H := hP
  have hD : va_D A [(a0, .inr (14, [v0, v1, .ref a1, v2, v3, v4, v5])), (a1, .inr (8, [.ref a2, .ref a3, .ref a4, .int 1, v6, v7, v8, v9, v10])), (a2, .inl (cy 0, 8, .inl (upd f0 (0 : Int32).toNatClampNeg (vp_nar .char 104)))), (a3, .inl (cy 1, 8, .inl (upd f1 (0 : Int32).toNatClampNeg x0))), (a4, .inl (cy 1, 8, .inl (upd f2 (0 : Int32).toNatClampNeg 0)))] := hD
  exact en_z hx hb hr hlk hP hD hS rfl (fun _ => 0) (is := [0, 1, 2, 3, 4]) rfl rfl (Nat.le_of_ble_eq_true rfl) (Nat.le_of_ble_eq_true rfl) dX9_addPart_49
set_option maxHeartbeats 4000000 in
set_option maxRecDepth 100000 in
theorem k220_L_addPart (l : Launch) (D : va_G) (cy : Nat → ClassId) (g : Nat → Nat) (x0 : Int32) (x1 : Int32) (a0 : Nat) (a1 : Nat) (a2 : Nat) (a3 : Nat) (a4 : Nat) (a5 : Nat) (v0 : Value) (v1 : Value) (v2 : Value) (v3 : Value) (v4 : Value) (v5 : Value) (v6 : Value) (v7 : Value) (v8 : Value) (v9 : Value) (v10 : Value) (f0 : Nat → Int32) (f1 : Nat → Int32) (f2 : Nat → Int32) (f3 : Nat → Int64) (sz : Nat) (h0 : ¬ x0 < 1) (h1 : ¬ (9999 : Int32) < x0) : Met l yL_addPart [.codeWith yL_addPart cL_addPart 6 (some .int) [(0, 12, 15, 13), (0, 12, 19, 15)]] ({ frames := 3, cells := 0, slots := 0, locals := 67 }) (PC D cy g [(a0, .inr (14, [v0, v1, .ref a1, v2, v3, v4, v5])), (a1, .inr (8, [.ref a2, .ref a3, .ref a4, .int 0, v6, v7, v8, v9, v10])), (a2, .inl (cy 0, 8, .inl f0)), (a3, .inl (cy 1, 8, .inl f1)), (a4, .inl (cy 1, 8, .inl f2)), (a5, .inl (cy 2, 1, .inr (.inl f3)))] sz [.ref a0, .int 104, .int x0, .int x1, .ref a5]) (QI D 0 (fun ad => [(a5, .inl (cy 2, 1, .inr (.inl (vp_updL f3 (0 : Int32).toNatClampNeg 1))))]) (va_A [(a0, .inr (14, [v0, v1, .ref a1, v2, v3, v4, v5])), (a1, .inr (8, [.ref a2, .ref a3, .ref a4, .int 0, v6, v7, v8, v9, v10])), (a2, .inl (cy 0, 8, .inl f0)), (a3, .inl (cy 1, 8, .inl f1)), (a4, .inl (cy 1, 8, .inl f2)), (a5, .inl (cy 2, 1, .inr (.inl f3)))] sz)) 0 0 (va_A [(a0, .inr (14, [v0, v1, .ref a1, v2, v3, v4, v5])), (a1, .inr (8, [.ref a2, .ref a3, .ref a4, .int 0, v6, v7, v8, v9, v10])), (a2, .inl (cy 0, 8, .inl f0)), (a3, .inl (cy 1, 8, .inl f1)), (a4, .inl (cy 1, 8, .inl f2)), (a5, .inl (cy 2, 1, .inr (.inl f3)))] sz) := by
  refine sh_I (by decide) (Nat.le_of_ble_eq_true rfl) ?_
  intro p e s m args below meth c A ls hx hb hr hml hown hlk hnm hsz hP hD hA hE hts hS hl htb
  have hown : s.vm.findClass RL = some m.cls := hown
  have hl : lv_has ls 6 [(0, .ref a0), (1, .int 104), (2, .int x0), (3, .int x1), (4, .ref a5)] := hl
  refine lv_aload hx hb dL_addPart_0 (lv_at hl 4 rfl) ?_
  refine lv_iconst (v := 0) hx hb dL_addPart_2 (by decide) ?_
  refine lv_aload_n hx hb dL_addPart_3 rfl (lv_at hl 0 rfl) ?_
  refine lv_iload_n hx hb dL_addPart_4 rfl (lv_at hl 1 rfl) ?_
  refine lv_iload_n hx hb dL_addPart_5 rfl (lv_at hl 2 rfl) ?_
  refine lv_iload_n hx hb dL_addPart_6 rfl (lv_at hl 3 rfl) ?_
  refine ca_i (isC := [0, 1, 2, 3, 4]) (isR := [5]) (wr := [(a5, .inl (cy 2, 1, .inr (.inl f3)))]) (rn_V (ci := 14) (q0 := 0) (isC := [0, 1, 2, 3, 4]) (wc := [(a0, .inr (14, [v0, v1, .ref a1, v2, v3, v4, v5])), (a1, .inr (8, [.ref a2, .ref a3, .ref a4, .int 0, v6, v7, v8, v9, v10])), (a2, .inl (cy 0, 8, .inl f0)), (a3, .inl (cy 1, 8, .inl f1)), (a4, .inl (cy 1, 8, .inl f2))]) (As := [.int 104, .int x0, .int x1]) (rest := [.int 0, .ref a5]) (n := 3) hx hb hml hown hts hE hS hP hD hA hl.1 (k219_X9_addPart l D cy g x0 x1 a0 a1 a2 a3 a4 (v0) (v1) (v2) (v3) (v4) (v5) (v6) (v7) (v8) (v9) (v10) f0 f1 f2 s.heap.size h0 h1) rfl rfl rfl rfl rfl ax_182 rfl rfl ax_183 ⟨Nat.le_of_ble_eq_true rfl, Nat.le_of_ble_eq_true rfl⟩ rfl rfl (Nat.le_of_ble_eq_true rfl) dL_addPart_7 ⟨(Nat.le_of_ble_eq_true rfl), (Nat.le_of_ble_eq_true rfl)⟩) hP hD hS hA rfl rfl rfl (by decide) (fun ad7 H locs hP hD hS => ?_)
  have hP : va_P D vwCl [(a5, .inl (cy 2, 1, .inr (.inl f3))), (a0, .inr (14, [v0, v1, .ref a1, v2, v3, v4, v5])), (a1, .inr (8, [.ref a2, .ref a3, .ref a4, .int 1, v6, v7, v8, v9, v10])), (a2, .inl (cy 0, 8, .inl (upd f0 (0 : Int32).toNatClampNeg (vp_nar .char 104)))), (a3, .inl (cy 1, 8, .inl (upd f1 (0 : Int32).toNatClampNeg x0))), (a4, .inl (cy 1, 8, .inl (upd f2 (0 : Int32).toNatClampNeg 0)))] H := hP
  have hD : va_D A [(a5, .inl (cy 2, 1, .inr (.inl f3))), (a0, .inr (14, [v0, v1, .ref a1, v2, v3, v4, v5])), (a1, .inr (8, [.ref a2, .ref a3, .ref a4, .int 1, v6, v7, v8, v9, v10])), (a2, .inl (cy 0, 8, .inl (upd f0 (0 : Int32).toNatClampNeg (vp_nar .char 104)))), (a3, .inl (cy 1, 8, .inl (upd f1 (0 : Int32).toNatClampNeg x0))), (a4, .inl (cy 1, 8, .inl (upd f2 (0 : Int32).toNatClampNeg 0)))] := hD
  refine lv_i2l (v := 1) hx hb dL_addPart_10 (by decide) ?_
  refine va_last hx hb hE.1 hP hD hS 0 2 rfl rfl (by unfold vp_in; decide) dL_addPart_11 (fun H locs hP hD hS => ?_)
  have hP : va_P D vwCl [(a5, .inl (cy 2, 1, .inr (.inl (vp_updL f3 (0 : Int32).toNatClampNeg 1)))), (a0, .inr (14, [v0, v1, .ref a1, v2, v3, v4, v5])), (a1, .inr (8, [.ref a2, .ref a3, .ref a4, .int 1, v6, v7, v8, v9, v10])), (a2, .inl (cy 0, 8, .inl (upd f0 (0 : Int32).toNatClampNeg (vp_nar .char 104)))), (a3, .inl (cy 1, 8, .inl (upd f1 (0 : Int32).toNatClampNeg x0))), (a4, .inl (cy 1, 8, .inl (upd f2 (0 : Int32).toNatClampNeg 0)))] H := hP
  have hD : va_D A [(a5, .inl (cy 2, 1, .inr (.inl (vp_updL f3 (0 : Int32).toNatClampNeg 1)))), (a0, .inr (14, [v0, v1, .ref a1, v2, v3, v4, v5])), (a1, .inr (8, [.ref a2, .ref a3, .ref a4, .int 1, v6, v7, v8, v9, v10])), (a2, .inl (cy 0, 8, .inl (upd f0 (0 : Int32).toNatClampNeg (vp_nar .char 104)))), (a3, .inl (cy 1, 8, .inl (upd f1 (0 : Int32).toNatClampNeg x0))), (a4, .inl (cy 1, 8, .inl (upd f2 (0 : Int32).toNatClampNeg 0)))] := hD
  refine lv_goto (tgt := 23) hx hb dL_addPart_12 (by decide) ?_
  refine lv_iconst (v := 0) hx hb dL_addPart_23 (by decide) ?_
  exact en_z hx hb hr hlk hP hD hS rfl (fun _ => 0) (is := [0]) rfl rfl (Nat.le_of_ble_eq_true rfl) (Nat.le_of_ble_eq_true rfl) dL_addPart_24
set_option maxHeartbeats 4000000 in
set_option maxRecDepth 100000 in
theorem k221_Jx4a65c_add_72be8 (l : Launch) (D : va_G) (cy : Nat → ClassId) (g : Nat → Nat) (a0 : Nat) (a1 : Nat) (v0 : Value) (f0 : Nat → Int32) (sz : Nat)  : Met l yJx4a65c_add_72be8 [.code yJx4a65c_add_72be8 cJx4a65c_add_72be8 4 none] ({ frames := 3, cells := 1, slots := 10, locals := 57 }) (PC D cy g [(a0, .inr (4, [v0, .ref (g 0), .int 0])), (a1, .inl (cy 1, 3, .inl f0))] sz [.ref a0, .ref a1, .ref (g 0), .int 0]) (QV D (fun ad => [(a0, .inr (4, [v0, .ref (ad 0), .int 1])), (a1, .inl (cy 1, 3, .inl f0)), ((ad 0), .inl (cy 5, 10, .inr (.inr (.inr (.inr (va_up (fun _ => none) (0 : Int32).toNatClampNeg (some a1)))))))]) (va_A [(a0, .inr (4, [v0, .ref (g 0), .int 0])), (a1, .inl (cy 1, 3, .inl f0))] sz)) 1 10 (va_A [(a0, .inr (4, [v0, .ref (g 0), .int 0])), (a1, .inl (cy 1, 3, .inl f0))] sz) := by
  refine st_V (by decide) (Nat.le_of_ble_eq_true rfl) ?_
  intro p e s m args below meth c A ls hx hb hr hml hown hlk hnm hsz hP hD hA hE hts hS hl
  have hown : s.vm.findClass RJx4a65c = some m.cls := hown
  have hl : lv_has ls 4 [(0, .ref a0), (1, .ref a1), (2, .ref (g 0)), (3, .int 0)] := hl
  refine lv_iload_n hx hb dJx4a65c_add_72be8_0 rfl (lv_at hl 3 rfl) ?_
  refine lv_aload_n hx hb dJx4a65c_add_72be8_1 rfl (lv_at hl 2 rfl) ?_
  refine va_tlen (v := 0) hx hb hE.2.2.2.2.2.2.2.2.1 hS (by decide) dJx4a65c_add_72be8_2 ?_
  refine lv_icmp_ne (tgt := 11) hx hb dJx4a65c_add_72be8_3 (by decide) (fun z => absurd (by decide) z) (fun _ => ?_)
  refine lv_aload_n hx hb dJx4a65c_add_72be8_6 rfl (lv_at hl 0 rfl) ?_
  refine ca_r (isC := [0]) (isR := [1]) (wr := [(a1, .inl (cy 1, 3, .inl f0))]) (rn_V (ci := 4) (q0 := 0) (isC := [0]) (wc := [(a0, .inr (4, [v0, .ref (g 0), .int 0]))]) (As := []) (rest := []) (n := 0) hx hb hml hown hts hE hS hP hD hA hl.1 (k47_Jx4a65c_grow_d5877 l D cy g a0 (v0) s.heap.size ) rfl rfl rfl rfl rfl ax_55 rfl rfl ax_56 ⟨Nat.le_of_ble_eq_true rfl, Nat.le_of_ble_eq_true rfl⟩ rfl rfl (Nat.le_of_ble_eq_true rfl) dJx4a65c_add_72be8_7 ⟨(Nat.le_of_ble_eq_true rfl), (Nat.le_of_ble_eq_true rfl)⟩) hP hD hS hA rfl rfl rfl (by decide) (fun ad7 H locs hP hD hS => ?_)
  have hP : va_P D vwCl [(a1, .inl (cy 1, 3, .inl f0)), (a0, .inr (4, [v0, .ref (ad7 0), .int 0])), ((ad7 0), .inl (cy 5, 10, .inr (.inr (.inr (.inr (fun _ => none))))))] H := hP
  have hD : va_D A [(a1, .inl (cy 1, 3, .inl f0)), (a0, .inr (4, [v0, .ref (ad7 0), .int 0])), ((ad7 0), .inl (cy 5, 10, .inr (.inr (.inr (.inr (fun _ => none))))))] := hD
  refine lv_astore_n (lv' := [(2, .ref (ad7 0)), (0, .ref a0), (1, .ref a1), (3, .int 0)]) hx hb dJx4a65c_add_72be8_10 rfl hl (Nat.le_of_ble_eq_true rfl) rfl (fun ls hl => ?_)
  refine lv_aload_n hx hb dJx4a65c_add_72be8_11 rfl (lv_at hl 0 rfl) ?_
  refine lv_iload_n hx hb dJx4a65c_add_72be8_12 rfl (lv_at hl 3 rfl) ?_
  refine lv_aload_n hx hb dJx4a65c_add_72be8_13 rfl (lv_at hl 2 rfl) ?_
  refine va_astqM hx hb hE.1 hP hD hS 2 5 rfl rfl (any_ia hE hP hts 0 rfl tw_356) (by unfold vp_in; decide) dJx4a65c_add_72be8_14 (fun H locs hP hD hS => ?_)
  have hP : va_P D vwCl [(a1, .inl (cy 1, 3, .inl f0)), (a0, .inr (4, [v0, .ref (ad7 0), .int 0])), ((ad7 0), .inl (cy 5, 10, .inr (.inr (.inr (.inr (va_up (fun _ => none) (0 : Int32).toNatClampNeg (some a1)))))))] H := hP
  have hD : va_D A [(a1, .inl (cy 1, 3, .inl f0)), (a0, .inr (4, [v0, .ref (ad7 0), .int 0])), ((ad7 0), .inl (cy 5, 10, .inr (.inr (.inr (.inr (va_up (fun _ => none) (0 : Int32).toNatClampNeg (some a1)))))))] := hD
  refine lv_aload_n hx hb dJx4a65c_add_72be8_15 rfl (lv_at hl 1 rfl) ?_
  refine lv_iload_n hx hb dJx4a65c_add_72be8_16 rfl (lv_at hl 3 rfl) ?_
  refine lv_iconst (v := 1) hx hb dJx4a65c_add_72be8_17 (by decide) ?_
  refine lv_iadd hx hb dJx4a65c_add_72be8_18 ?_
  refine tp_i 1 (by decide) ?_
  refine va_put (D := D) (ci := 4) (v := .int 1) (ty := .int) (C := RJx4a65c) (T := TJx4a65c) (N := 3) hx hb hts ax_26 tyJx4a65c tyJx4a65c_ok nmJx4a65c hown hE.1 hP hD hS 1 rfl rfl 2 (by decide) (hts _ tw_342) (fun _ h9 => h9) rfl (by decide +kernel) rfl rfl (Nat.le_of_ble_eq_true rfl) dJx4a65c_add_72be8_19 (fun H locs hP hD hS => ?_)
  have hP : va_P D vwCl [(a1, .inl (cy 1, 3, .inl f0)), (a0, .inr (4, [v0, .ref (ad7 0), .int 1])), ((ad7 0), .inl (cy 5, 10, .inr (.inr (.inr (.inr (va_up (fun _ => none) (0 : Int32).toNatClampNeg (some a1)))))))] H := hP
  have hD : va_D A [(a1, .inl (cy 1, 3, .inl f0)), (a0, .inr (4, [v0, .ref (ad7 0), .int 1])), ((ad7 0), .inl (cy 5, 10, .inr (.inr (.inr (.inr (va_up (fun _ => none) (0 : Int32).toNatClampNeg (some a1)))))))] := hD
  exact en_v hx hb hr hlk hP hD hS (fun k => [(ad7 0)].getD k 0) (is := [1, 0, 2]) rfl rfl (Nat.le_of_ble_eq_true rfl) (Nat.le_of_ble_eq_true rfl) dJx4a65c_add_72be8_22
set_option maxHeartbeats 4000000 in
set_option maxRecDepth 100000 in
theorem k222_Jx4a65c_add_9ea2d (l : Launch) (D : va_G) (cy : Nat → ClassId) (g : Nat → Nat) (a0 : Nat) (a1 : Nat) (f0 : Nat → Int32) (sz : Nat)  : Met l yJx4a65c_add_9ea2d [.code yJx4a65c_add_9ea2d cJx4a65c_add_9ea2d 2 (some .boolean)] ({ frames := 4, cells := 1, slots := 10, locals := 80 }) (PC D cy g [(a0, .inr (4, [.int 0, .ref (g 0), .int 0])), (a1, .inl (cy 1, 3, .inl f0))] sz [.ref a0, .ref a1]) (QI D 1 (fun ad => [(a0, .inr (4, [.int 1, .ref (ad 0), .int 1])), (a1, .inl (cy 1, 3, .inl f0)), ((ad 0), .inl (cy 5, 10, .inr (.inr (.inr (.inr (va_up (fun _ => none) (0 : Int32).toNatClampNeg (some a1)))))))]) (va_A [(a0, .inr (4, [.int 0, .ref (g 0), .int 0])), (a1, .inl (cy 1, 3, .inl f0))] sz)) 1 10 (va_A [(a0, .inr (4, [.int 0, .ref (g 0), .int 0])), (a1, .inl (cy 1, 3, .inl f0))] sz) := by
  refine st_I (by decide) (Nat.le_of_ble_eq_true rfl) ?_
  intro p e s m args below meth c A ls hx hb hr hml hown hlk hnm hsz hP hD hA hE hts hS hl
  have hown : s.vm.findClass RJx4a65c = some m.cls := hown
  have hl : lv_has ls 2 [(0, .ref a0), (1, .ref a1)] := hl
  refine lv_aload_n hx hb dJx4a65c_add_9ea2d_0 rfl (lv_at hl 0 rfl) ?_
  refine lv_dup hx hb dJx4a65c_add_9ea2d_1 rfl ?_
  refine va_get (D := D) (ci := 4) (v := .int 0) (C := RJx4a65c) (T := TJx4a65c) (N := 3) hx hb hts ax_26 hown hE.1 hP 0 rfl rfl 0 (by decide) (hts _ tw_357) (fun x9 h9 => u_same (hts _ tw_358) x9 h9) rfl dJx4a65c_add_9ea2d_2 ?_
  refine lv_iconst (v := 1) hx hb dJx4a65c_add_9ea2d_5 (by decide) ?_
  refine lv_iadd hx hb dJx4a65c_add_9ea2d_6 ?_
  refine tp_i 1 (by decide) ?_
  refine va_put (D := D) (ci := 4) (v := .int 1) (ty := .int) (C := RJx4a65c) (T := TJx4a65c) (N := 3) hx hb hts ax_26 tyJx4a65c tyJx4a65c_ok nmJx4a65c hown hE.1 hP hD hS 0 rfl rfl 0 (by decide) (hts _ tw_357) (fun x9 h9 => u_same (hts _ tw_358) x9 h9) rfl (by decide +kernel) rfl rfl (Nat.le_of_ble_eq_true rfl) dJx4a65c_add_9ea2d_7 (fun H locs hP hD hS => ?_)
  have hP : va_P D vwCl [(a0, .inr (4, [.int 1, .ref (g 0), .int 0])), (a1, .inl (cy 1, 3, .inl f0))] H := hP
  have hD : va_D A [(a0, .inr (4, [.int 1, .ref (g 0), .int 0])), (a1, .inl (cy 1, 3, .inl f0))] := hD
  refine lv_aload_n hx hb dJx4a65c_add_9ea2d_10 rfl (lv_at hl 0 rfl) ?_
  refine lv_aload_n hx hb dJx4a65c_add_9ea2d_11 rfl (lv_at hl 1 rfl) ?_
  refine lv_aload_n hx hb dJx4a65c_add_9ea2d_12 rfl (lv_at hl 0 rfl) ?_
  refine va_get (D := D) (ci := 4) (v := .ref (g 0)) (C := RJx4a65c) (T := TJx4a65c) (N := 3) hx hb hts ax_26 hown hE.1 hP 0 rfl rfl 1 (by decide) (hts _ tw_241) (fun _ h9 => h9) rfl dJx4a65c_add_9ea2d_13 ?_
  refine lv_aload_n hx hb dJx4a65c_add_9ea2d_16 rfl (lv_at hl 0 rfl) ?_
  refine va_get (D := D) (ci := 4) (v := .int 0) (C := RJx4a65c) (T := TJx4a65c) (N := 3) hx hb hts ax_26 hown hE.1 hP 0 rfl rfl 2 (by decide) (hts _ tw_342) (fun _ h9 => h9) rfl dJx4a65c_add_9ea2d_17 ?_
  refine ca_v (isC := [0, 1]) (isR := []) (wr := []) (rn_V (ci := 4) (q0 := 0) (isC := [0, 1]) (wc := [(a0, .inr (4, [.int 1, .ref (g 0), .int 0])), (a1, .inl (cy 1, 3, .inl f0))]) (As := [.ref a1, .ref (g 0), .int 0]) (rest := []) (n := 3) hx hb hml hown hts hE hS hP hD hA hl.1 (k221_Jx4a65c_add_72be8 l D cy g a0 a1 (.int 1) f0 H.size ) rfl rfl rfl rfl rfl ax_57 rfl rfl ax_58 ⟨Nat.le_of_ble_eq_true rfl, Nat.le_of_ble_eq_true rfl⟩ rfl rfl (Nat.le_of_ble_eq_true rfl) dJx4a65c_add_9ea2d_20 ⟨(Nat.le_of_ble_eq_true rfl), (Nat.le_of_ble_eq_true rfl)⟩) hP hD hS hA rfl rfl rfl (by decide) (fun ad20 H locs hP hD hS => ?_)
  have hP : va_P D vwCl [(a0, .inr (4, [.int 1, .ref (ad20 0), .int 1])), (a1, .inl (cy 1, 3, .inl f0)), ((ad20 0), .inl (cy 5, 10, .inr (.inr (.inr (.inr (va_up (fun _ => none) (0 : Int32).toNatClampNeg (some a1)))))))] H := hP
  have hD : va_D A [(a0, .inr (4, [.int 1, .ref (ad20 0), .int 1])), (a1, .inl (cy 1, 3, .inl f0)), ((ad20 0), .inl (cy 5, 10, .inr (.inr (.inr (.inr (va_up (fun _ => none) (0 : Int32).toNatClampNeg (some a1)))))))] := hD
  refine lv_iconst (v := 1) hx hb dJx4a65c_add_9ea2d_23 (by decide) ?_
  exact en_z hx hb hr hlk hP hD hS rfl (fun k => [(ad20 0)].getD k 0) (is := [0, 1, 2]) rfl rfl (Nat.le_of_ble_eq_true rfl) (Nat.le_of_ble_eq_true rfl) dJx4a65c_add_9ea2d_24
set_option maxHeartbeats 4000000 in
set_option maxRecDepth 100000 in
theorem k223_X10_addPart (l : Launch) (D : va_G) (cy : Nat → ClassId) (g : Nat → Nat) (x0 : Int32) (x1 : Int32) (a0 : Nat) (a1 : Nat) (v0 : Value) (v1 : Value) (v2 : Value) (v3 : Value) (v4 : Value) (v5 : Value) (v6 : Value) (v7 : Value) (v8 : Value) (v9 : Value) (v10 : Value) (v11 : Value) (v12 : Value) (v13 : Value) (v14 : Value) (v15 : Value) (v16 : Value) (v17 : Value) (v18 : Value) (v19 : Value) (v20 : Value) (v21 : Value) (v22 : Value) (v23 : Value) (v24 : Value) (v25 : Value) (v26 : Value) (sz : Nat) (h0 : ¬ x0 < 1) (h1 : ¬ (9999 : Int32) < x0) : Met l yX10_addPart [.code yX10_addPart cX10_addPart 5 (some .int)] ({ frames := 5, cells := 2, slots := 13, locals := 101 }) (PC D cy g [(a0, .inr (15, [v0, v1, v2, v3, v4, v5, v6, .ref a1, v7, v8, v9, v10, v11, v12, v13, v14, v15, v16, v17, v18, v19, v20, v21, v22, v23, v24, v25, v26])), (a1, .inr (4, [.int 0, .ref (g 0), .int 0]))] sz [.ref a0, .int 104, .int x0, .int x1]) (QI D 1 (fun ad => [(a0, .inr (15, [.int 0, v1, v2, v3, v4, v5, v6, .ref a1, v7, v8, v9, v10, v11, v12, v13, v14, v15, v16, v17, v18, v19, v20, v21, v22, v23, v24, v25, v26]))]) (va_A [(a0, .inr (15, [v0, v1, v2, v3, v4, v5, v6, .ref a1, v7, v8, v9, v10, v11, v12, v13, v14, v15, v16, v17, v18, v19, v20, v21, v22, v23, v24, v25, v26])), (a1, .inr (4, [.int 0, .ref (g 0), .int 0]))] sz)) 2 13 (va_A [(a0, .inr (15, [v0, v1, v2, v3, v4, v5, v6, .ref a1, v7, v8, v9, v10, v11, v12, v13, v14, v15, v16, v17, v18, v19, v20, v21, v22, v23, v24, v25, v26])), (a1, .inr (4, [.int 0, .ref (g 0), .int 0]))] sz) := by
  refine st_I (by decide) (Nat.le_of_ble_eq_true rfl) ?_
  intro p e s m args below meth c A ls hx hb hr hml hown hlk hnm hsz hP hD hA hE hts hS hl
  have hown : s.vm.findClass RX10 = some m.cls := hown
  have hl : lv_has ls 5 [(0, .ref a0), (1, .int 104), (2, .int x0), (3, .int x1)] := hl
  refine lv_aload_n hx hb dX10_addPart_0 rfl (lv_at hl 0 rfl) ?_
  refine ca_v (isC := [0]) (isR := [1]) (wr := [(a1, .inr (4, [.int 0, .ref (g 0), .int 0]))]) (rn_V (ci := 15) (q0 := 0) (isC := [0]) (wc := [(a0, .inr (15, [v0, v1, v2, v3, v4, v5, v6, .ref a1, v7, v8, v9, v10, v11, v12, v13, v14, v15, v16, v17, v18, v19, v20, v21, v22, v23, v24, v25, v26]))]) (As := []) (rest := []) (n := 0) hx hb hml hown hts hE hS hP hD hA hl.1 (k20_X10_begins l D cy g a0 (v0) (v1) (v2) (v3) (v4) (v5) (v6) (.ref a1) (v7) (v8) (v9) (v10) (v11) (v12) (v13) (v14) (v15) (v16) (v17) (v18) (v19) (v20) (v21) (v22) (v23) (v24) (v25) (v26) s.heap.size ) rfl rfl rfl rfl rfl ax_37 rfl rfl ax_38 ⟨Nat.le_of_ble_eq_true rfl, Nat.le_of_ble_eq_true rfl⟩ rfl rfl (Nat.le_of_ble_eq_true rfl) dX10_addPart_1 ⟨(Nat.le_of_ble_eq_true rfl), (Nat.le_of_ble_eq_true rfl)⟩) hP hD hS hA rfl rfl rfl (by decide) (fun ad1 H locs hP hD hS => ?_)
  have hP : va_P D vwCl [(a1, .inr (4, [.int 0, .ref (g 0), .int 0])), (a0, .inr (15, [.int 0, v1, v2, v3, v4, v5, v6, .ref a1, v7, v8, v9, v10, v11, v12, v13, v14, v15, v16, v17, v18, v19, v20, v21, v22, v23, v24, v25, v26]))] H := hP
  have hD : va_D A [(a1, .inr (4, [.int 0, .ref (g 0), .int 0])), (a0, .inr (15, [.int 0, v1, v2, v3, v4, v5, v6, .ref a1, v7, v8, v9, v10, v11, v12, v13, v14, v15, v16, v17, v18, v19, v20, v21, v22, v23, v24, v25, v26]))] := hD
  refine va_ldcS (tx := "phtcv") (q := (g (0 + 1))) hx hb hown hE.2.2.1.2.1 dX10_addPart_4 ?_
  refine lv_iload_n hx hb dX10_addPart_6 rfl (lv_at hl 1 rfl) ?_
  refine ca_i (isC := []) (isR := [0, 1]) (wr := [(a1, .inr (4, [.int 0, .ref (g 0), .int 0])), (a0, .inr (15, [.int 0, v1, v2, v3, v4, v5, v6, .ref a1, v7, v8, v9, v10, v11, v12, v13, v14, v15, v16, v17, v18, v19, v20, v21, v22, v23, v24, v25, v26]))]) (rn_VS (i := 0) (isC := []) (wc := []) (As := [.int 104]) (rest := []) (n := 1) hx hb hml hown hts hE hS hP hD hA hl.1 (k210_J0_indexOf_0f7a4 l D cy g  H.size ) rfl rfl (by decide) rfl ax_200 rfl rfl ax_201 ⟨Nat.le_of_ble_eq_true rfl, Nat.le_of_ble_eq_true rfl⟩ rfl rfl (Nat.le_of_ble_eq_true rfl) dX10_addPart_7 ⟨(Nat.le_of_ble_eq_true rfl), (Nat.le_of_ble_eq_true rfl)⟩) hP hD hS hA rfl rfl rfl (by decide) (fun ad7 H locs hP hD hS => ?_)
  have hP : va_P D vwCl [(a1, .inr (4, [.int 0, .ref (g 0), .int 0])), (a0, .inr (15, [.int 0, v1, v2, v3, v4, v5, v6, .ref a1, v7, v8, v9, v10, v11, v12, v13, v14, v15, v16, v17, v18, v19, v20, v21, v22, v23, v24, v25, v26]))] H := hP
  have hD : va_D A [(a1, .inr (4, [.int 0, .ref (g 0), .int 0])), (a0, .inr (15, [.int 0, v1, v2, v3, v4, v5, v6, .ref a1, v7, v8, v9, v10, v11, v12, v13, v14, v15, v16, v17, v18, v19, v20, v21, v22, v23, v24, v25, v26]))] := hD
  refine lv_if_lt (tgt := 65) hx hb dX10_addPart_10 (by decide) (fun z => absurd z (by decide)) (fun _ => ?_)
  refine lv_iload_n hx hb dX10_addPart_13 rfl (lv_at hl 1 rfl) ?_
  refine lv_bipush (v := 99) hx hb dX10_addPart_14 (by decide) ?_
  refine lv_icmp_eq (tgt := 43) hx hb dX10_addPart_16 (by decide) (fun z => absurd z (by decide)) (fun _ => ?_)
  refine lv_iload_n hx hb dX10_addPart_19 rfl (lv_at hl 2 rfl) ?_
  refine lv_i2l (v := x0.toInt64) hx hb dX10_addPart_20 rfl ?_
  refine lv_lconst (v := 1) hx hb dX10_addPart_21 (by decide) ?_
  refine lv_iload_n hx hb dX10_addPart_22 rfl (lv_at hl 1 rfl) ?_
  refine lv_bipush (v := 104) hx hb dX10_addPart_23 (by decide) ?_
  refine lv_icmp_ne (tgt := 34) hx hb dX10_addPart_25 (by decide) (fun z => absurd (by decide) z) (fun _ => ?_)
  refine lv_ldc2 (v := 9999) hx hb hown (hts _ tw_494) dX10_addPart_28 ?_
  refine lv_goto (tgt := 37) hx hb dX10_addPart_31 (by decide) ?_
  refine ca_i (isC := []) (isR := [0, 1]) (wr := [(a1, .inr (4, [.int 0, .ref (g 0), .int 0])), (a0, .inr (15, [.int 0, v1, v2, v3, v4, v5, v6, .ref a1, v7, v8, v9, v10, v11, v12, v13, v14, v15, v16, v17, v18, v19, v20, v21, v22, v23, v24, v25, v26]))]) (rn_S (isC := []) (wc := []) (As := [.long x0.toInt64, .long 1, .long 9999]) (rest := []) (n := 3) hx hb hml hown hts hE hS hP hD hA hl.1 (k33_X10_in l D cy g x0.toInt64 1 9999 H.size (wl_nlt rfl (by decide) h0) (wl_nlt (by decide) rfl h1)) rfl rfl ax_39 rfl rfl ax_40 ⟨Nat.le_of_ble_eq_true rfl, Nat.le_of_ble_eq_true rfl⟩ rfl rfl (Nat.le_of_ble_eq_true rfl) dX10_addPart_37 ⟨(Nat.le_of_ble_eq_true rfl), (Nat.le_of_ble_eq_true rfl)⟩) hP hD hS hA rfl rfl rfl (by decide) (fun ad37 H locs hP hD hS => ?_)
  have hP : va_P D vwCl [(a1, .inr (4, [.int 0, .ref (g 0), .int 0])), (a0, .inr (15, [.int 0, v1, v2, v3, v4, v5, v6, .ref a1, v7, v8, v9, v10, v11, v12, v13, v14, v15, v16, v17, v18, v19, v20, v21, v22, v23, v24, v25, v26]))] H := hP
  have hD : va_D A [(a1, .inr (4, [.int 0, .ref (g 0), .int 0])), (a0, .inr (15, [.int 0, v1, v2, v3, v4, v5, v6, .ref a1, v7, v8, v9, v10, v11, v12, v13, v14, v15, v16, v17, v18, v19, v20, v21, v22, v23, v24, v25, v26]))] := hD
  refine lv_if_eq (tgt := 65) hx hb dX10_addPart_40 (by decide) (fun z => absurd z (by decide)) (fun _ => ?_)
  refine lv_iload_n hx hb dX10_addPart_43 rfl (lv_at hl 1 rfl) ?_
  refine lv_bipush (v := 116) hx hb dX10_addPart_44 (by decide) ?_
  refine lv_icmp_ne (tgt := 61) hx hb dX10_addPart_46 (by decide) (fun _ => ?_) (fun z => absurd z (by decide))
  refine lv_iconst (v := 1) hx hb dX10_addPart_61 (by decide) ?_
  refine lv_goto (tgt := 66) hx hb dX10_addPart_62 (by decide) ?_
  refine lv_istore (lv' := [(4, .int 1), (0, .ref a0), (1, .int 104), (2, .int x0), (3, .int x1)]) hx hb dX10_addPart_66 hl (Nat.le_of_ble_eq_true rfl) rfl (fun ls hl => ?_)
  refine lv_aload_n hx hb dX10_addPart_68 rfl (lv_at hl 1 rfl) ?_
  refine lv_iload hx hb dX10_addPart_69 (lv_at hl 0 rfl) ?_
  refine lv_if_ne (tgt := 78) hx hb dX10_addPart_71 (by decide) (fun _ => ?_) (fun z => absurd z (by decide))
  refine lv_iconst (v := 0) hx hb dX10_addPart_78 (by decide) ?_
  refine lv_iconst (v := 1) hx hb dX10_addPart_79 (by decide) ?_
  refine ca_i (isC := [1]) (isR := [0]) (wr := [(a1, .inr (4, [.int 0, .ref (g 0), .int 0]))]) (rn_V (ci := 15) (q0 := 1) (isC := [1]) (wc := [(a0, .inr (15, [.int 0, v1, v2, v3, v4, v5, v6, .ref a1, v7, v8, v9, v10, v11, v12, v13, v14, v15, v16, v17, v18, v19, v20, v21, v22, v23, v24, v25, v26]))]) (As := [.int 0, .int 1]) (rest := []) (n := 2) hx hb hml hown hts hE hS hP hD hA hl.1 (k43_X10_fails l D cy g a0 (v1) (v2) (v3) (v4) (v5) (v6) (.ref a1) (v7) (v8) (v9) (v10) (v11) (v12) (v13) (v14) (v15) (v16) (v17) (v18) (v19) (v20) (v21) (v22) (v23) (v24) (v25) (v26) H.size ) rfl rfl rfl rfl rfl ax_41 rfl rfl ax_42 ⟨Nat.le_of_ble_eq_true rfl, Nat.le_of_ble_eq_true rfl⟩ rfl rfl (Nat.le_of_ble_eq_true rfl) dX10_addPart_80 ⟨(Nat.le_of_ble_eq_true rfl), (Nat.le_of_ble_eq_true rfl)⟩) hP hD hS hA rfl rfl rfl (by decide) (fun ad80 H locs hP hD hS => ?_)
  have hP : va_P D vwCl [(a1, .inr (4, [.int 0, .ref (g 0), .int 0])), (a0, .inr (15, [.int 0, v1, v2, v3, v4, v5, v6, .ref a1, v7, v8, v9, v10, v11, v12, v13, v14, v15, v16, v17, v18, v19, v20, v21, v22, v23, v24, v25, v26]))] H := hP
  have hD : va_D A [(a1, .inr (4, [.int 0, .ref (g 0), .int 0])), (a0, .inr (15, [.int 0, v1, v2, v3, v4, v5, v6, .ref a1, v7, v8, v9, v10, v11, v12, v13, v14, v15, v16, v17, v18, v19, v20, v21, v22, v23, v24, v25, v26]))] := hD
  refine lv_if_ne (tgt := 113) hx hb dX10_addPart_83 (by decide) (fun z => absurd (by decide) z) (fun _ => ?_)
  refine lv_aload_n hx hb dX10_addPart_86 rfl (lv_at hl 1 rfl) ?_
  refine lv_aload_n hx hb dX10_addPart_87 rfl (lv_at hl 1 rfl) ?_
  refine va_get (D := D) (ci := 15) (v := .ref a1) (C := RX10) (T := TX10) (N := 28) hx hb hts ax_29 hown hE.1 hP 1 rfl rfl 7 (by decide) (hts _ tw_279) (fun _ h9 => h9) rfl dX10_addPart_88 ?_
  refine ca_Fi (isC := [0]) (isR := [1]) (wr := [(a0, .inr (15, [.int 0, v1, v2, v3, v4, v5, v6, .ref a1, v7, v8, v9, v10, v11, v12, v13, v14, v15, v16, v17, v18, v19, v20, v21, v22, v23, v24, v25, v26]))]) (rn_F (ci := 4) (q0 := 0) (isC := [0]) (wc := [(a1, .inr (4, [.int 0, .ref (g 0), .int 0]))]) (As := []) (rest := [.ref a0]) (n := 0) hx hb hml hown hts hE hS hP hD hA hl.1 (k44_Jx4a65c_size_8abf5 l D cy g a1 (.int 0) (.ref (g 0)) H.size ) rfl rfl rfl rfl rfl ax_59 tw_367 tw_368 tw_369 tw_370 tw_371 rfl rfl ax_60 ⟨Nat.le_of_ble_eq_true rfl, Nat.le_of_ble_eq_true rfl⟩ rfl rfl (Nat.le_of_ble_eq_true rfl) dX10_addPart_91 ⟨(Nat.le_of_ble_eq_true rfl), (Nat.le_of_ble_eq_true rfl)⟩) hP hD hS hA rfl rfl rfl (by decide) (fun ad91 H locs hP hD hS => ?_)
  have hP : va_P D vwCl [(a0, .inr (15, [.int 0, v1, v2, v3, v4, v5, v6, .ref a1, v7, v8, v9, v10, v11, v12, v13, v14, v15, v16, v17, v18, v19, v20, v21, v22, v23, v24, v25, v26])), (a1, .inr (4, [.int 0, .ref (g 0), .int 0]))] H := hP
  have hD : va_D A [(a0, .inr (15, [.int 0, v1, v2, v3, v4, v5, v6, .ref a1, v7, v8, v9, v10, v11, v12, v13, v14, v15, v16, v17, v18, v19, v20, v21, v22, v23, v24, v25, v26])), (a1, .inr (4, [.int 0, .ref (g 0), .int 0]))] := hD
  refine lv_bipush (v := 8) hx hb dX10_addPart_96 (by decide) ?_
  refine lv_icmp_ne (tgt := 105) hx hb dX10_addPart_98 (by decide) (fun _ => ?_) (fun z => absurd z (by decide))
  refine lv_iconst (v := 0) hx hb dX10_addPart_105 (by decide) ?_
  refine lv_iconst (v := 2) hx hb dX10_addPart_106 (by decide) ?_
  refine ca_i (isC := [0]) (isR := [1]) (wr := [(a1, .inr (4, [.int 0, .ref (g 0), .int 0]))]) (rn_V (ci := 15) (q0 := 0) (isC := [0]) (wc := [(a0, .inr (15, [.int 0, v1, v2, v3, v4, v5, v6, .ref a1, v7, v8, v9, v10, v11, v12, v13, v14, v15, v16, v17, v18, v19, v20, v21, v22, v23, v24, v25, v26]))]) (As := [.int 0, .int 2]) (rest := []) (n := 2) hx hb hml hown hts hE hS hP hD hA hl.1 (k45_X10_fails l D cy g a0 (v1) (v2) (v3) (v4) (v5) (v6) (.ref a1) (v7) (v8) (v9) (v10) (v11) (v12) (v13) (v14) (v15) (v16) (v17) (v18) (v19) (v20) (v21) (v22) (v23) (v24) (v25) (v26) H.size ) rfl rfl rfl rfl rfl ax_41 rfl rfl ax_42 ⟨Nat.le_of_ble_eq_true rfl, Nat.le_of_ble_eq_true rfl⟩ rfl rfl (Nat.le_of_ble_eq_true rfl) dX10_addPart_107 ⟨(Nat.le_of_ble_eq_true rfl), (Nat.le_of_ble_eq_true rfl)⟩) hP hD hS hA rfl rfl rfl (by decide) (fun ad107 H locs hP hD hS => ?_)
  have hP : va_P D vwCl [(a1, .inr (4, [.int 0, .ref (g 0), .int 0])), (a0, .inr (15, [.int 0, v1, v2, v3, v4, v5, v6, .ref a1, v7, v8, v9, v10, v11, v12, v13, v14, v15, v16, v17, v18, v19, v20, v21, v22, v23, v24, v25, v26]))] H := hP
  have hD : va_D A [(a1, .inr (4, [.int 0, .ref (g 0), .int 0])), (a0, .inr (15, [.int 0, v1, v2, v3, v4, v5, v6, .ref a1, v7, v8, v9, v10, v11, v12, v13, v14, v15, v16, v17, v18, v19, v20, v21, v22, v23, v24, v25, v26]))] := hD
  refine lv_if_eq (tgt := 115) hx hb dX10_addPart_110 (by decide) (fun _ => ?_) (fun z => absurd (by decide) z)
  refine lv_aload_n hx hb dX10_addPart_115 rfl (lv_at hl 1 rfl) ?_
  refine va_get (D := D) (ci := 15) (v := .ref a1) (C := RX10) (T := TX10) (N := 28) hx hb hts ax_29 hown hE.1 hP 1 rfl rfl 7 (by decide) (hts _ tw_279) (fun _ h9 => h9) rfl dX10_addPart_116 ?_
  refine lv_iconst (v := 3) hx hb dX10_addPart_119 (by decide) ?_
  refine nw_p (atype := .int) (ty := .int) (cA := cy 1) (a0 := (3, .inl (fun _ => 0))) (N' := 3) 1 hx hb rfl hts tw_11 hE rfl hP hD hS hA (fun _ => rfl) (by decide) (by decide) (by decide) (Nat.le_of_ble_eq_true rfl) (Nat.le_of_ble_eq_true rfl) dX10_addPart_120 (fun q1 H hP hD hS => ?_)
  have hP : va_P D vwCl [(a1, .inr (4, [.int 0, .ref (g 0), .int 0])), (a0, .inr (15, [.int 0, v1, v2, v3, v4, v5, v6, .ref a1, v7, v8, v9, v10, v11, v12, v13, v14, v15, v16, v17, v18, v19, v20, v21, v22, v23, v24, v25, v26])), (q1, .inl (cy 1, 3, .inl (fun _ => 0)))] H := hP
  have hD : va_D A [(a1, .inr (4, [.int 0, .ref (g 0), .int 0])), (a0, .inr (15, [.int 0, v1, v2, v3, v4, v5, v6, .ref a1, v7, v8, v9, v10, v11, v12, v13, v14, v15, v16, v17, v18, v19, v20, v21, v22, v23, v24, v25, v26])), (q1, .inl (cy 1, 3, .inl (fun _ => 0)))] := hD
  refine lv_dup hx hb dX10_addPart_122 rfl ?_
  refine lv_iconst (v := 0) hx hb dX10_addPart_123 (by decide) ?_
  refine lv_iload_n hx hb dX10_addPart_124 rfl (lv_at hl 2 rfl) ?_
  refine va_iast hx hb hE.1 hP hD hS 2 1 rfl rfl (by unfold vp_in; decide) dX10_addPart_125 (fun H locs hP hD hS => ?_)
  have hP : va_P D vwCl [(a1, .inr (4, [.int 0, .ref (g 0), .int 0])), (a0, .inr (15, [.int 0, v1, v2, v3, v4, v5, v6, .ref a1, v7, v8, v9, v10, v11, v12, v13, v14, v15, v16, v17, v18, v19, v20, v21, v22, v23, v24, v25, v26])), (q1, .inl (cy 1, 3, .inl (upd (fun _ => 0) (0 : Int32).toNatClampNeg 104)))] H := hP
  have hD : va_D A [(a1, .inr (4, [.int 0, .ref (g 0), .int 0])), (a0, .inr (15, [.int 0, v1, v2, v3, v4, v5, v6, .ref a1, v7, v8, v9, v10, v11, v12, v13, v14, v15, v16, v17, v18, v19, v20, v21, v22, v23, v24, v25, v26])), (q1, .inl (cy 1, 3, .inl (upd (fun _ => 0) (0 : Int32).toNatClampNeg 104)))] := hD
  refine lv_dup hx hb dX10_addPart_126 rfl ?_
  refine lv_iconst (v := 1) hx hb dX10_addPart_127 (by decide) ?_
  refine lv_iload_n hx hb dX10_addPart_128 rfl (lv_at hl 3 rfl) ?_
  refine va_iast hx hb hE.1 hP hD hS 2 1 rfl rfl (by unfold vp_in; decide) dX10_addPart_129 (fun H locs hP hD hS => ?_)
  have hP : va_P D vwCl [(a1, .inr (4, [.int 0, .ref (g 0), .int 0])), (a0, .inr (15, [.int 0, v1, v2, v3, v4, v5, v6, .ref a1, v7, v8, v9, v10, v11, v12, v13, v14, v15, v16, v17, v18, v19, v20, v21, v22, v23, v24, v25, v26])), (q1, .inl (cy 1, 3, .inl (upd (upd (fun _ => 0) (0 : Int32).toNatClampNeg 104) (1 : Int32).toNatClampNeg x0)))] H := hP
  have hD : va_D A [(a1, .inr (4, [.int 0, .ref (g 0), .int 0])), (a0, .inr (15, [.int 0, v1, v2, v3, v4, v5, v6, .ref a1, v7, v8, v9, v10, v11, v12, v13, v14, v15, v16, v17, v18, v19, v20, v21, v22, v23, v24, v25, v26])), (q1, .inl (cy 1, 3, .inl (upd (upd (fun _ => 0) (0 : Int32).toNatClampNeg 104) (1 : Int32).toNatClampNeg x0)))] := hD
  refine lv_dup hx hb dX10_addPart_130 rfl ?_
  refine lv_iconst (v := 2) hx hb dX10_addPart_131 (by decide) ?_
  refine lv_iload_n hx hb dX10_addPart_132 rfl (lv_at hl 4 rfl) ?_
  refine va_iast hx hb hE.1 hP hD hS 2 1 rfl rfl (by unfold vp_in; decide) dX10_addPart_133 (fun H locs hP hD hS => ?_)
  have hP : va_P D vwCl [(a1, .inr (4, [.int 0, .ref (g 0), .int 0])), (a0, .inr (15, [.int 0, v1, v2, v3, v4, v5, v6, .ref a1, v7, v8, v9, v10, v11, v12, v13, v14, v15, v16, v17, v18, v19, v20, v21, v22, v23, v24, v25, v26])), (q1, .inl (cy 1, 3, .inl (upd (upd (upd (fun _ => 0) (0 : Int32).toNatClampNeg 104) (1 : Int32).toNatClampNeg x0) (2 : Int32).toNatClampNeg x1)))] H := hP
  have hD : va_D A [(a1, .inr (4, [.int 0, .ref (g 0), .int 0])), (a0, .inr (15, [.int 0, v1, v2, v3, v4, v5, v6, .ref a1, v7, v8, v9, v10, v11, v12, v13, v14, v15, v16, v17, v18, v19, v20, v21, v22, v23, v24, v25, v26])), (q1, .inl (cy 1, 3, .inl (upd (upd (upd (fun _ => 0) (0 : Int32).toNatClampNeg 104) (1 : Int32).toNatClampNeg x0) (2 : Int32).toNatClampNeg x1)))] := hD
  refine ca_Fi (isC := [0, 2]) (isR := [1]) (wr := [(a0, .inr (15, [.int 0, v1, v2, v3, v4, v5, v6, .ref a1, v7, v8, v9, v10, v11, v12, v13, v14, v15, v16, v17, v18, v19, v20, v21, v22, v23, v24, v25, v26]))]) (rn_F (ci := 4) (q0 := 0) (isC := [0, 2]) (wc := [(a1, .inr (4, [.int 0, .ref (g 0), .int 0])), (q1, .inl (cy 1, 3, .inl (upd (upd (upd (fun _ => 0) (0 : Int32).toNatClampNeg 104) (1 : Int32).toNatClampNeg x0) (2 : Int32).toNatClampNeg x1)))]) (As := [.ref q1]) (rest := []) (n := 1) hx hb hml hown hts hE hS hP hD hA hl.1 (k222_Jx4a65c_add_9ea2d l D cy g a1 q1 (upd (upd (upd (fun _ => 0) (0 : Int32).toNatClampNeg 104) (1 : Int32).toNatClampNeg x0) (2 : Int32).toNatClampNeg x1) H.size ) rfl rfl rfl rfl rfl ax_61 tw_376 tw_377 tw_378 tw_379 tw_371 rfl rfl ax_62 ⟨Nat.le_of_ble_eq_true rfl, Nat.le_of_ble_eq_true rfl⟩ rfl rfl (Nat.le_of_ble_eq_true rfl) dX10_addPart_134 ⟨(Nat.le_of_ble_eq_true rfl), (Nat.le_of_ble_eq_true rfl)⟩) hP hD hS hA rfl rfl rfl (by decide) (fun ad134 H locs hP hD hS => ?_)
  have hP : va_P D vwCl [(a0, .inr (15, [.int 0, v1, v2, v3, v4, v5, v6, .ref a1, v7, v8, v9, v10, v11, v12, v13, v14, v15, v16, v17, v18, v19, v20, v21, v22, v23, v24, v25, v26])), (a1, .inr (4, [.int 1, .ref (ad134 0), .int 1])), (q1, .inl (cy 1, 3, .inl (upd (upd (upd (fun _ => 0) (0 : Int32).toNatClampNeg 104) (1 : Int32).toNatClampNeg x0) (2 : Int32).toNatClampNeg x1))), ((ad134 0), .inl (cy 5, 10, .inr (.inr (.inr (.inr (va_up (fun _ => none) (0 : Int32).toNatClampNeg (some q1)))))))] H := hP
  have hD : va_D A [(a0, .inr (15, [.int 0, v1, v2, v3, v4, v5, v6, .ref a1, v7, v8, v9, v10, v11, v12, v13, v14, v15, v16, v17, v18, v19, v20, v21, v22, v23, v24, v25, v26])), (a1, .inr (4, [.int 1, .ref (ad134 0), .int 1])), (q1, .inl (cy 1, 3, .inl (upd (upd (upd (fun _ => 0) (0 : Int32).toNatClampNeg 104) (1 : Int32).toNatClampNeg x0) (2 : Int32).toNatClampNeg x1))), ((ad134 0), .inl (cy 5, 10, .inr (.inr (.inr (.inr (va_up (fun _ => none) (0 : Int32).toNatClampNeg (some q1)))))))] := hD
  refine lv_pop hx hb dX10_addPart_139 rfl ?_
  refine lv_aload_n hx hb dX10_addPart_140 rfl (lv_at hl 1 rfl) ?_
  refine va_get (D := D) (ci := 15) (v := .ref a1) (C := RX10) (T := TX10) (N := 28) hx hb hts ax_29 hown hE.1 hP 0 rfl rfl 7 (by decide) (hts _ tw_279) (fun _ h9 => h9) rfl dX10_addPart_141 ?_
  refine ca_Fi (isC := [1]) (isR := [0, 2, 3]) (wr := [(a0, .inr (15, [.int 0, v1, v2, v3, v4, v5, v6, .ref a1, v7, v8, v9, v10, v11, v12, v13, v14, v15, v16, v17, v18, v19, v20, v21, v22, v23, v24, v25, v26])), (q1, .inl (cy 1, 3, .inl (upd (upd (upd (fun _ => 0) (0 : Int32).toNatClampNeg 104) (1 : Int32).toNatClampNeg x0) (2 : Int32).toNatClampNeg x1))), ((ad134 0), .inl (cy 5, 10, .inr (.inr (.inr (.inr (va_up (fun _ => none) (0 : Int32).toNatClampNeg (some q1)))))))]) (rn_F (ci := 4) (q0 := 1) (isC := [1]) (wc := [(a1, .inr (4, [.int 1, .ref (ad134 0), .int 1]))]) (As := []) (rest := []) (n := 0) hx hb hml hown hts hE hS hP hD hA hl.1 (k50_Jx4a65c_size_8abf5 l D cy g a1 (.int 1) (.ref (ad134 0)) H.size ) rfl rfl rfl rfl rfl ax_59 tw_367 tw_368 tw_369 tw_370 tw_371 rfl rfl ax_60 ⟨Nat.le_of_ble_eq_true rfl, Nat.le_of_ble_eq_true rfl⟩ rfl rfl (Nat.le_of_ble_eq_true rfl) dX10_addPart_144 ⟨(Nat.le_of_ble_eq_true rfl), (Nat.le_of_ble_eq_true rfl)⟩) hP hD hS hA rfl rfl rfl (by decide) (fun ad144 H locs hP hD hS => ?_)
  have hP : va_P D vwCl [(a0, .inr (15, [.int 0, v1, v2, v3, v4, v5, v6, .ref a1, v7, v8, v9, v10, v11, v12, v13, v14, v15, v16, v17, v18, v19, v20, v21, v22, v23, v24, v25, v26])), (q1, .inl (cy 1, 3, .inl (upd (upd (upd (fun _ => 0) (0 : Int32).toNatClampNeg 104) (1 : Int32).toNatClampNeg x0) (2 : Int32).toNatClampNeg x1))), ((ad134 0), .inl (cy 5, 10, .inr (.inr (.inr (.inr (va_up (fun _ => none) (0 : Int32).toNatClampNeg (some q1))))))), (a1, .inr (4, [.int 1, .ref (ad134 0), .int 1]))] H := hP
  have hD : va_D A [(a0, .inr (15, [.int 0, v1, v2, v3, v4, v5, v6, .ref a1, v7, v8, v9, v10, v11, v12, v13, v14, v15, v16, v17, v18, v19, v20, v21, v22, v23, v24, v25, v26])), (q1, .inl (cy 1, 3, .inl (upd (upd (upd (fun _ => 0) (0 : Int32).toNatClampNeg 104) (1 : Int32).toNatClampNeg x0) (2 : Int32).toNatClampNeg x1))), ((ad134 0), .inl (cy 5, 10, .inr (.inr (.inr (.inr (va_up (fun _ => none) (0 : Int32).toNatClampNeg (some q1))))))), (a1, .inr (4, [.int 1, .ref (ad134 0), .int 1]))] := hD
  exact en_z hx hb hr hlk hP hD hS rfl (fun _ => 0) (is := [0]) rfl rfl (Nat.le_of_ble_eq_true rfl) (Nat.le_of_ble_eq_true rfl) dX10_addPart_149
set_option maxHeartbeats 4000000 in
set_option maxRecDepth 100000 in
theorem k224_X3_isPart (l : Launch) (D : va_G) (cy : Nat → ClassId) (g : Nat → Nat) (x0 : Int32) (x1 : Int32) (sz : Nat) (h0 : x0 < 1) : Met l yX3_isPart [.code yX3_isPart cX3_isPart 3 (some .boolean)] ({ frames := 1, cells := 0, slots := 0, locals := 22 }) (PC D cy g [] sz [.int 116, .int x0, .int x1]) (QI D 0 (fun ad => []) (va_A [] sz)) 0 0 (va_A [] sz) := by
  refine st_I (by decide) (Nat.le_of_ble_eq_true rfl) ?_
  intro p e s m args below meth c A ls hx hb hr hml hown hlk hnm hsz hP hD hA hE hts hS hl
  have hown : s.vm.findClass RX3 = some m.cls := hown
  have hl : lv_has ls 3 [(0, .int 116), (1, .int x0), (2, .int x1)] := hl
  refine lv_iload_n hx hb dX3_isPart_0 rfl (lv_at hl 0 rfl) ?_
  refine lv_bipush (v := 104) hx hb dX3_isPart_1 (by decide) ?_
  refine lv_icmp_ne (tgt := 23) hx hb dX3_isPart_3 (by decide) (fun _ => ?_) (fun z => absurd z (by decide))
  refine lv_iload_n hx hb dX3_isPart_23 rfl (lv_at hl 0 rfl) ?_
  refine lv_bipush (v := 116) hx hb dX3_isPart_24 (by decide) ?_
  refine lv_icmp_ne (tgt := 56) hx hb dX3_isPart_26 (by decide) (fun z => absurd (by decide) z) (fun _ => ?_)
  refine lv_iload_n hx hb dX3_isPart_29 rfl (lv_at hl 1 rfl) ?_
  refine lv_iconst (v := 1) hx hb dX3_isPart_30 (by decide) ?_
  refine lv_sipush (v := 1000) hx hb dX3_isPart_31 (by decide) ?_
  refine ca_i (isC := []) (isR := []) (wr := []) (rn_SN (isC := []) (wc := []) (As := [.int x0, .int 1, .int 1000]) (rest := []) (n := 3) hx hb hml hown hts hE hS hP hD hA hl.1 (k17_X9_isOutside l D cy g x0 1 1000 s.heap.size h0) rfl rfl tw_619 tw_293 tw_294 tw_295 rfl rfl ax_31 ⟨Nat.le_of_ble_eq_true rfl, Nat.le_of_ble_eq_true rfl⟩ rfl rfl (Nat.le_of_ble_eq_true rfl) dX3_isPart_34 ⟨(Nat.le_of_ble_eq_true rfl), (Nat.le_of_ble_eq_true rfl)⟩) hP hD hS hA rfl rfl rfl (by decide) (fun ad34 H locs hP hD hS => ?_)
  have hP : va_P D vwCl [] H := hP
  have hD : va_D A [] := hD
  refine lv_if_ne (tgt := 54) hx hb dX3_isPart_37 (by decide) (fun _ => ?_) (fun z => absurd z (by decide))
  refine lv_iconst (v := 0) hx hb dX3_isPart_54 (by decide) ?_
  exact en_z hx hb hr hlk hP hD hS rfl (fun _ => 0) (is := []) rfl rfl (Nat.le_of_ble_eq_true rfl) (Nat.le_of_ble_eq_true rfl) dX3_isPart_55
set_option maxHeartbeats 4000000 in
set_option maxRecDepth 100000 in
theorem k225_X9_addPart (l : Launch) (hst : l.stackTraces = false) (D : va_G) (cy : Nat → ClassId) (g : Nat → Nat) (x0 : Int32) (x1 : Int32) (b0 : Nat) (sz : Nat) (h0 : x0 < 1) : vx_Met l yX9_addPart [.code yX9_addPart cX9_addPart 4 (some .int)] ({ frames := 6, cells := 1, slots := 6, locals := 82 }) (PC D cy g [] sz [.ref b0, .int 116, .int x0, .int x1]) QN (XE "java/lang/IllegalArgumentException" (va_A [] sz)) 1 6 (va_A [] sz) := by
  refine st_X (by decide) (Nat.le_of_ble_eq_true rfl) ?_
  intro p e s m args below meth c A ls hx hb hr hml hown hlk hnm hsz hP hD hA hE hts hS hl hout
  have hown : s.vm.findClass RX9 = some m.cls := hown
  have hl : lv_has ls 4 [(0, .ref b0), (1, .int 116), (2, .int x0), (3, .int x1)] := hl
  refine lv_iload_n hx hb dX9_addPart_0 rfl (lv_at hl 1 rfl) ?_
  refine lv_iload_n hx hb dX9_addPart_1 rfl (lv_at hl 2 rfl) ?_
  refine lv_iload_n hx hb dX9_addPart_2 rfl (lv_at hl 3 rfl) ?_
  refine ca_i (isC := []) (isR := []) (wr := []) (rn_S (isC := []) (wc := []) (As := [.int 116, .int x0, .int x1]) (rest := []) (n := 3) hx hb hml hown hts hE hS hP hD hA hl.1 (k224_X3_isPart l D cy g x0 x1 s.heap.size h0) rfl rfl ax_180 rfl rfl ax_181 ⟨Nat.le_of_ble_eq_true rfl, Nat.le_of_ble_eq_true rfl⟩ rfl rfl (Nat.le_of_ble_eq_true rfl) dX9_addPart_3 ⟨(Nat.le_of_ble_eq_true rfl), (Nat.le_of_ble_eq_true rfl)⟩) hP hD hS hA rfl rfl rfl (by decide) (fun ad3 H locs hP hD hS => ?_)
  have hP : va_P D vwCl [] H := hP
  have hD : va_D A [] := hD
  refine lv_if_ne (tgt := 19) hx hb dX9_addPart_6 (by decide) (fun z => absurd (by decide) z) (fun _ => ?_)
  exact th_S (text := "there is no such part") hx hb hst hown hts hE hS (hl.1.trans hml.symm) hout hlk (by decide +kernel) tw_296 tw_297 ax_32 (by decide +kernel) dX9_addPart_9 dX9_addPart_12 dX9_addPart_13 dX9_addPart_15 dX9_addPart_18 ⟨Nat.le_of_ble_eq_true rfl, Nat.le_of_ble_eq_true rfl, Nat.le_of_ble_eq_true rfl, Nat.le_of_ble_eq_true rfl⟩ (Nat.le_of_ble_eq_true rfl) (Nat.le_of_ble_eq_true rfl)
set_option maxHeartbeats 4000000 in
set_option maxRecDepth 100000 in
theorem k226_L_addPart (l : Launch) (hst : l.stackTraces = false) (D : va_G) (cy : Nat → ClassId) (g : Nat → Nat) (x0 : Int32) (x1 : Int32) (a0 : Nat) (b0 : Nat) (v0 : Value) (v1 : Value) (v2 : Value) (v3 : Value) (v4 : Value) (v5 : Value) (v6 : Value) (sz : Nat) (h0 : x0 < 1) : Met l yL_addPart [.codeWith yL_addPart cL_addPart 6 (some .int) [(0, 12, 15, 13), (0, 12, 19, 15)]] ({ frames := 7, cells := 1, slots := 6, locals := 105 }) (PC D cy g [(a0, .inr (14, [v0, v1, v2, v3, v4, v5, v6]))] sz [.ref a0, .int 116, .int x0, .int x1, .ref b0]) (QI D 1 (fun ad => []) (va_A [(a0, .inr (14, [v0, v1, v2, v3, v4, v5, v6]))] sz)) 1 6 (va_A [(a0, .inr (14, [v0, v1, v2, v3, v4, v5, v6]))] sz) := by
  refine sh_I (by decide) (Nat.le_of_ble_eq_true rfl) ?_
  intro p e s m args below meth c A ls hx hb hr hml hown hlk hnm hsz hP hD hA hE hts hS hl htb
  have hown : s.vm.findClass RL = some m.cls := hown
  have hl : lv_has ls 6 [(0, .ref a0), (1, .int 116), (2, .int x0), (3, .int x1), (4, .ref b0)] := hl
  refine lv_aload hx hb dL_addPart_0 (lv_at hl 4 rfl) ?_
  refine lv_iconst (v := 0) hx hb dL_addPart_2 (by decide) ?_
  refine lv_aload_n hx hb dL_addPart_3 rfl (lv_at hl 0 rfl) ?_
  refine lv_iload_n hx hb dL_addPart_4 rfl (lv_at hl 1 rfl) ?_
  refine lv_iload_n hx hb dL_addPart_5 rfl (lv_at hl 2 rfl) ?_
  refine lv_iload_n hx hb dL_addPart_6 rfl (lv_at hl 3 rfl) ?_
  refine cx_catch (isC := []) (isR := [0]) (wr := [(a0, .inr (14, [v0, v1, v2, v3, v4, v5, v6]))]) (hp := []) (z := (0, 12, 15, 13)) (hq := [(0, 12, 19, 15)]) (name := "java/lang/IllegalArgumentException") (own := RL) (rx_V (ci := 14) (q0 := 0) (isC := []) (wc := []) (As := [.int 116, .int x0, .int x1]) (rest := [.int 0, .ref b0]) (n := 3) hx hb hml hown hts hE hS hP hD hA hl.1 (k225_X9_addPart l hst D cy g x0 x1 a0 s.heap.size h0) rfl rfl rfl rfl rfl ax_182 rfl rfl ax_183 ⟨Nat.le_of_ble_eq_true rfl, Nat.le_of_ble_eq_true rfl⟩ rfl rfl (Nat.le_of_ble_eq_true rfl) dL_addPart_7 ⟨(Nat.le_of_ble_eq_true rfl), (Nat.le_of_ble_eq_true rfl)⟩) hP hD hS hA hown hts hE htb rfl rfl rfl rfl (by decide) (fun z hz => by cases hz) (by decide) (by decide) tw_302 tw_303 (fun qx H locs hP hD hS => ?_)
  have hP : va_P D vwCl [(a0, .inr (14, [v0, v1, v2, v3, v4, v5, v6]))] H := hP
  have hD : va_D A [(a0, .inr (14, [v0, v1, v2, v3, v4, v5, v6]))] := hD
  refine lv_astore (lv' := [(5, .ref qx), (0, .ref a0), (1, .int 116), (2, .int x0), (3, .int x1), (4, .ref b0)]) hx hb dL_addPart_15 hl (Nat.le_of_ble_eq_true rfl) rfl (fun ls hl => ?_)
  refine lv_iconst (v := 1) hx hb dL_addPart_17 (by decide) ?_
  exact en_z hx hb hr hlk hP hD hS rfl (fun _ => 0) (is := []) rfl rfl (Nat.le_of_ble_eq_true rfl) (Nat.le_of_ble_eq_true rfl) dL_addPart_18
set_option maxHeartbeats 4000000 in
set_option maxRecDepth 100000 in
theorem k227_J1_canEncode_9a6ad (l : Launch) (D : va_G) (cy : Nat → ClassId) (g : Nat → Nat)  (sz : Nat)  : Met l yJ1_canEncode_9a6ad [.code yJ1_canEncode_9a6ad cJ1_canEncode_9a6ad 1 (some .boolean)] ({ frames := 0, cells := 0, slots := 0, locals := 0 }) (PC D cy g [] sz [.int 116]) (QI D 1 (fun ad => []) (va_A [] sz)) 0 0 (va_A [] sz) := by
  refine st_I (by decide) (Nat.le_of_ble_eq_true rfl) ?_
  intro p e s m args below meth c A ls hx hb hr hml hown hlk hnm hsz hP hD hA hE hts hS hl
  have hown : s.vm.findClass RJ1 = some m.cls := hown
  have hl : lv_has ls 1 [(0, .int 116)] := hl
  refine lv_iload_n hx hb dJ1_canEncode_9a6ad_0 rfl (lv_at hl 0 rfl) ?_
  refine lv_if_lt (tgt := 15) hx hb dJ1_canEncode_9a6ad_1 (by decide) (fun z => absurd z (by decide)) (fun _ => ?_)
  refine lv_iload_n hx hb dJ1_canEncode_9a6ad_4 rfl (lv_at hl 0 rfl) ?_
  refine lv_sipush (v := 255) hx hb dJ1_canEncode_9a6ad_5 (by decide) ?_
  refine lv_icmp_gt (tgt := 15) hx hb dJ1_canEncode_9a6ad_8 (by decide) (fun z => absurd z (by decide)) (fun _ => ?_)
  refine lv_iconst (v := 1) hx hb dJ1_canEncode_9a6ad_11 (by decide) ?_
  refine lv_goto (tgt := 16) hx hb dJ1_canEncode_9a6ad_12 (by decide) ?_
  exact en_z hx hb hr hlk hP hD hS rfl (fun _ => 0) (is := []) rfl rfl (Nat.le_of_ble_eq_true rfl) (Nat.le_of_ble_eq_true rfl) dJ1_canEncode_9a6ad_16
set_option maxHeartbeats 4000000 in
set_option maxRecDepth 100000 in
theorem k228_J1_indexOfChar_4cfef (l : Launch) (D : va_G) (cy : Nat → ClassId) (g : Nat → Nat)  (sz : Nat)  : Met l yJ1_indexOfChar_4cfef [.code yJ1_indexOfChar_4cfef cJ1_indexOfChar_4cfef 6 (some .int)] ({ frames := 0, cells := 0, slots := 0, locals := 0 }) (PC D cy g [] sz [.ref (g (0 + 3)), .int 116, .int 0, .int 5]) (QI D 2 (fun ad => []) (va_A [] sz)) 0 0 (va_A [] sz) := by
  refine st_I (by decide) (Nat.le_of_ble_eq_true rfl) ?_
  intro p e s m args below meth c A ls hx hb hr hml hown hlk hnm hsz hP hD hA hE hts hS hl
  have hown : s.vm.findClass RJ1 = some m.cls := hown
  have hl : lv_has ls 6 [(0, .ref (g (0 + 3))), (1, .int 116), (2, .int 0), (3, .int 5)] := hl
  refine lv_iload_n hx hb dJ1_indexOfChar_4cfef_0 rfl (lv_at hl 1 rfl) ?_
  refine lv_i2b (v := 116) hx hb dJ1_indexOfChar_4cfef_1 (by decide) ?_
  refine lv_istore (lv' := [(4, .int 116), (0, .ref (g (0 + 3))), (1, .int 116), (2, .int 0), (3, .int 5)]) hx hb dJ1_indexOfChar_4cfef_2 hl (Nat.le_of_ble_eq_true rfl) rfl (fun ls hl => ?_)
  refine lv_iload_n hx hb dJ1_indexOfChar_4cfef_4 rfl (lv_at hl 3 rfl) ?_
  refine lv_istore (lv' := [(5, .int 0), (4, .int 116), (0, .ref (g (0 + 3))), (1, .int 116), (2, .int 0), (3, .int 5)]) hx hb dJ1_indexOfChar_4cfef_5 hl (Nat.le_of_ble_eq_true rfl) rfl (fun ls hl => ?_)
  refine lv_iload hx hb dJ1_indexOfChar_4cfef_7 (lv_at hl 0 rfl) ?_
  refine lv_iload_n hx hb dJ1_indexOfChar_4cfef_9 rfl (lv_at hl 5 rfl) ?_
  refine lv_icmp_ge (tgt := 31) hx hb dJ1_indexOfChar_4cfef_10 (by decide) (fun z => absurd z (by decide)) (fun _ => ?_)
  refine lv_aload_n hx hb dJ1_indexOfChar_4cfef_13 rfl (lv_at hl 2 rfl) ?_
  refine lv_iload hx hb dJ1_indexOfChar_4cfef_14 (lv_at hl 0 rfl) ?_
  refine va_tb (v := .int 112) hx hb (hE.2.2.2.2.2.2.2.2.2.2.1 0 (by decide)).2.2.2 hS (by unfold vp_in; decide) rfl dJ1_indexOfChar_4cfef_16 ?_
  refine lv_iload hx hb dJ1_indexOfChar_4cfef_17 (lv_at hl 1 rfl) ?_
  refine lv_icmp_ne (tgt := 25) hx hb dJ1_indexOfChar_4cfef_19 (by decide) (fun _ => ?_) (fun z => absurd z (by decide))
  refine lv_iinc (v := 1) (lv' := [(5, .int 1), (4, .int 116), (0, .ref (g (0 + 3))), (1, .int 116), (2, .int 0), (3, .int 5)]) hx hb dJ1_indexOfChar_4cfef_25 hl (k := 0) rfl (by decide) (Nat.le_of_ble_eq_true rfl) rfl (fun ls hl => ?_)
  refine lv_goto (tgt := 7) hx hb dJ1_indexOfChar_4cfef_28 (by decide) ?_
  refine lv_iload hx hb dJ1_indexOfChar_4cfef_7 (lv_at hl 0 rfl) ?_
  refine lv_iload_n hx hb dJ1_indexOfChar_4cfef_9 rfl (lv_at hl 5 rfl) ?_
  refine lv_icmp_ge (tgt := 31) hx hb dJ1_indexOfChar_4cfef_10 (by decide) (fun z => absurd z (by decide)) (fun _ => ?_)
  refine lv_aload_n hx hb dJ1_indexOfChar_4cfef_13 rfl (lv_at hl 2 rfl) ?_
  refine lv_iload hx hb dJ1_indexOfChar_4cfef_14 (lv_at hl 0 rfl) ?_
  refine va_tb (v := .int 104) hx hb (hE.2.2.2.2.2.2.2.2.2.2.1 0 (by decide)).2.2.2 hS (by unfold vp_in; decide) rfl dJ1_indexOfChar_4cfef_16 ?_
  refine lv_iload hx hb dJ1_indexOfChar_4cfef_17 (lv_at hl 1 rfl) ?_
  refine lv_icmp_ne (tgt := 25) hx hb dJ1_indexOfChar_4cfef_19 (by decide) (fun _ => ?_) (fun z => absurd z (by decide))
  refine lv_iinc (v := 2) (lv' := [(5, .int 2), (4, .int 116), (0, .ref (g (0 + 3))), (1, .int 116), (2, .int 0), (3, .int 5)]) hx hb dJ1_indexOfChar_4cfef_25 hl (k := 0) rfl (by decide) (Nat.le_of_ble_eq_true rfl) rfl (fun ls hl => ?_)
  refine lv_goto (tgt := 7) hx hb dJ1_indexOfChar_4cfef_28 (by decide) ?_
  refine lv_iload hx hb dJ1_indexOfChar_4cfef_7 (lv_at hl 0 rfl) ?_
  refine lv_iload_n hx hb dJ1_indexOfChar_4cfef_9 rfl (lv_at hl 5 rfl) ?_
  refine lv_icmp_ge (tgt := 31) hx hb dJ1_indexOfChar_4cfef_10 (by decide) (fun z => absurd z (by decide)) (fun _ => ?_)
  refine lv_aload_n hx hb dJ1_indexOfChar_4cfef_13 rfl (lv_at hl 2 rfl) ?_
  refine lv_iload hx hb dJ1_indexOfChar_4cfef_14 (lv_at hl 0 rfl) ?_
  refine va_tb (v := .int 116) hx hb (hE.2.2.2.2.2.2.2.2.2.2.1 0 (by decide)).2.2.2 hS (by unfold vp_in; decide) rfl dJ1_indexOfChar_4cfef_16 ?_
  refine lv_iload hx hb dJ1_indexOfChar_4cfef_17 (lv_at hl 1 rfl) ?_
  refine lv_icmp_ne (tgt := 25) hx hb dJ1_indexOfChar_4cfef_19 (by decide) (fun z => absurd (by decide) z) (fun _ => ?_)
  refine lv_iload hx hb dJ1_indexOfChar_4cfef_22 (lv_at hl 0 rfl) ?_
  exact en_z hx hb hr hlk hP hD hS rfl (fun _ => 0) (is := []) rfl rfl (Nat.le_of_ble_eq_true rfl) (Nat.le_of_ble_eq_true rfl) dJ1_indexOfChar_4cfef_24
set_option maxHeartbeats 4000000 in
set_option maxRecDepth 100000 in
theorem k229_J1_indexOf_4cfef (l : Launch) (D : va_G) (cy : Nat → ClassId) (g : Nat → Nat)  (sz : Nat)  : Met l yJ1_indexOf_4cfef [.code yJ1_indexOf_4cfef cJ1_indexOf_4cfef 4 (some .int)] ({ frames := 1, cells := 0, slots := 0, locals := 25 }) (PC D cy g [] sz [.ref (g (0 + 3)), .int 116, .int 0, .int 5]) (QI D 2 (fun ad => []) (va_A [] sz)) 0 0 (va_A [] sz) := by
  refine st_I (by decide) (Nat.le_of_ble_eq_true rfl) ?_
  intro p e s m args below meth c A ls hx hb hr hml hown hlk hnm hsz hP hD hA hE hts hS hl
  have hown : s.vm.findClass RJ1 = some m.cls := hown
  have hl : lv_has ls 4 [(0, .ref (g (0 + 3))), (1, .int 116), (2, .int 0), (3, .int 5)] := hl
  refine lv_iload_n hx hb dJ1_indexOf_4cfef_0 rfl (lv_at hl 1 rfl) ?_
  refine ca_i (isC := []) (isR := []) (wr := []) (rn_S (isC := []) (wc := []) (As := [.int 116]) (rest := []) (n := 1) hx hb hml hown hts hE hS hP hD hA hl.1 (k227_J1_canEncode_9a6ad l D cy g  s.heap.size ) rfl rfl ax_188 rfl rfl ax_189 ⟨Nat.le_of_ble_eq_true rfl, Nat.le_of_ble_eq_true rfl⟩ rfl rfl (Nat.le_of_ble_eq_true rfl) dJ1_indexOf_4cfef_1 ⟨(Nat.le_of_ble_eq_true rfl), (Nat.le_of_ble_eq_true rfl)⟩) hP hD hS hA rfl rfl rfl (by decide) (fun ad1 H locs hP hD hS => ?_)
  have hP : va_P D vwCl [] H := hP
  have hD : va_D A [] := hD
  refine lv_if_ne (tgt := 9) hx hb dJ1_indexOf_4cfef_4 (by decide) (fun _ => ?_) (fun z => absurd z (by decide))
  refine lv_iload_n hx hb dJ1_indexOf_4cfef_9 rfl (lv_at hl 2 rfl) ?_
  refine lv_iconst (v := 0) hx hb dJ1_indexOf_4cfef_10 (by decide) ?_
  refine va_mmax hx hb (hml.trans hl.1.symm) hown (hts _ tw_642) (hts _ tw_344) (hts _ tw_345) (hts _ tw_346) (Nat.le_of_ble_eq_true rfl) (Nat.le_of_ble_eq_true rfl) (Nat.le_of_ble_eq_true rfl) (Nat.le_of_ble_eq_true rfl) dJ1_indexOf_4cfef_11 ?_
  refine tp_i 0 (by decide) ?_
  refine lv_istore_n (lv' := [(2, .int 0), (0, .ref (g (0 + 3))), (1, .int 116), (3, .int 5)]) hx hb dJ1_indexOf_4cfef_14 rfl hl (Nat.le_of_ble_eq_true rfl) rfl (fun ls hl => ?_)
  refine lv_iload_n hx hb dJ1_indexOf_4cfef_15 rfl (lv_at hl 3 rfl) ?_
  refine lv_aload_n hx hb dJ1_indexOf_4cfef_16 rfl (lv_at hl 1 rfl) ?_
  refine va_tlen (v := 5) hx hb (hE.2.2.2.2.2.2.2.2.2.2.1 0 (by decide)).2.2.2 hS (by decide) dJ1_indexOf_4cfef_17 ?_
  refine va_mmin hx hb (hml.trans hl.1.symm) hown (hts _ tw_643) (hts _ tw_644) (hts _ tw_345) (hts _ tw_645) (Nat.le_of_ble_eq_true rfl) (Nat.le_of_ble_eq_true rfl) (Nat.le_of_ble_eq_true rfl) (Nat.le_of_ble_eq_true rfl) dJ1_indexOf_4cfef_18 ?_
  refine tp_i 5 (by decide) ?_
  refine lv_istore_n (lv' := [(3, .int 5), (2, .int 0), (0, .ref (g (0 + 3))), (1, .int 116)]) hx hb dJ1_indexOf_4cfef_21 rfl hl (Nat.le_of_ble_eq_true rfl) rfl (fun ls hl => ?_)
  refine lv_iload_n hx hb dJ1_indexOf_4cfef_22 rfl (lv_at hl 1 rfl) ?_
  refine lv_iload_n hx hb dJ1_indexOf_4cfef_23 rfl (lv_at hl 0 rfl) ?_
  refine lv_icmp_lt (tgt := 29) hx hb dJ1_indexOf_4cfef_24 (by decide) (fun _ => ?_) (fun z => absurd (by decide) z)
  refine lv_aload_n hx hb dJ1_indexOf_4cfef_29 rfl (lv_at hl 2 rfl) ?_
  refine lv_iload_n hx hb dJ1_indexOf_4cfef_30 rfl (lv_at hl 3 rfl) ?_
  refine lv_iload_n hx hb dJ1_indexOf_4cfef_31 rfl (lv_at hl 1 rfl) ?_
  refine lv_iload_n hx hb dJ1_indexOf_4cfef_32 rfl (lv_at hl 0 rfl) ?_
  refine ca_i (isC := []) (isR := []) (wr := []) (rn_S (isC := []) (wc := []) (As := [.ref (g (0 + 3)), .int 116, .int 0, .int 5]) (rest := []) (n := 4) hx hb hml hown hts hE hS hP hD hA hl.1 (k228_J1_indexOfChar_4cfef l D cy g  H.size ) rfl rfl ax_190 rfl rfl ax_191 ⟨Nat.le_of_ble_eq_true rfl, Nat.le_of_ble_eq_true rfl⟩ rfl rfl (Nat.le_of_ble_eq_true rfl) dJ1_indexOf_4cfef_33 ⟨(Nat.le_of_ble_eq_true rfl), (Nat.le_of_ble_eq_true rfl)⟩) hP hD hS hA rfl rfl rfl (by decide) (fun ad33 H locs hP hD hS => ?_)
  have hP : va_P D vwCl [] H := hP
  have hD : va_D A [] := hD
  exact en_z hx hb hr hlk hP hD hS rfl (fun _ => 0) (is := []) rfl rfl (Nat.le_of_ble_eq_true rfl) (Nat.le_of_ble_eq_true rfl) dJ1_indexOf_4cfef_36
set_option maxHeartbeats 4000000 in
set_option maxRecDepth 100000 in
theorem k230_J0_indexOf_7cf53 (l : Launch) (D : va_G) (cy : Nat → ClassId) (g : Nat → Nat)  (sz : Nat)  : Met l yJ0_indexOf_7cf53 [.code yJ0_indexOf_7cf53 cJ0_indexOf_7cf53 3 (some .int)] ({ frames := 2, cells := 0, slots := 0, locals := 48 }) (PC D cy g [] sz [.ref (g (0 + 1)), .int 116, .int 0]) (QI D 2 (fun ad => []) (va_A [] sz)) 0 0 (va_A [] sz) := by
  refine st_I (by decide) (Nat.le_of_ble_eq_true rfl) ?_
  intro p e s m args below meth c A ls hx hb hr hml hown hlk hnm hsz hP hD hA hE hts hS hl
  have hown : s.vm.findClass RJ0 = some m.cls := hown
  have hl : lv_has ls 3 [(0, .ref (g (0 + 1))), (1, .int 116), (2, .int 0)] := hl
  refine lv_aload_n hx hb dJ0_indexOf_7cf53_0 rfl (lv_at hl 0 rfl) ?_
  refine ca_i (isC := []) (isR := []) (wr := []) (rn_VS (i := 0) (isC := []) (wc := []) (As := []) (rest := []) (n := 0) hx hb hml hown hts hE hS hP hD hA hl.1 (k203_J0_isLatin1_aae02 l D cy g  s.heap.size ) rfl rfl (by decide) rfl ax_192 rfl rfl ax_193 ⟨Nat.le_of_ble_eq_true rfl, Nat.le_of_ble_eq_true rfl⟩ rfl rfl (Nat.le_of_ble_eq_true rfl) dJ0_indexOf_7cf53_1 ⟨(Nat.le_of_ble_eq_true rfl), (Nat.le_of_ble_eq_true rfl)⟩) hP hD hS hA rfl rfl rfl (by decide) (fun ad1 H locs hP hD hS => ?_)
  have hP : va_P D vwCl [] H := hP
  have hD : va_D A [] := hD
  refine lv_if_eq (tgt := 23) hx hb dJ0_indexOf_7cf53_4 (by decide) (fun z => absurd z (by decide)) (fun _ => ?_)
  refine lv_aload_n hx hb dJ0_indexOf_7cf53_7 rfl (lv_at hl 0 rfl) ?_
  refine vk_getf (v := .ref (g (0 + 3))) hx hb (hE.2.2.2.2.2.2.2.2.2.2.1 0 (by decide)).2.2.1 hS hown (hts _ tw_632) (fun _ h9 => h9) dJ0_indexOf_7cf53_8 ?_
  refine lv_iload_n hx hb dJ0_indexOf_7cf53_11 rfl (lv_at hl 1 rfl) ?_
  refine lv_iload_n hx hb dJ0_indexOf_7cf53_12 rfl (lv_at hl 2 rfl) ?_
  refine lv_aload_n hx hb dJ0_indexOf_7cf53_13 rfl (lv_at hl 0 rfl) ?_
  refine ca_i (isC := []) (isR := []) (wr := []) (rn_VS (i := 0) (isC := []) (wc := []) (As := []) (rest := [.int 0, .int 116, .ref (g (0 + 3))]) (n := 0) hx hb hml hown hts hE hS hP hD hA hl.1 (k205_J0_length_8abf5 l D cy g  H.size ) rfl rfl (by decide) rfl ax_194 rfl rfl ax_195 ⟨Nat.le_of_ble_eq_true rfl, Nat.le_of_ble_eq_true rfl⟩ rfl rfl (Nat.le_of_ble_eq_true rfl) dJ0_indexOf_7cf53_14 ⟨(Nat.le_of_ble_eq_true rfl), (Nat.le_of_ble_eq_true rfl)⟩) hP hD hS hA rfl rfl rfl (by decide) (fun ad14 H locs hP hD hS => ?_)
  have hP : va_P D vwCl [] H := hP
  have hD : va_D A [] := hD
  refine ca_i (isC := []) (isR := []) (wr := []) (rn_S (isC := []) (wc := []) (As := [.ref (g (0 + 3)), .int 116, .int 0, .int 5]) (rest := []) (n := 4) hx hb hml hown hts hE hS hP hD hA hl.1 (k229_J1_indexOf_4cfef l D cy g  H.size ) rfl rfl ax_196 rfl rfl ax_197 ⟨Nat.le_of_ble_eq_true rfl, Nat.le_of_ble_eq_true rfl⟩ rfl rfl (Nat.le_of_ble_eq_true rfl) dJ0_indexOf_7cf53_17 ⟨(Nat.le_of_ble_eq_true rfl), (Nat.le_of_ble_eq_true rfl)⟩) hP hD hS hA rfl rfl rfl (by decide) (fun ad17 H locs hP hD hS => ?_)
  have hP : va_P D vwCl [] H := hP
  have hD : va_D A [] := hD
  refine lv_goto (tgt := 36) hx hb dJ0_indexOf_7cf53_20 (by decide) ?_
  exact en_z hx hb hr hlk hP hD hS rfl (fun _ => 0) (is := []) rfl rfl (Nat.le_of_ble_eq_true rfl) (Nat.le_of_ble_eq_true rfl) dJ0_indexOf_7cf53_36
set_option maxHeartbeats 4000000 in
set_option maxRecDepth 100000 in
theorem k231_J0_indexOf_0f7a4 (l : Launch) (D : va_G) (cy : Nat → ClassId) (g : Nat → Nat)  (sz : Nat)  : Met l yJ0_indexOf_0f7a4 [.code yJ0_indexOf_0f7a4 cJ0_indexOf_0f7a4 2 (some .int)] ({ frames := 3, cells := 0, slots := 0, locals := 70 }) (PC D cy g [] sz [.ref (g (0 + 1)), .int 116]) (QI D 2 (fun ad => []) (va_A [] sz)) 0 0 (va_A [] sz) := by
  refine st_I (by decide) (Nat.le_of_ble_eq_true rfl) ?_
  intro p e s m args below meth c A ls hx hb hr hml hown hlk hnm hsz hP hD hA hE hts hS hl
  have hown : s.vm.findClass RJ0 = some m.cls := hown
  have hl : lv_has ls 2 [(0, .ref (g (0 + 1))), (1, .int 116)] := hl
  refine lv_aload_n hx hb dJ0_indexOf_0f7a4_0 rfl (lv_at hl 0 rfl) ?_
  refine lv_iload_n hx hb dJ0_indexOf_0f7a4_1 rfl (lv_at hl 1 rfl) ?_
  refine lv_iconst (v := 0) hx hb dJ0_indexOf_0f7a4_2 (by decide) ?_
  refine ca_i (isC := []) (isR := []) (wr := []) (rn_VS (i := 0) (isC := []) (wc := []) (As := [.int 116, .int 0]) (rest := []) (n := 2) hx hb hml hown hts hE hS hP hD hA hl.1 (k230_J0_indexOf_7cf53 l D cy g  s.heap.size ) rfl rfl (by decide) rfl ax_198 rfl rfl ax_199 ⟨Nat.le_of_ble_eq_true rfl, Nat.le_of_ble_eq_true rfl⟩ rfl rfl (Nat.le_of_ble_eq_true rfl) dJ0_indexOf_0f7a4_3 ⟨(Nat.le_of_ble_eq_true rfl), (Nat.le_of_ble_eq_true rfl)⟩) hP hD hS hA rfl rfl rfl (by decide) (fun ad3 H locs hP hD hS => ?_)
  have hP : va_P D vwCl [] H := hP
  have hD : va_D A [] := hD
  exact en_z hx hb hr hlk hP hD hS rfl (fun _ => 0) (is := []) rfl rfl (Nat.le_of_ble_eq_true rfl) (Nat.le_of_ble_eq_true rfl) dJ0_indexOf_0f7a4_6
set_option maxHeartbeats 4000000 in
set_option maxRecDepth 100000 in
theorem k232_X10_addPart (l : Launch) (D : va_G) (cy : Nat → ClassId) (g : Nat → Nat) (x0 : Int32) (x1 : Int32) (a0 : Nat) (v0 : Value) (v1 : Value) (v2 : Value) (v3 : Value) (v4 : Value) (v5 : Value) (v6 : Value) (v7 : Value) (v8 : Value) (v9 : Value) (v10 : Value) (v11 : Value) (v12 : Value) (v13 : Value) (v14 : Value) (v15 : Value) (v16 : Value) (v17 : Value) (v18 : Value) (v19 : Value) (v20 : Value) (v21 : Value) (v22 : Value) (v23 : Value) (v24 : Value) (v25 : Value) (v26 : Value) (v27 : Value) (sz : Nat) (h0 : x0 < 1) : Met l yX10_addPart [.code yX10_addPart cX10_addPart 5 (some .int)] ({ frames := 4, cells := 0, slots := 0, locals := 91 }) (PC D cy g [(a0, .inr (15, [v0, v1, v2, v3, v4, v5, v6, v7, v8, v9, v10, v11, v12, v13, v14, v15, v16, v17, v18, v19, v20, v21, v22, v23, v24, v25, v26, v27]))] sz [.ref a0, .int 116, .int x0, .int x1]) (QI D (-1) (fun ad => [(a0, .inr (15, [.int 1, v1, v2, v3, v4, v5, v6, v7, v8, v9, v10, v11, v12, v13, v14, v15, v16, v17, v18, v19, v20, v21, v22, v23, v24, v25, v26, v27]))]) (va_A [(a0, .inr (15, [v0, v1, v2, v3, v4, v5, v6, v7, v8, v9, v10, v11, v12, v13, v14, v15, v16, v17, v18, v19, v20, v21, v22, v23, v24, v25, v26, v27]))] sz)) 0 0 (va_A [(a0, .inr (15, [v0, v1, v2, v3, v4, v5, v6, v7, v8, v9, v10, v11, v12, v13, v14, v15, v16, v17, v18, v19, v20, v21, v22, v23, v24, v25, v26, v27]))] sz) := by
  refine st_I (by decide) (Nat.le_of_ble_eq_true rfl) ?_
  intro p e s m args below meth c A ls hx hb hr hml hown hlk hnm hsz hP hD hA hE hts hS hl
  have hown : s.vm.findClass RX10 = some m.cls := hown
  have hl : lv_has ls 5 [(0, .ref a0), (1, .int 116), (2, .int x0), (3, .int x1)] := hl
  refine lv_aload_n hx hb dX10_addPart_0 rfl (lv_at hl 0 rfl) ?_
  refine ca_v (isC := [0]) (isR := []) (wr := []) (rn_V (ci := 15) (q0 := 0) (isC := [0]) (wc := [(a0, .inr (15, [v0, v1, v2, v3, v4, v5, v6, v7, v8, v9, v10, v11, v12, v13, v14, v15, v16, v17, v18, v19, v20, v21, v22, v23, v24, v25, v26, v27]))]) (As := []) (rest := []) (n := 0) hx hb hml hown hts hE hS hP hD hA hl.1 (k20_X10_begins l D cy g a0 (v0) (v1) (v2) (v3) (v4) (v5) (v6) (v7) (v8) (v9) (v10) (v11) (v12) (v13) (v14) (v15) (v16) (v17) (v18) (v19) (v20) (v21) (v22) (v23) (v24) (v25) (v26) (v27) s.heap.size ) rfl rfl rfl rfl rfl ax_37 rfl rfl ax_38 ⟨Nat.le_of_ble_eq_true rfl, Nat.le_of_ble_eq_true rfl⟩ rfl rfl (Nat.le_of_ble_eq_true rfl) dX10_addPart_1 ⟨(Nat.le_of_ble_eq_true rfl), (Nat.le_of_ble_eq_true rfl)⟩) hP hD hS hA rfl rfl rfl (by decide) (fun ad1 H locs hP hD hS => ?_)
  have hP : va_P D vwCl [(a0, .inr (15, [.int 0, v1, v2, v3, v4, v5, v6, v7, v8, v9, v10, v11, v12, v13, v14, v15, v16, v17, v18, v19, v20, v21, v22, v23, v24, v25, v26, v27]))] H := hP
  have hD : va_D A [(a0, .inr (15, [.int 0, v1, v2, v3, v4, v5, v6, v7, v8, v9, v10, v11, v12, v13, v14, v15, v16, v17, v18, v19, v20, v21, v22, v23, v24, v25, v26, v27]))] := hD
  refine va_ldcS (tx := "phtcv") (q := (g (0 + 1))) hx hb hown hE.2.2.1.2.1 dX10_addPart_4 ?_
  refine lv_iload_n hx hb dX10_addPart_6 rfl (lv_at hl 1 rfl) ?_
  refine ca_i (isC := []) (isR := [0]) (wr := [(a0, .inr (15, [.int 0, v1, v2, v3, v4, v5, v6, v7, v8, v9, v10, v11, v12, v13, v14, v15, v16, v17, v18, v19, v20, v21, v22, v23, v24, v25, v26, v27]))]) (rn_VS (i := 0) (isC := []) (wc := []) (As := [.int 116]) (rest := []) (n := 1) hx hb hml hown hts hE hS hP hD hA hl.1 (k231_J0_indexOf_0f7a4 l D cy g  H.size ) rfl rfl (by decide) rfl ax_200 rfl rfl ax_201 ⟨Nat.le_of_ble_eq_true rfl, Nat.le_of_ble_eq_true rfl⟩ rfl rfl (Nat.le_of_ble_eq_true rfl) dX10_addPart_7 ⟨(Nat.le_of_ble_eq_true rfl), (Nat.le_of_ble_eq_true rfl)⟩) hP hD hS hA rfl rfl rfl (by decide) (fun ad7 H locs hP hD hS => ?_)
  have hP : va_P D vwCl [(a0, .inr (15, [.int 0, v1, v2, v3, v4, v5, v6, v7, v8, v9, v10, v11, v12, v13, v14, v15, v16, v17, v18, v19, v20, v21, v22, v23, v24, v25, v26, v27]))] H := hP
  have hD : va_D A [(a0, .inr (15, [.int 0, v1, v2, v3, v4, v5, v6, v7, v8, v9, v10, v11, v12, v13, v14, v15, v16, v17, v18, v19, v20, v21, v22, v23, v24, v25, v26, v27]))] := hD
  refine lv_if_lt (tgt := 65) hx hb dX10_addPart_10 (by decide) (fun z => absurd z (by decide)) (fun _ => ?_)
  refine lv_iload_n hx hb dX10_addPart_13 rfl (lv_at hl 1 rfl) ?_
  refine lv_bipush (v := 99) hx hb dX10_addPart_14 (by decide) ?_
  refine lv_icmp_eq (tgt := 43) hx hb dX10_addPart_16 (by decide) (fun z => absurd z (by decide)) (fun _ => ?_)
  refine lv_iload_n hx hb dX10_addPart_19 rfl (lv_at hl 2 rfl) ?_
  refine lv_i2l (v := x0.toInt64) hx hb dX10_addPart_20 rfl ?_
  refine lv_lconst (v := 1) hx hb dX10_addPart_21 (by decide) ?_
  refine lv_iload_n hx hb dX10_addPart_22 rfl (lv_at hl 1 rfl) ?_
  refine lv_bipush (v := 104) hx hb dX10_addPart_23 (by decide) ?_
  refine lv_icmp_ne (tgt := 34) hx hb dX10_addPart_25 (by decide) (fun _ => ?_) (fun z => absurd z (by decide))
  refine lv_ldc2 (v := 1000) hx hb hown (hts _ tw_331) dX10_addPart_34 ?_
  refine ca_i (isC := []) (isR := [0]) (wr := [(a0, .inr (15, [.int 0, v1, v2, v3, v4, v5, v6, v7, v8, v9, v10, v11, v12, v13, v14, v15, v16, v17, v18, v19, v20, v21, v22, v23, v24, v25, v26, v27]))]) (rn_S (isC := []) (wc := []) (As := [.long x0.toInt64, .long 1, .long 1000]) (rest := []) (n := 3) hx hb hml hown hts hE hS hP hD hA hl.1 (k21_X10_in l D cy g x0.toInt64 1 1000 H.size (wl_lt rfl (by decide) h0)) rfl rfl ax_39 rfl rfl ax_40 ⟨Nat.le_of_ble_eq_true rfl, Nat.le_of_ble_eq_true rfl⟩ rfl rfl (Nat.le_of_ble_eq_true rfl) dX10_addPart_37 ⟨(Nat.le_of_ble_eq_true rfl), (Nat.le_of_ble_eq_true rfl)⟩) hP hD hS hA rfl rfl rfl (by decide) (fun ad37 H locs hP hD hS => ?_)
  have hP : va_P D vwCl [(a0, .inr (15, [.int 0, v1, v2, v3, v4, v5, v6, v7, v8, v9, v10, v11, v12, v13, v14, v15, v16, v17, v18, v19, v20, v21, v22, v23, v24, v25, v26, v27]))] H := hP
  have hD : va_D A [(a0, .inr (15, [.int 0, v1, v2, v3, v4, v5, v6, v7, v8, v9, v10, v11, v12, v13, v14, v15, v16, v17, v18, v19, v20, v21, v22, v23, v24, v25, v26, v27]))] := hD
  refine lv_if_eq (tgt := 65) hx hb dX10_addPart_40 (by decide) (fun _ => ?_) (fun z => absurd (by decide) z)
  refine lv_iconst (v := 0) hx hb dX10_addPart_65 (by decide) ?_
  refine lv_istore (lv' := [(4, .int 0), (0, .ref a0), (1, .int 116), (2, .int x0), (3, .int x1)]) hx hb dX10_addPart_66 hl (Nat.le_of_ble_eq_true rfl) rfl (fun ls hl => ?_)
  refine lv_aload_n hx hb dX10_addPart_68 rfl (lv_at hl 1 rfl) ?_
  refine lv_iload hx hb dX10_addPart_69 (lv_at hl 0 rfl) ?_
  refine lv_if_ne (tgt := 78) hx hb dX10_addPart_71 (by decide) (fun z => absurd (by decide) z) (fun _ => ?_)
  refine lv_iconst (v := 1) hx hb dX10_addPart_74 (by decide) ?_
  refine lv_goto (tgt := 79) hx hb dX10_addPart_75 (by decide) ?_
  refine lv_iconst (v := 1) hx hb dX10_addPart_79 (by decide) ?_
  refine ca_i (isC := [0]) (isR := []) (wr := []) (rn_V (ci := 15) (q0 := 0) (isC := [0]) (wc := [(a0, .inr (15, [.int 0, v1, v2, v3, v4, v5, v6, v7, v8, v9, v10, v11, v12, v13, v14, v15, v16, v17, v18, v19, v20, v21, v22, v23, v24, v25, v26, v27]))]) (As := [.int 1, .int 1]) (rest := []) (n := 2) hx hb hml hown hts hE hS hP hD hA hl.1 (k22_X10_fails l D cy g a0 (v1) (v2) (v3) (v4) (v5) (v6) (v7) (v8) (v9) (v10) (v11) (v12) (v13) (v14) (v15) (v16) (v17) (v18) (v19) (v20) (v21) (v22) (v23) (v24) (v25) (v26) (v27) H.size ) rfl rfl rfl rfl rfl ax_41 rfl rfl ax_42 ⟨Nat.le_of_ble_eq_true rfl, Nat.le_of_ble_eq_true rfl⟩ rfl rfl (Nat.le_of_ble_eq_true rfl) dX10_addPart_80 ⟨(Nat.le_of_ble_eq_true rfl), (Nat.le_of_ble_eq_true rfl)⟩) hP hD hS hA rfl rfl rfl (by decide) (fun ad80 H locs hP hD hS => ?_)
  have hP : va_P D vwCl [(a0, .inr (15, [.int 1, v1, v2, v3, v4, v5, v6, v7, v8, v9, v10, v11, v12, v13, v14, v15, v16, v17, v18, v19, v20, v21, v22, v23, v24, v25, v26, v27]))] H := hP
  have hD : va_D A [(a0, .inr (15, [.int 1, v1, v2, v3, v4, v5, v6, v7, v8, v9, v10, v11, v12, v13, v14, v15, v16, v17, v18, v19, v20, v21, v22, v23, v24, v25, v26, v27]))] := hD
  refine lv_if_ne (tgt := 113) hx hb dX10_addPart_83 (by decide) (fun _ => ?_) (fun z => absurd z (by decide))
  refine lv_iconst (v := (-1)) hx hb dX10_addPart_113 (by decide) ?_
  exact en_z hx hb hr hlk hP hD hS rfl (fun _ => 0) (is := [0]) rfl rfl (Nat.le_of_ble_eq_true rfl) (Nat.le_of_ble_eq_true rfl) dX10_addPart_114
set_option maxHeartbeats 4000000 in
set_option maxRecDepth 100000 in
theorem k233_X3_isPart (l : Launch) (D : va_G) (cy : Nat → ClassId) (g : Nat → Nat) (x0 : Int32) (x1 : Int32) (sz : Nat) (h0 : ¬ x0 < 1) (h1 : (1000 : Int32) < x0) : Met l yX3_isPart [.code yX3_isPart cX3_isPart 3 (some .boolean)] ({ frames := 1, cells := 0, slots := 0, locals := 22 }) (PC D cy g [] sz [.int 116, .int x0, .int x1]) (QI D 0 (fun ad => []) (va_A [] sz)) 0 0 (va_A [] sz) := by
  refine st_I (by decide) (Nat.le_of_ble_eq_true rfl) ?_
  intro p e s m args below meth c A ls hx hb hr hml hown hlk hnm hsz hP hD hA hE hts hS hl
  have hown : s.vm.findClass RX3 = some m.cls := hown
  have hl : lv_has ls 3 [(0, .int 116), (1, .int x0), (2, .int x1)] := hl
  refine lv_iload_n hx hb dX3_isPart_0 rfl (lv_at hl 0 rfl) ?_
  refine lv_bipush (v := 104) hx hb dX3_isPart_1 (by decide) ?_
  refine lv_icmp_ne (tgt := 23) hx hb dX3_isPart_3 (by decide) (fun _ => ?_) (fun z => absurd z (by decide))
  refine lv_iload_n hx hb dX3_isPart_23 rfl (lv_at hl 0 rfl) ?_
  refine lv_bipush (v := 116) hx hb dX3_isPart_24 (by decide) ?_
  refine lv_icmp_ne (tgt := 56) hx hb dX3_isPart_26 (by decide) (fun z => absurd (by decide) z) (fun _ => ?_)
  refine lv_iload_n hx hb dX3_isPart_29 rfl (lv_at hl 1 rfl) ?_
  refine lv_iconst (v := 1) hx hb dX3_isPart_30 (by decide) ?_
  refine lv_sipush (v := 1000) hx hb dX3_isPart_31 (by decide) ?_
  refine ca_i (isC := []) (isR := []) (wr := []) (rn_SN (isC := []) (wc := []) (As := [.int x0, .int 1, .int 1000]) (rest := []) (n := 3) hx hb hml hown hts hE hS hP hD hA hl.1 (k25_X9_isOutside l D cy g x0 1 1000 s.heap.size h0 h1) rfl rfl tw_619 tw_293 tw_294 tw_295 rfl rfl ax_31 ⟨Nat.le_of_ble_eq_true rfl, Nat.le_of_ble_eq_true rfl⟩ rfl rfl (Nat.le_of_ble_eq_true rfl) dX3_isPart_34 ⟨(Nat.le_of_ble_eq_true rfl), (Nat.le_of_ble_eq_true rfl)⟩) hP hD hS hA rfl rfl rfl (by decide) (fun ad34 H locs hP hD hS => ?_)
  have hP : va_P D vwCl [] H := hP
  have hD : va_D A [] := hD
  refine lv_if_ne (tgt := 54) hx hb dX3_isPart_37 (by decide) (fun _ => ?_) (fun z => absurd z (by decide))
  refine lv_iconst (v := 0) hx hb dX3_isPart_54 (by decide) ?_
  exact en_z hx hb hr hlk hP hD hS rfl (fun _ => 0) (is := []) rfl rfl (Nat.le_of_ble_eq_true rfl) (Nat.le_of_ble_eq_true rfl) dX3_isPart_55
set_option maxHeartbeats 4000000 in
set_option maxRecDepth 100000 in
theorem k234_X9_addPart (l : Launch) (hst : l.stackTraces = false) (D : va_G) (cy : Nat → ClassId) (g : Nat → Nat) (x0 : Int32) (x1 : Int32) (b0 : Nat) (sz : Nat) (h0 : ¬ x0 < 1) (h1 : (1000 : Int32) < x0) : vx_Met l yX9_addPart [.code yX9_addPart cX9_addPart 4 (some .int)] ({ frames := 6, cells := 1, slots := 6, locals := 82 }) (PC D cy g [] sz [.ref b0, .int 116, .int x0, .int x1]) QN (XE "java/lang/IllegalArgumentException" (va_A [] sz)) 1 6 (va_A [] sz) := by
  refine st_X (by decide) (Nat.le_of_ble_eq_true rfl) ?_
  intro p e s m args below meth c A ls hx hb hr hml hown hlk hnm hsz hP hD hA hE hts hS hl hout
  have hown : s.vm.findClass RX9 = some m.cls := hown
  have hl : lv_has ls 4 [(0, .ref b0), (1, .int 116), (2, .int x0), (3, .int x1)] := hl
  refine lv_iload_n hx hb dX9_addPart_0 rfl (lv_at hl 1 rfl) ?_
  refine lv_iload_n hx hb dX9_addPart_1 rfl (lv_at hl 2 rfl) ?_
  refine lv_iload_n hx hb dX9_addPart_2 rfl (lv_at hl 3 rfl) ?_
  refine ca_i (isC := []) (isR := []) (wr := []) (rn_S (isC := []) (wc := []) (As := [.int 116, .int x0, .int x1]) (rest := []) (n := 3) hx hb hml hown hts hE hS hP hD hA hl.1 (k233_X3_isPart l D cy g x0 x1 s.heap.size h0 h1) rfl rfl ax_180 rfl rfl ax_181 ⟨Nat.le_of_ble_eq_true rfl, Nat.le_of_ble_eq_true rfl⟩ rfl rfl (Nat.le_of_ble_eq_true rfl) dX9_addPart_3 ⟨(Nat.le_of_ble_eq_true rfl), (Nat.le_of_ble_eq_true rfl)⟩) hP hD hS hA rfl rfl rfl (by decide) (fun ad3 H locs hP hD hS => ?_)
  have hP : va_P D vwCl [] H := hP
  have hD : va_D A [] := hD
  refine lv_if_ne (tgt := 19) hx hb dX9_addPart_6 (by decide) (fun z => absurd (by decide) z) (fun _ => ?_)
  exact th_S (text := "there is no such part") hx hb hst hown hts hE hS (hl.1.trans hml.symm) hout hlk (by decide +kernel) tw_296 tw_297 ax_32 (by decide +kernel) dX9_addPart_9 dX9_addPart_12 dX9_addPart_13 dX9_addPart_15 dX9_addPart_18 ⟨Nat.le_of_ble_eq_true rfl, Nat.le_of_ble_eq_true rfl, Nat.le_of_ble_eq_true rfl, Nat.le_of_ble_eq_true rfl⟩ (Nat.le_of_ble_eq_true rfl) (Nat.le_of_ble_eq_true rfl)
set_option maxHeartbeats 4000000 in
set_option maxRecDepth 100000 in
theorem k235_L_addPart (l : Launch) (hst : l.stackTraces = false) (D : va_G) (cy : Nat → ClassId) (g : Nat → Nat) (x0 : Int32) (x1 : Int32) (a0 : Nat) (b0 : Nat) (v0 : Value) (v1 : Value) (v2 : Value) (v3 : Value) (v4 : Value) (v5 : Value) (v6 : Value) (sz : Nat) (h0 : ¬ x0 < 1) (h1 : (1000 : Int32) < x0) : Met l yL_addPart [.codeWith yL_addPart cL_addPart 6 (some .int) [(0, 12, 15, 13), (0, 12, 19, 15)]] ({ frames := 7, cells := 1, slots := 6, locals := 105 }) (PC D cy g [(a0, .inr (14, [v0, v1, v2, v3, v4, v5, v6]))] sz [.ref a0, .int 116, .int x0, .int x1, .ref b0]) (QI D 1 (fun ad => []) (va_A [(a0, .inr (14, [v0, v1, v2, v3, v4, v5, v6]))] sz)) 1 6 (va_A [(a0, .inr (14, [v0, v1, v2, v3, v4, v5, v6]))] sz) := by
  refine sh_I (by decide) (Nat.le_of_ble_eq_true rfl) ?_
  intro p e s m args below meth c A ls hx hb hr hml hown hlk hnm hsz hP hD hA hE hts hS hl htb
  have hown : s.vm.findClass RL = some m.cls := hown
  have hl : lv_has ls 6 [(0, .ref a0), (1, .int 116), (2, .int x0), (3, .int x1), (4, .ref b0)] := hl
  refine lv_aload hx hb dL_addPart_0 (lv_at hl 4 rfl) ?_
  refine lv_iconst (v := 0) hx hb dL_addPart_2 (by decide) ?_
  refine lv_aload_n hx hb dL_addPart_3 rfl (lv_at hl 0 rfl) ?_
  refine lv_iload_n hx hb dL_addPart_4 rfl (lv_at hl 1 rfl) ?_
  refine lv_iload_n hx hb dL_addPart_5 rfl (lv_at hl 2 rfl) ?_
  refine lv_iload_n hx hb dL_addPart_6 rfl (lv_at hl 3 rfl) ?_
  refine cx_catch (isC := []) (isR := [0]) (wr := [(a0, .inr (14, [v0, v1, v2, v3, v4, v5, v6]))]) (hp := []) (z := (0, 12, 15, 13)) (hq := [(0, 12, 19, 15)]) (name := "java/lang/IllegalArgumentException") (own := RL) (rx_V (ci := 14) (q0 := 0) (isC := []) (wc := []) (As := [.int 116, .int x0, .int x1]) (rest := [.int 0, .ref b0]) (n := 3) hx hb hml hown hts hE hS hP hD hA hl.1 (k234_X9_addPart l hst D cy g x0 x1 a0 s.heap.size h0 h1) rfl rfl rfl rfl rfl ax_182 rfl rfl ax_183 ⟨Nat.le_of_ble_eq_true rfl, Nat.le_of_ble_eq_true rfl⟩ rfl rfl (Nat.le_of_ble_eq_true rfl) dL_addPart_7 ⟨(Nat.le_of_ble_eq_true rfl), (Nat.le_of_ble_eq_true rfl)⟩) hP hD hS hA hown hts hE htb rfl rfl rfl rfl (by decide) (fun z hz => by cases hz) (by decide) (by decide) tw_302 tw_303 (fun qx H locs hP hD hS => ?_)
  have hP : va_P D vwCl [(a0, .inr (14, [v0, v1, v2, v3, v4, v5, v6]))] H := hP
  have hD : va_D A [(a0, .inr (14, [v0, v1, v2, v3, v4, v5, v6]))] := hD
  refine lv_astore (lv' := [(5, .ref qx), (0, .ref a0), (1, .int 116), (2, .int x0), (3, .int x1), (4, .ref b0)]) hx hb dL_addPart_15 hl (Nat.le_of_ble_eq_true rfl) rfl (fun ls hl => ?_)
  refine lv_iconst (v := 1) hx hb dL_addPart_17 (by decide) ?_
  exact en_z hx hb hr hlk hP hD hS rfl (fun _ => 0) (is := []) rfl rfl (Nat.le_of_ble_eq_true rfl) (Nat.le_of_ble_eq_true rfl) dL_addPart_18
set_option maxHeartbeats 4000000 in
set_option maxRecDepth 100000 in
theorem k236_X10_addPart (l : Launch) (D : va_G) (cy : Nat → ClassId) (g : Nat → Nat) (x0 : Int32) (x1 : Int32) (a0 : Nat) (v0 : Value) (v1 : Value) (v2 : Value) (v3 : Value) (v4 : Value) (v5 : Value) (v6 : Value) (v7 : Value) (v8 : Value) (v9 : Value) (v10 : Value) (v11 : Value) (v12 : Value) (v13 : Value) (v14 : Value) (v15 : Value) (v16 : Value) (v17 : Value) (v18 : Value) (v19 : Value) (v20 : Value) (v21 : Value) (v22 : Value) (v23 : Value) (v24 : Value) (v25 : Value) (v26 : Value) (v27 : Value) (sz : Nat) (h0 : ¬ x0 < 1) (h1 : (1000 : Int32) < x0) : Met l yX10_addPart [.code yX10_addPart cX10_addPart 5 (some .int)] ({ frames := 4, cells := 0, slots := 0, locals := 91 }) (PC D cy g [(a0, .inr (15, [v0, v1, v2, v3, v4, v5, v6, v7, v8, v9, v10, v11, v12, v13, v14, v15, v16, v17, v18, v19, v20, v21, v22, v23, v24, v25, v26, v27]))] sz [.ref a0, .int 116, .int x0, .int x1]) (QI D (-1) (fun ad => [(a0, .inr (15, [.int 1, v1, v2, v3, v4, v5, v6, v7, v8, v9, v10, v11, v12, v13, v14, v15, v16, v17, v18, v19, v20, v21, v22, v23, v24, v25, v26, v27]))]) (va_A [(a0, .inr (15, [v0, v1, v2, v3, v4, v5, v6, v7, v8, v9, v10, v11, v12, v13, v14, v15, v16, v17, v18, v19, v20, v21, v22, v23, v24, v25, v26, v27]))] sz)) 0 0 (va_A [(a0, .inr (15, [v0, v1, v2, v3, v4, v5, v6, v7, v8, v9, v10, v11, v12, v13, v14, v15, v16, v17, v18, v19, v20, v21, v22, v23, v24, v25, v26, v27]))] sz) := by
  refine st_I (by decide) (Nat.le_of_ble_eq_true rfl) ?_
  intro p e s m args below meth c A ls hx hb hr hml hown hlk hnm hsz hP hD hA hE hts hS hl
  have hown : s.vm.findClass RX10 = some m.cls := hown
  have hl : lv_has ls 5 [(0, .ref a0), (1, .int 116), (2, .int x0), (3, .int x1)] := hl
  refine lv_aload_n hx hb dX10_addPart_0 rfl (lv_at hl 0 rfl) ?_
  refine ca_v (isC := [0]) (isR := []) (wr := []) (rn_V (ci := 15) (q0 := 0) (isC := [0]) (wc := [(a0, .inr (15, [v0, v1, v2, v3, v4, v5, v6, v7, v8, v9, v10, v11, v12, v13, v14, v15, v16, v17, v18, v19, v20, v21, v22, v23, v24, v25, v26, v27]))]) (As := []) (rest := []) (n := 0) hx hb hml hown hts hE hS hP hD hA hl.1 (k20_X10_begins l D cy g a0 (v0) (v1) (v2) (v3) (v4) (v5) (v6) (v7) (v8) (v9) (v10) (v11) (v12) (v13) (v14) (v15) (v16) (v17) (v18) (v19) (v20) (v21) (v22) (v23) (v24) (v25) (v26) (v27) s.heap.size ) rfl rfl rfl rfl rfl ax_37 rfl rfl ax_38 ⟨Nat.le_of_ble_eq_true rfl, Nat.le_of_ble_eq_true rfl⟩ rfl rfl (Nat.le_of_ble_eq_true rfl) dX10_addPart_1 ⟨(Nat.le_of_ble_eq_true rfl), (Nat.le_of_ble_eq_true rfl)⟩) hP hD hS hA rfl rfl rfl (by decide) (fun ad1 H locs hP hD hS => ?_)
  have hP : va_P D vwCl [(a0, .inr (15, [.int 0, v1, v2, v3, v4, v5, v6, v7, v8, v9, v10, v11, v12, v13, v14, v15, v16, v17, v18, v19, v20, v21, v22, v23, v24, v25, v26, v27]))] H := hP
  have hD : va_D A [(a0, .inr (15, [.int 0, v1, v2, v3, v4, v5, v6, v7, v8, v9, v10, v11, v12, v13, v14, v15, v16, v17, v18, v19, v20, v21, v22, v23, v24, v25, v26, v27]))] := hD
  refine va_ldcS (tx := "phtcv") (q := (g (0 + 1))) hx hb hown hE.2.2.1.2.1 dX10_addPart_4 ?_
  refine lv_iload_n hx hb dX10_addPart_6 rfl (lv_at hl 1 rfl) ?_
  refine ca_i (isC := []) (isR := [0]) (wr := [(a0, .inr (15, [.int 0, v1, v2, v3, v4, v5, v6, v7, v8, v9, v10, v11, v12, v13, v14, v15, v16, v17, v18, v19, v20, v21, v22, v23, v24, v25, v26, v27]))]) (rn_VS (i := 0) (isC := []) (wc := []) (As := [.int 116]) (rest := []) (n := 1) hx hb hml hown hts hE hS hP hD hA hl.1 (k231_J0_indexOf_0f7a4 l D cy g  H.size ) rfl rfl (by decide) rfl ax_200 rfl rfl ax_201 ⟨Nat.le_of_ble_eq_true rfl, Nat.le_of_ble_eq_true rfl⟩ rfl rfl (Nat.le_of_ble_eq_true rfl) dX10_addPart_7 ⟨(Nat.le_of_ble_eq_true rfl), (Nat.le_of_ble_eq_true rfl)⟩) hP hD hS hA rfl rfl rfl (by decide) (fun ad7 H locs hP hD hS => ?_)
  have hP : va_P D vwCl [(a0, .inr (15, [.int 0, v1, v2, v3, v4, v5, v6, v7, v8, v9, v10, v11, v12, v13, v14, v15, v16, v17, v18, v19, v20, v21, v22, v23, v24, v25, v26, v27]))] H := hP
  have hD : va_D A [(a0, .inr (15, [.int 0, v1, v2, v3, v4, v5, v6, v7, v8, v9, v10, v11, v12, v13, v14, v15, v16, v17, v18, v19, v20, v21, v22, v23, v24, v25, v26, v27]))] := hD
  refine lv_if_lt (tgt := 65) hx hb dX10_addPart_10 (by decide) (fun z => absurd z (by decide)) (fun _ => ?_)
  refine lv_iload_n hx hb dX10_addPart_13 rfl (lv_at hl 1 rfl) ?_
  refine lv_bipush (v := 99) hx hb dX10_addPart_14 (by decide) ?_
  refine lv_icmp_eq (tgt := 43) hx hb dX10_addPart_16 (by decide) (fun z => absurd z (by decide)) (fun _ => ?_)
  refine lv_iload_n hx hb dX10_addPart_19 rfl (lv_at hl 2 rfl) ?_
  refine lv_i2l (v := x0.toInt64) hx hb dX10_addPart_20 rfl ?_
  refine lv_lconst (v := 1) hx hb dX10_addPart_21 (by decide) ?_
  refine lv_iload_n hx hb dX10_addPart_22 rfl (lv_at hl 1 rfl) ?_
  refine lv_bipush (v := 104) hx hb dX10_addPart_23 (by decide) ?_
  refine lv_icmp_ne (tgt := 34) hx hb dX10_addPart_25 (by decide) (fun _ => ?_) (fun z => absurd z (by decide))
  refine lv_ldc2 (v := 1000) hx hb hown (hts _ tw_331) dX10_addPart_34 ?_
  refine ca_i (isC := []) (isR := [0]) (wr := [(a0, .inr (15, [.int 0, v1, v2, v3, v4, v5, v6, v7, v8, v9, v10, v11, v12, v13, v14, v15, v16, v17, v18, v19, v20, v21, v22, v23, v24, v25, v26, v27]))]) (rn_S (isC := []) (wc := []) (As := [.long x0.toInt64, .long 1, .long 1000]) (rest := []) (n := 3) hx hb hml hown hts hE hS hP hD hA hl.1 (k28_X10_in l D cy g x0.toInt64 1 1000 H.size (wl_nlt rfl (by decide) h0) (wl_lt (by decide) rfl h1)) rfl rfl ax_39 rfl rfl ax_40 ⟨Nat.le_of_ble_eq_true rfl, Nat.le_of_ble_eq_true rfl⟩ rfl rfl (Nat.le_of_ble_eq_true rfl) dX10_addPart_37 ⟨(Nat.le_of_ble_eq_true rfl), (Nat.le_of_ble_eq_true rfl)⟩) hP hD hS hA rfl rfl rfl (by decide) (fun ad37 H locs hP hD hS => ?_)
  have hP : va_P D vwCl [(a0, .inr (15, [.int 0, v1, v2, v3, v4, v5, v6, v7, v8, v9, v10, v11, v12, v13, v14, v15, v16, v17, v18, v19, v20, v21, v22, v23, v24, v25, v26, v27]))] H := hP
  have hD : va_D A [(a0, .inr (15, [.int 0, v1, v2, v3, v4, v5, v6, v7, v8, v9, v10, v11, v12, v13, v14, v15, v16, v17, v18, v19, v20, v21, v22, v23, v24, v25, v26, v27]))] := hD
  refine lv_if_eq (tgt := 65) hx hb dX10_addPart_40 (by decide) (fun _ => ?_) (fun z => absurd (by decide) z)
  refine lv_iconst (v := 0) hx hb dX10_addPart_65 (by decide) ?_
  refine lv_istore (lv' := [(4, .int 0), (0, .ref a0), (1, .int 116), (2, .int x0), (3, .int x1)]) hx hb dX10_addPart_66 hl (Nat.le_of_ble_eq_true rfl) rfl (fun ls hl => ?_)
  refine lv_aload_n hx hb dX10_addPart_68 rfl (lv_at hl 1 rfl) ?_
  refine lv_iload hx hb dX10_addPart_69 (lv_at hl 0 rfl) ?_
  refine lv_if_ne (tgt := 78) hx hb dX10_addPart_71 (by decide) (fun z => absurd (by decide) z) (fun _ => ?_)
  refine lv_iconst (v := 1) hx hb dX10_addPart_74 (by decide) ?_
  refine lv_goto (tgt := 79) hx hb dX10_addPart_75 (by decide) ?_
  refine lv_iconst (v := 1) hx hb dX10_addPart_79 (by decide) ?_
  refine ca_i (isC := [0]) (isR := []) (wr := []) (rn_V (ci := 15) (q0 := 0) (isC := [0]) (wc := [(a0, .inr (15, [.int 0, v1, v2, v3, v4, v5, v6, v7, v8, v9, v10, v11, v12, v13, v14, v15, v16, v17, v18, v19, v20, v21, v22, v23, v24, v25, v26, v27]))]) (As := [.int 1, .int 1]) (rest := []) (n := 2) hx hb hml hown hts hE hS hP hD hA hl.1 (k22_X10_fails l D cy g a0 (v1) (v2) (v3) (v4) (v5) (v6) (v7) (v8) (v9) (v10) (v11) (v12) (v13) (v14) (v15) (v16) (v17) (v18) (v19) (v20) (v21) (v22) (v23) (v24) (v25) (v26) (v27) H.size ) rfl rfl rfl rfl rfl ax_41 rfl rfl ax_42 ⟨Nat.le_of_ble_eq_true rfl, Nat.le_of_ble_eq_true rfl⟩ rfl rfl (Nat.le_of_ble_eq_true rfl) dX10_addPart_80 ⟨(Nat.le_of_ble_eq_true rfl), (Nat.le_of_ble_eq_true rfl)⟩) hP hD hS hA rfl rfl rfl (by decide) (fun ad80 H locs hP hD hS => ?_)
  have hP : va_P D vwCl [(a0, .inr (15, [.int 1, v1, v2, v3, v4, v5, v6, v7, v8, v9, v10, v11, v12, v13, v14, v15, v16, v17, v18, v19, v20, v21, v22, v23, v24, v25, v26, v27]))] H := hP
  have hD : va_D A [(a0, .inr (15, [.int 1, v1, v2, v3, v4, v5, v6, v7, v8, v9, v10, v11, v12, v13, v14, v15, v16, v17, v18, v19, v20, v21, v22, v23, v24, v25, v26, v27]))] := hD
  refine lv_if_ne (tgt := 113) hx hb dX10_addPart_83 (by decide) (fun _ => ?_) (fun z => absurd z (by decide))
  refine lv_iconst (v := (-1)) hx hb dX10_addPart_113 (by decide) ?_
  exact en_z hx hb hr hlk hP hD hS rfl (fun _ => 0) (is := [0]) rfl rfl (Nat.le_of_ble_eq_true rfl) (Nat.le_of_ble_eq_true rfl) dX10_addPart_114
set_option maxHeartbeats 4000000 in
set_option maxRecDepth 100000 in
theorem k237_X3_isPart (l : Launch) (D : va_G) (cy : Nat → ClassId) (g : Nat → Nat) (x0 : Int32) (x1 : Int32) (sz : Nat) (h0 : ¬ x0 < 1) (h1 : ¬ (1000 : Int32) < x0) (h2 : x1 < 0) : Met l yX3_isPart [.code yX3_isPart cX3_isPart 3 (some .boolean)] ({ frames := 1, cells := 0, slots := 0, locals := 22 }) (PC D cy g [] sz [.int 116, .int x0, .int x1]) (QI D 0 (fun ad => []) (va_A [] sz)) 0 0 (va_A [] sz) := by
  refine st_I (by decide) (Nat.le_of_ble_eq_true rfl) ?_
  intro p e s m args below meth c A ls hx hb hr hml hown hlk hnm hsz hP hD hA hE hts hS hl
  have hown : s.vm.findClass RX3 = some m.cls := hown
  have hl : lv_has ls 3 [(0, .int 116), (1, .int x0), (2, .int x1)] := hl
  refine lv_iload_n hx hb dX3_isPart_0 rfl (lv_at hl 0 rfl) ?_
  refine lv_bipush (v := 104) hx hb dX3_isPart_1 (by decide) ?_
  refine lv_icmp_ne (tgt := 23) hx hb dX3_isPart_3 (by decide) (fun _ => ?_) (fun z => absurd z (by decide))
  refine lv_iload_n hx hb dX3_isPart_23 rfl (lv_at hl 0 rfl) ?_
  refine lv_bipush (v := 116) hx hb dX3_isPart_24 (by decide) ?_
  refine lv_icmp_ne (tgt := 56) hx hb dX3_isPart_26 (by decide) (fun z => absurd (by decide) z) (fun _ => ?_)
  refine lv_iload_n hx hb dX3_isPart_29 rfl (lv_at hl 1 rfl) ?_
  refine lv_iconst (v := 1) hx hb dX3_isPart_30 (by decide) ?_
  refine lv_sipush (v := 1000) hx hb dX3_isPart_31 (by decide) ?_
  refine ca_i (isC := []) (isR := []) (wr := []) (rn_SN (isC := []) (wc := []) (As := [.int x0, .int 1, .int 1000]) (rest := []) (n := 3) hx hb hml hown hts hE hS hP hD hA hl.1 (k30_X9_isOutside l D cy g x0 1 1000 s.heap.size h0 h1) rfl rfl tw_619 tw_293 tw_294 tw_295 rfl rfl ax_31 ⟨Nat.le_of_ble_eq_true rfl, Nat.le_of_ble_eq_true rfl⟩ rfl rfl (Nat.le_of_ble_eq_true rfl) dX3_isPart_34 ⟨(Nat.le_of_ble_eq_true rfl), (Nat.le_of_ble_eq_true rfl)⟩) hP hD hS hA rfl rfl rfl (by decide) (fun ad34 H locs hP hD hS => ?_)
  have hP : va_P D vwCl [] H := hP
  have hD : va_D A [] := hD
  refine lv_if_ne (tgt := 54) hx hb dX3_isPart_37 (by decide) (fun z => absurd (by decide) z) (fun _ => ?_)
  refine lv_iload_n hx hb dX3_isPart_40 rfl (lv_at hl 2 rfl) ?_
  refine lv_iconst (v := 0) hx hb dX3_isPart_41 (by decide) ?_
  refine lv_bipush (v := 100) hx hb dX3_isPart_42 (by decide) ?_
  refine ca_i (isC := []) (isR := []) (wr := []) (rn_SN (isC := []) (wc := []) (As := [.int x1, .int 0, .int 100]) (rest := []) (n := 3) hx hb hml hown hts hE hS hP hD hA hl.1 (k17_X9_isOutside l D cy g x1 0 100 H.size h2) rfl rfl tw_619 tw_293 tw_294 tw_295 rfl rfl ax_31 ⟨Nat.le_of_ble_eq_true rfl, Nat.le_of_ble_eq_true rfl⟩ rfl rfl (Nat.le_of_ble_eq_true rfl) dX3_isPart_44 ⟨(Nat.le_of_ble_eq_true rfl), (Nat.le_of_ble_eq_true rfl)⟩) hP hD hS hA rfl rfl rfl (by decide) (fun ad44 H locs hP hD hS => ?_)
  have hP : va_P D vwCl [] H := hP
  have hD : va_D A [] := hD
  refine lv_if_ne (tgt := 54) hx hb dX3_isPart_47 (by decide) (fun _ => ?_) (fun z => absurd z (by decide))
  refine lv_iconst (v := 0) hx hb dX3_isPart_54 (by decide) ?_
  exact en_z hx hb hr hlk hP hD hS rfl (fun _ => 0) (is := []) rfl rfl (Nat.le_of_ble_eq_true rfl) (Nat.le_of_ble_eq_true rfl) dX3_isPart_55
set_option maxHeartbeats 4000000 in
set_option maxRecDepth 100000 in
theorem k238_X9_addPart (l : Launch) (hst : l.stackTraces = false) (D : va_G) (cy : Nat → ClassId) (g : Nat → Nat) (x0 : Int32) (x1 : Int32) (b0 : Nat) (sz : Nat) (h0 : ¬ x0 < 1) (h1 : ¬ (1000 : Int32) < x0) (h2 : x1 < 0) : vx_Met l yX9_addPart [.code yX9_addPart cX9_addPart 4 (some .int)] ({ frames := 6, cells := 1, slots := 6, locals := 82 }) (PC D cy g [] sz [.ref b0, .int 116, .int x0, .int x1]) QN (XE "java/lang/IllegalArgumentException" (va_A [] sz)) 1 6 (va_A [] sz) := by
  refine st_X (by decide) (Nat.le_of_ble_eq_true rfl) ?_
  intro p e s m args below meth c A ls hx hb hr hml hown hlk hnm hsz hP hD hA hE hts hS hl hout
  have hown : s.vm.findClass RX9 = some m.cls := hown
  have hl : lv_has ls 4 [(0, .ref b0), (1, .int 116), (2, .int x0), (3, .int x1)] := hl
  refine lv_iload_n hx hb dX9_addPart_0 rfl (lv_at hl 1 rfl) ?_
  refine lv_iload_n hx hb dX9_addPart_1 rfl (lv_at hl 2 rfl) ?_
  refine lv_iload_n hx hb dX9_addPart_2 rfl (lv_at hl 3 rfl) ?_
  refine ca_i (isC := []) (isR := []) (wr := []) (rn_S (isC := []) (wc := []) (As := [.int 116, .int x0, .int x1]) (rest := []) (n := 3) hx hb hml hown hts hE hS hP hD hA hl.1 (k237_X3_isPart l D cy g x0 x1 s.heap.size h0 h1 h2) rfl rfl ax_180 rfl rfl ax_181 ⟨Nat.le_of_ble_eq_true rfl, Nat.le_of_ble_eq_true rfl⟩ rfl rfl (Nat.le_of_ble_eq_true rfl) dX9_addPart_3 ⟨(Nat.le_of_ble_eq_true rfl), (Nat.le_of_ble_eq_true rfl)⟩) hP hD hS hA rfl rfl rfl (by decide) (fun ad3 H locs hP hD hS => ?_)
  have hP : va_P D vwCl [] H := hP
  have hD : va_D A [] := hD
  refine lv_if_ne (tgt := 19) hx hb dX9_addPart_6 (by decide) (fun z => absurd (by decide) z) (fun _ => ?_)
  exact th_S (text := "there is no such part") hx hb hst hown hts hE hS (hl.1.trans hml.symm) hout hlk (by decide +kernel) tw_296 tw_297 ax_32 (by decide +kernel) dX9_addPart_9 dX9_addPart_12 dX9_addPart_13 dX9_addPart_15 dX9_addPart_18 ⟨Nat.le_of_ble_eq_true rfl, Nat.le_of_ble_eq_true rfl, Nat.le_of_ble_eq_true rfl, Nat.le_of_ble_eq_true rfl⟩ (Nat.le_of_ble_eq_true rfl) (Nat.le_of_ble_eq_true rfl)
set_option maxHeartbeats 4000000 in
set_option maxRecDepth 100000 in
theorem k239_L_addPart (l : Launch) (hst : l.stackTraces = false) (D : va_G) (cy : Nat → ClassId) (g : Nat → Nat) (x0 : Int32) (x1 : Int32) (a0 : Nat) (b0 : Nat) (v0 : Value) (v1 : Value) (v2 : Value) (v3 : Value) (v4 : Value) (v5 : Value) (v6 : Value) (sz : Nat) (h0 : ¬ x0 < 1) (h1 : ¬ (1000 : Int32) < x0) (h2 : x1 < 0) : Met l yL_addPart [.codeWith yL_addPart cL_addPart 6 (some .int) [(0, 12, 15, 13), (0, 12, 19, 15)]] ({ frames := 7, cells := 1, slots := 6, locals := 105 }) (PC D cy g [(a0, .inr (14, [v0, v1, v2, v3, v4, v5, v6]))] sz [.ref a0, .int 116, .int x0, .int x1, .ref b0]) (QI D 1 (fun ad => []) (va_A [(a0, .inr (14, [v0, v1, v2, v3, v4, v5, v6]))] sz)) 1 6 (va_A [(a0, .inr (14, [v0, v1, v2, v3, v4, v5, v6]))] sz) := by
  refine sh_I (by decide) (Nat.le_of_ble_eq_true rfl) ?_
  intro p e s m args below meth c A ls hx hb hr hml hown hlk hnm hsz hP hD hA hE hts hS hl htb
  have hown : s.vm.findClass RL = some m.cls := hown
  have hl : lv_has ls 6 [(0, .ref a0), (1, .int 116), (2, .int x0), (3, .int x1), (4, .ref b0)] := hl
  refine lv_aload hx hb dL_addPart_0 (lv_at hl 4 rfl) ?_
  refine lv_iconst (v := 0) hx hb dL_addPart_2 (by decide) ?_
  refine lv_aload_n hx hb dL_addPart_3 rfl (lv_at hl 0 rfl) ?_
  refine lv_iload_n hx hb dL_addPart_4 rfl (lv_at hl 1 rfl) ?_
  refine lv_iload_n hx hb dL_addPart_5 rfl (lv_at hl 2 rfl) ?_
  refine lv_iload_n hx hb dL_addPart_6 rfl (lv_at hl 3 rfl) ?_
  refine cx_catch (isC := []) (isR := [0]) (wr := [(a0, .inr (14, [v0, v1, v2, v3, v4, v5, v6]))]) (hp := []) (z := (0, 12, 15, 13)) (hq := [(0, 12, 19, 15)]) (name := "java/lang/IllegalArgumentException") (own := RL) (rx_V (ci := 14) (q0 := 0) (isC := []) (wc := []) (As := [.int 116, .int x0, .int x1]) (rest := [.int 0, .ref b0]) (n := 3) hx hb hml hown hts hE hS hP hD hA hl.1 (k238_X9_addPart l hst D cy g x0 x1 a0 s.heap.size h0 h1 h2) rfl rfl rfl rfl rfl ax_182 rfl rfl ax_183 ⟨Nat.le_of_ble_eq_true rfl, Nat.le_of_ble_eq_true rfl⟩ rfl rfl (Nat.le_of_ble_eq_true rfl) dL_addPart_7 ⟨(Nat.le_of_ble_eq_true rfl), (Nat.le_of_ble_eq_true rfl)⟩) hP hD hS hA hown hts hE htb rfl rfl rfl rfl (by decide) (fun z hz => by cases hz) (by decide) (by decide) tw_302 tw_303 (fun qx H locs hP hD hS => ?_)
  have hP : va_P D vwCl [(a0, .inr (14, [v0, v1, v2, v3, v4, v5, v6]))] H := hP
  have hD : va_D A [(a0, .inr (14, [v0, v1, v2, v3, v4, v5, v6]))] := hD
  refine lv_astore (lv' := [(5, .ref qx), (0, .ref a0), (1, .int 116), (2, .int x0), (3, .int x1), (4, .ref b0)]) hx hb dL_addPart_15 hl (Nat.le_of_ble_eq_true rfl) rfl (fun ls hl => ?_)
  refine lv_iconst (v := 1) hx hb dL_addPart_17 (by decide) ?_
  exact en_z hx hb hr hlk hP hD hS rfl (fun _ => 0) (is := []) rfl rfl (Nat.le_of_ble_eq_true rfl) (Nat.le_of_ble_eq_true rfl) dL_addPart_18

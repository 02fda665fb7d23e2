set_option maxHeartbeats 4000000 in
set_option maxRecDepth 100000 in
theorem k300_J1_indexOf_4cfef (l : Launch) (D : va_G) (cy : Nat → ClassId) (g : Nat → Nat) (x0 : Int32) (sz : Nat) (h0 : x0 < 0) : Met l yJ1_indexOf_4cfef [.code yJ1_indexOf_4cfef cJ1_indexOf_4cfef 4 (some .int)] ({ frames := 1, cells := 0, slots := 0, locals := 20 }) (PC D cy g [] sz [.ref (g (0 + 3)), .int x0, .int 0, .int 5]) (QI D (-1) (fun ad => []) (va_A [] sz)) 0 0 (va_A [] sz) := by
  refine st_I (by decide) (Nat.le_of_ble_eq_true rfl) ?_
  intro p e s m args below meth c A ls hx hb hr hml hown hlk hnm hsz hP hD hA hE hts hS hl
  have hown : s.vm.findClass RJ1 = some m.cls := hown
  have hl : lv_has ls 4 [(0, .ref (g (0 + 3))), (1, .int x0), (2, .int 0), (3, .int 5)] := hl
  refine lv_iload_n hx hb dJ1_indexOf_4cfef_0 rfl (lv_at hl 1 rfl) ?_
  refine ca_i (isC := []) (isR := []) (wr := []) (rn_S (isC := []) (wc := []) (As := [.int x0]) (rest := []) (n := 1) hx hb hml hown hts hE hS hP hD hA hl.1 (k299_J1_canEncode_9a6ad l D cy g x0 s.heap.size h0) rfl rfl ax_188 rfl rfl ax_189 ⟨Nat.le_of_ble_eq_true rfl, Nat.le_of_ble_eq_true rfl⟩ rfl rfl (Nat.le_of_ble_eq_true rfl) dJ1_indexOf_4cfef_1 ⟨(Nat.le_of_ble_eq_true rfl), (Nat.le_of_ble_eq_true rfl)⟩) hP hD hS hA rfl rfl rfl (by decide) (fun ad1 H locs hP hD hS => ?_)
  have hP : va_P D vwCl [] H := hP
  have hD : va_D A [] := hD
  refine lv_if_ne (tgt := 9) hx hb dJ1_indexOf_4cfef_4 (by decide) (fun z => absurd (by decide) z) (fun _ => ?_)
  refine lv_iconst (v := (-1)) hx hb dJ1_indexOf_4cfef_7 (by decide) ?_
  exact en_z hx hb hr hlk hP hD hS rfl (fun _ => 0) (is := []) rfl rfl (Nat.le_of_ble_eq_true rfl) (Nat.le_of_ble_eq_true rfl) dJ1_indexOf_4cfef_8
set_option maxHeartbeats 4000000 in
set_option maxRecDepth 100000 in
theorem k301_J0_indexOf_7cf53 (l : Launch) (D : va_G) (cy : Nat → ClassId) (g : Nat → Nat) (x0 : Int32) (sz : Nat) (h0 : x0 < 0) : Met l yJ0_indexOf_7cf53 [.code yJ0_indexOf_7cf53 cJ0_indexOf_7cf53 3 (some .int)] ({ frames := 2, cells := 0, slots := 0, locals := 43 }) (PC D cy g [] sz [.ref (g (0 + 1)), .int x0, .int 0]) (QI D (-1) (fun ad => []) (va_A [] sz)) 0 0 (va_A [] sz) := by
  refine st_I (by decide) (Nat.le_of_ble_eq_true rfl) ?_
  intro p e s m args below meth c A ls hx hb hr hml hown hlk hnm hsz hP hD hA hE hts hS hl
  have hown : s.vm.findClass RJ0 = some m.cls := hown
  have hl : lv_has ls 3 [(0, .ref (g (0 + 1))), (1, .int x0), (2, .int 0)] := hl
  refine lv_aload_n hx hb dJ0_indexOf_7cf53_0 rfl (lv_at hl 0 rfl) ?_
  refine ca_i (isC := []) (isR := []) (wr := []) (rn_VS (i := 0) (isC := []) (wc := []) (As := []) (rest := []) (n := 0) hx hb hml hown hts hE hS hP hD hA hl.1 (k203_J0_isLatin1_aae02 l D cy g  s.heap.size ) rfl rfl (by decide) rfl ax_192 rfl rfl ax_193 ⟨Nat.le_of_ble_eq_true rfl, Nat.le_of_ble_eq_true rfl⟩ rfl rfl (Nat.le_of_ble_eq_true rfl) dJ0_indexOf_7cf53_1 ⟨(Nat.le_of_ble_eq_true rfl), (Nat.le_of_ble_eq_true rfl)⟩) hP hD hS hA rfl rfl rfl (by decide) (fun ad1 H locs hP hD hS => ?_)
  have hP : va_P D vwCl [] H := hP
  have hD : va_D A [] := hD
  refine lv_if_eq (tgt := 23) hx hb dJ0_indexOf_7cf53_4 (by decide) (fun z => absurd z (by decide)) (fun _ => ?_)
  refine lv_aload_n hx hb dJ0_indexOf_7cf53_7 rfl (lv_at hl 0 rfl) ?_
  refine vk_getf (v := .ref (g (0 + 3))) hx hb (hE.2.2.2.2.2.2.2.2.2.2.1 0 (by decide)).2.2.1 hS hown (hts _ tw_632) (fun _ h9 => h9) dJ0_indexOf_7cf53_8 ?_
  refine lv_iload_n hx hb dJ0_indexOf_7cf53_11 rfl (lv_at hl 1 rfl) ?_
  refine lv_iload_n hx hb dJ0_indexOf_7cf53_12 rfl (lv_at hl 2 rfl) ?_
  refine lv_aload_n hx hb dJ0_indexOf_7cf53_13 rfl (lv_at hl 0 rfl) ?_
  refine ca_i (isC := []) (isR := []) (wr := []) (rn_VS (i := 0) (isC := []) (wc := []) (As := []) (rest := [.int 0, .int x0, .ref (g (0 + 3))]) (n := 0) hx hb hml hown hts hE hS hP hD hA hl.1 (k205_J0_length_8abf5 l D cy g  H.size ) rfl rfl (by decide) rfl ax_194 rfl rfl ax_195 ⟨Nat.le_of_ble_eq_true rfl, Nat.le_of_ble_eq_true rfl⟩ rfl rfl (Nat.le_of_ble_eq_true rfl) dJ0_indexOf_7cf53_14 ⟨(Nat.le_of_ble_eq_true rfl), (Nat.le_of_ble_eq_true rfl)⟩) hP hD hS hA rfl rfl rfl (by decide) (fun ad14 H locs hP hD hS => ?_)
  have hP : va_P D vwCl [] H := hP
  have hD : va_D A [] := hD
  refine ca_i (isC := []) (isR := []) (wr := []) (rn_S (isC := []) (wc := []) (As := [.ref (g (0 + 3)), .int x0, .int 0, .int 5]) (rest := []) (n := 4) hx hb hml hown hts hE hS hP hD hA hl.1 (k300_J1_indexOf_4cfef l D cy g x0 H.size h0) rfl rfl ax_196 rfl rfl ax_197 ⟨Nat.le_of_ble_eq_true rfl, Nat.le_of_ble_eq_true rfl⟩ rfl rfl (Nat.le_of_ble_eq_true rfl) dJ0_indexOf_7cf53_17 ⟨(Nat.le_of_ble_eq_true rfl), (Nat.le_of_ble_eq_true rfl)⟩) hP hD hS hA rfl rfl rfl (by decide) (fun ad17 H locs hP hD hS => ?_)
  have hP : va_P D vwCl [] H := hP
  have hD : va_D A [] := hD
  refine lv_goto (tgt := 36) hx hb dJ0_indexOf_7cf53_20 (by decide) ?_
  exact en_z hx hb hr hlk hP hD hS rfl (fun _ => 0) (is := []) rfl rfl (Nat.le_of_ble_eq_true rfl) (Nat.le_of_ble_eq_true rfl) dJ0_indexOf_7cf53_36
set_option maxHeartbeats 4000000 in
set_option maxRecDepth 100000 in
theorem k302_J0_indexOf_0f7a4 (l : Launch) (D : va_G) (cy : Nat → ClassId) (g : Nat → Nat) (x0 : Int32) (sz : Nat) (h0 : x0 < 0) : Met l yJ0_indexOf_0f7a4 [.code yJ0_indexOf_0f7a4 cJ0_indexOf_0f7a4 2 (some .int)] ({ frames := 3, cells := 0, slots := 0, locals := 65 }) (PC D cy g [] sz [.ref (g (0 + 1)), .int x0]) (QI D (-1) (fun ad => []) (va_A [] sz)) 0 0 (va_A [] sz) := by
  refine st_I (by decide) (Nat.le_of_ble_eq_true rfl) ?_
  intro p e s m args below meth c A ls hx hb hr hml hown hlk hnm hsz hP hD hA hE hts hS hl
  have hown : s.vm.findClass RJ0 = some m.cls := hown
  have hl : lv_has ls 2 [(0, .ref (g (0 + 1))), (1, .int x0)] := hl
  refine lv_aload_n hx hb dJ0_indexOf_0f7a4_0 rfl (lv_at hl 0 rfl) ?_
  refine lv_iload_n hx hb dJ0_indexOf_0f7a4_1 rfl (lv_at hl 1 rfl) ?_
  refine lv_iconst (v := 0) hx hb dJ0_indexOf_0f7a4_2 (by decide) ?_
  refine ca_i (isC := []) (isR := []) (wr := []) (rn_VS (i := 0) (isC := []) (wc := []) (As := [.int x0, .int 0]) (rest := []) (n := 2) hx hb hml hown hts hE hS hP hD hA hl.1 (k301_J0_indexOf_7cf53 l D cy g x0 s.heap.size h0) rfl rfl (by decide) rfl ax_198 rfl rfl ax_199 ⟨Nat.le_of_ble_eq_true rfl, Nat.le_of_ble_eq_true rfl⟩ rfl rfl (Nat.le_of_ble_eq_true rfl) dJ0_indexOf_0f7a4_3 ⟨(Nat.le_of_ble_eq_true rfl), (Nat.le_of_ble_eq_true rfl)⟩) hP hD hS hA rfl rfl rfl (by decide) (fun ad3 H locs hP hD hS => ?_)
  have hP : va_P D vwCl [] H := hP
  have hD : va_D A [] := hD
  exact en_z hx hb hr hlk hP hD hS rfl (fun _ => 0) (is := []) rfl rfl (Nat.le_of_ble_eq_true rfl) (Nat.le_of_ble_eq_true rfl) dJ0_indexOf_0f7a4_6
set_option maxHeartbeats 4000000 in
set_option maxRecDepth 100000 in
theorem k303_X10_addPart (l : Launch) (D : va_G) (cy : Nat → ClassId) (g : Nat → Nat) (x0 : Int32) (x1 : Int32) (x2 : Int32) (a0 : Nat) (v0 : Value) (v1 : Value) (v2 : Value) (v3 : Value) (v4 : Value) (v5 : Value) (v6 : Value) (v7 : Value) (v8 : Value) (v9 : Value) (v10 : Value) (v11 : Value) (v12 : Value) (v13 : Value) (v14 : Value) (v15 : Value) (v16 : Value) (v17 : Value) (v18 : Value) (v19 : Value) (v20 : Value) (v21 : Value) (v22 : Value) (v23 : Value) (v24 : Value) (v25 : Value) (v26 : Value) (v27 : Value) (sz : Nat) (h0 : x0 < 0) : Met l yX10_addPart [.code yX10_addPart cX10_addPart 5 (some .int)] ({ frames := 4, cells := 0, slots := 0, locals := 86 }) (PC D cy g [(a0, .inr (15, [v0, v1, v2, v3, v4, v5, v6, v7, v8, v9, v10, v11, v12, v13, v14, v15, v16, v17, v18, v19, v20, v21, v22, v23, v24, v25, v26, v27]))] sz [.ref a0, .int x0, .int x1, .int x2]) (QI D (-1) (fun ad => [(a0, .inr (15, [.int 1, v1, v2, v3, v4, v5, v6, v7, v8, v9, v10, v11, v12, v13, v14, v15, v16, v17, v18, v19, v20, v21, v22, v23, v24, v25, v26, v27]))]) (va_A [(a0, .inr (15, [v0, v1, v2, v3, v4, v5, v6, v7, v8, v9, v10, v11, v12, v13, v14, v15, v16, v17, v18, v19, v20, v21, v22, v23, v24, v25, v26, v27]))] sz)) 0 0 (va_A [(a0, .inr (15, [v0, v1, v2, v3, v4, v5, v6, v7, v8, v9, v10, v11, v12, v13, v14, v15, v16, v17, v18, v19, v20, v21, v22, v23, v24, v25, v26, v27]))] sz) := by
  refine st_I (by decide) (Nat.le_of_ble_eq_true rfl) ?_
  intro p e s m args below meth c A ls hx hb hr hml hown hlk hnm hsz hP hD hA hE hts hS hl
  have hown : s.vm.findClass RX10 = some m.cls := hown
  have hl : lv_has ls 5 [(0, .ref a0), (1, .int x0), (2, .int x1), (3, .int x2)] := hl
  refine lv_aload_n hx hb dX10_addPart_0 rfl (lv_at hl 0 rfl) ?_
  refine ca_v (isC := [0]) (isR := []) (wr := []) (rn_V (ci := 15) (q0 := 0) (isC := [0]) (wc := [(a0, .inr (15, [v0, v1, v2, v3, v4, v5, v6, v7, v8, v9, v10, v11, v12, v13, v14, v15, v16, v17, v18, v19, v20, v21, v22, v23, v24, v25, v26, v27]))]) (As := []) (rest := []) (n := 0) hx hb hml hown hts hE hS hP hD hA hl.1 (k20_X10_begins l D cy g a0 (v0) (v1) (v2) (v3) (v4) (v5) (v6) (v7) (v8) (v9) (v10) (v11) (v12) (v13) (v14) (v15) (v16) (v17) (v18) (v19) (v20) (v21) (v22) (v23) (v24) (v25) (v26) (v27) s.heap.size ) rfl rfl rfl rfl rfl ax_37 rfl rfl ax_38 ⟨Nat.le_of_ble_eq_true rfl, Nat.le_of_ble_eq_true rfl⟩ rfl rfl (Nat.le_of_ble_eq_true rfl) dX10_addPart_1 ⟨(Nat.le_of_ble_eq_true rfl), (Nat.le_of_ble_eq_true rfl)⟩) hP hD hS hA rfl rfl rfl (by decide) (fun ad1 H locs hP hD hS => ?_)
  have hP : va_P D vwCl [(a0, .inr (15, [.int 0, v1, v2, v3, v4, v5, v6, v7, v8, v9, v10, v11, v12, v13, v14, v15, v16, v17, v18, v19, v20, v21, v22, v23, v24, v25, v26, v27]))] H := hP
  have hD : va_D A [(a0, .inr (15, [.int 0, v1, v2, v3, v4, v5, v6, v7, v8, v9, v10, v11, v12, v13, v14, v15, v16, v17, v18, v19, v20, v21, v22, v23, v24, v25, v26, v27]))] := hD
  refine va_ldcS (tx := "phtcv") (q := (g (0 + 1))) hx hb hown hE.2.2.1.2.1 dX10_addPart_4 ?_
  refine lv_iload_n hx hb dX10_addPart_6 rfl (lv_at hl 1 rfl) ?_
  refine ca_i (isC := []) (isR := [0]) (wr := [(a0, .inr (15, [.int 0, v1, v2, v3, v4, v5, v6, v7, v8, v9, v10, v11, v12, v13, v14, v15, v16, v17, v18, v19, v20, v21, v22, v23, v24, v25, v26, v27]))]) (rn_VS (i := 0) (isC := []) (wc := []) (As := [.int x0]) (rest := []) (n := 1) hx hb hml hown hts hE hS hP hD hA hl.1 (k302_J0_indexOf_0f7a4 l D cy g x0 H.size h0) rfl rfl (by decide) rfl ax_200 rfl rfl ax_201 ⟨Nat.le_of_ble_eq_true rfl, Nat.le_of_ble_eq_true rfl⟩ rfl rfl (Nat.le_of_ble_eq_true rfl) dX10_addPart_7 ⟨(Nat.le_of_ble_eq_true rfl), (Nat.le_of_ble_eq_true rfl)⟩) hP hD hS hA rfl rfl rfl (by decide) (fun ad7 H locs hP hD hS => ?_)
  have hP : va_P D vwCl [(a0, .inr (15, [.int 0, v1, v2, v3, v4, v5, v6, v7, v8, v9, v10, v11, v12, v13, v14, v15, v16, v17, v18, v19, v20, v21, v22, v23, v24, v25, v26, v27]))] H := hP
  have hD : va_D A [(a0, .inr (15, [.int 0, v1, v2, v3, v4, v5, v6, v7, v8, v9, v10, v11, v12, v13, v14, v15, v16, v17, v18, v19, v20, v21, v22, v23, v24, v25, v26, v27]))] := hD
  refine lv_if_lt (tgt := 65) hx hb dX10_addPart_10 (by decide) (fun _ => ?_) (fun z => absurd (by decide) z)
  refine lv_iconst (v := 0) hx hb dX10_addPart_65 (by decide) ?_
  refine lv_istore (lv' := [(4, .int 0), (0, .ref a0), (1, .int x0), (2, .int x1), (3, .int x2)]) hx hb dX10_addPart_66 hl (Nat.le_of_ble_eq_true rfl) rfl (fun ls hl => ?_)
  refine lv_aload_n hx hb dX10_addPart_68 rfl (lv_at hl 1 rfl) ?_
  refine lv_iload hx hb dX10_addPart_69 (lv_at hl 0 rfl) ?_
  refine lv_if_ne (tgt := 78) hx hb dX10_addPart_71 (by decide) (fun z => absurd (by decide) z) (fun _ => ?_)
  refine lv_iconst (v := 1) hx hb dX10_addPart_74 (by decide) ?_
  refine lv_goto (tgt := 79) hx hb dX10_addPart_75 (by decide) ?_
  refine lv_iconst (v := 1) hx hb dX10_addPart_79 (by decide) ?_
  refine ca_i (isC := [0]) (isR := []) (wr := []) (rn_V (ci := 15) (q0 := 0) (isC := [0]) (wc := [(a0, .inr (15, [.int 0, v1, v2, v3, v4, v5, v6, v7, v8, v9, v10, v11, v12, v13, v14, v15, v16, v17, v18, v19, v20, v21, v22, v23, v24, v25, v26, v27]))]) (As := [.int 1, .int 1]) (rest := []) (n := 2) hx hb hml hown hts hE hS hP hD hA hl.1 (k22_X10_fails l D cy g a0 (v1) (v2) (v3) (v4) (v5) (v6) (v7) (v8) (v9) (v10) (v11) (v12) (v13) (v14) (v15) (v16) (v17) (v18) (v19) (v20) (v21) (v22) (v23) (v24) (v25) (v26) (v27) H.size ) rfl rfl rfl rfl rfl ax_41 rfl rfl ax_42 ⟨Nat.le_of_ble_eq_true rfl, Nat.le_of_ble_eq_true rfl⟩ rfl rfl (Nat.le_of_ble_eq_true rfl) dX10_addPart_80 ⟨(Nat.le_of_ble_eq_true rfl), (Nat.le_of_ble_eq_true rfl)⟩) hP hD hS hA rfl rfl rfl (by decide) (fun ad80 H locs hP hD hS => ?_)
  have hP : va_P D vwCl [(a0, .inr (15, [.int 1, v1, v2, v3, v4, v5, v6, v7, v8, v9, v10, v11, v12, v13, v14, v15, v16, v17, v18, v19, v20, v21, v22, v23, v24, v25, v26, v27]))] H := hP
  have hD : va_D A [(a0, .inr (15, [.int 1, v1, v2, v3, v4, v5, v6, v7, v8, v9, v10, v11, v12, v13, v14, v15, v16, v17, v18, v19, v20, v21, v22, v23, v24, v25, v26, v27]))] := hD
  refine lv_if_ne (tgt := 113) hx hb dX10_addPart_83 (by decide) (fun _ => ?_) (fun z => absurd z (by decide))
  refine lv_iconst (v := (-1)) hx hb dX10_addPart_113 (by decide) ?_
  exact en_z hx hb hr hlk hP hD hS rfl (fun _ => 0) (is := [0]) rfl rfl (Nat.le_of_ble_eq_true rfl) (Nat.le_of_ble_eq_true rfl) dX10_addPart_114
set_option maxHeartbeats 4000000 in
set_option maxRecDepth 100000 in
theorem k304_J1_canEncode_9a6ad (l : Launch) (D : va_G) (cy : Nat → ClassId) (g : Nat → Nat) (x0 : Int32) (sz : Nat) (h0 : ¬ x0 < 0) (h1 : (255 : Int32) < x0) : Met l yJ1_canEncode_9a6ad [.code yJ1_canEncode_9a6ad cJ1_canEncode_9a6ad 1 (some .boolean)] ({ frames := 0, cells := 0, slots := 0, locals := 0 }) (PC D cy g [] sz [.int x0]) (QI D 0 (fun ad => []) (va_A [] sz)) 0 0 (va_A [] sz) := by
  refine st_I (by decide) (Nat.le_of_ble_eq_true rfl) ?_
  intro p e s m args below meth c A ls hx hb hr hml hown hlk hnm hsz hP hD hA hE hts hS hl
  have hown : s.vm.findClass RJ1 = some m.cls := hown
  have hl : lv_has ls 1 [(0, .int x0)] := hl
  refine lv_iload_n hx hb dJ1_canEncode_9a6ad_0 rfl (lv_at hl 0 rfl) ?_
  refine lv_if_lt (tgt := 15) hx hb dJ1_canEncode_9a6ad_1 (by decide) (fun z => absurd z h0) (fun _ => ?_)
  refine lv_iload_n hx hb dJ1_canEncode_9a6ad_4 rfl (lv_at hl 0 rfl) ?_
  refine lv_sipush (v := 255) hx hb dJ1_canEncode_9a6ad_5 (by decide) ?_
  refine lv_icmp_gt (tgt := 15) hx hb dJ1_canEncode_9a6ad_8 (by decide) (fun _ => ?_) (fun z => absurd h1 z)
  refine lv_iconst (v := 0) hx hb dJ1_canEncode_9a6ad_15 (by decide) ?_
  exact en_z hx hb hr hlk hP hD hS rfl (fun _ => 0) (is := []) rfl rfl (Nat.le_of_ble_eq_true rfl) (Nat.le_of_ble_eq_true rfl) dJ1_canEncode_9a6ad_16
set_option maxHeartbeats 4000000 in
set_option maxRecDepth 100000 in
theorem k305_J1_indexOf_4cfef (l : Launch) (D : va_G) (cy : Nat → ClassId) (g : Nat → Nat) (x0 : Int32) (sz : Nat) (h0 : ¬ x0 < 0) (h1 : (255 : Int32) < x0) : Met l yJ1_indexOf_4cfef [.code yJ1_indexOf_4cfef cJ1_indexOf_4cfef 4 (some .int)] ({ frames := 1, cells := 0, slots := 0, locals := 20 }) (PC D cy g [] sz [.ref (g (0 + 3)), .int x0, .int 0, .int 5]) (QI D (-1) (fun ad => []) (va_A [] sz)) 0 0 (va_A [] sz) := by
  refine st_I (by decide) (Nat.le_of_ble_eq_true rfl) ?_
  intro p e s m args below meth c A ls hx hb hr hml hown hlk hnm hsz hP hD hA hE hts hS hl
  have hown : s.vm.findClass RJ1 = some m.cls := hown
  have hl : lv_has ls 4 [(0, .ref (g (0 + 3))), (1, .int x0), (2, .int 0), (3, .int 5)] := hl
  refine lv_iload_n hx hb dJ1_indexOf_4cfef_0 rfl (lv_at hl 1 rfl) ?_
  refine ca_i (isC := []) (isR := []) (wr := []) (rn_S (isC := []) (wc := []) (As := [.int x0]) (rest := []) (n := 1) hx hb hml hown hts hE hS hP hD hA hl.1 (k304_J1_canEncode_9a6ad l D cy g x0 s.heap.size h0 h1) rfl rfl ax_188 rfl rfl ax_189 ⟨Nat.le_of_ble_eq_true rfl, Nat.le_of_ble_eq_true rfl⟩ rfl rfl (Nat.le_of_ble_eq_true rfl) dJ1_indexOf_4cfef_1 ⟨(Nat.le_of_ble_eq_true rfl), (Nat.le_of_ble_eq_true rfl)⟩) hP hD hS hA rfl rfl rfl (by decide) (fun ad1 H locs hP hD hS => ?_)
  have hP : va_P D vwCl [] H := hP
  have hD : va_D A [] := hD
  refine lv_if_ne (tgt := 9) hx hb dJ1_indexOf_4cfef_4 (by decide) (fun z => absurd (by decide) z) (fun _ => ?_)
  refine lv_iconst (v := (-1)) hx hb dJ1_indexOf_4cfef_7 (by decide) ?_
  exact en_z hx hb hr hlk hP hD hS rfl (fun _ => 0) (is := []) rfl rfl (Nat.le_of_ble_eq_true rfl) (Nat.le_of_ble_eq_true rfl) dJ1_indexOf_4cfef_8
set_option maxHeartbeats 4000000 in
set_option maxRecDepth 100000 in
theorem k306_J0_indexOf_7cf53 (l : Launch) (D : va_G) (cy : Nat → ClassId) (g : Nat → Nat) (x0 : Int32) (sz : Nat) (h0 : ¬ x0 < 0) (h1 : (255 : Int32) < x0) : Met l yJ0_indexOf_7cf53 [.code yJ0_indexOf_7cf53 cJ0_indexOf_7cf53 3 (some .int)] ({ frames := 2, cells := 0, slots := 0, locals := 43 }) (PC D cy g [] sz [.ref (g (0 + 1)), .int x0, .int 0]) (QI D (-1) (fun ad => []) (va_A [] sz)) 0 0 (va_A [] sz) := by
  refine st_I (by decide) (Nat.le_of_ble_eq_true rfl) ?_
  intro p e s m args below meth c A ls hx hb hr hml hown hlk hnm hsz hP hD hA hE hts hS hl
  have hown : s.vm.findClass RJ0 = some m.cls := hown
  have hl : lv_has ls 3 [(0, .ref (g (0 + 1))), (1, .int x0), (2, .int 0)] := hl
  refine lv_aload_n hx hb dJ0_indexOf_7cf53_0 rfl (lv_at hl 0 rfl) ?_
  refine ca_i (isC := []) (isR := []) (wr := []) (rn_VS (i := 0) (isC := []) (wc := []) (As := []) (rest := []) (n := 0) hx hb hml hown hts hE hS hP hD hA hl.1 (k203_J0_isLatin1_aae02 l D cy g  s.heap.size ) rfl rfl (by decide) rfl ax_192 rfl rfl ax_193 ⟨Nat.le_of_ble_eq_true rfl, Nat.le_of_ble_eq_true rfl⟩ rfl rfl (Nat.le_of_ble_eq_true rfl) dJ0_indexOf_7cf53_1 ⟨(Nat.le_of_ble_eq_true rfl), (Nat.le_of_ble_eq_true rfl)⟩) hP hD hS hA rfl rfl rfl (by decide) (fun ad1 H locs hP hD hS => ?_)
  have hP : va_P D vwCl [] H := hP
  have hD : va_D A [] := hD
  refine lv_if_eq (tgt := 23) hx hb dJ0_indexOf_7cf53_4 (by decide) (fun z => absurd z (by decide)) (fun _ => ?_)
  refine lv_aload_n hx hb dJ0_indexOf_7cf53_7 rfl (lv_at hl 0 rfl) ?_
  refine vk_getf (v := .ref (g (0 + 3))) hx hb (hE.2.2.2.2.2.2.2.2.2.2.1 0 (by decide)).2.2.1 hS hown (hts _ tw_632) (fun _ h9 => h9) dJ0_indexOf_7cf53_8 ?_
  refine lv_iload_n hx hb dJ0_indexOf_7cf53_11 rfl (lv_at hl 1 rfl) ?_
  refine lv_iload_n hx hb dJ0_indexOf_7cf53_12 rfl (lv_at hl 2 rfl) ?_
  refine lv_aload_n hx hb dJ0_indexOf_7cf53_13 rfl (lv_at hl 0 rfl) ?_
  refine ca_i (isC := []) (isR := []) (wr := []) (rn_VS (i := 0) (isC := []) (wc := []) (As := []) (rest := [.int 0, .int x0, .ref (g (0 + 3))]) (n := 0) hx hb hml hown hts hE hS hP hD hA hl.1 (k205_J0_length_8abf5 l D cy g  H.size ) rfl rfl (by decide) rfl ax_194 rfl rfl ax_195 ⟨Nat.le_of_ble_eq_true rfl, Nat.le_of_ble_eq_true rfl⟩ rfl rfl (Nat.le_of_ble_eq_true rfl) dJ0_indexOf_7cf53_14 ⟨(Nat.le_of_ble_eq_true rfl), (Nat.le_of_ble_eq_true rfl)⟩) hP hD hS hA rfl rfl rfl (by decide) (fun ad14 H locs hP hD hS => ?_)
  have hP : va_P D vwCl [] H := hP
  have hD : va_D A [] := hD
  refine ca_i (isC := []) (isR := []) (wr := []) (rn_S (isC := []) (wc := []) (As := [.ref (g (0 + 3)), .int x0, .int 0, .int 5]) (rest := []) (n := 4) hx hb hml hown hts hE hS hP hD hA hl.1 (k305_J1_indexOf_4cfef l D cy g x0 H.size h0 h1) rfl rfl ax_196 rfl rfl ax_197 ⟨Nat.le_of_ble_eq_true rfl, Nat.le_of_ble_eq_true rfl⟩ rfl rfl (Nat.le_of_ble_eq_true rfl) dJ0_indexOf_7cf53_17 ⟨(Nat.le_of_ble_eq_true rfl), (Nat.le_of_ble_eq_true rfl)⟩) hP hD hS hA rfl rfl rfl (by decide) (fun ad17 H locs hP hD hS => ?_)
  have hP : va_P D vwCl [] H := hP
  have hD : va_D A [] := hD
  refine lv_goto (tgt := 36) hx hb dJ0_indexOf_7cf53_20 (by decide) ?_
  exact en_z hx hb hr hlk hP hD hS rfl (fun _ => 0) (is := []) rfl rfl (Nat.le_of_ble_eq_true rfl) (Nat.le_of_ble_eq_true rfl) dJ0_indexOf_7cf53_36
set_option maxHeartbeats 4000000 in
set_option maxRecDepth 100000 in
theorem k307_J0_indexOf_0f7a4 (l : Launch) (D : va_G) (cy : Nat → ClassId) (g : Nat → Nat) (x0 : Int32) (sz : Nat) (h0 : ¬ x0 < 0) (h1 : (255 : Int32) < x0) : Met l yJ0_indexOf_0f7a4 [.code yJ0_indexOf_0f7a4 cJ0_indexOf_0f7a4 2 (some .int)] ({ frames := 3, cells := 0, slots := 0, locals := 65 }) (PC D cy g [] sz [.ref (g (0 + 1)), .int x0]) (QI D (-1) (fun ad => []) (va_A [] sz)) 0 0 (va_A [] sz) := by
  refine st_I (by decide) (Nat.le_of_ble_eq_true rfl) ?_
  intro p e s m args below meth c A ls hx hb hr hml hown hlk hnm hsz hP hD hA hE hts hS hl
  have hown : s.vm.findClass RJ0 = some m.cls := hown
  have hl : lv_has ls 2 [(0, .ref (g (0 + 1))), (1, .int x0)] := hl
  refine lv_aload_n hx hb dJ0_indexOf_0f7a4_0 rfl (lv_at hl 0 rfl) ?_
  refine lv_iload_n hx hb dJ0_indexOf_0f7a4_1 rfl (lv_at hl 1 rfl) ?_
  refine lv_iconst (v := 0) hx hb dJ0_indexOf_0f7a4_2 (by decide) ?_
  refine ca_i (isC := []) (isR := []) (wr := []) (rn_VS (i := 0) (isC := []) (wc := []) (As := [.int x0, .int 0]) (rest := []) (n := 2) hx hb hml hown hts hE hS hP hD hA hl.1 (k306_J0_indexOf_7cf53 l D cy g x0 s.heap.size h0 h1) rfl rfl (by decide) rfl ax_198 rfl rfl ax_199 ⟨Nat.le_of_ble_eq_true rfl, Nat.le_of_ble_eq_true rfl⟩ rfl rfl (Nat.le_of_ble_eq_true rfl) dJ0_indexOf_0f7a4_3 ⟨(Nat.le_of_ble_eq_true rfl), (Nat.le_of_ble_eq_true rfl)⟩) hP hD hS hA rfl rfl rfl (by decide) (fun ad3 H locs hP hD hS => ?_)
  have hP : va_P D vwCl [] H := hP
  have hD : va_D A [] := hD
  exact en_z hx hb hr hlk hP hD hS rfl (fun _ => 0) (is := []) rfl rfl (Nat.le_of_ble_eq_true rfl) (Nat.le_of_ble_eq_true rfl) dJ0_indexOf_0f7a4_6
set_option maxHeartbeats 4000000 in
set_option maxRecDepth 100000 in
theorem k308_X10_addPart (l : Launch) (D : va_G) (cy : Nat → ClassId) (g : Nat → Nat) (x0 : Int32) (x1 : Int32) (x2 : Int32) (a0 : Nat) (v0 : Value) (v1 : Value) (v2 : Value) (v3 : Value) (v4 : Value) (v5 : Value) (v6 : Value) (v7 : Value) (v8 : Value) (v9 : Value) (v10 : Value) (v11 : Value) (v12 : Value) (v13 : Value) (v14 : Value) (v15 : Value) (v16 : Value) (v17 : Value) (v18 : Value) (v19 : Value) (v20 : Value) (v21 : Value) (v22 : Value) (v23 : Value) (v24 : Value) (v25 : Value) (v26 : Value) (v27 : Value) (sz : Nat) (h0 : ¬ x0 < 0) (h1 : (255 : Int32) < x0) : Met l yX10_addPart [.code yX10_addPart cX10_addPart 5 (some .int)] ({ frames := 4, cells := 0, slots := 0, locals := 86 }) (PC D cy g [(a0, .inr (15, [v0, v1, v2, v3, v4, v5, v6, v7, v8, v9, v10, v11, v12, v13, v14, v15, v16, v17, v18, v19, v20, v21, v22, v23, v24, v25, v26, v27]))] sz [.ref a0, .int x0, .int x1, .int x2]) (QI D (-1) (fun ad => [(a0, .inr (15, [.int 1, v1, v2, v3, v4, v5, v6, v7, v8, v9, v10, v11, v12, v13, v14, v15, v16, v17, v18, v19, v20, v21, v22, v23, v24, v25, v26, v27]))]) (va_A [(a0, .inr (15, [v0, v1, v2, v3, v4, v5, v6, v7, v8, v9, v10, v11, v12, v13, v14, v15, v16, v17, v18, v19, v20, v21, v22, v23, v24, v25, v26, v27]))] sz)) 0 0 (va_A [(a0, .inr (15, [v0, v1, v2, v3, v4, v5, v6, v7, v8, v9, v10, v11, v12, v13, v14, v15, v16, v17, v18, v19, v20, v21, v22, v23, v24, v25, v26, v27]))] sz) := by
  refine st_I (by decide) (Nat.le_of_ble_eq_true rfl) ?_
  intro p e s m args below meth c A ls hx hb hr hml hown hlk hnm hsz hP hD hA hE hts hS hl
  have hown : s.vm.findClass RX10 = some m.cls := hown
  have hl : lv_has ls 5 [(0, .ref a0), (1, .int x0), (2, .int x1), (3, .int x2)] := hl
  refine lv_aload_n hx hb dX10_addPart_0 rfl (lv_at hl 0 rfl) ?_
  refine ca_v (isC := [0]) (isR := []) (wr := []) (rn_V (ci := 15) (q0 := 0) (isC := [0]) (wc := [(a0, .inr (15, [v0, v1, v2, v3, v4, v5, v6, v7, v8, v9, v10, v11, v12, v13, v14, v15, v16, v17, v18, v19, v20, v21, v22, v23, v24, v25, v26, v27]))]) (As := []) (rest := []) (n := 0) hx hb hml hown hts hE hS hP hD hA hl.1 (k20_X10_begins l D cy g a0 (v0) (v1) (v2) (v3) (v4) (v5) (v6) (v7) (v8) (v9) (v10) (v11) (v12) (v13) (v14) (v15) (v16) (v17) (v18) (v19) (v20) (v21) (v22) (v23) (v24) (v25) (v26) (v27) s.heap.size ) rfl rfl rfl rfl rfl ax_37 rfl rfl ax_38 ⟨Nat.le_of_ble_eq_true rfl, Nat.le_of_ble_eq_true rfl⟩ rfl rfl (Nat.le_of_ble_eq_true rfl) dX10_addPart_1 ⟨(Nat.le_of_ble_eq_true rfl), (Nat.le_of_ble_eq_true rfl)⟩) hP hD hS hA rfl rfl rfl (by decide) (fun ad1 H locs hP hD hS => ?_)
  have hP : va_P D vwCl [(a0, .inr (15, [.int 0, v1, v2, v3, v4, v5, v6, v7, v8, v9, v10, v11, v12, v13, v14, v15, v16, v17, v18, v19, v20, v21, v22, v23, v24, v25, v26, v27]))] H := hP
  have hD : va_D A [(a0, .inr (15, [.int 0, v1, v2, v3, v4, v5, v6, v7, v8, v9, v10, v11, v12, v13, v14, v15, v16, v17, v18, v19, v20, v21, v22, v23, v24, v25, v26, v27]))] := hD
  refine va_ldcS (tx := "phtcv") (q := (g (0 + 1))) hx hb hown hE.2.2.1.2.1 dX10_addPart_4 ?_
  refine lv_iload_n hx hb dX10_addPart_6 rfl (lv_at hl 1 rfl) ?_
  refine ca_i (isC := []) (isR := [0]) (wr := [(a0, .inr (15, [.int 0, v1, v2, v3, v4, v5, v6, v7, v8, v9, v10, v11, v12, v13, v14, v15, v16, v17, v18, v19, v20, v21, v22, v23, v24, v25, v26, v27]))]) (rn_VS (i := 0) (isC := []) (wc := []) (As := [.int x0]) (rest := []) (n := 1) hx hb hml hown hts hE hS hP hD hA hl.1 (k307_J0_indexOf_0f7a4 l D cy g x0 H.size h0 h1) rfl rfl (by decide) rfl ax_200 rfl rfl ax_201 ⟨Nat.le_of_ble_eq_true rfl, Nat.le_of_ble_eq_true rfl⟩ rfl rfl (Nat.le_of_ble_eq_true rfl) dX10_addPart_7 ⟨(Nat.le_of_ble_eq_true rfl), (Nat.le_of_ble_eq_true rfl)⟩) hP hD hS hA rfl rfl rfl (by decide) (fun ad7 H locs hP hD hS => ?_)
  have hP : va_P D vwCl [(a0, .inr (15, [.int 0, v1, v2, v3, v4, v5, v6, v7, v8, v9, v10, v11, v12, v13, v14, v15, v16, v17, v18, v19, v20, v21, v22, v23, v24, v25, v26, v27]))] H := hP
  have hD : va_D A [(a0, .inr (15, [.int 0, v1, v2, v3, v4, v5, v6, v7, v8, v9, v10, v11, v12, v13, v14, v15, v16, v17, v18, v19, v20, v21, v22, v23, v24, v25, v26, v27]))] := hD
  refine lv_if_lt (tgt := 65) hx hb dX10_addPart_10 (by decide) (fun _ => ?_) (fun z => absurd (by decide) z)
  refine lv_iconst (v := 0) hx hb dX10_addPart_65 (by decide) ?_
  refine lv_istore (lv' := [(4, .int 0), (0, .ref a0), (1, .int x0), (2, .int x1), (3, .int x2)]) hx hb dX10_addPart_66 hl (Nat.le_of_ble_eq_true rfl) rfl (fun ls hl => ?_)
  refine lv_aload_n hx hb dX10_addPart_68 rfl (lv_at hl 1 rfl) ?_
  refine lv_iload hx hb dX10_addPart_69 (lv_at hl 0 rfl) ?_
  refine lv_if_ne (tgt := 78) hx hb dX10_addPart_71 (by decide) (fun z => absurd (by decide) z) (fun _ => ?_)
  refine lv_iconst (v := 1) hx hb dX10_addPart_74 (by decide) ?_
  refine lv_goto (tgt := 79) hx hb dX10_addPart_75 (by decide) ?_
  refine lv_iconst (v := 1) hx hb dX10_addPart_79 (by decide) ?_
  refine ca_i (isC := [0]) (isR := []) (wr := []) (rn_V (ci := 15) (q0 := 0) (isC := [0]) (wc := [(a0, .inr (15, [.int 0, v1, v2, v3, v4, v5, v6, v7, v8, v9, v10, v11, v12, v13, v14, v15, v16, v17, v18, v19, v20, v21, v22, v23, v24, v25, v26, v27]))]) (As := [.int 1, .int 1]) (rest := []) (n := 2) hx hb hml hown hts hE hS hP hD hA hl.1 (k22_X10_fails l D cy g a0 (v1) (v2) (v3) (v4) (v5) (v6) (v7) (v8) (v9) (v10) (v11) (v12) (v13) (v14) (v15) (v16) (v17) (v18) (v19) (v20) (v21) (v22) (v23) (v24) (v25) (v26) (v27) H.size ) rfl rfl rfl rfl rfl ax_41 rfl rfl ax_42 ⟨Nat.le_of_ble_eq_true rfl, Nat.le_of_ble_eq_true rfl⟩ rfl rfl (Nat.le_of_ble_eq_true rfl) dX10_addPart_80 ⟨(Nat.le_of_ble_eq_true rfl), (Nat.le_of_ble_eq_true rfl)⟩) hP hD hS hA rfl rfl rfl (by decide) (fun ad80 H locs hP hD hS => ?_)
  have hP : va_P D vwCl [(a0, .inr (15, [.int 1, v1, v2, v3, v4, v5, v6, v7, v8, v9, v10, v11, v12, v13, v14, v15, v16, v17, v18, v19, v20, v21, v22, v23, v24, v25, v26, v27]))] H := hP
  have hD : va_D A [(a0, .inr (15, [.int 1, v1, v2, v3, v4, v5, v6, v7, v8, v9, v10, v11, v12, v13, v14, v15, v16, v17, v18, v19, v20, v21, v22, v23, v24, v25, v26, v27]))] := hD
  refine lv_if_ne (tgt := 113) hx hb dX10_addPart_83 (by decide) (fun _ => ?_) (fun z => absurd z (by decide))
  refine lv_iconst (v := (-1)) hx hb dX10_addPart_113 (by decide) ?_
  exact en_z hx hb hr hlk hP hD hS rfl (fun _ => 0) (is := [0]) rfl rfl (Nat.le_of_ble_eq_true rfl) (Nat.le_of_ble_eq_true rfl) dX10_addPart_114
set_option maxHeartbeats 4000000 in
set_option maxRecDepth 100000 in
theorem k309_J1_canEncode_9a6ad (l : Launch) (D : va_G) (cy : Nat → ClassId) (g : Nat → Nat) (x0 : Int32) (sz : Nat) (h0 : ¬ x0 < 0) (h1 : ¬ (255 : Int32) < x0) : Met l yJ1_canEncode_9a6ad [.code yJ1_canEncode_9a6ad cJ1_canEncode_9a6ad 1 (some .boolean)] ({ frames := 0, cells := 0, slots := 0, locals := 0 }) (PC D cy g [] sz [.int x0]) (QI D 1 (fun ad => []) (va_A [] sz)) 0 0 (va_A [] sz) := by
  refine st_I (by decide) (Nat.le_of_ble_eq_true rfl) ?_
  intro p e s m args below meth c A ls hx hb hr hml hown hlk hnm hsz hP hD hA hE hts hS hl
  have hown : s.vm.findClass RJ1 = some m.cls := hown
  have hl : lv_has ls 1 [(0, .int x0)] := hl
  refine lv_iload_n hx hb dJ1_canEncode_9a6ad_0 rfl (lv_at hl 0 rfl) ?_
  refine lv_if_lt (tgt := 15) hx hb dJ1_canEncode_9a6ad_1 (by decide) (fun z => absurd z h0) (fun _ => ?_)
  refine lv_iload_n hx hb dJ1_canEncode_9a6ad_4 rfl (lv_at hl 0 rfl) ?_
  refine lv_sipush (v := 255) hx hb dJ1_canEncode_9a6ad_5 (by decide) ?_
  refine lv_icmp_gt (tgt := 15) hx hb dJ1_canEncode_9a6ad_8 (by decide) (fun z => absurd z h1) (fun _ => ?_)
  refine lv_iconst (v := 1) hx hb dJ1_canEncode_9a6ad_11 (by decide) ?_
  refine lv_goto (tgt := 16) hx hb dJ1_canEncode_9a6ad_12 (by decide) ?_
  exact en_z hx hb hr hlk hP hD hS rfl (fun _ => 0) (is := []) rfl rfl (Nat.le_of_ble_eq_true rfl) (Nat.le_of_ble_eq_true rfl) dJ1_canEncode_9a6ad_16
set_option maxHeartbeats 4000000 in
set_option maxRecDepth 100000 in
theorem k310_J1_indexOfChar_4cfef (l : Launch) (D : va_G) (cy : Nat → ClassId) (g : Nat → Nat) (x0 : Int32) (sz : Nat) (h0 : ¬ (112 : Int32) = x0.toInt8.toInt32) (h1 : ¬ (104 : Int32) = x0.toInt8.toInt32) (h2 : ¬ (116 : Int32) = x0.toInt8.toInt32) (h3 : ¬ (99 : Int32) = x0.toInt8.toInt32) (h4 : ¬ (118 : Int32) = x0.toInt8.toInt32) : Met l yJ1_indexOfChar_4cfef [.code yJ1_indexOfChar_4cfef cJ1_indexOfChar_4cfef 6 (some .int)] ({ frames := 0, cells := 0, slots := 0, locals := 0 }) (PC D cy g [] sz [.ref (g (0 + 3)), .int x0, .int 0, .int 5]) (QI D (-1) (fun ad => []) (va_A [] sz)) 0 0 (va_A [] sz) := by
  refine st_I (by decide) (Nat.le_of_ble_eq_true rfl) ?_
  intro p e s m args below meth c A ls hx hb hr hml hown hlk hnm hsz hP hD hA hE hts hS hl
  have hown : s.vm.findClass RJ1 = some m.cls := hown
  have hl : lv_has ls 6 [(0, .ref (g (0 + 3))), (1, .int x0), (2, .int 0), (3, .int 5)] := hl
  refine lv_iload_n hx hb dJ1_indexOfChar_4cfef_0 rfl (lv_at hl 1 rfl) ?_
  refine lv_i2b (v := x0.toInt8.toInt32) hx hb dJ1_indexOfChar_4cfef_1 rfl ?_
  refine lv_istore (lv' := [(4, .int x0.toInt8.toInt32), (0, .ref (g (0 + 3))), (1, .int x0), (2, .int 0), (3, .int 5)]) hx hb dJ1_indexOfChar_4cfef_2 hl (Nat.le_of_ble_eq_true rfl) rfl (fun ls hl => ?_)
  refine lv_iload_n hx hb dJ1_indexOfChar_4cfef_4 rfl (lv_at hl 3 rfl) ?_
  refine lv_istore (lv' := [(5, .int 0), (4, .int x0.toInt8.toInt32), (0, .ref (g (0 + 3))), (1, .int x0), (2, .int 0), (3, .int 5)]) hx hb dJ1_indexOfChar_4cfef_5 hl (Nat.le_of_ble_eq_true rfl) rfl (fun ls hl => ?_)
  refine lv_iload hx hb dJ1_indexOfChar_4cfef_7 (lv_at hl 0 rfl) ?_
  refine lv_iload_n hx hb dJ1_indexOfChar_4cfef_9 rfl (lv_at hl 5 rfl) ?_
  refine lv_icmp_ge (tgt := 31) hx hb dJ1_indexOfChar_4cfef_10 (by decide) (fun z => absurd z (by decide)) (fun _ => ?_)
  refine lv_aload_n hx hb dJ1_indexOfChar_4cfef_13 rfl (lv_at hl 2 rfl) ?_
  refine lv_iload hx hb dJ1_indexOfChar_4cfef_14 (lv_at hl 0 rfl) ?_
  refine va_tb (v := .int 112) hx hb (hE.2.2.2.2.2.2.2.2.2.2.1 0 (by decide)).2.2.2 hS (by unfold vp_in; decide) rfl dJ1_indexOfChar_4cfef_16 ?_
  refine lv_iload hx hb dJ1_indexOfChar_4cfef_17 (lv_at hl 1 rfl) ?_
  refine lv_icmp_ne (tgt := 25) hx hb dJ1_indexOfChar_4cfef_19 (by decide) (fun _ => ?_) (fun z => absurd z h0)
  refine lv_iinc (v := 1) (lv' := [(5, .int 1), (4, .int x0.toInt8.toInt32), (0, .ref (g (0 + 3))), (1, .int x0), (2, .int 0), (3, .int 5)]) hx hb dJ1_indexOfChar_4cfef_25 hl (k := 0) rfl (by decide) (Nat.le_of_ble_eq_true rfl) rfl (fun ls hl => ?_)
  refine lv_goto (tgt := 7) hx hb dJ1_indexOfChar_4cfef_28 (by decide) ?_
  refine lv_iload hx hb dJ1_indexOfChar_4cfef_7 (lv_at hl 0 rfl) ?_
  refine lv_iload_n hx hb dJ1_indexOfChar_4cfef_9 rfl (lv_at hl 5 rfl) ?_
  refine lv_icmp_ge (tgt := 31) hx hb dJ1_indexOfChar_4cfef_10 (by decide) (fun z => absurd z (by decide)) (fun _ => ?_)
  refine lv_aload_n hx hb dJ1_indexOfChar_4cfef_13 rfl (lv_at hl 2 rfl) ?_
  refine lv_iload hx hb dJ1_indexOfChar_4cfef_14 (lv_at hl 0 rfl) ?_
  refine va_tb (v := .int 104) hx hb (hE.2.2.2.2.2.2.2.2.2.2.1 0 (by decide)).2.2.2 hS (by unfold vp_in; decide) rfl dJ1_indexOfChar_4cfef_16 ?_
  refine lv_iload hx hb dJ1_indexOfChar_4cfef_17 (lv_at hl 1 rfl) ?_
  refine lv_icmp_ne (tgt := 25) hx hb dJ1_indexOfChar_4cfef_19 (by decide) (fun _ => ?_) (fun z => absurd z h1)
  refine lv_iinc (v := 2) (lv' := [(5, .int 2), (4, .int x0.toInt8.toInt32), (0, .ref (g (0 + 3))), (1, .int x0), (2, .int 0), (3, .int 5)]) hx hb dJ1_indexOfChar_4cfef_25 hl (k := 0) rfl (by decide) (Nat.le_of_ble_eq_true rfl) rfl (fun ls hl => ?_)
  refine lv_goto (tgt := 7) hx hb dJ1_indexOfChar_4cfef_28 (by decide) ?_
  refine lv_iload hx hb dJ1_indexOfChar_4cfef_7 (lv_at hl 0 rfl) ?_
  refine lv_iload_n hx hb dJ1_indexOfChar_4cfef_9 rfl (lv_at hl 5 rfl) ?_
  refine lv_icmp_ge (tgt := 31) hx hb dJ1_indexOfChar_4cfef_10 (by decide) (fun z => absurd z (by decide)) (fun _ => ?_)
  refine lv_aload_n hx hb dJ1_indexOfChar_4cfef_13 rfl (lv_at hl 2 rfl) ?_
  refine lv_iload hx hb dJ1_indexOfChar_4cfef_14 (lv_at hl 0 rfl) ?_
  refine va_tb (v := .int 116) hx hb (hE.2.2.2.2.2.2.2.2.2.2.1 0 (by decide)).2.2.2 hS (by unfold vp_in; decide) rfl dJ1_indexOfChar_4cfef_16 ?_
  refine lv_iload hx hb dJ1_indexOfChar_4cfef_17 (lv_at hl 1 rfl) ?_
  refine lv_icmp_ne (tgt := 25) hx hb dJ1_indexOfChar_4cfef_19 (by decide) (fun _ => ?_) (fun z => absurd z h2)
  refine lv_iinc (v := 3) (lv' := [(5, .int 3), (4, .int x0.toInt8.toInt32), (0, .ref (g (0 + 3))), (1, .int x0), (2, .int 0), (3, .int 5)]) hx hb dJ1_indexOfChar_4cfef_25 hl (k := 0) rfl (by decide) (Nat.le_of_ble_eq_true rfl) rfl (fun ls hl => ?_)
  refine lv_goto (tgt := 7) hx hb dJ1_indexOfChar_4cfef_28 (by decide) ?_
  refine lv_iload hx hb dJ1_indexOfChar_4cfef_7 (lv_at hl 0 rfl) ?_
  refine lv_iload_n hx hb dJ1_indexOfChar_4cfef_9 rfl (lv_at hl 5 rfl) ?_
  refine lv_icmp_ge (tgt := 31) hx hb dJ1_indexOfChar_4cfef_10 (by decide) (fun z => absurd z (by decide)) (fun _ => ?_)
  refine lv_aload_n hx hb dJ1_indexOfChar_4cfef_13 rfl (lv_at hl 2 rfl) ?_
  refine lv_iload hx hb dJ1_indexOfChar_4cfef_14 (lv_at hl 0 rfl) ?_
  refine va_tb (v := .int 99) hx hb (hE.2.2.2.2.2.2.2.2.2.2.1 0 (by decide)).2.2.2 hS (by unfold vp_in; decide) rfl dJ1_indexOfChar_4cfef_16 ?_
  refine lv_iload hx hb dJ1_indexOfChar_4cfef_17 (lv_at hl 1 rfl) ?_
  refine lv_icmp_ne (tgt := 25) hx hb dJ1_indexOfChar_4cfef_19 (by decide) (fun _ => ?_) (fun z => absurd z h3)
  refine lv_iinc (v := 4) (lv' := [(5, .int 4), (4, .int x0.toInt8.toInt32), (0, .ref (g (0 + 3))), (1, .int x0), (2, .int 0), (3, .int 5)]) hx hb dJ1_indexOfChar_4cfef_25 hl (k := 0) rfl (by decide) (Nat.le_of_ble_eq_true rfl) rfl (fun ls hl => ?_)
  refine lv_goto (tgt := 7) hx hb dJ1_indexOfChar_4cfef_28 (by decide) ?_
  refine lv_iload hx hb dJ1_indexOfChar_4cfef_7 (lv_at hl 0 rfl) ?_
  refine lv_iload_n hx hb dJ1_indexOfChar_4cfef_9 rfl (lv_at hl 5 rfl) ?_
  refine lv_icmp_ge (tgt := 31) hx hb dJ1_indexOfChar_4cfef_10 (by decide) (fun z => absurd z (by decide)) (fun _ => ?_)
  refine lv_aload_n hx hb dJ1_indexOfChar_4cfef_13 rfl (lv_at hl 2 rfl) ?_
  refine lv_iload hx hb dJ1_indexOfChar_4cfef_14 (lv_at hl 0 rfl) ?_
  refine va_tb (v := .int 118) hx hb (hE.2.2.2.2.2.2.2.2.2.2.1 0 (by decide)).2.2.2 hS (by unfold vp_in; decide) rfl dJ1_indexOfChar_4cfef_16 ?_
  refine lv_iload hx hb dJ1_indexOfChar_4cfef_17 (lv_at hl 1 rfl) ?_
  refine lv_icmp_ne (tgt := 25) hx hb dJ1_indexOfChar_4cfef_19 (by decide) (fun _ => ?_) (fun z => absurd z h4)
  refine lv_iinc (v := 5) (lv' := [(5, .int 5), (4, .int x0.toInt8.toInt32), (0, .ref (g (0 + 3))), (1, .int x0), (2, .int 0), (3, .int 5)]) hx hb dJ1_indexOfChar_4cfef_25 hl (k := 0) rfl (by decide) (Nat.le_of_ble_eq_true rfl) rfl (fun ls hl => ?_)
  refine lv_goto (tgt := 7) hx hb dJ1_indexOfChar_4cfef_28 (by decide) ?_
  refine lv_iload hx hb dJ1_indexOfChar_4cfef_7 (lv_at hl 0 rfl) ?_
  refine lv_iload_n hx hb dJ1_indexOfChar_4cfef_9 rfl (lv_at hl 5 rfl) ?_
  refine lv_icmp_ge (tgt := 31) hx hb dJ1_indexOfChar_4cfef_10 (by decide) (fun _ => ?_) (fun z => absurd (by decide) z)
  refine lv_iconst (v := (-1)) hx hb dJ1_indexOfChar_4cfef_31 (by decide) ?_
  exact en_z hx hb hr hlk hP hD hS rfl (fun _ => 0) (is := []) rfl rfl (Nat.le_of_ble_eq_true rfl) (Nat.le_of_ble_eq_true rfl) dJ1_indexOfChar_4cfef_32
set_option maxHeartbeats 4000000 in
set_option maxRecDepth 100000 in
theorem k311_J1_indexOf_4cfef (l : Launch) (D : va_G) (cy : Nat → ClassId) (g : Nat → Nat) (x0 : Int32) (sz : Nat) (h0 : ¬ x0 < 0) (h1 : ¬ (255 : Int32) < x0) (h2 : ¬ (112 : Int32) = x0.toInt8.toInt32) (h3 : ¬ (104 : Int32) = x0.toInt8.toInt32) (h4 : ¬ (116 : Int32) = x0.toInt8.toInt32) (h5 : ¬ (99 : Int32) = x0.toInt8.toInt32) (h6 : ¬ (118 : Int32) = x0.toInt8.toInt32) : Met l yJ1_indexOf_4cfef [.code yJ1_indexOf_4cfef cJ1_indexOf_4cfef 4 (some .int)] ({ frames := 1, cells := 0, slots := 0, locals := 25 }) (PC D cy g [] sz [.ref (g (0 + 3)), .int x0, .int 0, .int 5]) (QI D (-1) (fun ad => []) (va_A [] sz)) 0 0 (va_A [] sz) := by
  refine st_I (by decide) (Nat.le_of_ble_eq_true rfl) ?_
  intro p e s m args below meth c A ls hx hb hr hml hown hlk hnm hsz hP hD hA hE hts hS hl
  have hown : s.vm.findClass RJ1 = some m.cls := hown
  have hl : lv_has ls 4 [(0, .ref (g (0 + 3))), (1, .int x0), (2, .int 0), (3, .int 5)] := hl
  refine lv_iload_n hx hb dJ1_indexOf_4cfef_0 rfl (lv_at hl 1 rfl) ?_
  refine ca_i (isC := []) (isR := []) (wr := []) (rn_S (isC := []) (wc := []) (As := [.int x0]) (rest := []) (n := 1) hx hb hml hown hts hE hS hP hD hA hl.1 (k309_J1_canEncode_9a6ad l D cy g x0 s.heap.size h0 h1) rfl rfl ax_188 rfl rfl ax_189 ⟨Nat.le_of_ble_eq_true rfl, Nat.le_of_ble_eq_true rfl⟩ rfl rfl (Nat.le_of_ble_eq_true rfl) dJ1_indexOf_4cfef_1 ⟨(Nat.le_of_ble_eq_true rfl), (Nat.le_of_ble_eq_true rfl)⟩) hP hD hS hA rfl rfl rfl (by decide) (fun ad1 H locs hP hD hS => ?_)
  have hP : va_P D vwCl [] H := hP
  have hD : va_D A [] := hD
  refine lv_if_ne (tgt := 9) hx hb dJ1_indexOf_4cfef_4 (by decide) (fun _ => ?_) (fun z => absurd z (by decide))
  refine lv_iload_n hx hb dJ1_indexOf_4cfef_9 rfl (lv_at hl 2 rfl) ?_
  refine lv_iconst (v := 0) hx hb dJ1_indexOf_4cfef_10 (by decide) ?_
  refine va_mmax hx hb (hml.trans hl.1.symm) hown (hts _ tw_642) (hts _ tw_344) (hts _ tw_345) (hts _ tw_346) (Nat.le_of_ble_eq_true rfl) (Nat.le_of_ble_eq_true rfl) (Nat.le_of_ble_eq_true rfl) (Nat.le_of_ble_eq_true rfl) dJ1_indexOf_4cfef_11 ?_
  refine tp_i 0 (by decide) ?_
  refine lv_istore_n (lv' := [(2, .int 0), (0, .ref (g (0 + 3))), (1, .int x0), (3, .int 5)]) hx hb dJ1_indexOf_4cfef_14 rfl hl (Nat.le_of_ble_eq_true rfl) rfl (fun ls hl => ?_)
  refine lv_iload_n hx hb dJ1_indexOf_4cfef_15 rfl (lv_at hl 3 rfl) ?_
  refine lv_aload_n hx hb dJ1_indexOf_4cfef_16 rfl (lv_at hl 1 rfl) ?_
  refine va_tlen (v := 5) hx hb (hE.2.2.2.2.2.2.2.2.2.2.1 0 (by decide)).2.2.2 hS (by decide) dJ1_indexOf_4cfef_17 ?_
  refine va_mmin hx hb (hml.trans hl.1.symm) hown (hts _ tw_643) (hts _ tw_644) (hts _ tw_345) (hts _ tw_645) (Nat.le_of_ble_eq_true rfl) (Nat.le_of_ble_eq_true rfl) (Nat.le_of_ble_eq_true rfl) (Nat.le_of_ble_eq_true rfl) dJ1_indexOf_4cfef_18 ?_
  refine tp_i 5 (by decide) ?_
  refine lv_istore_n (lv' := [(3, .int 5), (2, .int 0), (0, .ref (g (0 + 3))), (1, .int x0)]) hx hb dJ1_indexOf_4cfef_21 rfl hl (Nat.le_of_ble_eq_true rfl) rfl (fun ls hl => ?_)
  refine lv_iload_n hx hb dJ1_indexOf_4cfef_22 rfl (lv_at hl 1 rfl) ?_
  refine lv_iload_n hx hb dJ1_indexOf_4cfef_23 rfl (lv_at hl 0 rfl) ?_
  refine lv_icmp_lt (tgt := 29) hx hb dJ1_indexOf_4cfef_24 (by decide) (fun _ => ?_) (fun z => absurd (by decide) z)
  refine lv_aload_n hx hb dJ1_indexOf_4cfef_29 rfl (lv_at hl 2 rfl) ?_
  refine lv_iload_n hx hb dJ1_indexOf_4cfef_30 rfl (lv_at hl 3 rfl) ?_
  refine lv_iload_n hx hb dJ1_indexOf_4cfef_31 rfl (lv_at hl 1 rfl) ?_
  refine lv_iload_n hx hb dJ1_indexOf_4cfef_32 rfl (lv_at hl 0 rfl) ?_
  refine ca_i (isC := []) (isR := []) (wr := []) (rn_S (isC := []) (wc := []) (As := [.ref (g (0 + 3)), .int x0, .int 0, .int 5]) (rest := []) (n := 4) hx hb hml hown hts hE hS hP hD hA hl.1 (k310_J1_indexOfChar_4cfef l D cy g x0 H.size h2 h3 h4 h5 h6) rfl rfl ax_190 rfl rfl ax_191 ⟨Nat.le_of_ble_eq_true rfl, Nat.le_of_ble_eq_true rfl⟩ rfl rfl (Nat.le_of_ble_eq_true rfl) dJ1_indexOf_4cfef_33 ⟨(Nat.le_of_ble_eq_true rfl), (Nat.le_of_ble_eq_true rfl)⟩) hP hD hS hA rfl rfl rfl (by decide) (fun ad33 H locs hP hD hS => ?_)
  have hP : va_P D vwCl [] H := hP
  have hD : va_D A [] := hD
  exact en_z hx hb hr hlk hP hD hS rfl (fun _ => 0) (is := []) rfl rfl (Nat.le_of_ble_eq_true rfl) (Nat.le_of_ble_eq_true rfl) dJ1_indexOf_4cfef_36
set_option maxHeartbeats 4000000 in
set_option maxRecDepth 100000 in
theorem k312_J0_indexOf_7cf53 (l : Launch) (D : va_G) (cy : Nat → ClassId) (g : Nat → Nat) (x0 : Int32) (sz : Nat) (h0 : ¬ x0 < 0) (h1 : ¬ (255 : Int32) < x0) (h2 : ¬ (112 : Int32) = x0.toInt8.toInt32) (h3 : ¬ (104 : Int32) = x0.toInt8.toInt32) (h4 : ¬ (116 : Int32) = x0.toInt8.toInt32) (h5 : ¬ (99 : Int32) = x0.toInt8.toInt32) (h6 : ¬ (118 : Int32) = x0.toInt8.toInt32) : Met l yJ0_indexOf_7cf53 [.code yJ0_indexOf_7cf53 cJ0_indexOf_7cf53 3 (some .int)] ({ frames := 2, cells := 0, slots := 0, locals := 48 }) (PC D cy g [] sz [.ref (g (0 + 1)), .int x0, .int 0]) (QI D (-1) (fun ad => []) (va_A [] sz)) 0 0 (va_A [] sz) := by
  refine st_I (by decide) (Nat.le_of_ble_eq_true rfl) ?_
  intro p e s m args below meth c A ls hx hb hr hml hown hlk hnm hsz hP hD hA hE hts hS hl
  have hown : s.vm.findClass RJ0 = some m.cls := hown
  have hl : lv_has ls 3 [(0, .ref (g (0 + 1))), (1, .int x0), (2, .int 0)] := hl
  refine lv_aload_n hx hb dJ0_indexOf_7cf53_0 rfl (lv_at hl 0 rfl) ?_
  refine ca_i (isC := []) (isR := []) (wr := []) (rn_VS (i := 0) (isC := []) (wc := []) (As := []) (rest := []) (n := 0) hx hb hml hown hts hE hS hP hD hA hl.1 (k203_J0_isLatin1_aae02 l D cy g  s.heap.size ) rfl rfl (by decide) rfl ax_192 rfl rfl ax_193 ⟨Nat.le_of_ble_eq_true rfl, Nat.le_of_ble_eq_true rfl⟩ rfl rfl (Nat.le_of_ble_eq_true rfl) dJ0_indexOf_7cf53_1 ⟨(Nat.le_of_ble_eq_true rfl), (Nat.le_of_ble_eq_true rfl)⟩) hP hD hS hA rfl rfl rfl (by decide) (fun ad1 H locs hP hD hS => ?_)
  have hP : va_P D vwCl [] H := hP
  have hD : va_D A [] := hD
  refine lv_if_eq (tgt := 23) hx hb dJ0_indexOf_7cf53_4 (by decide) (fun z => absurd z (by decide)) (fun _ => ?_)
  refine lv_aload_n hx hb dJ0_indexOf_7cf53_7 rfl (lv_at hl 0 rfl) ?_
  refine vk_getf (v := .ref (g (0 + 3))) hx hb (hE.2.2.2.2.2.2.2.2.2.2.1 0 (by decide)).2.2.1 hS hown (hts _ tw_632) (fun _ h9 => h9) dJ0_indexOf_7cf53_8 ?_
  refine lv_iload_n hx hb dJ0_indexOf_7cf53_11 rfl (lv_at hl 1 rfl) ?_
  refine lv_iload_n hx hb dJ0_indexOf_7cf53_12 rfl (lv_at hl 2 rfl) ?_
  refine lv_aload_n hx hb dJ0_indexOf_7cf53_13 rfl (lv_at hl 0 rfl) ?_
  refine ca_i (isC := []) (isR := []) (wr := []) (rn_VS (i := 0) (isC := []) (wc := []) (As := []) (rest := [.int 0, .int x0, .ref (g (0 + 3))]) (n := 0) hx hb hml hown hts hE hS hP hD hA hl.1 (k205_J0_length_8abf5 l D cy g  H.size ) rfl rfl (by decide) rfl ax_194 rfl rfl ax_195 ⟨Nat.le_of_ble_eq_true rfl, Nat.le_of_ble_eq_true rfl⟩ rfl rfl (Nat.le_of_ble_eq_true rfl) dJ0_indexOf_7cf53_14 ⟨(Nat.le_of_ble_eq_true rfl), (Nat.le_of_ble_eq_true rfl)⟩) hP hD hS hA rfl rfl rfl (by decide) (fun ad14 H locs hP hD hS => ?_)
  have hP : va_P D vwCl [] H := hP
  have hD : va_D A [] := hD
  refine ca_i (isC := []) (isR := []) (wr := []) (rn_S (isC := []) (wc := []) (As := [.ref (g (0 + 3)), .int x0, .int 0, .int 5]) (rest := []) (n := 4) hx hb hml hown hts hE hS hP hD hA hl.1 (k311_J1_indexOf_4cfef l D cy g x0 H.size h0 h1 h2 h3 h4 h5 h6) rfl rfl ax_196 rfl rfl ax_197 ⟨Nat.le_of_ble_eq_true rfl, Nat.le_of_ble_eq_true rfl⟩ rfl rfl (Nat.le_of_ble_eq_true rfl) dJ0_indexOf_7cf53_17 ⟨(Nat.le_of_ble_eq_true rfl), (Nat.le_of_ble_eq_true rfl)⟩) hP hD hS hA rfl rfl rfl (by decide) (fun ad17 H locs hP hD hS => ?_)
  have hP : va_P D vwCl [] H := hP
  have hD : va_D A [] := hD
  refine lv_goto (tgt := 36) hx hb dJ0_indexOf_7cf53_20 (by decide) ?_
  exact en_z hx hb hr hlk hP hD hS rfl (fun _ => 0) (is := []) rfl rfl (Nat.le_of_ble_eq_true rfl) (Nat.le_of_ble_eq_true rfl) dJ0_indexOf_7cf53_36
set_option maxHeartbeats 4000000 in
set_option maxRecDepth 100000 in
theorem k313_J0_indexOf_0f7a4 (l : Launch) (D : va_G) (cy : Nat → ClassId) (g : Nat → Nat) (x0 : Int32) (sz : Nat) (h0 : ¬ x0 < 0) (h1 : ¬ (255 : Int32) < x0) (h2 : ¬ (112 : Int32) = x0.toInt8.toInt32) (h3 : ¬ (104 : Int32) = x0.toInt8.toInt32) (h4 : ¬ (116 : Int32) = x0.toInt8.toInt32) (h5 : ¬ (99 : Int32) = x0.toInt8.toInt32) (h6 : ¬ (118 : Int32) = x0.toInt8.toInt32) : Met l yJ0_indexOf_0f7a4 [.code yJ0_indexOf_0f7a4 cJ0_indexOf_0f7a4 2 (some .int)] ({ frames := 3, cells := 0, slots := 0, locals := 70 }) (PC D cy g [] sz [.ref (g (0 + 1)), .int x0]) (QI D (-1) (fun ad => []) (va_A [] sz)) 0 0 (va_A [] sz) := by
  refine st_I (by decide) (Nat.le_of_ble_eq_true rfl) ?_
  intro p e s m args below meth c A ls hx hb hr hml hown hlk hnm hsz hP hD hA hE hts hS hl
  have hown : s.vm.findClass RJ0 = some m.cls := hown
  have hl : lv_has ls 2 [(0, .ref (g (0 + 1))), (1, .int x0)] := hl
  refine lv_aload_n hx hb dJ0_indexOf_0f7a4_0 rfl (lv_at hl 0 rfl) ?_
  refine lv_iload_n hx hb dJ0_indexOf_0f7a4_1 rfl (lv_at hl 1 rfl) ?_
  refine lv_iconst (v := 0) hx hb dJ0_indexOf_0f7a4_2 (by decide) ?_
  refine ca_i (isC := []) (isR := []) (wr := []) (rn_VS (i := 0) (isC := []) (wc := []) (As := [.int x0, .int 0]) (rest := []) (n := 2) hx hb hml hown hts hE hS hP hD hA hl.1 (k312_J0_indexOf_7cf53 l D cy g x0 s.heap.size h0 h1 h2 h3 h4 h5 h6) rfl rfl (by decide) rfl ax_198 rfl rfl ax_199 ⟨Nat.le_of_ble_eq_true rfl, Nat.le_of_ble_eq_true rfl⟩ rfl rfl (Nat.le_of_ble_eq_true rfl) dJ0_indexOf_0f7a4_3 ⟨(Nat.le_of_ble_eq_true rfl), (Nat.le_of_ble_eq_true rfl)⟩) hP hD hS hA rfl rfl rfl (by decide) (fun ad3 H locs hP hD hS => ?_)
  have hP : va_P D vwCl [] H := hP
  have hD : va_D A [] := hD
  exact en_z hx hb hr hlk hP hD hS rfl (fun _ => 0) (is := []) rfl rfl (Nat.le_of_ble_eq_true rfl) (Nat.le_of_ble_eq_true rfl) dJ0_indexOf_0f7a4_6
set_option maxHeartbeats 4000000 in
set_option maxRecDepth 100000 in
theorem k314_X10_addPart (l : Launch) (D : va_G) (cy : Nat → ClassId) (g : Nat → Nat) (x0 : Int32) (x1 : Int32) (x2 : Int32) (a0 : Nat) (v0 : Value) (v1 : Value) (v2 : Value) (v3 : Value) (v4 : Value) (v5 : Value) (v6 : Value) (v7 : Value) (v8 : Value) (v9 : Value) (v10 : Value) (v11 : Value) (v12 : Value) (v13 : Value) (v14 : Value) (v15 : Value) (v16 : Value) (v17 : Value) (v18 : Value) (v19 : Value) (v20 : Value) (v21 : Value) (v22 : Value) (v23 : Value) (v24 : Value) (v25 : Value) (v26 : Value) (v27 : Value) (sz : Nat) (h0 : ¬ x0 < 0) (h1 : ¬ (255 : Int32) < x0) (h2 : ¬ (112 : Int32) = x0.toInt8.toInt32) (h3 : ¬ (104 : Int32) = x0.toInt8.toInt32) (h4 : ¬ (116 : Int32) = x0.toInt8.toInt32) (h5 : ¬ (99 : Int32) = x0.toInt8.toInt32) (h6 : ¬ (118 : Int32) = x0.toInt8.toInt32) : Met l yX10_addPart [.code yX10_addPart cX10_addPart 5 (some .int)] ({ frames := 4, cells := 0, slots := 0, locals := 91 }) (PC D cy g [(a0, .inr (15, [v0, v1, v2, v3, v4, v5, v6, v7, v8, v9, v10, v11, v12, v13, v14, v15, v16, v17, v18, v19, v20, v21, v22, v23, v24, v25, v26, v27]))] sz [.ref a0, .int x0, .int x1, .int x2]) (QI D (-1) (fun ad => [(a0, .inr (15, [.int 1, v1, v2, v3, v4, v5, v6, v7, v8, v9, v10, v11, v12, v13, v14, v15, v16, v17, v18, v19, v20, v21, v22, v23, v24, v25, v26, v27]))]) (va_A [(a0, .inr (15, [v0, v1, v2, v3, v4, v5, v6, v7, v8, v9, v10, v11, v12, v13, v14, v15, v16, v17, v18, v19, v20, v21, v22, v23, v24, v25, v26, v27]))] sz)) 0 0 (va_A [(a0, .inr (15, [v0, v1, v2, v3, v4, v5, v6, v7, v8, v9, v10, v11, v12, v13, v14, v15, v16, v17, v18, v19, v20, v21, v22, v23, v24, v25, v26, v27]))] sz) := by
  refine st_I (by decide) (Nat.le_of_ble_eq_true rfl) ?_
  intro p e s m args below meth c A ls hx hb hr hml hown hlk hnm hsz hP hD hA hE hts hS hl
  have hown : s.vm.findClass RX10 = some m.cls := hown
  have hl : lv_has ls 5 [(0, .ref a0), (1, .int x0), (2, .int x1), (3, .int x2)] := hl
  refine lv_aload_n hx hb dX10_addPart_0 rfl (lv_at hl 0 rfl) ?_
  refine ca_v (isC := [0]) (isR := []) (wr := []) (rn_V (ci := 15) (q0 := 0) (isC := [0]) (wc := [(a0, .inr (15, [v0, v1, v2, v3, v4, v5, v6, v7, v8, v9, v10, v11, v12, v13, v14, v15, v16, v17, v18, v19, v20, v21, v22, v23, v24, v25, v26, v27]))]) (As := []) (rest := []) (n := 0) hx hb hml hown hts hE hS hP hD hA hl.1 (k20_X10_begins l D cy g a0 (v0) (v1) (v2) (v3) (v4) (v5) (v6) (v7) (v8) (v9) (v10) (v11) (v12) (v13) (v14) (v15) (v16) (v17) (v18) (v19) (v20) (v21) (v22) (v23) (v24) (v25) (v26) (v27) s.heap.size ) rfl rfl rfl rfl rfl ax_37 rfl rfl ax_38 ⟨Nat.le_of_ble_eq_true rfl, Nat.le_of_ble_eq_true rfl⟩ rfl rfl (Nat.le_of_ble_eq_true rfl) dX10_addPart_1 ⟨(Nat.le_of_ble_eq_true rfl), (Nat.le_of_ble_eq_true rfl)⟩) hP hD hS hA rfl rfl rfl (by decide) (fun ad1 H locs hP hD hS => ?_)
  have hP : va_P D vwCl [(a0, .inr (15, [.int 0, v1, v2, v3, v4, v5, v6, v7, v8, v9, v10, v11, v12, v13, v14, v15, v16, v17, v18, v19, v20, v21, v22, v23, v24, v25, v26, v27]))] H := hP
  have hD : va_D A [(a0, .inr (15, [.int 0, v1, v2, v3, v4, v5, v6, v7, v8, v9, v10, v11, v12, v13, v14, v15, v16, v17, v18, v19, v20, v21, v22, v23, v24, v25, v26, v27]))] := hD
  refine va_ldcS (tx := "phtcv") (q := (g (0 + 1))) hx hb hown hE.2.2.1.2.1 dX10_addPart_4 ?_
  refine lv_iload_n hx hb dX10_addPart_6 rfl (lv_at hl 1 rfl) ?_
  refine ca_i (isC := []) (isR := [0]) (wr := [(a0, .inr (15, [.int 0, v1, v2, v3, v4, v5, v6, v7, v8, v9, v10, v11, v12, v13, v14, v15, v16, v17, v18, v19, v20, v21, v22, v23, v24, v25, v26, v27]))]) (rn_VS (i := 0) (isC := []) (wc := []) (As := [.int x0]) (rest := []) (n := 1) hx hb hml hown hts hE hS hP hD hA hl.1 (k313_J0_indexOf_0f7a4 l D cy g x0 H.size h0 h1 h2 h3 h4 h5 h6) rfl rfl (by decide) rfl ax_200 rfl rfl ax_201 ⟨Nat.le_of_ble_eq_true rfl, Nat.le_of_ble_eq_true rfl⟩ rfl rfl (Nat.le_of_ble_eq_true rfl) dX10_addPart_7 ⟨(Nat.le_of_ble_eq_true rfl), (Nat.le_of_ble_eq_true rfl)⟩) hP hD hS hA rfl rfl rfl (by decide) (fun ad7 H locs hP hD hS => ?_)
  have hP : va_P D vwCl [(a0, .inr (15, [.int 0, v1, v2, v3, v4, v5, v6, v7, v8, v9, v10, v11, v12, v13, v14, v15, v16, v17, v18, v19, v20, v21, v22, v23, v24, v25, v26, v27]))] H := hP
  have hD : va_D A [(a0, .inr (15, [.int 0, v1, v2, v3, v4, v5, v6, v7, v8, v9, v10, v11, v12, v13, v14, v15, v16, v17, v18, v19, v20, v21, v22, v23, v24, v25, v26, v27]))] := hD
  refine lv_if_lt (tgt := 65) hx hb dX10_addPart_10 (by decide) (fun _ => ?_) (fun z => absurd (by decide) z)
  refine lv_iconst (v := 0) hx hb dX10_addPart_65 (by decide) ?_
  refine lv_istore (lv' := [(4, .int 0), (0, .ref a0), (1, .int x0), (2, .int x1), (3, .int x2)]) hx hb dX10_addPart_66 hl (Nat.le_of_ble_eq_true rfl) rfl (fun ls hl => ?_)
  refine lv_aload_n hx hb dX10_addPart_68 rfl (lv_at hl 1 rfl) ?_
  refine lv_iload hx hb dX10_addPart_69 (lv_at hl 0 rfl) ?_
  refine lv_if_ne (tgt := 78) hx hb dX10_addPart_71 (by decide) (fun z => absurd (by decide) z) (fun _ => ?_)
  refine lv_iconst (v := 1) hx hb dX10_addPart_74 (by decide) ?_
  refine lv_goto (tgt := 79) hx hb dX10_addPart_75 (by decide) ?_
  refine lv_iconst (v := 1) hx hb dX10_addPart_79 (by decide) ?_
  refine ca_i (isC := [0]) (isR := []) (wr := []) (rn_V (ci := 15) (q0 := 0) (isC := [0]) (wc := [(a0, .inr (15, [.int 0, v1, v2, v3, v4, v5, v6, v7, v8, v9, v10, v11, v12, v13, v14, v15, v16, v17, v18, v19, v20, v21, v22, v23, v24, v25, v26, v27]))]) (As := [.int 1, .int 1]) (rest := []) (n := 2) hx hb hml hown hts hE hS hP hD hA hl.1 (k22_X10_fails l D cy g a0 (v1) (v2) (v3) (v4) (v5) (v6) (v7) (v8) (v9) (v10) (v11) (v12) (v13) (v14) (v15) (v16) (v17) (v18) (v19) (v20) (v21) (v22) (v23) (v24) (v25) (v26) (v27) H.size ) rfl rfl rfl rfl rfl ax_41 rfl rfl ax_42 ⟨Nat.le_of_ble_eq_true rfl, Nat.le_of_ble_eq_true rfl⟩ rfl rfl (Nat.le_of_ble_eq_true rfl) dX10_addPart_80 ⟨(Nat.le_of_ble_eq_true rfl), (Nat.le_of_ble_eq_true rfl)⟩) hP hD hS hA rfl rfl rfl (by decide) (fun ad80 H locs hP hD hS => ?_)
  have hP : va_P D vwCl [(a0, .inr (15, [.int 1, v1, v2, v3, v4, v5, v6, v7, v8, v9, v10, v11, v12, v13, v14, v15, v16, v17, v18, v19, v20, v21, v22, v23, v24, v25, v26, v27]))] H := hP
  have hD : va_D A [(a0, .inr (15, [.int 1, v1, v2, v3, v4, v5, v6, v7, v8, v9, v10, v11, v12, v13, v14, v15, v16, v17, v18, v19, v20, v21, v22, v23, v24, v25, v26, v27]))] := hD
  refine lv_if_ne (tgt := 113) hx hb dX10_addPart_83 (by decide) (fun _ => ?_) (fun z => absurd z (by decide))
  refine lv_iconst (v := (-1)) hx hb dX10_addPart_113 (by decide) ?_
  exact en_z hx hb hr hlk hP hD hS rfl (fun _ => 0) (is := [0]) rfl rfl (Nat.le_of_ble_eq_true rfl) (Nat.le_of_ble_eq_true rfl) dX10_addPart_114
set_option maxHeartbeats 4000000 in
set_option maxRecDepth 100000 in
theorem k315_X3_removeAll (l : Launch) (D : va_G) (cy : Nat → ClassId) (g : Nat → Nat) (a0 : Nat) (v0 : Value) (v1 : Value) (v2 : Value) (v3 : Value) (v4 : Value) (v5 : Value) (v6 : Value) (v7 : Value) (sz : Nat)  : Met l yX3_removeAll [.code yX3_removeAll cX3_removeAll 2 (some .int)] ({ frames := 0, cells := 0, slots := 0, locals := 0 }) (PC D cy g [(a0, .inr (8, [v0, v1, v2, .int 0, v3, v4, v5, v6, v7]))] sz [.ref a0]) (QI D 0 (fun ad => [(a0, .inr (8, [v0, v1, v2, .int 0, .int 0, v4, v5, v6, v7]))]) (va_A [(a0, .inr (8, [v0, v1, v2, .int 0, v3, v4, v5, v6, v7]))] sz)) 0 0 (va_A [(a0, .inr (8, [v0, v1, v2, .int 0, v3, v4, v5, v6, v7]))] sz) := by
  refine st_I (by decide) (Nat.le_of_ble_eq_true rfl) ?_
  intro p e s m args below meth c A ls hx hb hr hml hown hlk hnm hsz hP hD hA hE hts hS hl
  have hown : s.vm.findClass RX3 = some m.cls := hown
  have hl : lv_has ls 2 [(0, .ref a0)] := hl
  refine lv_aload_n hx hb dX3_removeAll_0 rfl (lv_at hl 0 rfl) ?_
  refine va_get (D := D) (ci := 8) (v := .int 0) (C := RX3) (T := TX3) (N := 9) hx hb hts ax_5 hown hE.1 hP 0 rfl rfl 3 (by decide) (hts _ tw_72) (fun _ h9 => h9) rfl dX3_removeAll_1 ?_
  refine lv_istore_n (lv' := [(1, .int 0), (0, .ref a0)]) hx hb dX3_removeAll_4 rfl hl (Nat.le_of_ble_eq_true rfl) rfl (fun ls hl => ?_)
  refine lv_aload_n hx hb dX3_removeAll_5 rfl (lv_at hl 1 rfl) ?_
  refine lv_iconst (v := 0) hx hb dX3_removeAll_6 (by decide) ?_
  refine va_put (D := D) (ci := 8) (v := .int 0) (ty := .int) (C := RX3) (T := TX3) (N := 9) hx hb hts ax_5 tyX3 tyX3_ok nmX3 hown hE.1 hP hD hS 0 rfl rfl 3 (by decide) (hts _ tw_72) (fun _ h9 => h9) rfl (by decide +kernel) rfl rfl (Nat.le_of_ble_eq_true rfl) dX3_removeAll_7 (fun H locs hP hD hS => ?_)
  have hP : va_P D vwCl [(a0, .inr (8, [v0, v1, v2, .int 0, v3, v4, v5, v6, v7]))] H := hP
  have hD : va_D A [(a0, .inr (8, [v0, v1, v2, .int 0, v3, v4, v5, v6, v7]))] := hD
  refine lv_aload_n hx hb dX3_removeAll_10 rfl (lv_at hl 1 rfl) ?_
  refine lv_iconst (v := 0) hx hb dX3_removeAll_11 (by decide) ?_
  refine va_put (D := D) (ci := 8) (v := .int 0) (ty := .boolean) (C := RX3) (T := TX3) (N := 9) hx hb hts ax_5 tyX3 tyX3_ok nmX3 hown hE.1 hP hD hS 0 rfl rfl 4 (by decide) (hts _ tw_73) (fun _ h9 => h9) rfl (by decide +kernel) rfl rfl (Nat.le_of_ble_eq_true rfl) dX3_removeAll_12 (fun H locs hP hD hS => ?_)
  have hP : va_P D vwCl [(a0, .inr (8, [v0, v1, v2, .int 0, .int 0, v4, v5, v6, v7]))] H := hP
  have hD : va_D A [(a0, .inr (8, [v0, v1, v2, .int 0, .int 0, v4, v5, v6, v7]))] := hD
  refine lv_iload_n hx hb dX3_removeAll_15 rfl (lv_at hl 0 rfl) ?_
  exact en_z hx hb hr hlk hP hD hS rfl (fun _ => 0) (is := [0]) rfl rfl (Nat.le_of_ble_eq_true rfl) (Nat.le_of_ble_eq_true rfl) dX3_removeAll_16
set_option maxHeartbeats 4000000 in
set_option maxRecDepth 100000 in
theorem k316_X9_clearParts (l : Launch) (D : va_G) (cy : Nat → ClassId) (g : Nat → Nat) (a0 : Nat) (a1 : Nat) (v0 : Value) (v1 : Value) (v2 : Value) (v3 : Value) (v4 : Value) (v5 : Value) (v6 : Value) (v7 : Value) (v8 : Value) (v9 : Value) (v10 : Value) (v11 : Value) (v12 : Value) (v13 : Value) (sz : Nat)  : Met l yX9_clearParts [.code yX9_clearParts cX9_clearParts 1 (some .int)] ({ frames := 1, cells := 0, slots := 0, locals := 21 }) (PC D cy g [(a0, .inr (14, [v0, v1, .ref a1, v2, v3, v4, v5])), (a1, .inr (8, [v6, v7, v8, .int 0, v9, v10, v11, v12, v13]))] sz [.ref a0]) (QI D 0 (fun ad => []) (va_A [(a0, .inr (14, [v0, v1, .ref a1, v2, v3, v4, v5])), (a1, .inr (8, [v6, v7, v8, .int 0, v9, v10, v11, v12, v13]))] sz)) 0 0 (va_A [(a0, .inr (14, [v0, v1, .ref a1, v2, v3, v4, v5])), (a1, .inr (8, [v6, v7, v8, .int 0, v9, v10, v11, v12, v13]))] sz) := by
  refine st_I (by decide) (Nat.le_of_ble_eq_true rfl) ?_
  intro p e s m args below meth c A ls hx hb hr hml hown hlk hnm hsz hP hD hA hE hts hS hl
  have hown : s.vm.findClass RX9 = some m.cls := hown
  have hl : lv_has ls 1 [(0, .ref a0)] := hl
  refine lv_aload_n hx hb dX9_clearParts_0 rfl (lv_at hl 0 rfl) ?_
  refine va_get (D := D) (ci := 14) (v := .ref a1) (C := RX9) (T := TX9) (N := 7) hx hb hts ax_16 hown hE.1 hP 0 rfl rfl 2 (by decide) (hts _ tw_193) (fun _ h9 => h9) rfl dX9_clearParts_1 ?_
  refine ca_i (isC := [1]) (isR := [0]) (wr := [(a0, .inr (14, [v0, v1, .ref a1, v2, v3, v4, v5]))]) (rn_V (ci := 8) (q0 := 1) (isC := [1]) (wc := [(a1, .inr (8, [v6, v7, v8, .int 0, v9, v10, v11, v12, v13]))]) (As := []) (rest := []) (n := 0) hx hb hml hown hts hE hS hP hD hA hl.1 (k315_X3_removeAll l D cy g a1 (v6) (v7) (v8) (v9) (v10) (v11) (v12) (v13) s.heap.size ) rfl rfl rfl rfl rfl ax_209 rfl rfl ax_210 ⟨Nat.le_of_ble_eq_true rfl, Nat.le_of_ble_eq_true rfl⟩ rfl rfl (Nat.le_of_ble_eq_true rfl) dX9_clearParts_4 ⟨(Nat.le_of_ble_eq_true rfl), (Nat.le_of_ble_eq_true rfl)⟩) hP hD hS hA rfl rfl rfl (by decide) (fun ad4 H locs hP hD hS => ?_)
  have hP : va_P D vwCl [(a0, .inr (14, [v0, v1, .ref a1, v2, v3, v4, v5])), (a1, .inr (8, [v6, v7, v8, .int 0, .int 0, v10, v11, v12, v13]))] H := hP
  have hD : va_D A [(a0, .inr (14, [v0, v1, .ref a1, v2, v3, v4, v5])), (a1, .inr (8, [v6, v7, v8, .int 0, .int 0, v10, v11, v12, v13]))] := hD
  exact en_z hx hb hr hlk hP hD hS rfl (fun _ => 0) (is := []) rfl rfl (Nat.le_of_ble_eq_true rfl) (Nat.le_of_ble_eq_true rfl) dX9_clearParts_7
set_option maxHeartbeats 4000000 in
set_option maxRecDepth 100000 in
theorem k317_Jx4a65c_clear_da8c8 (l : Launch) (D : va_G) (cy : Nat → ClassId) (g : Nat → Nat) (a0 : Nat) (sz : Nat)  : Met l yJx4a65c_clear_da8c8 [.code yJx4a65c_clear_da8c8 cJx4a65c_clear_da8c8 4 none] ({ frames := 0, cells := 0, slots := 0, locals := 0 }) (PC D cy g [(a0, .inr (4, [.int 0, .ref (g 0), .int 0]))] sz [.ref a0]) (QV D (fun ad => [(a0, .inr (4, [.int 1, .ref (g 0), .int 0]))]) (va_A [(a0, .inr (4, [.int 0, .ref (g 0), .int 0]))] sz)) 0 0 (va_A [(a0, .inr (4, [.int 0, .ref (g 0), .int 0]))] sz) := by
  refine st_V (by decide) (Nat.le_of_ble_eq_true rfl) ?_
  intro p e s m args below meth c A ls hx hb hr hml hown hlk hnm hsz hP hD hA hE hts hS hl
  have hown : s.vm.findClass RJx4a65c = some m.cls := hown
  have hl : lv_has ls 4 [(0, .ref a0)] := hl
  refine lv_aload_n hx hb dJx4a65c_clear_da8c8_0 rfl (lv_at hl 0 rfl) ?_
  refine lv_dup hx hb dJx4a65c_clear_da8c8_1 rfl ?_
  refine va_get (D := D) (ci := 4) (v := .int 0) (C := RJx4a65c) (T := TJx4a65c) (N := 3) hx hb hts ax_26 hown hE.1 hP 0 rfl rfl 0 (by decide) (hts _ tw_357) (fun x9 h9 => u_same (hts _ tw_358) x9 h9) rfl dJx4a65c_clear_da8c8_2 ?_
  refine lv_iconst (v := 1) hx hb dJx4a65c_clear_da8c8_5 (by decide) ?_
  refine lv_iadd hx hb dJx4a65c_clear_da8c8_6 ?_
  refine tp_i 1 (by decide) ?_
  refine va_put (D := D) (ci := 4) (v := .int 1) (ty := .int) (C := RJx4a65c) (T := TJx4a65c) (N := 3) hx hb hts ax_26 tyJx4a65c tyJx4a65c_ok nmJx4a65c hown hE.1 hP hD hS 0 rfl rfl 0 (by decide) (hts _ tw_357) (fun x9 h9 => u_same (hts _ tw_358) x9 h9) rfl (by decide +kernel) rfl rfl (Nat.le_of_ble_eq_true rfl) dJx4a65c_clear_da8c8_7 (fun H locs hP hD hS => ?_)
  have hP : va_P D vwCl [(a0, .inr (4, [.int 1, .ref (g 0), .int 0]))] H := hP
  have hD : va_D A [(a0, .inr (4, [.int 1, .ref (g 0), .int 0]))] := hD
  refine lv_aload_n hx hb dJx4a65c_clear_da8c8_10 rfl (lv_at hl 0 rfl) ?_
  refine va_get (D := D) (ci := 4) (v := .ref (g 0)) (C := RJx4a65c) (T := TJx4a65c) (N := 3) hx hb hts ax_26 hown hE.1 hP 0 rfl rfl 1 (by decide) (hts _ tw_241) (fun _ h9 => h9) rfl dJx4a65c_clear_da8c8_11 ?_
  refine lv_astore_n (lv' := [(1, .ref (g 0)), (0, .ref a0)]) hx hb dJx4a65c_clear_da8c8_14 rfl hl (Nat.le_of_ble_eq_true rfl) rfl (fun ls hl => ?_)
  refine lv_aload_n hx hb dJx4a65c_clear_da8c8_15 rfl (lv_at hl 1 rfl) ?_
  refine va_get (D := D) (ci := 4) (v := .int 0) (C := RJx4a65c) (T := TJx4a65c) (N := 3) hx hb hts ax_26 hown hE.1 hP 0 rfl rfl 2 (by decide) (hts _ tw_342) (fun _ h9 => h9) rfl dJx4a65c_clear_da8c8_16 ?_
  refine lv_istore_n (lv' := [(2, .int 0), (1, .ref (g 0)), (0, .ref a0)]) hx hb dJx4a65c_clear_da8c8_19 rfl hl (Nat.le_of_ble_eq_true rfl) rfl (fun ls hl => ?_)
  refine lv_aload_n hx hb dJx4a65c_clear_da8c8_20 rfl (lv_at hl 2 rfl) ?_
  refine lv_iconst (v := 0) hx hb dJx4a65c_clear_da8c8_21 (by decide) ?_
  refine lv_dup_x1 hx hb dJx4a65c_clear_da8c8_22 rfl rfl ?_
  refine va_put (D := D) (ci := 4) (v := .int 0) (ty := .int) (C := RJx4a65c) (T := TJx4a65c) (N := 3) hx hb hts ax_26 tyJx4a65c tyJx4a65c_ok nmJx4a65c hown hE.1 hP hD hS 0 rfl rfl 2 (by decide) (hts _ tw_342) (fun _ h9 => h9) rfl (by decide +kernel) rfl rfl (Nat.le_of_ble_eq_true rfl) dJx4a65c_clear_da8c8_23 (fun H locs hP hD hS => ?_)
  have hP : va_P D vwCl [(a0, .inr (4, [.int 1, .ref (g 0), .int 0]))] H := hP
  have hD : va_D A [(a0, .inr (4, [.int 1, .ref (g 0), .int 0]))] := hD
  refine lv_istore_n (lv' := [(3, .int 0), (2, .int 0), (1, .ref (g 0)), (0, .ref a0)]) hx hb dJx4a65c_clear_da8c8_26 rfl hl (Nat.le_of_ble_eq_true rfl) rfl (fun ls hl => ?_)
  refine lv_iload_n hx hb dJx4a65c_clear_da8c8_27 rfl (lv_at hl 0 rfl) ?_
  refine lv_iload_n hx hb dJx4a65c_clear_da8c8_28 rfl (lv_at hl 1 rfl) ?_
  refine lv_icmp_ge (tgt := 42) hx hb dJx4a65c_clear_da8c8_29 (by decide) (fun _ => ?_) (fun z => absurd (by decide) z)
  exact en_v hx hb hr hlk hP hD hS (fun _ => 0) (is := [0]) rfl rfl (Nat.le_of_ble_eq_true rfl) (Nat.le_of_ble_eq_true rfl) dJx4a65c_clear_da8c8_42
set_option maxHeartbeats 4000000 in
set_option maxRecDepth 100000 in
theorem k318_X10_clearParts (l : Launch) (D : va_G) (cy : Nat → ClassId) (g : Nat → Nat) (a0 : Nat) (a1 : Nat) (v0 : Value) (v1 : Value) (v2 : Value) (v3 : Value) (v4 : Value) (v5 : Value) (v6 : Value) (v7 : Value) (v8 : Value) (v9 : Value) (v10 : Value) (v11 : Value) (v12 : Value) (v13 : Value) (v14 : Value) (v15 : Value) (v16 : Value) (v17 : Value) (v18 : Value) (v19 : Value) (v20 : Value) (v21 : Value) (v22 : Value) (v23 : Value) (v24 : Value) (v25 : Value) (v26 : Value) (sz : Nat)  : Met l yX10_clearParts [.code yX10_clearParts cX10_clearParts 2 (some .int)] ({ frames := 1, cells := 0, slots := 0, locals := 23 }) (PC D cy g [(a0, .inr (15, [v0, v1, v2, v3, v4, v5, v6, .ref a1, v7, v8, v9, v10, v11, v12, v13, v14, v15, v16, v17, v18, v19, v20, v21, v22, v23, v24, v25, v26])), (a1, .inr (4, [.int 0, .ref (g 0), .int 0]))] sz [.ref a0]) (QI D 0 (fun ad => [(a0, .inr (15, [.int 0, v1, v2, v3, v4, v5, v6, .ref a1, .null, v8, v9, v10, v11, v12, v13, v14, v15, v16, v17, v18, v19, v20, v21, v22, v23, v24, v25, v26]))]) (va_A [(a0, .inr (15, [v0, v1, v2, v3, v4, v5, v6, .ref a1, v7, v8, v9, v10, v11, v12, v13, v14, v15, v16, v17, v18, v19, v20, v21, v22, v23, v24, v25, v26])), (a1, .inr (4, [.int 0, .ref (g 0), .int 0]))] sz)) 0 0 (va_A [(a0, .inr (15, [v0, v1, v2, v3, v4, v5, v6, .ref a1, v7, v8, v9, v10, v11, v12, v13, v14, v15, v16, v17, v18, v19, v20, v21, v22, v23, v24, v25, v26])), (a1, .inr (4, [.int 0, .ref (g 0), .int 0]))] sz) := by
  refine st_I (by decide) (Nat.le_of_ble_eq_true rfl) ?_
  intro p e s m args below meth c A ls hx hb hr hml hown hlk hnm hsz hP hD hA hE hts hS hl
  have hown : s.vm.findClass RX10 = some m.cls := hown
  have hl : lv_has ls 2 [(0, .ref a0)] := hl
  refine lv_aload_n hx hb dX10_clearParts_0 rfl (lv_at hl 0 rfl) ?_
  refine ca_v (isC := [0]) (isR := [1]) (wr := [(a1, .inr (4, [.int 0, .ref (g 0), .int 0]))]) (rn_V (ci := 15) (q0 := 0) (isC := [0]) (wc := [(a0, .inr (15, [v0, v1, v2, v3, v4, v5, v6, .ref a1, v7, v8, v9, v10, v11, v12, v13, v14, v15, v16, v17, v18, v19, v20, v21, v22, v23, v24, v25, v26]))]) (As := []) (rest := []) (n := 0) hx hb hml hown hts hE hS hP hD hA hl.1 (k20_X10_begins l D cy g a0 (v0) (v1) (v2) (v3) (v4) (v5) (v6) (.ref a1) (v7) (v8) (v9) (v10) (v11) (v12) (v13) (v14) (v15) (v16) (v17) (v18) (v19) (v20) (v21) (v22) (v23) (v24) (v25) (v26) s.heap.size ) rfl rfl rfl rfl rfl ax_37 rfl rfl ax_38 ⟨Nat.le_of_ble_eq_true rfl, Nat.le_of_ble_eq_true rfl⟩ rfl rfl (Nat.le_of_ble_eq_true rfl) dX10_clearParts_1 ⟨(Nat.le_of_ble_eq_true rfl), (Nat.le_of_ble_eq_true rfl)⟩) hP hD hS hA rfl rfl rfl (by decide) (fun ad1 H locs hP hD hS => ?_)
  have hP : va_P D vwCl [(a1, .inr (4, [.int 0, .ref (g 0), .int 0])), (a0, .inr (15, [.int 0, v1, v2, v3, v4, v5, v6, .ref a1, v7, v8, v9, v10, v11, v12, v13, v14, v15, v16, v17, v18, v19, v20, v21, v22, v23, v24, v25, v26]))] H := hP
  have hD : va_D A [(a1, .inr (4, [.int 0, .ref (g 0), .int 0])), (a0, .inr (15, [.int 0, v1, v2, v3, v4, v5, v6, .ref a1, v7, v8, v9, v10, v11, v12, v13, v14, v15, v16, v17, v18, v19, v20, v21, v22, v23, v24, v25, v26]))] := hD
  refine lv_aload_n hx hb dX10_clearParts_4 rfl (lv_at hl 0 rfl) ?_
  refine va_get (D := D) (ci := 15) (v := .ref a1) (C := RX10) (T := TX10) (N := 28) hx hb hts ax_29 hown hE.1 hP 1 rfl rfl 7 (by decide) (hts _ tw_279) (fun _ h9 => h9) rfl dX10_clearParts_5 ?_
  refine ca_Fi (isC := [0]) (isR := [1]) (wr := [(a0, .inr (15, [.int 0, v1, v2, v3, v4, v5, v6, .ref a1, v7, v8, v9, v10, v11, v12, v13, v14, v15, v16, v17, v18, v19, v20, v21, v22, v23, v24, v25, v26]))]) (rn_F (ci := 4) (q0 := 0) (isC := [0]) (wc := [(a1, .inr (4, [.int 0, .ref (g 0), .int 0]))]) (As := []) (rest := []) (n := 0) hx hb hml hown hts hE hS hP hD hA hl.1 (k44_Jx4a65c_size_8abf5 l D cy g a1 (.int 0) (.ref (g 0)) H.size ) rfl rfl rfl rfl rfl ax_59 tw_367 tw_368 tw_369 tw_370 tw_371 rfl rfl ax_60 ⟨Nat.le_of_ble_eq_true rfl, Nat.le_of_ble_eq_true rfl⟩ rfl rfl (Nat.le_of_ble_eq_true rfl) dX10_clearParts_8 ⟨(Nat.le_of_ble_eq_true rfl), (Nat.le_of_ble_eq_true rfl)⟩) hP hD hS hA rfl rfl rfl (by decide) (fun ad8 H locs hP hD hS => ?_)
  have hP : va_P D vwCl [(a0, .inr (15, [.int 0, v1, v2, v3, v4, v5, v6, .ref a1, v7, v8, v9, v10, v11, v12, v13, v14, v15, v16, v17, v18, v19, v20, v21, v22, v23, v24, v25, v26])), (a1, .inr (4, [.int 0, .ref (g 0), .int 0]))] H := hP
  have hD : va_D A [(a0, .inr (15, [.int 0, v1, v2, v3, v4, v5, v6, .ref a1, v7, v8, v9, v10, v11, v12, v13, v14, v15, v16, v17, v18, v19, v20, v21, v22, v23, v24, v25, v26])), (a1, .inr (4, [.int 0, .ref (g 0), .int 0]))] := hD
  refine lv_istore_n (lv' := [(1, .int 0), (0, .ref a0)]) hx hb dX10_clearParts_13 rfl hl (Nat.le_of_ble_eq_true rfl) rfl (fun ls hl => ?_)
  refine lv_aload_n hx hb dX10_clearParts_14 rfl (lv_at hl 1 rfl) ?_
  refine va_get (D := D) (ci := 15) (v := .ref a1) (C := RX10) (T := TX10) (N := 28) hx hb hts ax_29 hown hE.1 hP 0 rfl rfl 7 (by decide) (hts _ tw_279) (fun _ h9 => h9) rfl dX10_clearParts_15 ?_
  refine ca_Fv (isC := [1]) (isR := [0]) (wr := [(a0, .inr (15, [.int 0, v1, v2, v3, v4, v5, v6, .ref a1, v7, v8, v9, v10, v11, v12, v13, v14, v15, v16, v17, v18, v19, v20, v21, v22, v23, v24, v25, v26]))]) (rn_F (ci := 4) (q0 := 1) (isC := [1]) (wc := [(a1, .inr (4, [.int 0, .ref (g 0), .int 0]))]) (As := []) (rest := []) (n := 0) hx hb hml hown hts hE hS hP hD hA hl.1 (k317_Jx4a65c_clear_da8c8 l D cy g a1 H.size ) rfl rfl rfl rfl rfl ax_213 tw_694 tw_695 tw_696 tw_697 tw_371 rfl rfl ax_214 ⟨Nat.le_of_ble_eq_true rfl, Nat.le_of_ble_eq_true rfl⟩ rfl rfl (Nat.le_of_ble_eq_true rfl) dX10_clearParts_18 ⟨(Nat.le_of_ble_eq_true rfl), (Nat.le_of_ble_eq_true rfl)⟩) hP hD hS hA rfl rfl rfl (by decide) (fun ad18 H locs hP hD hS => ?_)
  have hP : va_P D vwCl [(a0, .inr (15, [.int 0, v1, v2, v3, v4, v5, v6, .ref a1, v7, v8, v9, v10, v11, v12, v13, v14, v15, v16, v17, v18, v19, v20, v21, v22, v23, v24, v25, v26])), (a1, .inr (4, [.int 1, .ref (g 0), .int 0]))] H := hP
  have hD : va_D A [(a0, .inr (15, [.int 0, v1, v2, v3, v4, v5, v6, .ref a1, v7, v8, v9, v10, v11, v12, v13, v14, v15, v16, v17, v18, v19, v20, v21, v22, v23, v24, v25, v26])), (a1, .inr (4, [.int 1, .ref (g 0), .int 0]))] := hD
  refine lv_aload_n hx hb dX10_clearParts_23 rfl (lv_at hl 1 rfl) ?_
  refine lv_null hx hb dX10_clearParts_24 ?_
  refine va_put (D := D) (ci := 15) (v := .null) (ty := (.object "java/util/List")) (C := RX10) (T := TX10) (N := 28) hx hb hts ax_29 tyX10 tyX10_ok nmX10 hown hE.1 hP hD hS 0 rfl rfl 8 (by decide) (hts _ tw_698) (fun _ h9 => h9) rfl (by decide +kernel) rfl rfl (Nat.le_of_ble_eq_true rfl) dX10_clearParts_25 (fun H locs hP hD hS => ?_)
  have hP : va_P D vwCl [(a0, .inr (15, [.int 0, v1, v2, v3, v4, v5, v6, .ref a1, .null, v8, v9, v10, v11, v12, v13, v14, v15, v16, v17, v18, v19, v20, v21, v22, v23, v24, v25, v26])), (a1, .inr (4, [.int 1, .ref (g 0), .int 0]))] H := hP
  have hD : va_D A [(a0, .inr (15, [.int 0, v1, v2, v3, v4, v5, v6, .ref a1, .null, v8, v9, v10, v11, v12, v13, v14, v15, v16, v17, v18, v19, v20, v21, v22, v23, v24, v25, v26])), (a1, .inr (4, [.int 1, .ref (g 0), .int 0]))] := hD
  refine lv_iload_n hx hb dX10_clearParts_28 rfl (lv_at hl 0 rfl) ?_
  exact en_z hx hb hr hlk hP hD hS rfl (fun _ => 0) (is := [0]) rfl rfl (Nat.le_of_ble_eq_true rfl) (Nat.le_of_ble_eq_true rfl) dX10_clearParts_29
set_option maxHeartbeats 4000000 in
set_option maxRecDepth 100000 in
theorem k319_X9_solve (l : Launch) (hst : l.stackTraces = false) (D : va_G) (cy : Nat → ClassId) (g : Nat → Nat) (x0 : Int32) (x1 : Int32) (a0 : Nat) (v0 : Value) (v1 : Value) (v2 : Value) (v3 : Value) (v4 : Value) (v5 : Value) (v6 : Value) (sz : Nat) (h0 : x1 < 0) : vx_Met l yX9_solve [.code yX9_solve cX9_solve 4 (some .int)] ({ frames := 7, cells := 1, slots := 6, locals := 103 }) (PC D cy g [(a0, .inr (14, [v0, v1, v2, v3, v4, v5, v6]))] sz [.ref a0, .int x0, .int x1]) QN (XE "java/lang/IllegalArgumentException" (va_A [(a0, .inr (14, [v0, v1, v2, v3, v4, v5, v6]))] sz)) 1 6 (va_A [(a0, .inr (14, [v0, v1, v2, v3, v4, v5, v6]))] sz) := by
  refine st_X (by decide) (Nat.le_of_ble_eq_true rfl) ?_
  intro p e s m args below meth c A ls hx hb hr hml hown hlk hnm hsz hP hD hA hE hts hS hl hout
  have hown : s.vm.findClass RX9 = some m.cls := hown
  have hl : lv_has ls 4 [(0, .ref a0), (1, .int x0), (2, .int x1)] := hl
  refine lv_aload_n hx hb dX9_solve_0 rfl (lv_at hl 0 rfl) ?_
  refine lv_iload_n hx hb dX9_solve_1 rfl (lv_at hl 2 rfl) ?_
  exact cx_out (isC := []) (rx_V (ci := 14) (q0 := 0) (isC := []) (wc := []) (As := [.int x1]) (rest := []) (n := 1) hx hb hml hown hts hE hS hP hD hA hl.1 (k164_X9_requireStateHeat l hst D cy g x1 a0 s.heap.size h0) rfl rfl rfl rfl rfl ax_156 rfl rfl ax_157 ⟨Nat.le_of_ble_eq_true rfl, Nat.le_of_ble_eq_true rfl⟩ rfl rfl (Nat.le_of_ble_eq_true rfl) dX9_solve_2 ⟨(Nat.le_of_ble_eq_true rfl), (Nat.le_of_ble_eq_true rfl)⟩) hD hS hA rfl hout hlk (Nat.le_of_ble_eq_true rfl) (Nat.le_of_ble_eq_true rfl)
set_option maxHeartbeats 4000000 in
set_option maxRecDepth 100000 in
theorem k320_L_solve (l : Launch) (hst : l.stackTraces = false) (D : va_G) (cy : Nat → ClassId) (g : Nat → Nat) (x0 : Int32) (x1 : Int32) (a0 : Nat) (b0 : Nat) (v0 : Value) (v1 : Value) (v2 : Value) (v3 : Value) (v4 : Value) (v5 : Value) (v6 : Value) (sz : Nat) (h0 : x1 < 0) : Met l yL_solve [.codeWith yL_solve cL_solve 5 (some .int) [(0, 10, 13, 13), (0, 10, 17, 15), (0, 10, 21, 30), (0, 10, 25, 45)]] ({ frames := 8, cells := 1, slots := 6, locals := 126 }) (PC D cy g [(a0, .inr (14, [v0, v1, v2, v3, v4, v5, v6]))] sz [.ref a0, .int x0, .int x1, .ref b0]) (QI D 1 (fun ad => []) (va_A [(a0, .inr (14, [v0, v1, v2, v3, v4, v5, v6]))] sz)) 1 6 (va_A [(a0, .inr (14, [v0, v1, v2, v3, v4, v5, v6]))] sz) := by
  refine sh_I (by decide) (Nat.le_of_ble_eq_true rfl) ?_
  intro p e s m args below meth c A ls hx hb hr hml hown hlk hnm hsz hP hD hA hE hts hS hl htb
  have hown : s.vm.findClass RL = some m.cls := hown
  have hl : lv_has ls 5 [(0, .ref a0), (1, .int x0), (2, .int x1), (3, .ref b0)] := hl
  refine lv_aload_n hx hb dL_solve_0 rfl (lv_at hl 3 rfl) ?_
  refine lv_iconst (v := 0) hx hb dL_solve_1 (by decide) ?_
  refine lv_aload_n hx hb dL_solve_2 rfl (lv_at hl 0 rfl) ?_
  refine lv_iload_n hx hb dL_solve_3 rfl (lv_at hl 1 rfl) ?_
  refine lv_iload_n hx hb dL_solve_4 rfl (lv_at hl 2 rfl) ?_
  refine cx_catch (isC := [0]) (isR := []) (wr := []) (hp := []) (z := (0, 10, 13, 13)) (hq := [(0, 10, 17, 15), (0, 10, 21, 30), (0, 10, 25, 45)]) (name := "java/lang/IllegalArgumentException") (own := RL) (rx_V (ci := 14) (q0 := 0) (isC := [0]) (wc := [(a0, .inr (14, [v0, v1, v2, v3, v4, v5, v6]))]) (As := [.int x0, .int x1]) (rest := [.int 0, .ref b0]) (n := 2) hx hb hml hown hts hE hS hP hD hA hl.1 (k319_X9_solve l hst D cy g x0 x1 a0 (v0) (v1) (v2) (v3) (v4) (v5) (v6) s.heap.size h0) rfl rfl rfl rfl rfl ax_217 rfl rfl ax_218 ⟨Nat.le_of_ble_eq_true rfl, Nat.le_of_ble_eq_true rfl⟩ rfl rfl (Nat.le_of_ble_eq_true rfl) dL_solve_5 ⟨(Nat.le_of_ble_eq_true rfl), (Nat.le_of_ble_eq_true rfl)⟩) hP hD hS hA hown hts hE htb rfl rfl rfl rfl (by decide) (fun z hz => by cases hz) (by decide) (by decide) tw_302 tw_303 (fun qx H locs hP hD hS => ?_)
  have hP : va_P D vwCl [] H := hP
  have hD : va_D A [] := hD
  refine lv_astore (lv' := [(4, .ref qx), (0, .ref a0), (1, .int x0), (2, .int x1), (3, .ref b0)]) hx hb dL_solve_13 hl (Nat.le_of_ble_eq_true rfl) rfl (fun ls hl => ?_)
  refine lv_iconst (v := 1) hx hb dL_solve_15 (by decide) ?_
  exact en_z hx hb hr hlk hP hD hS rfl (fun _ => 0) (is := []) rfl rfl (Nat.le_of_ble_eq_true rfl) (Nat.le_of_ble_eq_true rfl) dL_solve_16
set_option maxHeartbeats 4000000 in
set_option maxRecDepth 100000 in
theorem k321_X10_solve (l : Launch) (D : va_G) (cy : Nat → ClassId) (g : Nat → Nat) (x0 : Int32) (x1 : Int32) (a0 : Nat) (v0 : Value) (v1 : Value) (v2 : Value) (v3 : Value) (v4 : Value) (v5 : Value) (v6 : Value) (v7 : Value) (v8 : Value) (v9 : Value) (v10 : Value) (v11 : Value) (v12 : Value) (v13 : Value) (v14 : Value) (v15 : Value) (v16 : Value) (v17 : Value) (v18 : Value) (v19 : Value) (v20 : Value) (v21 : Value) (v22 : Value) (v23 : Value) (v24 : Value) (v25 : Value) (v26 : Value) (v27 : Value) (sz : Nat) (h0 : x1 < 0) : Met l yX10_solve [.code yX10_solve cX10_solve 12 (some .int)] ({ frames := 1, cells := 0, slots := 0, locals := 25 }) (PC D cy g [(a0, .inr (15, [v0, v1, v2, v3, v4, v5, v6, v7, v8, v9, v10, v11, v12, v13, v14, v15, v16, v17, v18, v19, v20, v21, v22, v23, v24, v25, v26, v27]))] sz [.ref a0, .int x0, .int x1]) (QI D (-1) (fun ad => [(a0, .inr (15, [.int 1, v1, v2, v3, v4, v5, v6, v7, v8, v9, v10, v11, v12, v13, v14, v15, v16, v17, v18, v19, v20, v21, v22, v23, v24, v25, v26, v27]))]) (va_A [(a0, .inr (15, [v0, v1, v2, v3, v4, v5, v6, v7, v8, v9, v10, v11, v12, v13, v14, v15, v16, v17, v18, v19, v20, v21, v22, v23, v24, v25, v26, v27]))] sz)) 0 0 (va_A [(a0, .inr (15, [v0, v1, v2, v3, v4, v5, v6, v7, v8, v9, v10, v11, v12, v13, v14, v15, v16, v17, v18, v19, v20, v21, v22, v23, v24, v25, v26, v27]))] sz) := by
  refine st_I (by decide) (Nat.le_of_ble_eq_true rfl) ?_
  intro p e s m args below meth c A ls hx hb hr hml hown hlk hnm hsz hP hD hA hE hts hS hl
  have hown : s.vm.findClass RX10 = some m.cls := hown
  have hl : lv_has ls 12 [(0, .ref a0), (1, .int x0), (2, .int x1)] := hl
  refine lv_aload_n hx hb dX10_solve_0 rfl (lv_at hl 0 rfl) ?_
  refine ca_v (isC := [0]) (isR := []) (wr := []) (rn_V (ci := 15) (q0 := 0) (isC := [0]) (wc := [(a0, .inr (15, [v0, v1, v2, v3, v4, v5, v6, v7, v8, v9, v10, v11, v12, v13, v14, v15, v16, v17, v18, v19, v20, v21, v22, v23, v24, v25, v26, v27]))]) (As := []) (rest := []) (n := 0) hx hb hml hown hts hE hS hP hD hA hl.1 (k20_X10_begins l D cy g a0 (v0) (v1) (v2) (v3) (v4) (v5) (v6) (v7) (v8) (v9) (v10) (v11) (v12) (v13) (v14) (v15) (v16) (v17) (v18) (v19) (v20) (v21) (v22) (v23) (v24) (v25) (v26) (v27) s.heap.size ) rfl rfl rfl rfl rfl ax_37 rfl rfl ax_38 ⟨Nat.le_of_ble_eq_true rfl, Nat.le_of_ble_eq_true rfl⟩ rfl rfl (Nat.le_of_ble_eq_true rfl) dX10_solve_1 ⟨(Nat.le_of_ble_eq_true rfl), (Nat.le_of_ble_eq_true rfl)⟩) hP hD hS hA rfl rfl rfl (by decide) (fun ad1 H locs hP hD hS => ?_)
  have hP : va_P D vwCl [(a0, .inr (15, [.int 0, v1, v2, v3, v4, v5, v6, v7, v8, v9, v10, v11, v12, v13, v14, v15, v16, v17, v18, v19, v20, v21, v22, v23, v24, v25, v26, v27]))] H := hP
  have hD : va_D A [(a0, .inr (15, [.int 0, v1, v2, v3, v4, v5, v6, v7, v8, v9, v10, v11, v12, v13, v14, v15, v16, v17, v18, v19, v20, v21, v22, v23, v24, v25, v26, v27]))] := hD
  refine lv_aload_n hx hb dX10_solve_4 rfl (lv_at hl 0 rfl) ?_
  refine lv_iload_n hx hb dX10_solve_5 rfl (lv_at hl 2 rfl) ?_
  refine lv_i2l (v := x1.toInt64) hx hb dX10_solve_6 rfl ?_
  refine lv_lconst (v := 0) hx hb dX10_solve_7 (by decide) ?_
  refine lv_ldc2 (v := 20000) hx hb hown (hts _ tw_588) dX10_solve_8 ?_
  refine ca_i (isC := []) (isR := [0]) (wr := [(a0, .inr (15, [.int 0, v1, v2, v3, v4, v5, v6, v7, v8, v9, v10, v11, v12, v13, v14, v15, v16, v17, v18, v19, v20, v21, v22, v23, v24, v25, v26, v27]))]) (rn_S (isC := []) (wc := []) (As := [.long x1.toInt64, .long 0, .long 20000]) (rest := [.ref a0]) (n := 3) hx hb hml hown hts hE hS hP hD hA hl.1 (k21_X10_in l D cy g x1.toInt64 0 20000 H.size (wl_lt rfl (by decide) h0)) rfl rfl ax_39 rfl rfl ax_40 ⟨Nat.le_of_ble_eq_true rfl, Nat.le_of_ble_eq_true rfl⟩ rfl rfl (Nat.le_of_ble_eq_true rfl) dX10_solve_11 ⟨(Nat.le_of_ble_eq_true rfl), (Nat.le_of_ble_eq_true rfl)⟩) hP hD hS hA rfl rfl rfl (by decide) (fun ad11 H locs hP hD hS => ?_)
  have hP : va_P D vwCl [(a0, .inr (15, [.int 0, v1, v2, v3, v4, v5, v6, v7, v8, v9, v10, v11, v12, v13, v14, v15, v16, v17, v18, v19, v20, v21, v22, v23, v24, v25, v26, v27]))] H := hP
  have hD : va_D A [(a0, .inr (15, [.int 0, v1, v2, v3, v4, v5, v6, v7, v8, v9, v10, v11, v12, v13, v14, v15, v16, v17, v18, v19, v20, v21, v22, v23, v24, v25, v26, v27]))] := hD
  refine lv_if_ne (tgt := 21) hx hb dX10_solve_14 (by decide) (fun z => absurd (by decide) z) (fun _ => ?_)
  refine lv_iconst (v := 1) hx hb dX10_solve_17 (by decide) ?_
  refine lv_goto (tgt := 22) hx hb dX10_solve_18 (by decide) ?_
  refine lv_iconst (v := 1) hx hb dX10_solve_22 (by decide) ?_
  refine ca_i (isC := [0]) (isR := []) (wr := []) (rn_V (ci := 15) (q0 := 0) (isC := [0]) (wc := [(a0, .inr (15, [.int 0, v1, v2, v3, v4, v5, v6, v7, v8, v9, v10, v11, v12, v13, v14, v15, v16, v17, v18, v19, v20, v21, v22, v23, v24, v25, v26, v27]))]) (As := [.int 1, .int 1]) (rest := []) (n := 2) hx hb hml hown hts hE hS hP hD hA hl.1 (k22_X10_fails l D cy g a0 (v1) (v2) (v3) (v4) (v5) (v6) (v7) (v8) (v9) (v10) (v11) (v12) (v13) (v14) (v15) (v16) (v17) (v18) (v19) (v20) (v21) (v22) (v23) (v24) (v25) (v26) (v27) H.size ) rfl rfl rfl rfl rfl ax_41 rfl rfl ax_42 ⟨Nat.le_of_ble_eq_true rfl, Nat.le_of_ble_eq_true rfl⟩ rfl rfl (Nat.le_of_ble_eq_true rfl) dX10_solve_23 ⟨(Nat.le_of_ble_eq_true rfl), (Nat.le_of_ble_eq_true rfl)⟩) hP hD hS hA rfl rfl rfl (by decide) (fun ad23 H locs hP hD hS => ?_)
  have hP : va_P D vwCl [(a0, .inr (15, [.int 1, v1, v2, v3, v4, v5, v6, v7, v8, v9, v10, v11, v12, v13, v14, v15, v16, v17, v18, v19, v20, v21, v22, v23, v24, v25, v26, v27]))] H := hP
  have hD : va_D A [(a0, .inr (15, [.int 1, v1, v2, v3, v4, v5, v6, v7, v8, v9, v10, v11, v12, v13, v14, v15, v16, v17, v18, v19, v20, v21, v22, v23, v24, v25, v26, v27]))] := hD
  refine lv_if_ne (tgt := 67) hx hb dX10_solve_26 (by decide) (fun _ => ?_) (fun z => absurd z (by decide))
  refine lv_iconst (v := (-1)) hx hb dX10_solve_67 (by decide) ?_
  exact en_z hx hb hr hlk hP hD hS rfl (fun _ => 0) (is := [0]) rfl rfl (Nat.le_of_ble_eq_true rfl) (Nat.le_of_ble_eq_true rfl) dX10_solve_68
set_option maxHeartbeats 4000000 in
set_option maxRecDepth 100000 in
theorem k322_X9_solve (l : Launch) (hst : l.stackTraces = false) (D : va_G) (cy : Nat → ClassId) (g : Nat → Nat) (x0 : Int32) (x1 : Int32) (a0 : Nat) (v0 : Value) (v1 : Value) (v2 : Value) (v3 : Value) (v4 : Value) (v5 : Value) (v6 : Value) (sz : Nat) (h0 : ¬ x1 < 0) (h1 : (20000 : Int32) < x1) : vx_Met l yX9_solve [.code yX9_solve cX9_solve 4 (some .int)] ({ frames := 7, cells := 1, slots := 6, locals := 103 }) (PC D cy g [(a0, .inr (14, [v0, v1, v2, v3, v4, v5, v6]))] sz [.ref a0, .int x0, .int x1]) QN (XE "java/lang/IllegalArgumentException" (va_A [(a0, .inr (14, [v0, v1, v2, v3, v4, v5, v6]))] sz)) 1 6 (va_A [(a0, .inr (14, [v0, v1, v2, v3, v4, v5, v6]))] sz) := by
  refine st_X (by decide) (Nat.le_of_ble_eq_true rfl) ?_
  intro p e s m args below meth c A ls hx hb hr hml hown hlk hnm hsz hP hD hA hE hts hS hl hout
  have hown : s.vm.findClass RX9 = some m.cls := hown
  have hl : lv_has ls 4 [(0, .ref a0), (1, .int x0), (2, .int x1)] := hl
  refine lv_aload_n hx hb dX9_solve_0 rfl (lv_at hl 0 rfl) ?_
  refine lv_iload_n hx hb dX9_solve_1 rfl (lv_at hl 2 rfl) ?_
  exact cx_out (isC := []) (rx_V (ci := 14) (q0 := 0) (isC := []) (wc := []) (As := [.int x1]) (rest := []) (n := 1) hx hb hml hown hts hE hS hP hD hA hl.1 (k170_X9_requireStateHeat l hst D cy g x1 a0 s.heap.size h0 h1) rfl rfl rfl rfl rfl ax_156 rfl rfl ax_157 ⟨Nat.le_of_ble_eq_true rfl, Nat.le_of_ble_eq_true rfl⟩ rfl rfl (Nat.le_of_ble_eq_true rfl) dX9_solve_2 ⟨(Nat.le_of_ble_eq_true rfl), (Nat.le_of_ble_eq_true rfl)⟩) hD hS hA rfl hout hlk (Nat.le_of_ble_eq_true rfl) (Nat.le_of_ble_eq_true rfl)
set_option maxHeartbeats 4000000 in
set_option maxRecDepth 100000 in
theorem k323_L_solve (l : Launch) (hst : l.stackTraces = false) (D : va_G) (cy : Nat → ClassId) (g : Nat → Nat) (x0 : Int32) (x1 : Int32) (a0 : Nat) (b0 : Nat) (v0 : Value) (v1 : Value) (v2 : Value) (v3 : Value) (v4 : Value) (v5 : Value) (v6 : Value) (sz : Nat) (h0 : ¬ x1 < 0) (h1 : (20000 : Int32) < x1) : Met l yL_solve [.codeWith yL_solve cL_solve 5 (some .int) [(0, 10, 13, 13), (0, 10, 17, 15), (0, 10, 21, 30), (0, 10, 25, 45)]] ({ frames := 8, cells := 1, slots := 6, locals := 126 }) (PC D cy g [(a0, .inr (14, [v0, v1, v2, v3, v4, v5, v6]))] sz [.ref a0, .int x0, .int x1, .ref b0]) (QI D 1 (fun ad => []) (va_A [(a0, .inr (14, [v0, v1, v2, v3, v4, v5, v6]))] sz)) 1 6 (va_A [(a0, .inr (14, [v0, v1, v2, v3, v4, v5, v6]))] sz) := by
  refine sh_I (by decide) (Nat.le_of_ble_eq_true rfl) ?_
  intro p e s m args below meth c A ls hx hb hr hml hown hlk hnm hsz hP hD hA hE hts hS hl htb
  have hown : s.vm.findClass RL = some m.cls := hown
  have hl : lv_has ls 5 [(0, .ref a0), (1, .int x0), (2, .int x1), (3, .ref b0)] := hl
  refine lv_aload_n hx hb dL_solve_0 rfl (lv_at hl 3 rfl) ?_
  refine lv_iconst (v := 0) hx hb dL_solve_1 (by decide) ?_
  refine lv_aload_n hx hb dL_solve_2 rfl (lv_at hl 0 rfl) ?_
  refine lv_iload_n hx hb dL_solve_3 rfl (lv_at hl 1 rfl) ?_
  refine lv_iload_n hx hb dL_solve_4 rfl (lv_at hl 2 rfl) ?_
  refine cx_catch (isC := [0]) (isR := []) (wr := []) (hp := []) (z := (0, 10, 13, 13)) (hq := [(0, 10, 17, 15), (0, 10, 21, 30), (0, 10, 25, 45)]) (name := "java/lang/IllegalArgumentException") (own := RL) (rx_V (ci := 14) (q0 := 0) (isC := [0]) (wc := [(a0, .inr (14, [v0, v1, v2, v3, v4, v5, v6]))]) (As := [.int x0, .int x1]) (rest := [.int 0, .ref b0]) (n := 2) hx hb hml hown hts hE hS hP hD hA hl.1 (k322_X9_solve l hst D cy g x0 x1 a0 (v0) (v1) (v2) (v3) (v4) (v5) (v6) s.heap.size h0 h1) rfl rfl rfl rfl rfl ax_217 rfl rfl ax_218 ⟨Nat.le_of_ble_eq_true rfl, Nat.le_of_ble_eq_true rfl⟩ rfl rfl (Nat.le_of_ble_eq_true rfl) dL_solve_5 ⟨(Nat.le_of_ble_eq_true rfl), (Nat.le_of_ble_eq_true rfl)⟩) hP hD hS hA hown hts hE htb rfl rfl rfl rfl (by decide) (fun z hz => by cases hz) (by decide) (by decide) tw_302 tw_303 (fun qx H locs hP hD hS => ?_)
  have hP : va_P D vwCl [] H := hP
  have hD : va_D A [] := hD
  refine lv_astore (lv' := [(4, .ref qx), (0, .ref a0), (1, .int x0), (2, .int x1), (3, .ref b0)]) hx hb dL_solve_13 hl (Nat.le_of_ble_eq_true rfl) rfl (fun ls hl => ?_)
  refine lv_iconst (v := 1) hx hb dL_solve_15 (by decide) ?_
  exact en_z hx hb hr hlk hP hD hS rfl (fun _ => 0) (is := []) rfl rfl (Nat.le_of_ble_eq_true rfl) (Nat.le_of_ble_eq_true rfl) dL_solve_16
set_option maxHeartbeats 4000000 in
set_option maxRecDepth 100000 in
theorem k324_X10_solve (l : Launch) (D : va_G) (cy : Nat → ClassId) (g : Nat → Nat) (x0 : Int32) (x1 : Int32) (a0 : Nat) (v0 : Value) (v1 : Value) (v2 : Value) (v3 : Value) (v4 : Value) (v5 : Value) (v6 : Value) (v7 : Value) (v8 : Value) (v9 : Value) (v10 : Value) (v11 : Value) (v12 : Value) (v13 : Value) (v14 : Value) (v15 : Value) (v16 : Value) (v17 : Value) (v18 : Value) (v19 : Value) (v20 : Value) (v21 : Value) (v22 : Value) (v23 : Value) (v24 : Value) (v25 : Value) (v26 : Value) (v27 : Value) (sz : Nat) (h0 : ¬ x1 < 0) (h1 : (20000 : Int32) < x1) : Met l yX10_solve [.code yX10_solve cX10_solve 12 (some .int)] ({ frames := 1, cells := 0, slots := 0, locals := 25 }) (PC D cy g [(a0, .inr (15, [v0, v1, v2, v3, v4, v5, v6, v7, v8, v9, v10, v11, v12, v13, v14, v15, v16, v17, v18, v19, v20, v21, v22, v23, v24, v25, v26, v27]))] sz [.ref a0, .int x0, .int x1]) (QI D (-1) (fun ad => [(a0, .inr (15, [.int 1, v1, v2, v3, v4, v5, v6, v7, v8, v9, v10, v11, v12, v13, v14, v15, v16, v17, v18, v19, v20, v21, v22, v23, v24, v25, v26, v27]))]) (va_A [(a0, .inr (15, [v0, v1, v2, v3, v4, v5, v6, v7, v8, v9, v10, v11, v12, v13, v14, v15, v16, v17, v18, v19, v20, v21, v22, v23, v24, v25, v26, v27]))] sz)) 0 0 (va_A [(a0, .inr (15, [v0, v1, v2, v3, v4, v5, v6, v7, v8, v9, v10, v11, v12, v13, v14, v15, v16, v17, v18, v19, v20, v21, v22, v23, v24, v25, v26, v27]))] sz) := by
  refine st_I (by decide) (Nat.le_of_ble_eq_true rfl) ?_
  intro p e s m args below meth c A ls hx hb hr hml hown hlk hnm hsz hP hD hA hE hts hS hl
  have hown : s.vm.findClass RX10 = some m.cls := hown
  have hl : lv_has ls 12 [(0, .ref a0), (1, .int x0), (2, .int x1)] := hl
  refine lv_aload_n hx hb dX10_solve_0 rfl (lv_at hl 0 rfl) ?_
  refine ca_v (isC := [0]) (isR := []) (wr := []) (rn_V (ci := 15) (q0 := 0) (isC := [0]) (wc := [(a0, .inr (15, [v0, v1, v2, v3, v4, v5, v6, v7, v8, v9, v10, v11, v12, v13, v14, v15, v16, v17, v18, v19, v20, v21, v22, v23, v24, v25, v26, v27]))]) (As := []) (rest := []) (n := 0) hx hb hml hown hts hE hS hP hD hA hl.1 (k20_X10_begins l D cy g a0 (v0) (v1) (v2) (v3) (v4) (v5) (v6) (v7) (v8) (v9) (v10) (v11) (v12) (v13) (v14) (v15) (v16) (v17) (v18) (v19) (v20) (v21) (v22) (v23) (v24) (v25) (v26) (v27) s.heap.size ) rfl rfl rfl rfl rfl ax_37 rfl rfl ax_38 ⟨Nat.le_of_ble_eq_true rfl, Nat.le_of_ble_eq_true rfl⟩ rfl rfl (Nat.le_of_ble_eq_true rfl) dX10_solve_1 ⟨(Nat.le_of_ble_eq_true rfl), (Nat.le_of_ble_eq_true rfl)⟩) hP hD hS hA rfl rfl rfl (by decide) (fun ad1 H locs hP hD hS => ?_)
  have hP : va_P D vwCl [(a0, .inr (15, [.int 0, v1, v2, v3, v4, v5, v6, v7, v8, v9, v10, v11, v12, v13, v14, v15, v16, v17, v18, v19, v20, v21, v22, v23, v24, v25, v26, v27]))] H := hP
  have hD : va_D A [(a0, .inr (15, [.int 0, v1, v2, v3, v4, v5, v6, v7, v8, v9, v10, v11, v12, v13, v14, v15, v16, v17, v18, v19, v20, v21, v22, v23, v24, v25, v26, v27]))] := hD
  refine lv_aload_n hx hb dX10_solve_4 rfl (lv_at hl 0 rfl) ?_
  refine lv_iload_n hx hb dX10_solve_5 rfl (lv_at hl 2 rfl) ?_
  refine lv_i2l (v := x1.toInt64) hx hb dX10_solve_6 rfl ?_
  refine lv_lconst (v := 0) hx hb dX10_solve_7 (by decide) ?_
  refine lv_ldc2 (v := 20000) hx hb hown (hts _ tw_588) dX10_solve_8 ?_
  refine ca_i (isC := []) (isR := [0]) (wr := [(a0, .inr (15, [.int 0, v1, v2, v3, v4, v5, v6, v7, v8, v9, v10, v11, v12, v13, v14, v15, v16, v17, v18, v19, v20, v21, v22, v23, v24, v25, v26, v27]))]) (rn_S (isC := []) (wc := []) (As := [.long x1.toInt64, .long 0, .long 20000]) (rest := [.ref a0]) (n := 3) hx hb hml hown hts hE hS hP hD hA hl.1 (k28_X10_in l D cy g x1.toInt64 0 20000 H.size (wl_nlt rfl (by decide) h0) (wl_lt (by decide) rfl h1)) rfl rfl ax_39 rfl rfl ax_40 ⟨Nat.le_of_ble_eq_true rfl, Nat.le_of_ble_eq_true rfl⟩ rfl rfl (Nat.le_of_ble_eq_true rfl) dX10_solve_11 ⟨(Nat.le_of_ble_eq_true rfl), (Nat.le_of_ble_eq_true rfl)⟩) hP hD hS hA rfl rfl rfl (by decide) (fun ad11 H locs hP hD hS => ?_)
  have hP : va_P D vwCl [(a0, .inr (15, [.int 0, v1, v2, v3, v4, v5, v6, v7, v8, v9, v10, v11, v12, v13, v14, v15, v16, v17, v18, v19, v20, v21, v22, v23, v24, v25, v26, v27]))] H := hP
  have hD : va_D A [(a0, .inr (15, [.int 0, v1, v2, v3, v4, v5, v6, v7, v8, v9, v10, v11, v12, v13, v14, v15, v16, v17, v18, v19, v20, v21, v22, v23, v24, v25, v26, v27]))] := hD
  refine lv_if_ne (tgt := 21) hx hb dX10_solve_14 (by decide) (fun z => absurd (by decide) z) (fun _ => ?_)
  refine lv_iconst (v := 1) hx hb dX10_solve_17 (by decide) ?_
  refine lv_goto (tgt := 22) hx hb dX10_solve_18 (by decide) ?_
  refine lv_iconst (v := 1) hx hb dX10_solve_22 (by decide) ?_
  refine ca_i (isC := [0]) (isR := []) (wr := []) (rn_V (ci := 15) (q0 := 0) (isC := [0]) (wc := [(a0, .inr (15, [.int 0, v1, v2, v3, v4, v5, v6, v7, v8, v9, v10, v11, v12, v13, v14, v15, v16, v17, v18, v19, v20, v21, v22, v23, v24, v25, v26, v27]))]) (As := [.int 1, .int 1]) (rest := []) (n := 2) hx hb hml hown hts hE hS hP hD hA hl.1 (k22_X10_fails l D cy g a0 (v1) (v2) (v3) (v4) (v5) (v6) (v7) (v8) (v9) (v10) (v11) (v12) (v13) (v14) (v15) (v16) (v17) (v18) (v19) (v20) (v21) (v22) (v23) (v24) (v25) (v26) (v27) H.size ) rfl rfl rfl rfl rfl ax_41 rfl rfl ax_42 ⟨Nat.le_of_ble_eq_true rfl, Nat.le_of_ble_eq_true rfl⟩ rfl rfl (Nat.le_of_ble_eq_true rfl) dX10_solve_23 ⟨(Nat.le_of_ble_eq_true rfl), (Nat.le_of_ble_eq_true rfl)⟩) hP hD hS hA rfl rfl rfl (by decide) (fun ad23 H locs hP hD hS => ?_)
  have hP : va_P D vwCl [(a0, .inr (15, [.int 1, v1, v2, v3, v4, v5, v6, v7, v8, v9, v10, v11, v12, v13, v14, v15, v16, v17, v18, v19, v20, v21, v22, v23, v24, v25, v26, v27]))] H := hP
  have hD : va_D A [(a0, .inr (15, [.int 1, v1, v2, v3, v4, v5, v6, v7, v8, v9, v10, v11, v12, v13, v14, v15, v16, v17, v18, v19, v20, v21, v22, v23, v24, v25, v26, v27]))] := hD
  refine lv_if_ne (tgt := 67) hx hb dX10_solve_26 (by decide) (fun _ => ?_) (fun z => absurd z (by decide))
  refine lv_iconst (v := (-1)) hx hb dX10_solve_67 (by decide) ?_
  exact en_z hx hb hr hlk hP hD hS rfl (fun _ => 0) (is := [0]) rfl rfl (Nat.le_of_ble_eq_true rfl) (Nat.le_of_ble_eq_true rfl) dX10_solve_68
set_option maxHeartbeats 4000000 in
set_option maxRecDepth 100000 in
theorem k325_X3_isEmpty (l : Launch) (D : va_G) (cy : Nat → ClassId) (g : Nat → Nat) (a0 : Nat) (v0 : Value) (v1 : Value) (v2 : Value) (v3 : Value) (v4 : Value) (v5 : Value) (v6 : Value) (v7 : Value) (sz : Nat)  : Met l yX3_isEmpty [.code yX3_isEmpty cX3_isEmpty 1 (some .boolean)] ({ frames := 0, cells := 0, slots := 0, locals := 0 }) (PC D cy g [(a0, .inr (8, [v0, v1, v2, .int 0, v3, v4, v5, v6, v7]))] sz [.ref a0]) (QI D 1 (fun ad => [(a0, .inr (8, [v0, v1, v2, .int 0, v3, v4, v5, v6, v7]))]) (va_A [(a0, .inr (8, [v0, v1, v2, .int 0, v3, v4, v5, v6, v7]))] sz)) 0 0 (va_A [(a0, .inr (8, [v0, v1, v2, .int 0, v3, v4, v5, v6, v7]))] sz) := by
  refine st_I (by decide) (Nat.le_of_ble_eq_true rfl) ?_
  intro p e s m args below meth c A ls hx hb hr hml hown hlk hnm hsz hP hD hA hE hts hS hl
  have hown : s.vm.findClass RX3 = some m.cls := hown
  have hl : lv_has ls 1 [(0, .ref a0)] := hl
  refine lv_aload_n hx hb dX3_isEmpty_0 rfl (lv_at hl 0 rfl) ?_
  refine va_get (D := D) (ci := 8) (v := .int 0) (C := RX3) (T := TX3) (N := 9) hx hb hts ax_5 hown hE.1 hP 0 rfl rfl 3 (by decide) (hts _ tw_72) (fun _ h9 => h9) rfl dX3_isEmpty_1 ?_
  refine lv_if_ne (tgt := 11) hx hb dX3_isEmpty_4 (by decide) (fun z => absurd (by decide) z) (fun _ => ?_)
  refine lv_iconst (v := 1) hx hb dX3_isEmpty_7 (by decide) ?_
  refine lv_goto (tgt := 12) hx hb dX3_isEmpty_8 (by decide) ?_
  exact en_z hx hb hr hlk hP hD hS rfl (fun _ => 0) (is := [0]) rfl rfl (Nat.le_of_ble_eq_true rfl) (Nat.le_of_ble_eq_true rfl) dX3_isEmpty_12
set_option maxHeartbeats 4000000 in
set_option maxRecDepth 100000 in
theorem k326_X9_solve (l : Launch) (hst : l.stackTraces = false) (D : va_G) (cy : Nat → ClassId) (g : Nat → Nat) (x0 : Int32) (x1 : Int32) (a0 : Nat) (a1 : Nat) (v0 : Value) (v1 : Value) (v2 : Value) (v3 : Value) (v4 : Value) (v5 : Value) (v6 : Value) (v7 : Value) (v8 : Value) (v9 : Value) (v10 : Value) (v11 : Value) (v12 : Value) (v13 : Value) (sz : Nat) (h0 : ¬ x1 < 0) (h1 : ¬ (20000 : Int32) < x1) : vx_Met l yX9_solve [.code yX9_solve cX9_solve 4 (some .int)] ({ frames := 6, cells := 1, slots := 6, locals := 82 }) (PC D cy g [(a0, .inr (14, [v0, v1, .ref a1, v2, v3, v4, v5])), (a1, .inr (8, [v6, v7, v8, .int 0, v9, v10, v11, v12, v13]))] sz [.ref a0, .int x0, .int x1]) QN (XE "java/lang/IllegalStateException" (va_A [(a0, .inr (14, [v0, v1, .ref a1, v2, v3, v4, v5])), (a1, .inr (8, [v6, v7, v8, .int 0, v9, v10, v11, v12, v13]))] sz)) 1 6 (va_A [(a0, .inr (14, [v0, v1, .ref a1, v2, v3, v4, v5])), (a1, .inr (8, [v6, v7, v8, .int 0, v9, v10, v11, v12, v13]))] sz) := by
  refine st_X (by decide) (Nat.le_of_ble_eq_true rfl) ?_
  intro p e s m args below meth c A ls hx hb hr hml hown hlk hnm hsz hP hD hA hE hts hS hl hout
  have hown : s.vm.findClass RX9 = some m.cls := hown
  have hl : lv_has ls 4 [(0, .ref a0), (1, .int x0), (2, .int x1)] := hl
  refine lv_aload_n hx hb dX9_solve_0 rfl (lv_at hl 0 rfl) ?_
  refine lv_iload_n hx hb dX9_solve_1 rfl (lv_at hl 2 rfl) ?_
  refine ca_v (isC := []) (isR := [0, 1]) (wr := [(a0, .inr (14, [v0, v1, .ref a1, v2, v3, v4, v5])), (a1, .inr (8, [v6, v7, v8, .int 0, v9, v10, v11, v12, v13]))]) (rn_V (ci := 14) (q0 := 0) (isC := []) (wc := []) (As := [.int x1]) (rest := []) (n := 1) hx hb hml hown hts hE hS hP hD hA hl.1 (k176_X9_requireStateHeat l D cy g x1 a0 s.heap.size h0 h1) rfl rfl rfl rfl rfl ax_156 rfl rfl ax_157 ⟨Nat.le_of_ble_eq_true rfl, Nat.le_of_ble_eq_true rfl⟩ rfl rfl (Nat.le_of_ble_eq_true rfl) dX9_solve_2 ⟨(Nat.le_of_ble_eq_true rfl), (Nat.le_of_ble_eq_true rfl)⟩) hP hD hS hA rfl rfl rfl (by decide) (fun ad2 H locs hP hD hS => ?_)
  have hP : va_P D vwCl [(a0, .inr (14, [v0, v1, .ref a1, v2, v3, v4, v5])), (a1, .inr (8, [v6, v7, v8, .int 0, v9, v10, v11, v12, v13]))] H := hP
  have hD : va_D A [(a0, .inr (14, [v0, v1, .ref a1, v2, v3, v4, v5])), (a1, .inr (8, [v6, v7, v8, .int 0, v9, v10, v11, v12, v13]))] := hD
  refine lv_aload_n hx hb dX9_solve_5 rfl (lv_at hl 0 rfl) ?_
  refine va_get (D := D) (ci := 14) (v := .ref a1) (C := RX9) (T := TX9) (N := 7) hx hb hts ax_16 hown hE.1 hP 0 rfl rfl 2 (by decide) (hts _ tw_193) (fun _ h9 => h9) rfl dX9_solve_6 ?_
  refine ca_i (isC := [1]) (isR := [0]) (wr := [(a0, .inr (14, [v0, v1, .ref a1, v2, v3, v4, v5]))]) (rn_V (ci := 8) (q0 := 1) (isC := [1]) (wc := [(a1, .inr (8, [v6, v7, v8, .int 0, v9, v10, v11, v12, v13]))]) (As := []) (rest := []) (n := 0) hx hb hml hown hts hE hS hP hD hA hl.1 (k325_X3_isEmpty l D cy g a1 (v6) (v7) (v8) (v9) (v10) (v11) (v12) (v13) H.size ) rfl rfl rfl rfl rfl ax_223 rfl rfl ax_224 ⟨Nat.le_of_ble_eq_true rfl, Nat.le_of_ble_eq_true rfl⟩ rfl rfl (Nat.le_of_ble_eq_true rfl) dX9_solve_9 ⟨(Nat.le_of_ble_eq_true rfl), (Nat.le_of_ble_eq_true rfl)⟩) hP hD hS hA rfl rfl rfl (by decide) (fun ad9 H locs hP hD hS => ?_)
  have hP : va_P D vwCl [(a0, .inr (14, [v0, v1, .ref a1, v2, v3, v4, v5])), (a1, .inr (8, [v6, v7, v8, .int 0, v9, v10, v11, v12, v13]))] H := hP
  have hD : va_D A [(a0, .inr (14, [v0, v1, .ref a1, v2, v3, v4, v5])), (a1, .inr (8, [v6, v7, v8, .int 0, v9, v10, v11, v12, v13]))] := hD
  refine lv_if_eq (tgt := 25) hx hb dX9_solve_12 (by decide) (fun z => absurd z (by decide)) (fun _ => ?_)
  exact th_S (text := "there are no parts") hx hb hst hown hts hE hS (hl.1.trans hml.symm) hout hlk (by decide +kernel) tw_718 tw_719 ax_225 (by decide +kernel) dX9_solve_15 dX9_solve_18 dX9_solve_19 dX9_solve_21 dX9_solve_24 ⟨Nat.le_of_ble_eq_true rfl, Nat.le_of_ble_eq_true rfl, Nat.le_of_ble_eq_true rfl, Nat.le_of_ble_eq_true rfl⟩ (Nat.le_of_ble_eq_true rfl) (Nat.le_of_ble_eq_true rfl)
set_option maxHeartbeats 4000000 in
set_option maxRecDepth 100000 in
theorem k327_L_solve (l : Launch) (hst : l.stackTraces = false) (D : va_G) (cy : Nat → ClassId) (g : Nat → Nat) (x0 : Int32) (x1 : Int32) (a0 : Nat) (a1 : Nat) (b0 : Nat) (v0 : Value) (v1 : Value) (v2 : Value) (v3 : Value) (v4 : Value) (v5 : Value) (v6 : Value) (v7 : Value) (v8 : Value) (v9 : Value) (v10 : Value) (v11 : Value) (v12 : Value) (v13 : Value) (sz : Nat) (h0 : ¬ x1 < 0) (h1 : ¬ (20000 : Int32) < x1) : Met l yL_solve [.codeWith yL_solve cL_solve 5 (some .int) [(0, 10, 13, 13), (0, 10, 17, 15), (0, 10, 21, 30), (0, 10, 25, 45)]] ({ frames := 7, cells := 1, slots := 6, locals := 105 }) (PC D cy g [(a0, .inr (14, [v0, v1, .ref a1, v2, v3, v4, v5])), (a1, .inr (8, [v6, v7, v8, .int 0, v9, v10, v11, v12, v13]))] sz [.ref a0, .int x0, .int x1, .ref b0]) (QI D 2 (fun ad => []) (va_A [(a0, .inr (14, [v0, v1, .ref a1, v2, v3, v4, v5])), (a1, .inr (8, [v6, v7, v8, .int 0, v9, v10, v11, v12, v13]))] sz)) 1 6 (va_A [(a0, .inr (14, [v0, v1, .ref a1, v2, v3, v4, v5])), (a1, .inr (8, [v6, v7, v8, .int 0, v9, v10, v11, v12, v13]))] sz) := by
  refine sh_I (by decide) (Nat.le_of_ble_eq_true rfl) ?_
  intro p e s m args below meth c A ls hx hb hr hml hown hlk hnm hsz hP hD hA hE hts hS hl htb
  have hown : s.vm.findClass RL = some m.cls := hown
  have hl : lv_has ls 5 [(0, .ref a0), (1, .int x0), (2, .int x1), (3, .ref b0)] := hl
  refine lv_aload_n hx hb dL_solve_0 rfl (lv_at hl 3 rfl) ?_
  refine lv_iconst (v := 0) hx hb dL_solve_1 (by decide) ?_
  refine lv_aload_n hx hb dL_solve_2 rfl (lv_at hl 0 rfl) ?_
  refine lv_iload_n hx hb dL_solve_3 rfl (lv_at hl 1 rfl) ?_
  refine lv_iload_n hx hb dL_solve_4 rfl (lv_at hl 2 rfl) ?_
  refine cx_catch (isC := [0, 1]) (isR := []) (wr := []) (hp := [(0, 10, 13, 13)]) (z := (0, 10, 17, 15)) (hq := [(0, 10, 21, 30), (0, 10, 25, 45)]) (name := "java/lang/IllegalStateException") (own := RL) (rx_V (ci := 14) (q0 := 0) (isC := [0, 1]) (wc := [(a0, .inr (14, [v0, v1, .ref a1, v2, v3, v4, v5])), (a1, .inr (8, [v6, v7, v8, .int 0, v9, v10, v11, v12, v13]))]) (As := [.int x0, .int x1]) (rest := [.int 0, .ref b0]) (n := 2) hx hb hml hown hts hE hS hP hD hA hl.1 (k326_X9_solve l hst D cy g x0 x1 a0 a1 (v0) (v1) (v2) (v3) (v4) (v5) (v6) (v7) (v8) (v9) (v10) (v11) (v12) (v13) s.heap.size h0 h1) rfl rfl rfl rfl rfl ax_217 rfl rfl ax_218 ⟨Nat.le_of_ble_eq_true rfl, Nat.le_of_ble_eq_true rfl⟩ rfl rfl (Nat.le_of_ble_eq_true rfl) dL_solve_5 ⟨(Nat.le_of_ble_eq_true rfl), (Nat.le_of_ble_eq_true rfl)⟩) hP hD hS hA hown hts hE htb rfl rfl rfl rfl (by decide) (fun z hz => by rcases List.mem_singleton.mp hz with rfl; exact ⟨by decide, "java/lang/IllegalArgumentException", tw_302, by decide +kernel⟩) (by decide) (by decide) tw_720 tw_721 (fun qx H locs hP hD hS => ?_)
  have hP : va_P D vwCl [] H := hP
  have hD : va_D A [] := hD
  refine lv_astore (lv' := [(4, .ref qx), (0, .ref a0), (1, .int x0), (2, .int x1), (3, .ref b0)]) hx hb dL_solve_17 hl (Nat.le_of_ble_eq_true rfl) rfl (fun ls hl => ?_)
  refine lv_iconst (v := 2) hx hb dL_solve_19 (by decide) ?_
  exact en_z hx hb hr hlk hP hD hS rfl (fun _ => 0) (is := []) rfl rfl (Nat.le_of_ble_eq_true rfl) (Nat.le_of_ble_eq_true rfl) dL_solve_20
set_option maxHeartbeats 4000000 in
set_option maxRecDepth 100000 in
theorem k328_X10_solve (l : Launch) (D : va_G) (cy : Nat → ClassId) (g : Nat → Nat) (x0 : Int32) (x1 : Int32) (a0 : Nat) (a1 : Nat) (v0 : Value) (v1 : Value) (v2 : Value) (v3 : Value) (v4 : Value) (v5 : Value) (v6 : Value) (v7 : Value) (v8 : Value) (v9 : Value) (v10 : Value) (v11 : Value) (v12 : Value) (v13 : Value) (v14 : Value) (v15 : Value) (v16 : Value) (v17 : Value) (v18 : Value) (v19 : Value) (v20 : Value) (v21 : Value) (v22 : Value) (v23 : Value) (v24 : Value) (v25 : Value) (v26 : Value) (v27 : Value) (v28 : Value) (sz : Nat) (h0 : ¬ x1 < 0) (h1 : ¬ (20000 : Int32) < x1) : Met l yX10_solve [.code yX10_solve cX10_solve 12 (some .int)] ({ frames := 1, cells := 0, slots := 0, locals := 25 }) (PC D cy g [(a0, .inr (15, [v0, v1, v2, v3, v4, v5, v6, .ref a1, v7, v8, v9, v10, v11, v12, v13, v14, v15, v16, v17, v18, v19, v20, v21, v22, v23, v24, v25, v26])), (a1, .inr (4, [v27, v28, .int 0]))] sz [.ref a0, .int x0, .int x1]) (QI D (-1) (fun ad => [(a0, .inr (15, [.int 2, v1, v2, v3, v4, v5, v6, .ref a1, v7, v8, v9, v10, v11, v12, v13, v14, v15, v16, v17, v18, v19, v20, v21, v22, v23, v24, v25, v26]))]) (va_A [(a0, .inr (15, [v0, v1, v2, v3, v4, v5, v6, .ref a1, v7, v8, v9, v10, v11, v12, v13, v14, v15, v16, v17, v18, v19, v20, v21, v22, v23, v24, v25, v26])), (a1, .inr (4, [v27, v28, .int 0]))] sz)) 0 0 (va_A [(a0, .inr (15, [v0, v1, v2, v3, v4, v5, v6, .ref a1, v7, v8, v9, v10, v11, v12, v13, v14, v15, v16, v17, v18, v19, v20, v21, v22, v23, v24, v25, v26])), (a1, .inr (4, [v27, v28, .int 0]))] sz) := by
  refine st_I (by decide) (Nat.le_of_ble_eq_true rfl) ?_
  intro p e s m args below meth c A ls hx hb hr hml hown hlk hnm hsz hP hD hA hE hts hS hl
  have hown : s.vm.findClass RX10 = some m.cls := hown
  have hl : lv_has ls 12 [(0, .ref a0), (1, .int x0), (2, .int x1)] := hl
  refine lv_aload_n hx hb dX10_solve_0 rfl (lv_at hl 0 rfl) ?_
  refine ca_v (isC := [0]) (isR := [1]) (wr := [(a1, .inr (4, [v27, v28, .int 0]))]) (rn_V (ci := 15) (q0 := 0) (isC := [0]) (wc := [(a0, .inr (15, [v0, v1, v2, v3, v4, v5, v6, .ref a1, v7, v8, v9, v10, v11, v12, v13, v14, v15, v16, v17, v18, v19, v20, v21, v22, v23, v24, v25, v26]))]) (As := []) (rest := []) (n := 0) hx hb hml hown hts hE hS hP hD hA hl.1 (k20_X10_begins l D cy g a0 (v0) (v1) (v2) (v3) (v4) (v5) (v6) (.ref a1) (v7) (v8) (v9) (v10) (v11) (v12) (v13) (v14) (v15) (v16) (v17) (v18) (v19) (v20) (v21) (v22) (v23) (v24) (v25) (v26) s.heap.size ) rfl rfl rfl rfl rfl ax_37 rfl rfl ax_38 ⟨Nat.le_of_ble_eq_true rfl, Nat.le_of_ble_eq_true rfl⟩ rfl rfl (Nat.le_of_ble_eq_true rfl) dX10_solve_1 ⟨(Nat.le_of_ble_eq_true rfl), (Nat.le_of_ble_eq_true rfl)⟩) hP hD hS hA rfl rfl rfl (by decide) (fun ad1 H locs hP hD hS => ?_)
  have hP : va_P D vwCl [(a1, .inr (4, [v27, v28, .int 0])), (a0, .inr (15, [.int 0, v1, v2, v3, v4, v5, v6, .ref a1, v7, v8, v9, v10, v11, v12, v13, v14, v15, v16, v17, v18, v19, v20, v21, v22, v23, v24, v25, v26]))] H := hP
  have hD : va_D A [(a1, .inr (4, [v27, v28, .int 0])), (a0, .inr (15, [.int 0, v1, v2, v3, v4, v5, v6, .ref a1, v7, v8, v9, v10, v11, v12, v13, v14, v15, v16, v17, v18, v19, v20, v21, v22, v23, v24, v25, v26]))] := hD
  refine lv_aload_n hx hb dX10_solve_4 rfl (lv_at hl 0 rfl) ?_
  refine lv_iload_n hx hb dX10_solve_5 rfl (lv_at hl 2 rfl) ?_
  refine lv_i2l (v := x1.toInt64) hx hb dX10_solve_6 rfl ?_
  refine lv_lconst (v := 0) hx hb dX10_solve_7 (by decide) ?_
  refine lv_ldc2 (v := 20000) hx hb hown (hts _ tw_588) dX10_solve_8 ?_
  refine ca_i (isC := []) (isR := [0, 1]) (wr := [(a1, .inr (4, [v27, v28, .int 0])), (a0, .inr (15, [.int 0, v1, v2, v3, v4, v5, v6, .ref a1, v7, v8, v9, v10, v11, v12, v13, v14, v15, v16, v17, v18, v19, v20, v21, v22, v23, v24, v25, v26]))]) (rn_S (isC := []) (wc := []) (As := [.long x1.toInt64, .long 0, .long 20000]) (rest := [.ref a0]) (n := 3) hx hb hml hown hts hE hS hP hD hA hl.1 (k33_X10_in l D cy g x1.toInt64 0 20000 H.size (wl_nlt rfl (by decide) h0) (wl_nlt (by decide) rfl h1)) rfl rfl ax_39 rfl rfl ax_40 ⟨Nat.le_of_ble_eq_true rfl, Nat.le_of_ble_eq_true rfl⟩ rfl rfl (Nat.le_of_ble_eq_true rfl) dX10_solve_11 ⟨(Nat.le_of_ble_eq_true rfl), (Nat.le_of_ble_eq_true rfl)⟩) hP hD hS hA rfl rfl rfl (by decide) (fun ad11 H locs hP hD hS => ?_)
  have hP : va_P D vwCl [(a1, .inr (4, [v27, v28, .int 0])), (a0, .inr (15, [.int 0, v1, v2, v3, v4, v5, v6, .ref a1, v7, v8, v9, v10, v11, v12, v13, v14, v15, v16, v17, v18, v19, v20, v21, v22, v23, v24, v25, v26]))] H := hP
  have hD : va_D A [(a1, .inr (4, [v27, v28, .int 0])), (a0, .inr (15, [.int 0, v1, v2, v3, v4, v5, v6, .ref a1, v7, v8, v9, v10, v11, v12, v13, v14, v15, v16, v17, v18, v19, v20, v21, v22, v23, v24, v25, v26]))] := hD
  refine lv_if_ne (tgt := 21) hx hb dX10_solve_14 (by decide) (fun _ => ?_) (fun z => absurd z (by decide))
  refine lv_iconst (v := 0) hx hb dX10_solve_21 (by decide) ?_
  refine lv_iconst (v := 1) hx hb dX10_solve_22 (by decide) ?_
  refine ca_i (isC := [1]) (isR := [0]) (wr := [(a1, .inr (4, [v27, v28, .int 0]))]) (rn_V (ci := 15) (q0 := 1) (isC := [1]) (wc := [(a0, .inr (15, [.int 0, v1, v2, v3, v4, v5, v6, .ref a1, v7, v8, v9, v10, v11, v12, v13, v14, v15, v16, v17, v18, v19, v20, v21, v22, v23, v24, v25, v26]))]) (As := [.int 0, .int 1]) (rest := []) (n := 2) hx hb hml hown hts hE hS hP hD hA hl.1 (k43_X10_fails l D cy g a0 (v1) (v2) (v3) (v4) (v5) (v6) (.ref a1) (v7) (v8) (v9) (v10) (v11) (v12) (v13) (v14) (v15) (v16) (v17) (v18) (v19) (v20) (v21) (v22) (v23) (v24) (v25) (v26) H.size ) rfl rfl rfl rfl rfl ax_41 rfl rfl ax_42 ⟨Nat.le_of_ble_eq_true rfl, Nat.le_of_ble_eq_true rfl⟩ rfl rfl (Nat.le_of_ble_eq_true rfl) dX10_solve_23 ⟨(Nat.le_of_ble_eq_true rfl), (Nat.le_of_ble_eq_true rfl)⟩) hP hD hS hA rfl rfl rfl (by decide) (fun ad23 H locs hP hD hS => ?_)
  have hP : va_P D vwCl [(a1, .inr (4, [v27, v28, .int 0])), (a0, .inr (15, [.int 0, v1, v2, v3, v4, v5, v6, .ref a1, v7, v8, v9, v10, v11, v12, v13, v14, v15, v16, v17, v18, v19, v20, v21, v22, v23, v24, v25, v26]))] H := hP
  have hD : va_D A [(a1, .inr (4, [v27, v28, .int 0])), (a0, .inr (15, [.int 0, v1, v2, v3, v4, v5, v6, .ref a1, v7, v8, v9, v10, v11, v12, v13, v14, v15, v16, v17, v18, v19, v20, v21, v22, v23, v24, v25, v26]))] := hD
  refine lv_if_ne (tgt := 67) hx hb dX10_solve_26 (by decide) (fun z => absurd (by decide) z) (fun _ => ?_)
  refine lv_aload_n hx hb dX10_solve_29 rfl (lv_at hl 0 rfl) ?_
  refine lv_aload_n hx hb dX10_solve_30 rfl (lv_at hl 0 rfl) ?_
  refine va_get (D := D) (ci := 15) (v := .ref a1) (C := RX10) (T := TX10) (N := 28) hx hb hts ax_29 hown hE.1 hP 1 rfl rfl 7 (by decide) (hts _ tw_279) (fun _ h9 => h9) rfl dX10_solve_31 ?_
  refine ca_Fi (isC := [0]) (isR := [1]) (wr := [(a0, .inr (15, [.int 0, v1, v2, v3, v4, v5, v6, .ref a1, v7, v8, v9, v10, v11, v12, v13, v14, v15, v16, v17, v18, v19, v20, v21, v22, v23, v24, v25, v26]))]) (rn_F (ci := 4) (q0 := 0) (isC := [0]) (wc := [(a1, .inr (4, [v27, v28, .int 0]))]) (As := []) (rest := [.ref a0]) (n := 0) hx hb hml hown hts hE hS hP hD hA hl.1 (k139_Jx4a65c_isEmpty_aae02 l D cy g a1 (v27) (v28) H.size ) rfl rfl rfl rfl rfl ax_127 tw_512 tw_513 tw_514 tw_515 tw_371 rfl rfl ax_128 ⟨Nat.le_of_ble_eq_true rfl, Nat.le_of_ble_eq_true rfl⟩ rfl rfl (Nat.le_of_ble_eq_true rfl) dX10_solve_34 ⟨(Nat.le_of_ble_eq_true rfl), (Nat.le_of_ble_eq_true rfl)⟩) hP hD hS hA rfl rfl rfl (by decide) (fun ad34 H locs hP hD hS => ?_)
  have hP : va_P D vwCl [(a0, .inr (15, [.int 0, v1, v2, v3, v4, v5, v6, .ref a1, v7, v8, v9, v10, v11, v12, v13, v14, v15, v16, v17, v18, v19, v20, v21, v22, v23, v24, v25, v26])), (a1, .inr (4, [v27, v28, .int 0]))] H := hP
  have hD : va_D A [(a0, .inr (15, [.int 0, v1, v2, v3, v4, v5, v6, .ref a1, v7, v8, v9, v10, v11, v12, v13, v14, v15, v16, v17, v18, v19, v20, v21, v22, v23, v24, v25, v26])), (a1, .inr (4, [v27, v28, .int 0]))] := hD
  refine lv_iconst (v := 2) hx hb dX10_solve_39 (by decide) ?_
  refine ca_i (isC := [0]) (isR := [1]) (wr := [(a1, .inr (4, [v27, v28, .int 0]))]) (rn_V (ci := 15) (q0 := 0) (isC := [0]) (wc := [(a0, .inr (15, [.int 0, v1, v2, v3, v4, v5, v6, .ref a1, v7, v8, v9, v10, v11, v12, v13, v14, v15, v16, v17, v18, v19, v20, v21, v22, v23, v24, v25, v26]))]) (As := [.int 1, .int 2]) (rest := []) (n := 2) hx hb hml hown hts hE hS hP hD hA hl.1 (k146_X10_fails l D cy g a0 (v1) (v2) (v3) (v4) (v5) (v6) (.ref a1) (v7) (v8) (v9) (v10) (v11) (v12) (v13) (v14) (v15) (v16) (v17) (v18) (v19) (v20) (v21) (v22) (v23) (v24) (v25) (v26) H.size ) rfl rfl rfl rfl rfl ax_41 rfl rfl ax_42 ⟨Nat.le_of_ble_eq_true rfl, Nat.le_of_ble_eq_true rfl⟩ rfl rfl (Nat.le_of_ble_eq_true rfl) dX10_solve_40 ⟨(Nat.le_of_ble_eq_true rfl), (Nat.le_of_ble_eq_true rfl)⟩) hP hD hS hA rfl rfl rfl (by decide) (fun ad40 H locs hP hD hS => ?_)
  have hP : va_P D vwCl [(a1, .inr (4, [v27, v28, .int 0])), (a0, .inr (15, [.int 2, v1, v2, v3, v4, v5, v6, .ref a1, v7, v8, v9, v10, v11, v12, v13, v14, v15, v16, v17, v18, v19, v20, v21, v22, v23, v24, v25, v26]))] H := hP
  have hD : va_D A [(a1, .inr (4, [v27, v28, .int 0])), (a0, .inr (15, [.int 2, v1, v2, v3, v4, v5, v6, .ref a1, v7, v8, v9, v10, v11, v12, v13, v14, v15, v16, v17, v18, v19, v20, v21, v22, v23, v24, v25, v26]))] := hD
  refine lv_if_ne (tgt := 67) hx hb dX10_solve_43 (by decide) (fun _ => ?_) (fun z => absurd z (by decide))
  refine lv_iconst (v := (-1)) hx hb dX10_solve_67 (by decide) ?_
  exact en_z hx hb hr hlk hP hD hS rfl (fun _ => 0) (is := [1]) rfl rfl (Nat.le_of_ble_eq_true rfl) (Nat.le_of_ble_eq_true rfl) dX10_solve_68
set_option maxHeartbeats 4000000 in
set_option maxRecDepth 100000 in
theorem k329_X9_requireSolved (l : Launch) (hst : l.stackTraces = false) (D : va_G) (cy : Nat → ClassId) (g : Nat → Nat) (a0 : Nat) (a1 : Nat) (v0 : Value) (v1 : Value) (v2 : Value) (v3 : Value) (v4 : Value) (v5 : Value) (v6 : Value) (v7 : Value) (v8 : Value) (v9 : Value) (v10 : Value) (v11 : Value) (v12 : Value) (v13 : Value) (sz : Nat)  : vx_Met l yX9_requireSolved [.code yX9_requireSolved cX9_requireSolved 1 none] ({ frames := 6, cells := 1, slots := 6, locals := 82 }) (PC D cy g [(a0, .inr (14, [v0, v1, .ref a1, v2, v3, v4, v5])), (a1, .inr (8, [v6, v7, v8, v9, .int 0, v10, v11, v12, v13]))] sz [.ref a0]) QN (XE "java/lang/IllegalStateException" (va_A [(a0, .inr (14, [v0, v1, .ref a1, v2, v3, v4, v5])), (a1, .inr (8, [v6, v7, v8, v9, .int 0, v10, v11, v12, v13]))] sz)) 1 6 (va_A [(a0, .inr (14, [v0, v1, .ref a1, v2, v3, v4, v5])), (a1, .inr (8, [v6, v7, v8, v9, .int 0, v10, v11, v12, v13]))] sz) := by
  refine st_X (by decide) (Nat.le_of_ble_eq_true rfl) ?_
  intro p e s m args below meth c A ls hx hb hr hml hown hlk hnm hsz hP hD hA hE hts hS hl hout
  have hown : s.vm.findClass RX9 = some m.cls := hown
  have hl : lv_has ls 1 [(0, .ref a0)] := hl
  refine lv_aload_n hx hb dX9_requireSolved_0 rfl (lv_at hl 0 rfl) ?_
  refine va_get (D := D) (ci := 14) (v := .ref a1) (C := RX9) (T := TX9) (N := 7) hx hb hts ax_16 hown hE.1 hP 0 rfl rfl 2 (by decide) (hts _ tw_193) (fun _ h9 => h9) rfl dX9_requireSolved_1 ?_
  refine va_getN (D := D) (ci := 8) (v := .int 0) (C := RX3) (T := TX3) (N := 9) hx hb hts ax_5 hown hE.1 hP 1 rfl rfl 4 (by decide) (hts _ tw_722) (fun _ h9 => h9) rfl dX9_requireSolved_4 ?_
  refine lv_if_ne (tgt := 21) hx hb dX9_requireSolved_7 (by decide) (fun z => absurd (by decide) z) (fun _ => ?_)
  exact th_SW (text := "no state was solved") hx hb hst hown hts hE hS (hl.1.trans hml.symm) hout hlk (by decide +kernel) tw_718 tw_719 ax_225 (by decide +kernel) dX9_requireSolved_10 dX9_requireSolved_13 dX9_requireSolved_14 dX9_requireSolved_17 dX9_requireSolved_20 ⟨Nat.le_of_ble_eq_true rfl, Nat.le_of_ble_eq_true rfl, Nat.le_of_ble_eq_true rfl, Nat.le_of_ble_eq_true rfl⟩ (Nat.le_of_ble_eq_true rfl) (Nat.le_of_ble_eq_true rfl)
set_option maxHeartbeats 4000000 in
set_option maxRecDepth 100000 in
theorem k330_X9_requireSolvedPart (l : Launch) (hst : l.stackTraces = false) (D : va_G) (cy : Nat → ClassId) (g : Nat → Nat) (x0 : Int32) (a0 : Nat) (a1 : Nat) (v0 : Value) (v1 : Value) (v2 : Value) (v3 : Value) (v4 : Value) (v5 : Value) (v6 : Value) (v7 : Value) (v8 : Value) (v9 : Value) (v10 : Value) (v11 : Value) (v12 : Value) (v13 : Value) (sz : Nat)  : vx_Met l yX9_requireSolvedPart [.code yX9_requireSolvedPart cX9_requireSolvedPart 2 none] ({ frames := 7, cells := 1, slots := 6, locals := 102 }) (PC D cy g [(a0, .inr (14, [v0, v1, .ref a1, v2, v3, v4, v5])), (a1, .inr (8, [v6, v7, v8, v9, .int 0, v10, v11, v12, v13]))] sz [.ref a0, .int x0]) QN (XE "java/lang/IllegalStateException" (va_A [(a0, .inr (14, [v0, v1, .ref a1, v2, v3, v4, v5])), (a1, .inr (8, [v6, v7, v8, v9, .int 0, v10, v11, v12, v13]))] sz)) 1 6 (va_A [(a0, .inr (14, [v0, v1, .ref a1, v2, v3, v4, v5])), (a1, .inr (8, [v6, v7, v8, v9, .int 0, v10, v11, v12, v13]))] sz) := by
  refine st_X (by decide) (Nat.le_of_ble_eq_true rfl) ?_
  intro p e s m args below meth c A ls hx hb hr hml hown hlk hnm hsz hP hD hA hE hts hS hl hout
  have hown : s.vm.findClass RX9 = some m.cls := hown
  have hl : lv_has ls 2 [(0, .ref a0), (1, .int x0)] := hl
  refine lv_aload_n hx hb dX9_requireSolvedPart_0 rfl (lv_at hl 0 rfl) ?_
  exact cx_out (isC := [0, 1]) (rx_V (ci := 14) (q0 := 0) (isC := [0, 1]) (wc := [(a0, .inr (14, [v0, v1, .ref a1, v2, v3, v4, v5])), (a1, .inr (8, [v6, v7, v8, v9, .int 0, v10, v11, v12, v13]))]) (As := []) (rest := []) (n := 0) hx hb hml hown hts hE hS hP hD hA hl.1 (k329_X9_requireSolved l hst D cy g a0 a1 (v0) (v1) (v2) (v3) (v4) (v5) (v6) (v7) (v8) (v9) (v10) (v11) (v12) (v13) s.heap.size ) rfl rfl rfl rfl rfl ax_226 rfl rfl ax_227 ⟨Nat.le_of_ble_eq_true rfl, Nat.le_of_ble_eq_true rfl⟩ rfl rfl (Nat.le_of_ble_eq_true rfl) dX9_requireSolvedPart_1 ⟨(Nat.le_of_ble_eq_true rfl), (Nat.le_of_ble_eq_true rfl)⟩) hD hS hA rfl hout hlk (Nat.le_of_ble_eq_true rfl) (Nat.le_of_ble_eq_true rfl)
set_option maxHeartbeats 4000000 in
set_option maxRecDepth 100000 in
theorem k331_X9_partWork (l : Launch) (hst : l.stackTraces = false) (D : va_G) (cy : Nat → ClassId) (g : Nat → Nat) (x0 : Int32) (a0 : Nat) (a1 : Nat) (v0 : Value) (v1 : Value) (v2 : Value) (v3 : Value) (v4 : Value) (v5 : Value) (v6 : Value) (v7 : Value) (v8 : Value) (v9 : Value) (v10 : Value) (v11 : Value) (v12 : Value) (v13 : Value) (sz : Nat)  : vx_Met l yX9_partWork [.code yX9_partWork cX9_partWork 2 (some .int)] ({ frames := 8, cells := 1, slots := 6, locals := 123 }) (PC D cy g [(a0, .inr (14, [v0, v1, .ref a1, v2, v3, v4, v5])), (a1, .inr (8, [v6, v7, v8, v9, .int 0, v10, v11, v12, v13]))] sz [.ref a0, .int x0]) QN (XE "java/lang/IllegalStateException" (va_A [(a0, .inr (14, [v0, v1, .ref a1, v2, v3, v4, v5])), (a1, .inr (8, [v6, v7, v8, v9, .int 0, v10, v11, v12, v13]))] sz)) 1 6 (va_A [(a0, .inr (14, [v0, v1, .ref a1, v2, v3, v4, v5])), (a1, .inr (8, [v6, v7, v8, v9, .int 0, v10, v11, v12, v13]))] sz) := by
  refine st_X (by decide) (Nat.le_of_ble_eq_true rfl) ?_
  intro p e s m args below meth c A ls hx hb hr hml hown hlk hnm hsz hP hD hA hE hts hS hl hout
  have hown : s.vm.findClass RX9 = some m.cls := hown
  have hl : lv_has ls 2 [(0, .ref a0), (1, .int x0)] := hl
  refine lv_aload_n hx hb dX9_partWork_0 rfl (lv_at hl 0 rfl) ?_
  refine lv_iload_n hx hb dX9_partWork_1 rfl (lv_at hl 1 rfl) ?_
  exact cx_out (isC := [0, 1]) (rx_V (ci := 14) (q0 := 0) (isC := [0, 1]) (wc := [(a0, .inr (14, [v0, v1, .ref a1, v2, v3, v4, v5])), (a1, .inr (8, [v6, v7, v8, v9, .int 0, v10, v11, v12, v13]))]) (As := [.int x0]) (rest := []) (n := 1) hx hb hml hown hts hE hS hP hD hA hl.1 (k330_X9_requireSolvedPart l hst D cy g x0 a0 a1 (v0) (v1) (v2) (v3) (v4) (v5) (v6) (v7) (v8) (v9) (v10) (v11) (v12) (v13) s.heap.size ) rfl rfl rfl rfl rfl ax_228 rfl rfl ax_229 ⟨Nat.le_of_ble_eq_true rfl, Nat.le_of_ble_eq_true rfl⟩ rfl rfl (Nat.le_of_ble_eq_true rfl) dX9_partWork_2 ⟨(Nat.le_of_ble_eq_true rfl), (Nat.le_of_ble_eq_true rfl)⟩) hD hS hA rfl hout hlk (Nat.le_of_ble_eq_true rfl) (Nat.le_of_ble_eq_true rfl)
set_option maxHeartbeats 4000000 in
set_option maxRecDepth 100000 in
theorem k332_L_partWork (l : Launch) (hst : l.stackTraces = false) (D : va_G) (cy : Nat → ClassId) (g : Nat → Nat) (x0 : Int32) (a0 : Nat) (a1 : Nat) (b0 : Nat) (v0 : Value) (v1 : Value) (v2 : Value) (v3 : Value) (v4 : Value) (v5 : Value) (v6 : Value) (v7 : Value) (v8 : Value) (v9 : Value) (v10 : Value) (v11 : Value) (v12 : Value) (v13 : Value) (sz : Nat)  : Met l yL_partWork [.codeWith yL_partWork cL_partWork 4 (some .int) [(0, 9, 12, 15), (0, 9, 15, 45)]] ({ frames := 9, cells := 1, slots := 6, locals := 144 }) (PC D cy g [(a0, .inr (14, [v0, v1, .ref a1, v2, v3, v4, v5])), (a1, .inr (8, [v6, v7, v8, v9, .int 0, v10, v11, v12, v13]))] sz [.ref a0, .int x0, .ref b0]) (QI D 1 (fun ad => []) (va_A [(a0, .inr (14, [v0, v1, .ref a1, v2, v3, v4, v5])), (a1, .inr (8, [v6, v7, v8, v9, .int 0, v10, v11, v12, v13]))] sz)) 1 6 (va_A [(a0, .inr (14, [v0, v1, .ref a1, v2, v3, v4, v5])), (a1, .inr (8, [v6, v7, v8, v9, .int 0, v10, v11, v12, v13]))] sz) := by
  refine sh_I (by decide) (Nat.le_of_ble_eq_true rfl) ?_
  intro p e s m args below meth c A ls hx hb hr hml hown hlk hnm hsz hP hD hA hE hts hS hl htb
  have hown : s.vm.findClass RL = some m.cls := hown
  have hl : lv_has ls 4 [(0, .ref a0), (1, .int x0), (2, .ref b0)] := hl
  refine lv_aload_n hx hb dL_partWork_0 rfl (lv_at hl 2 rfl) ?_
  refine lv_iconst (v := 0) hx hb dL_partWork_1 (by decide) ?_
  refine lv_aload_n hx hb dL_partWork_2 rfl (lv_at hl 0 rfl) ?_
  refine lv_iload_n hx hb dL_partWork_3 rfl (lv_at hl 1 rfl) ?_
  refine cx_catch (isC := [0, 1]) (isR := []) (wr := []) (hp := []) (z := (0, 9, 12, 15)) (hq := [(0, 9, 15, 45)]) (name := "java/lang/IllegalStateException") (own := RL) (rx_V (ci := 14) (q0 := 0) (isC := [0, 1]) (wc := [(a0, .inr (14, [v0, v1, .ref a1, v2, v3, v4, v5])), (a1, .inr (8, [v6, v7, v8, v9, .int 0, v10, v11, v12, v13]))]) (As := [.int x0]) (rest := [.int 0, .ref b0]) (n := 1) hx hb hml hown hts hE hS hP hD hA hl.1 (k331_X9_partWork l hst D cy g x0 a0 a1 (v0) (v1) (v2) (v3) (v4) (v5) (v6) (v7) (v8) (v9) (v10) (v11) (v12) (v13) s.heap.size ) rfl rfl rfl rfl rfl ax_230 rfl rfl ax_231 ⟨Nat.le_of_ble_eq_true rfl, Nat.le_of_ble_eq_true rfl⟩ rfl rfl (Nat.le_of_ble_eq_true rfl) dL_partWork_4 ⟨(Nat.le_of_ble_eq_true rfl), (Nat.le_of_ble_eq_true rfl)⟩) hP hD hS hA hown hts hE htb rfl rfl rfl rfl (by decide) (fun z hz => by cases hz) (by decide) (by decide) tw_720 tw_721 (fun qx H locs hP hD hS => ?_)
  have hP : va_P D vwCl [] H := hP
  have hD : va_D A [] := hD
  refine lv_astore_n (lv' := [(3, .ref qx), (0, .ref a0), (1, .int x0), (2, .ref b0)]) hx hb dL_partWork_12 rfl hl (Nat.le_of_ble_eq_true rfl) rfl (fun ls hl => ?_)
  refine lv_iconst (v := 1) hx hb dL_partWork_13 (by decide) ?_
  exact en_z hx hb hr hlk hP hD hS rfl (fun _ => 0) (is := []) rfl rfl (Nat.le_of_ble_eq_true rfl) (Nat.le_of_ble_eq_true rfl) dL_partWork_14
set_option maxHeartbeats 4000000 in
set_option maxRecDepth 100000 in
theorem k333_X10_told (l : Launch) (D : va_G) (cy : Nat → ClassId) (g : Nat → Nat) (x0 : Int32) (a0 : Nat) (v0 : Value) (v1 : Value) (v2 : Value) (v3 : Value) (v4 : Value) (v5 : Value) (v6 : Value) (v7 : Value) (v8 : Value) (v9 : Value) (v10 : Value) (v11 : Value) (v12 : Value) (v13 : Value) (v14 : Value) (v15 : Value) (v16 : Value) (v17 : Value) (v18 : Value) (v19 : Value) (v20 : Value) (v21 : Value) (v22 : Value) (v23 : Value) (v24 : Value) (v25 : Value) (sz : Nat)  : Met l yX10_told [.code yX10_told cX10_told 3 (some .int)] ({ frames := 1, cells := 0, slots := 0, locals := 22 }) (PC D cy g [(a0, .inr (15, [.int 0, v0, v1, v2, v3, v4, v5, v6, .null, v7, v8, v9, v10, v11, v12, v13, v14, v15, v16, v17, v18, v19, v20, v21, v22, v23, v24, v25]))] sz [.ref a0, .int x0, .int 2]) (QI D (-1) (fun ad => [(a0, .inr (15, [.int 1, v0, v1, v2, v3, v4, v5, v6, .null, v7, v8, v9, v10, v11, v12, v13, v14, v15, v16, v17, v18, v19, v20, v21, v22, v23, v24, v25]))]) (va_A [(a0, .inr (15, [.int 0, v0, v1, v2, v3, v4, v5, v6, .null, v7, v8, v9, v10, v11, v12, v13, v14, v15, v16, v17, v18, v19, v20, v21, v22, v23, v24, v25]))] sz)) 0 0 (va_A [(a0, .inr (15, [.int 0, v0, v1, v2, v3, v4, v5, v6, .null, v7, v8, v9, v10, v11, v12, v13, v14, v15, v16, v17, v18, v19, v20, v21, v22, v23, v24, v25]))] sz) := by
  refine st_I (by decide) (Nat.le_of_ble_eq_true rfl) ?_
  intro p e s m args below meth c A ls hx hb hr hml hown hlk hnm hsz hP hD hA hE hts hS hl
  have hown : s.vm.findClass RX10 = some m.cls := hown
  have hl : lv_has ls 3 [(0, .ref a0), (1, .int x0), (2, .int 2)] := hl
  refine lv_aload_n hx hb dX10_told_0 rfl (lv_at hl 0 rfl) ?_
  refine lv_aload_n hx hb dX10_told_1 rfl (lv_at hl 0 rfl) ?_
  refine va_get (D := D) (ci := 15) (v := .null) (C := RX10) (T := TX10) (N := 28) hx hb hts ax_29 hown hE.1 hP 0 rfl rfl 8 (by decide) (hts _ tw_698) (fun _ h9 => h9) rfl dX10_told_2 ?_
  refine lv_ifnonnullN hx hb dX10_told_5 ?_
  refine lv_iconst (v := 1) hx hb dX10_told_8 (by decide) ?_
  refine lv_goto (tgt := 13) hx hb dX10_told_9 (by decide) ?_
  refine lv_iconst (v := 1) hx hb dX10_told_13 (by decide) ?_
  refine ca_i (isC := [0]) (isR := []) (wr := []) (rn_V (ci := 15) (q0 := 0) (isC := [0]) (wc := [(a0, .inr (15, [.int 0, v0, v1, v2, v3, v4, v5, v6, .null, v7, v8, v9, v10, v11, v12, v13, v14, v15, v16, v17, v18, v19, v20, v21, v22, v23, v24, v25]))]) (As := [.int 1, .int 1]) (rest := []) (n := 2) hx hb hml hown hts hE hS hP hD hA hl.1 (k22_X10_fails l D cy g a0 (v0) (v1) (v2) (v3) (v4) (v5) (v6) (.null) (v7) (v8) (v9) (v10) (v11) (v12) (v13) (v14) (v15) (v16) (v17) (v18) (v19) (v20) (v21) (v22) (v23) (v24) (v25) s.heap.size ) rfl rfl rfl rfl rfl ax_41 rfl rfl ax_42 ⟨Nat.le_of_ble_eq_true rfl, Nat.le_of_ble_eq_true rfl⟩ rfl rfl (Nat.le_of_ble_eq_true rfl) dX10_told_14 ⟨(Nat.le_of_ble_eq_true rfl), (Nat.le_of_ble_eq_true rfl)⟩) hP hD hS hA rfl rfl rfl (by decide) (fun ad14 H locs hP hD hS => ?_)
  have hP : va_P D vwCl [(a0, .inr (15, [.int 1, v0, v1, v2, v3, v4, v5, v6, .null, v7, v8, v9, v10, v11, v12, v13, v14, v15, v16, v17, v18, v19, v20, v21, v22, v23, v24, v25]))] H := hP
  have hD : va_D A [(a0, .inr (15, [.int 1, v0, v1, v2, v3, v4, v5, v6, .null, v7, v8, v9, v10, v11, v12, v13, v14, v15, v16, v17, v18, v19, v20, v21, v22, v23, v24, v25]))] := hD
  refine lv_if_ne (tgt := 44) hx hb dX10_told_17 (by decide) (fun _ => ?_) (fun z => absurd z (by decide))
  refine lv_iconst (v := (-1)) hx hb dX10_told_44 (by decide) ?_
  refine lv_goto (tgt := 63) hx hb dX10_told_45 (by decide) ?_
  exact en_z hx hb hr hlk hP hD hS rfl (fun _ => 0) (is := [0]) rfl rfl (Nat.le_of_ble_eq_true rfl) (Nat.le_of_ble_eq_true rfl) dX10_told_63
set_option maxHeartbeats 4000000 in
set_option maxRecDepth 100000 in
theorem k334_X10_partWork (l : Launch) (D : va_G) (cy : Nat → ClassId) (g : Nat → Nat) (x0 : Int32) (a0 : Nat) (v0 : Value) (v1 : Value) (v2 : Value) (v3 : Value) (v4 : Value) (v5 : Value) (v6 : Value) (v7 : Value) (v8 : Value) (v9 : Value) (v10 : Value) (v11 : Value) (v12 : Value) (v13 : Value) (v14 : Value) (v15 : Value) (v16 : Value) (v17 : Value) (v18 : Value) (v19 : Value) (v20 : Value) (v21 : Value) (v22 : Value) (v23 : Value) (v24 : Value) (v25 : Value) (v26 : Value) (sz : Nat)  : Met l yX10_partWork [.code yX10_partWork cX10_partWork 2 (some .int)] ({ frames := 2, cells := 0, slots := 0, locals := 44 }) (PC D cy g [(a0, .inr (15, [v0, v1, v2, v3, v4, v5, v6, v7, .null, v8, v9, v10, v11, v12, v13, v14, v15, v16, v17, v18, v19, v20, v21, v22, v23, v24, v25, v26]))] sz [.ref a0, .int x0]) (QI D (-1) (fun ad => [(a0, .inr (15, [.int 1, v1, v2, v3, v4, v5, v6, v7, .null, v8, v9, v10, v11, v12, v13, v14, v15, v16, v17, v18, v19, v20, v21, v22, v23, v24, v25, v26]))]) (va_A [(a0, .inr (15, [v0, v1, v2, v3, v4, v5, v6, v7, .null, v8, v9, v10, v11, v12, v13, v14, v15, v16, v17, v18, v19, v20, v21, v22, v23, v24, v25, v26]))] sz)) 0 0 (va_A [(a0, .inr (15, [v0, v1, v2, v3, v4, v5, v6, v7, .null, v8, v9, v10, v11, v12, v13, v14, v15, v16, v17, v18, v19, v20, v21, v22, v23, v24, v25, v26]))] sz) := by
  refine st_I (by decide) (Nat.le_of_ble_eq_true rfl) ?_
  intro p e s m args below meth c A ls hx hb hr hml hown hlk hnm hsz hP hD hA hE hts hS hl
  have hown : s.vm.findClass RX10 = some m.cls := hown
  have hl : lv_has ls 2 [(0, .ref a0), (1, .int x0)] := hl
  refine lv_aload_n hx hb dX10_partWork_0 rfl (lv_at hl 0 rfl) ?_
  refine ca_v (isC := [0]) (isR := []) (wr := []) (rn_V (ci := 15) (q0 := 0) (isC := [0]) (wc := [(a0, .inr (15, [v0, v1, v2, v3, v4, v5, v6, v7, .null, v8, v9, v10, v11, v12, v13, v14, v15, v16, v17, v18, v19, v20, v21, v22, v23, v24, v25, v26]))]) (As := []) (rest := []) (n := 0) hx hb hml hown hts hE hS hP hD hA hl.1 (k20_X10_begins l D cy g a0 (v0) (v1) (v2) (v3) (v4) (v5) (v6) (v7) (.null) (v8) (v9) (v10) (v11) (v12) (v13) (v14) (v15) (v16) (v17) (v18) (v19) (v20) (v21) (v22) (v23) (v24) (v25) (v26) s.heap.size ) rfl rfl rfl rfl rfl ax_37 rfl rfl ax_38 ⟨Nat.le_of_ble_eq_true rfl, Nat.le_of_ble_eq_true rfl⟩ rfl rfl (Nat.le_of_ble_eq_true rfl) dX10_partWork_1 ⟨(Nat.le_of_ble_eq_true rfl), (Nat.le_of_ble_eq_true rfl)⟩) hP hD hS hA rfl rfl rfl (by decide) (fun ad1 H locs hP hD hS => ?_)
  have hP : va_P D vwCl [(a0, .inr (15, [.int 0, v1, v2, v3, v4, v5, v6, v7, .null, v8, v9, v10, v11, v12, v13, v14, v15, v16, v17, v18, v19, v20, v21, v22, v23, v24, v25, v26]))] H := hP
  have hD : va_D A [(a0, .inr (15, [.int 0, v1, v2, v3, v4, v5, v6, v7, .null, v8, v9, v10, v11, v12, v13, v14, v15, v16, v17, v18, v19, v20, v21, v22, v23, v24, v25, v26]))] := hD
  refine lv_aload_n hx hb dX10_partWork_4 rfl (lv_at hl 0 rfl) ?_
  refine lv_iload_n hx hb dX10_partWork_5 rfl (lv_at hl 1 rfl) ?_
  refine lv_iconst (v := 2) hx hb dX10_partWork_6 (by decide) ?_
  refine ca_i (isC := [0]) (isR := []) (wr := []) (rn_V (ci := 15) (q0 := 0) (isC := [0]) (wc := [(a0, .inr (15, [.int 0, v1, v2, v3, v4, v5, v6, v7, .null, v8, v9, v10, v11, v12, v13, v14, v15, v16, v17, v18, v19, v20, v21, v22, v23, v24, v25, v26]))]) (As := [.int x0, .int 2]) (rest := []) (n := 2) hx hb hml hown hts hE hS hP hD hA hl.1 (k333_X10_told l D cy g x0 a0 (v1) (v2) (v3) (v4) (v5) (v6) (v7) (v8) (v9) (v10) (v11) (v12) (v13) (v14) (v15) (v16) (v17) (v18) (v19) (v20) (v21) (v22) (v23) (v24) (v25) (v26) H.size ) rfl rfl rfl rfl rfl ax_234 rfl rfl ax_235 ⟨Nat.le_of_ble_eq_true rfl, Nat.le_of_ble_eq_true rfl⟩ rfl rfl (Nat.le_of_ble_eq_true rfl) dX10_partWork_7 ⟨(Nat.le_of_ble_eq_true rfl), (Nat.le_of_ble_eq_true rfl)⟩) hP hD hS hA rfl rfl rfl (by decide) (fun ad7 H locs hP hD hS => ?_)
  have hP : va_P D vwCl [(a0, .inr (15, [.int 1, v1, v2, v3, v4, v5, v6, v7, .null, v8, v9, v10, v11, v12, v13, v14, v15, v16, v17, v18, v19, v20, v21, v22, v23, v24, v25, v26]))] H := hP
  have hD : va_D A [(a0, .inr (15, [.int 1, v1, v2, v3, v4, v5, v6, v7, .null, v8, v9, v10, v11, v12, v13, v14, v15, v16, v17, v18, v19, v20, v21, v22, v23, v24, v25, v26]))] := hD
  exact en_z hx hb hr hlk hP hD hS rfl (fun _ => 0) (is := [0]) rfl rfl (Nat.le_of_ble_eq_true rfl) (Nat.le_of_ble_eq_true rfl) dX10_partWork_10
set_option maxHeartbeats 4000000 in
set_option maxRecDepth 100000 in
theorem k335_X9_partHeat (l : Launch) (hst : l.stackTraces = false) (D : va_G) (cy : Nat → ClassId) (g : Nat → Nat) (x0 : Int32) (a0 : Nat) (a1 : Nat) (v0 : Value) (v1 : Value) (v2 : Value) (v3 : Value) (v4 : Value) (v5 : Value) (v6 : Value) (v7 : Value) (v8 : Value) (v9 : Value) (v10 : Value) (v11 : Value) (v12 : Value) (v13 : Value) (sz : Nat)  : vx_Met l yX9_partHeat [.code yX9_partHeat cX9_partHeat 2 (some .int)] ({ frames := 8, cells := 1, slots := 6, locals := 123 }) (PC D cy g [(a0, .inr (14, [v0, v1, .ref a1, v2, v3, v4, v5])), (a1, .inr (8, [v6, v7, v8, v9, .int 0, v10, v11, v12, v13]))] sz [.ref a0, .int x0]) QN (XE "java/lang/IllegalStateException" (va_A [(a0, .inr (14, [v0, v1, .ref a1, v2, v3, v4, v5])), (a1, .inr (8, [v6, v7, v8, v9, .int 0, v10, v11, v12, v13]))] sz)) 1 6 (va_A [(a0, .inr (14, [v0, v1, .ref a1, v2, v3, v4, v5])), (a1, .inr (8, [v6, v7, v8, v9, .int 0, v10, v11, v12, v13]))] sz) := by
  refine st_X (by decide) (Nat.le_of_ble_eq_true rfl) ?_
  intro p e s m args below meth c A ls hx hb hr hml hown hlk hnm hsz hP hD hA hE hts hS hl hout
  have hown : s.vm.findClass RX9 = some m.cls := hown
  have hl : lv_has ls 2 [(0, .ref a0), (1, .int x0)] := hl
  refine lv_aload_n hx hb dX9_partHeat_0 rfl (lv_at hl 0 rfl) ?_
  refine lv_iload_n hx hb dX9_partHeat_1 rfl (lv_at hl 1 rfl) ?_
  exact cx_out (isC := [0, 1]) (rx_V (ci := 14) (q0 := 0) (isC := [0, 1]) (wc := [(a0, .inr (14, [v0, v1, .ref a1, v2, v3, v4, v5])), (a1, .inr (8, [v6, v7, v8, v9, .int 0, v10, v11, v12, v13]))]) (As := [.int x0]) (rest := []) (n := 1) hx hb hml hown hts hE hS hP hD hA hl.1 (k330_X9_requireSolvedPart l hst D cy g x0 a0 a1 (v0) (v1) (v2) (v3) (v4) (v5) (v6) (v7) (v8) (v9) (v10) (v11) (v12) (v13) s.heap.size ) rfl rfl rfl rfl rfl ax_228 rfl rfl ax_229 ⟨Nat.le_of_ble_eq_true rfl, Nat.le_of_ble_eq_true rfl⟩ rfl rfl (Nat.le_of_ble_eq_true rfl) dX9_partHeat_2 ⟨(Nat.le_of_ble_eq_true rfl), (Nat.le_of_ble_eq_true rfl)⟩) hD hS hA rfl hout hlk (Nat.le_of_ble_eq_true rfl) (Nat.le_of_ble_eq_true rfl)
set_option maxHeartbeats 4000000 in
set_option maxRecDepth 100000 in
theorem k336_L_partHeat (l : Launch) (hst : l.stackTraces = false) (D : va_G) (cy : Nat → ClassId) (g : Nat → Nat) (x0 : Int32) (a0 : Nat) (a1 : Nat) (b0 : Nat) (v0 : Value) (v1 : Value) (v2 : Value) (v3 : Value) (v4 : Value) (v5 : Value) (v6 : Value) (v7 : Value) (v8 : Value) (v9 : Value) (v10 : Value) (v11 : Value) (v12 : Value) (v13 : Value) (sz : Nat)  : Met l yL_partHeat [.codeWith yL_partHeat cL_partHeat 4 (some .int) [(0, 9, 12, 15), (0, 9, 15, 45)]] ({ frames := 9, cells := 1, slots := 6, locals := 144 }) (PC D cy g [(a0, .inr (14, [v0, v1, .ref a1, v2, v3, v4, v5])), (a1, .inr (8, [v6, v7, v8, v9, .int 0, v10, v11, v12, v13]))] sz [.ref a0, .int x0, .ref b0]) (QI D 1 (fun ad => []) (va_A [(a0, .inr (14, [v0, v1, .ref a1, v2, v3, v4, v5])), (a1, .inr (8, [v6, v7, v8, v9, .int 0, v10, v11, v12, v13]))] sz)) 1 6 (va_A [(a0, .inr (14, [v0, v1, .ref a1, v2, v3, v4, v5])), (a1, .inr (8, [v6, v7, v8, v9, .int 0, v10, v11, v12, v13]))] sz) := by
  refine sh_I (by decide) (Nat.le_of_ble_eq_true rfl) ?_
  intro p e s m args below meth c A ls hx hb hr hml hown hlk hnm hsz hP hD hA hE hts hS hl htb
  have hown : s.vm.findClass RL = some m.cls := hown
  have hl : lv_has ls 4 [(0, .ref a0), (1, .int x0), (2, .ref b0)] := hl
  refine lv_aload_n hx hb dL_partHeat_0 rfl (lv_at hl 2 rfl) ?_
  refine lv_iconst (v := 0) hx hb dL_partHeat_1 (by decide) ?_
  refine lv_aload_n hx hb dL_partHeat_2 rfl (lv_at hl 0 rfl) ?_
  refine lv_iload_n hx hb dL_partHeat_3 rfl (lv_at hl 1 rfl) ?_
  refine cx_catch (isC := [0, 1]) (isR := []) (wr := []) (hp := []) (z := (0, 9, 12, 15)) (hq := [(0, 9, 15, 45)]) (name := "java/lang/IllegalStateException") (own := RL) (rx_V (ci := 14) (q0 := 0) (isC := [0, 1]) (wc := [(a0, .inr (14, [v0, v1, .ref a1, v2, v3, v4, v5])), (a1, .inr (8, [v6, v7, v8, v9, .int 0, v10, v11, v12, v13]))]) (As := [.int x0]) (rest := [.int 0, .ref b0]) (n := 1) hx hb hml hown hts hE hS hP hD hA hl.1 (k335_X9_partHeat l hst D cy g x0 a0 a1 (v0) (v1) (v2) (v3) (v4) (v5) (v6) (v7) (v8) (v9) (v10) (v11) (v12) (v13) s.heap.size ) rfl rfl rfl rfl rfl ax_238 rfl rfl ax_239 ⟨Nat.le_of_ble_eq_true rfl, Nat.le_of_ble_eq_true rfl⟩ rfl rfl (Nat.le_of_ble_eq_true rfl) dL_partHeat_4 ⟨(Nat.le_of_ble_eq_true rfl), (Nat.le_of_ble_eq_true rfl)⟩) hP hD hS hA hown hts hE htb rfl rfl rfl rfl (by decide) (fun z hz => by cases hz) (by decide) (by decide) tw_720 tw_721 (fun qx H locs hP hD hS => ?_)
  have hP : va_P D vwCl [] H := hP
  have hD : va_D A [] := hD
  refine lv_astore_n (lv' := [(3, .ref qx), (0, .ref a0), (1, .int x0), (2, .ref b0)]) hx hb dL_partHeat_12 rfl hl (Nat.le_of_ble_eq_true rfl) rfl (fun ls hl => ?_)
  refine lv_iconst (v := 1) hx hb dL_partHeat_13 (by decide) ?_
  exact en_z hx hb hr hlk hP hD hS rfl (fun _ => 0) (is := []) rfl rfl (Nat.le_of_ble_eq_true rfl) (Nat.le_of_ble_eq_true rfl) dL_partHeat_14
set_option maxHeartbeats 4000000 in
set_option maxRecDepth 100000 in
theorem k337_X10_told (l : Launch) (D : va_G) (cy : Nat → ClassId) (g : Nat → Nat) (x0 : Int32) (a0 : Nat) (v0 : Value) (v1 : Value) (v2 : Value) (v3 : Value) (v4 : Value) (v5 : Value) (v6 : Value) (v7 : Value) (v8 : Value) (v9 : Value) (v10 : Value) (v11 : Value) (v12 : Value) (v13 : Value) (v14 : Value) (v15 : Value) (v16 : Value) (v17 : Value) (v18 : Value) (v19 : Value) (v20 : Value) (v21 : Value) (v22 : Value) (v23 : Value) (v24 : Value) (v25 : Value) (sz : Nat)  : Met l yX10_told [.code yX10_told cX10_told 3 (some .int)] ({ frames := 1, cells := 0, slots := 0, locals := 22 }) (PC D cy g [(a0, .inr (15, [.int 0, v0, v1, v2, v3, v4, v5, v6, .null, v7, v8, v9, v10, v11, v12, v13, v14, v15, v16, v17, v18, v19, v20, v21, v22, v23, v24, v25]))] sz [.ref a0, .int x0, .int 3]) (QI D (-1) (fun ad => [(a0, .inr (15, [.int 1, v0, v1, v2, v3, v4, v5, v6, .null, v7, v8, v9, v10, v11, v12, v13, v14, v15, v16, v17, v18, v19, v20, v21, v22, v23, v24, v25]))]) (va_A [(a0, .inr (15, [.int 0, v0, v1, v2, v3, v4, v5, v6, .null, v7, v8, v9, v10, v11, v12, v13, v14, v15, v16, v17, v18, v19, v20, v21, v22, v23, v24, v25]))] sz)) 0 0 (va_A [(a0, .inr (15, [.int 0, v0, v1, v2, v3, v4, v5, v6, .null, v7, v8, v9, v10, v11, v12, v13, v14, v15, v16, v17, v18, v19, v20, v21, v22, v23, v24, v25]))] sz) := by
  refine st_I (by decide) (Nat.le_of_ble_eq_true rfl) ?_
  intro p e s m args below meth c A ls hx hb hr hml hown hlk hnm hsz hP hD hA hE hts hS hl
  have hown : s.vm.findClass RX10 = some m.cls := hown
  have hl : lv_has ls 3 [(0, .ref a0), (1, .int x0), (2, .int 3)] := hl
  refine lv_aload_n hx hb dX10_told_0 rfl (lv_at hl 0 rfl) ?_
  refine lv_aload_n hx hb dX10_told_1 rfl (lv_at hl 0 rfl) ?_
  refine va_get (D := D) (ci := 15) (v := .null) (C := RX10) (T := TX10) (N := 28) hx hb hts ax_29 hown hE.1 hP 0 rfl rfl 8 (by decide) (hts _ tw_698) (fun _ h9 => h9) rfl dX10_told_2 ?_
  refine lv_ifnonnullN hx hb dX10_told_5 ?_
  refine lv_iconst (v := 1) hx hb dX10_told_8 (by decide) ?_
  refine lv_goto (tgt := 13) hx hb dX10_told_9 (by decide) ?_
  refine lv_iconst (v := 1) hx hb dX10_told_13 (by decide) ?_
  refine ca_i (isC := [0]) (isR := []) (wr := []) (rn_V (ci := 15) (q0 := 0) (isC := [0]) (wc := [(a0, .inr (15, [.int 0, v0, v1, v2, v3, v4, v5, v6, .null, v7, v8, v9, v10, v11, v12, v13, v14, v15, v16, v17, v18, v19, v20, v21, v22, v23, v24, v25]))]) (As := [.int 1, .int 1]) (rest := []) (n := 2) hx hb hml hown hts hE hS hP hD hA hl.1 (k22_X10_fails l D cy g a0 (v0) (v1) (v2) (v3) (v4) (v5) (v6) (.null) (v7) (v8) (v9) (v10) (v11) (v12) (v13) (v14) (v15) (v16) (v17) (v18) (v19) (v20) (v21) (v22) (v23) (v24) (v25) s.heap.size ) rfl rfl rfl rfl rfl ax_41 rfl rfl ax_42 ⟨Nat.le_of_ble_eq_true rfl, Nat.le_of_ble_eq_true rfl⟩ rfl rfl (Nat.le_of_ble_eq_true rfl) dX10_told_14 ⟨(Nat.le_of_ble_eq_true rfl), (Nat.le_of_ble_eq_true rfl)⟩) hP hD hS hA rfl rfl rfl (by decide) (fun ad14 H locs hP hD hS => ?_)
  have hP : va_P D vwCl [(a0, .inr (15, [.int 1, v0, v1, v2, v3, v4, v5, v6, .null, v7, v8, v9, v10, v11, v12, v13, v14, v15, v16, v17, v18, v19, v20, v21, v22, v23, v24, v25]))] H := hP
  have hD : va_D A [(a0, .inr (15, [.int 1, v0, v1, v2, v3, v4, v5, v6, .null, v7, v8, v9, v10, v11, v12, v13, v14, v15, v16, v17, v18, v19, v20, v21, v22, v23, v24, v25]))] := hD
  refine lv_if_ne (tgt := 44) hx hb dX10_told_17 (by decide) (fun _ => ?_) (fun z => absurd z (by decide))
  refine lv_iconst (v := (-1)) hx hb dX10_told_44 (by decide) ?_
  refine lv_goto (tgt := 63) hx hb dX10_told_45 (by decide) ?_
  exact en_z hx hb hr hlk hP hD hS rfl (fun _ => 0) (is := [0]) rfl rfl (Nat.le_of_ble_eq_true rfl) (Nat.le_of_ble_eq_true rfl) dX10_told_63
set_option maxHeartbeats 4000000 in
set_option maxRecDepth 100000 in
theorem k338_X10_partHeat (l : Launch) (D : va_G) (cy : Nat → ClassId) (g : Nat → Nat) (x0 : Int32) (a0 : Nat) (v0 : Value) (v1 : Value) (v2 : Value) (v3 : Value) (v4 : Value) (v5 : Value) (v6 : Value) (v7 : Value) (v8 : Value) (v9 : Value) (v10 : Value) (v11 : Value) (v12 : Value) (v13 : Value) (v14 : Value) (v15 : Value) (v16 : Value) (v17 : Value) (v18 : Value) (v19 : Value) (v20 : Value) (v21 : Value) (v22 : Value) (v23 : Value) (v24 : Value) (v25 : Value) (v26 : Value) (sz : Nat)  : Met l yX10_partHeat [.code yX10_partHeat cX10_partHeat 2 (some .int)] ({ frames := 2, cells := 0, slots := 0, locals := 44 }) (PC D cy g [(a0, .inr (15, [v0, v1, v2, v3, v4, v5, v6, v7, .null, v8, v9, v10, v11, v12, v13, v14, v15, v16, v17, v18, v19, v20, v21, v22, v23, v24, v25, v26]))] sz [.ref a0, .int x0]) (QI D (-1) (fun ad => [(a0, .inr (15, [.int 1, v1, v2, v3, v4, v5, v6, v7, .null, v8, v9, v10, v11, v12, v13, v14, v15, v16, v17, v18, v19, v20, v21, v22, v23, v24, v25, v26]))]) (va_A [(a0, .inr (15, [v0, v1, v2, v3, v4, v5, v6, v7, .null, v8, v9, v10, v11, v12, v13, v14, v15, v16, v17, v18, v19, v20, v21, v22, v23, v24, v25, v26]))] sz)) 0 0 (va_A [(a0, .inr (15, [v0, v1, v2, v3, v4, v5, v6, v7, .null, v8, v9, v10, v11, v12, v13, v14, v15, v16, v17, v18, v19, v20, v21, v22, v23, v24, v25, v26]))] sz) := by
  refine st_I (by decide) (Nat.le_of_ble_eq_true rfl) ?_
  intro p e s m args below meth c A ls hx hb hr hml hown hlk hnm hsz hP hD hA hE hts hS hl
  have hown : s.vm.findClass RX10 = some m.cls := hown
  have hl : lv_has ls 2 [(0, .ref a0), (1, .int x0)] := hl
  refine lv_aload_n hx hb dX10_partHeat_0 rfl (lv_at hl 0 rfl) ?_
  refine ca_v (isC := [0]) (isR := []) (wr := []) (rn_V (ci := 15) (q0 := 0) (isC := [0]) (wc := [(a0, .inr (15, [v0, v1, v2, v3, v4, v5, v6, v7, .null, v8, v9, v10, v11, v12, v13, v14, v15, v16, v17, v18, v19, v20, v21, v22, v23, v24, v25, v26]))]) (As := []) (rest := []) (n := 0) hx hb hml hown hts hE hS hP hD hA hl.1 (k20_X10_begins l D cy g a0 (v0) (v1) (v2) (v3) (v4) (v5) (v6) (v7) (.null) (v8) (v9) (v10) (v11) (v12) (v13) (v14) (v15) (v16) (v17) (v18) (v19) (v20) (v21) (v22) (v23) (v24) (v25) (v26) s.heap.size ) rfl rfl rfl rfl rfl ax_37 rfl rfl ax_38 ⟨Nat.le_of_ble_eq_true rfl, Nat.le_of_ble_eq_true rfl⟩ rfl rfl (Nat.le_of_ble_eq_true rfl) dX10_partHeat_1 ⟨(Nat.le_of_ble_eq_true rfl), (Nat.le_of_ble_eq_true rfl)⟩) hP hD hS hA rfl rfl rfl (by decide) (fun ad1 H locs hP hD hS => ?_)
  have hP : va_P D vwCl [(a0, .inr (15, [.int 0, v1, v2, v3, v4, v5, v6, v7, .null, v8, v9, v10, v11, v12, v13, v14, v15, v16, v17, v18, v19, v20, v21, v22, v23, v24, v25, v26]))] H := hP
  have hD : va_D A [(a0, .inr (15, [.int 0, v1, v2, v3, v4, v5, v6, v7, .null, v8, v9, v10, v11, v12, v13, v14, v15, v16, v17, v18, v19, v20, v21, v22, v23, v24, v25, v26]))] := hD
  refine lv_aload_n hx hb dX10_partHeat_4 rfl (lv_at hl 0 rfl) ?_
  refine lv_iload_n hx hb dX10_partHeat_5 rfl (lv_at hl 1 rfl) ?_
  refine lv_iconst (v := 3) hx hb dX10_partHeat_6 (by decide) ?_
  refine ca_i (isC := [0]) (isR := []) (wr := []) (rn_V (ci := 15) (q0 := 0) (isC := [0]) (wc := [(a0, .inr (15, [.int 0, v1, v2, v3, v4, v5, v6, v7, .null, v8, v9, v10, v11, v12, v13, v14, v15, v16, v17, v18, v19, v20, v21, v22, v23, v24, v25, v26]))]) (As := [.int x0, .int 3]) (rest := []) (n := 2) hx hb hml hown hts hE hS hP hD hA hl.1 (k337_X10_told l D cy g x0 a0 (v1) (v2) (v3) (v4) (v5) (v6) (v7) (v8) (v9) (v10) (v11) (v12) (v13) (v14) (v15) (v16) (v17) (v18) (v19) (v20) (v21) (v22) (v23) (v24) (v25) (v26) H.size ) rfl rfl rfl rfl rfl ax_234 rfl rfl ax_235 ⟨Nat.le_of_ble_eq_true rfl, Nat.le_of_ble_eq_true rfl⟩ rfl rfl (Nat.le_of_ble_eq_true rfl) dX10_partHeat_7 ⟨(Nat.le_of_ble_eq_true rfl), (Nat.le_of_ble_eq_true rfl)⟩) hP hD hS hA rfl rfl rfl (by decide) (fun ad7 H locs hP hD hS => ?_)
  have hP : va_P D vwCl [(a0, .inr (15, [.int 1, v1, v2, v3, v4, v5, v6, v7, .null, v8, v9, v10, v11, v12, v13, v14, v15, v16, v17, v18, v19, v20, v21, v22, v23, v24, v25, v26]))] H := hP
  have hD : va_D A [(a0, .inr (15, [.int 1, v1, v2, v3, v4, v5, v6, v7, .null, v8, v9, v10, v11, v12, v13, v14, v15, v16, v17, v18, v19, v20, v21, v22, v23, v24, v25, v26]))] := hD
  exact en_z hx hb hr hlk hP hD hS rfl (fun _ => 0) (is := [0]) rfl rfl (Nat.le_of_ble_eq_true rfl) (Nat.le_of_ble_eq_true rfl) dX10_partHeat_10
set_option maxHeartbeats 4000000 in
set_option maxRecDepth 100000 in
theorem k339_X9_partLost (l : Launch) (hst : l.stackTraces = false) (D : va_G) (cy : Nat → ClassId) (g : Nat → Nat) (x0 : Int32) (a0 : Nat) (a1 : Nat) (v0 : Value) (v1 : Value) (v2 : Value) (v3 : Value) (v4 : Value) (v5 : Value) (v6 : Value) (v7 : Value) (v8 : Value) (v9 : Value) (v10 : Value) (v11 : Value) (v12 : Value) (v13 : Value) (sz : Nat)  : vx_Met l yX9_partLost [.code yX9_partLost cX9_partLost 2 (some .int)] ({ frames := 8, cells := 1, slots := 6, locals := 123 }) (PC D cy g [(a0, .inr (14, [v0, v1, .ref a1, v2, v3, v4, v5])), (a1, .inr (8, [v6, v7, v8, v9, .int 0, v10, v11, v12, v13]))] sz [.ref a0, .int x0]) QN (XE "java/lang/IllegalStateException" (va_A [(a0, .inr (14, [v0, v1, .ref a1, v2, v3, v4, v5])), (a1, .inr (8, [v6, v7, v8, v9, .int 0, v10, v11, v12, v13]))] sz)) 1 6 (va_A [(a0, .inr (14, [v0, v1, .ref a1, v2, v3, v4, v5])), (a1, .inr (8, [v6, v7, v8, v9, .int 0, v10, v11, v12, v13]))] sz) := by
  refine st_X (by decide) (Nat.le_of_ble_eq_true rfl) ?_
  intro p e s m args below meth c A ls hx hb hr hml hown hlk hnm hsz hP hD hA hE hts hS hl hout
  have hown : s.vm.findClass RX9 = some m.cls := hown
  have hl : lv_has ls 2 [(0, .ref a0), (1, .int x0)] := hl
  refine lv_aload_n hx hb dX9_partLost_0 rfl (lv_at hl 0 rfl) ?_
  refine lv_iload_n hx hb dX9_partLost_1 rfl (lv_at hl 1 rfl) ?_
  exact cx_out (isC := [0, 1]) (rx_V (ci := 14) (q0 := 0) (isC := [0, 1]) (wc := [(a0, .inr (14, [v0, v1, .ref a1, v2, v3, v4, v5])), (a1, .inr (8, [v6, v7, v8, v9, .int 0, v10, v11, v12, v13]))]) (As := [.int x0]) (rest := []) (n := 1) hx hb hml hown hts hE hS hP hD hA hl.1 (k330_X9_requireSolvedPart l hst D cy g x0 a0 a1 (v0) (v1) (v2) (v3) (v4) (v5) (v6) (v7) (v8) (v9) (v10) (v11) (v12) (v13) s.heap.size ) rfl rfl rfl rfl rfl ax_228 rfl rfl ax_229 ⟨Nat.le_of_ble_eq_true rfl, Nat.le_of_ble_eq_true rfl⟩ rfl rfl (Nat.le_of_ble_eq_true rfl) dX9_partLost_2 ⟨(Nat.le_of_ble_eq_true rfl), (Nat.le_of_ble_eq_true rfl)⟩) hD hS hA rfl hout hlk (Nat.le_of_ble_eq_true rfl) (Nat.le_of_ble_eq_true rfl)
set_option maxHeartbeats 4000000 in
set_option maxRecDepth 100000 in
theorem k340_L_partLost (l : Launch) (hst : l.stackTraces = false) (D : va_G) (cy : Nat → ClassId) (g : Nat → Nat) (x0 : Int32) (a0 : Nat) (a1 : Nat) (b0 : Nat) (v0 : Value) (v1 : Value) (v2 : Value) (v3 : Value) (v4 : Value) (v5 : Value) (v6 : Value) (v7 : Value) (v8 : Value) (v9 : Value) (v10 : Value) (v11 : Value) (v12 : Value) (v13 : Value) (sz : Nat)  : Met l yL_partLost [.codeWith yL_partLost cL_partLost 4 (some .int) [(0, 9, 12, 15), (0, 9, 15, 45)]] ({ frames := 9, cells := 1, slots := 6, locals := 144 }) (PC D cy g [(a0, .inr (14, [v0, v1, .ref a1, v2, v3, v4, v5])), (a1, .inr (8, [v6, v7, v8, v9, .int 0, v10, v11, v12, v13]))] sz [.ref a0, .int x0, .ref b0]) (QI D 1 (fun ad => []) (va_A [(a0, .inr (14, [v0, v1, .ref a1, v2, v3, v4, v5])), (a1, .inr (8, [v6, v7, v8, v9, .int 0, v10, v11, v12, v13]))] sz)) 1 6 (va_A [(a0, .inr (14, [v0, v1, .ref a1, v2, v3, v4, v5])), (a1, .inr (8, [v6, v7, v8, v9, .int 0, v10, v11, v12, v13]))] sz) := by
  refine sh_I (by decide) (Nat.le_of_ble_eq_true rfl) ?_
  intro p e s m args below meth c A ls hx hb hr hml hown hlk hnm hsz hP hD hA hE hts hS hl htb
  have hown : s.vm.findClass RL = some m.cls := hown
  have hl : lv_has ls 4 [(0, .ref a0), (1, .int x0), (2, .ref b0)] := hl
  refine lv_aload_n hx hb dL_partLost_0 rfl (lv_at hl 2 rfl) ?_
  refine lv_iconst (v := 0) hx hb dL_partLost_1 (by decide) ?_
  refine lv_aload_n hx hb dL_partLost_2 rfl (lv_at hl 0 rfl) ?_
  refine lv_iload_n hx hb dL_partLost_3 rfl (lv_at hl 1 rfl) ?_
  refine cx_catch (isC := [0, 1]) (isR := []) (wr := []) (hp := []) (z := (0, 9, 12, 15)) (hq := [(0, 9, 15, 45)]) (name := "java/lang/IllegalStateException") (own := RL) (rx_V (ci := 14) (q0 := 0) (isC := [0, 1]) (wc := [(a0, .inr (14, [v0, v1, .ref a1, v2, v3, v4, v5])), (a1, .inr (8, [v6, v7, v8, v9, .int 0, v10, v11, v12, v13]))]) (As := [.int x0]) (rest := [.int 0, .ref b0]) (n := 1) hx hb hml hown hts hE hS hP hD hA hl.1 (k339_X9_partLost l hst D cy g x0 a0 a1 (v0) (v1) (v2) (v3) (v4) (v5) (v6) (v7) (v8) (v9) (v10) (v11) (v12) (v13) s.heap.size ) rfl rfl rfl rfl rfl ax_244 rfl rfl ax_245 ⟨Nat.le_of_ble_eq_true rfl, Nat.le_of_ble_eq_true rfl⟩ rfl rfl (Nat.le_of_ble_eq_true rfl) dL_partLost_4 ⟨(Nat.le_of_ble_eq_true rfl), (Nat.le_of_ble_eq_true rfl)⟩) hP hD hS hA hown hts hE htb rfl rfl rfl rfl (by decide) (fun z hz => by cases hz) (by decide) (by decide) tw_720 tw_721 (fun qx H locs hP hD hS => ?_)
  have hP : va_P D vwCl [] H := hP
  have hD : va_D A [] := hD
  refine lv_astore_n (lv' := [(3, .ref qx), (0, .ref a0), (1, .int x0), (2, .ref b0)]) hx hb dL_partLost_12 rfl hl (Nat.le_of_ble_eq_true rfl) rfl (fun ls hl => ?_)
  refine lv_iconst (v := 1) hx hb dL_partLost_13 (by decide) ?_
  exact en_z hx hb hr hlk hP hD hS rfl (fun _ => 0) (is := []) rfl rfl (Nat.le_of_ble_eq_true rfl) (Nat.le_of_ble_eq_true rfl) dL_partLost_14
set_option maxHeartbeats 4000000 in
set_option maxRecDepth 100000 in
theorem k341_X10_told (l : Launch) (D : va_G) (cy : Nat → ClassId) (g : Nat → Nat) (x0 : Int32) (a0 : Nat) (v0 : Value) (v1 : Value) (v2 : Value) (v3 : Value) (v4 : Value) (v5 : Value) (v6 : Value) (v7 : Value) (v8 : Value) (v9 : Value) (v10 : Value) (v11 : Value) (v12 : Value) (v13 : Value) (v14 : Value) (v15 : Value) (v16 : Value) (v17 : Value) (v18 : Value) (v19 : Value) (v20 : Value) (v21 : Value) (v22 : Value) (v23 : Value) (v24 : Value) (v25 : Value) (sz : Nat)  : Met l yX10_told [.code yX10_told cX10_told 3 (some .int)] ({ frames := 1, cells := 0, slots := 0, locals := 22 }) (PC D cy g [(a0, .inr (15, [.int 0, v0, v1, v2, v3, v4, v5, v6, .null, v7, v8, v9, v10, v11, v12, v13, v14, v15, v16, v17, v18, v19, v20, v21, v22, v23, v24, v25]))] sz [.ref a0, .int x0, .int 4]) (QI D (-1) (fun ad => [(a0, .inr (15, [.int 1, v0, v1, v2, v3, v4, v5, v6, .null, v7, v8, v9, v10, v11, v12, v13, v14, v15, v16, v17, v18, v19, v20, v21, v22, v23, v24, v25]))]) (va_A [(a0, .inr (15, [.int 0, v0, v1, v2, v3, v4, v5, v6, .null, v7, v8, v9, v10, v11, v12, v13, v14, v15, v16, v17, v18, v19, v20, v21, v22, v23, v24, v25]))] sz)) 0 0 (va_A [(a0, .inr (15, [.int 0, v0, v1, v2, v3, v4, v5, v6, .null, v7, v8, v9, v10, v11, v12, v13, v14, v15, v16, v17, v18, v19, v20, v21, v22, v23, v24, v25]))] sz) := by
  refine st_I (by decide) (Nat.le_of_ble_eq_true rfl) ?_
  intro p e s m args below meth c A ls hx hb hr hml hown hlk hnm hsz hP hD hA hE hts hS hl
  have hown : s.vm.findClass RX10 = some m.cls := hown
  have hl : lv_has ls 3 [(0, .ref a0), (1, .int x0), (2, .int 4)] := hl
  refine lv_aload_n hx hb dX10_told_0 rfl (lv_at hl 0 rfl) ?_
  refine lv_aload_n hx hb dX10_told_1 rfl (lv_at hl 0 rfl) ?_
  refine va_get (D := D) (ci := 15) (v := .null) (C := RX10) (T := TX10) (N := 28) hx hb hts ax_29 hown hE.1 hP 0 rfl rfl 8 (by decide) (hts _ tw_698) (fun _ h9 => h9) rfl dX10_told_2 ?_
  refine lv_ifnonnullN hx hb dX10_told_5 ?_
  refine lv_iconst (v := 1) hx hb dX10_told_8 (by decide) ?_
  refine lv_goto (tgt := 13) hx hb dX10_told_9 (by decide) ?_
  refine lv_iconst (v := 1) hx hb dX10_told_13 (by decide) ?_
  refine ca_i (isC := [0]) (isR := []) (wr := []) (rn_V (ci := 15) (q0 := 0) (isC := [0]) (wc := [(a0, .inr (15, [.int 0, v0, v1, v2, v3, v4, v5, v6, .null, v7, v8, v9, v10, v11, v12, v13, v14, v15, v16, v17, v18, v19, v20, v21, v22, v23, v24, v25]))]) (As := [.int 1, .int 1]) (rest := []) (n := 2) hx hb hml hown hts hE hS hP hD hA hl.1 (k22_X10_fails l D cy g a0 (v0) (v1) (v2) (v3) (v4) (v5) (v6) (.null) (v7) (v8) (v9) (v10) (v11) (v12) (v13) (v14) (v15) (v16) (v17) (v18) (v19) (v20) (v21) (v22) (v23) (v24) (v25) s.heap.size ) rfl rfl rfl rfl rfl ax_41 rfl rfl ax_42 ⟨Nat.le_of_ble_eq_true rfl, Nat.le_of_ble_eq_true rfl⟩ rfl rfl (Nat.le_of_ble_eq_true rfl) dX10_told_14 ⟨(Nat.le_of_ble_eq_true rfl), (Nat.le_of_ble_eq_true rfl)⟩) hP hD hS hA rfl rfl rfl (by decide) (fun ad14 H locs hP hD hS => ?_)
  have hP : va_P D vwCl [(a0, .inr (15, [.int 1, v0, v1, v2, v3, v4, v5, v6, .null, v7, v8, v9, v10, v11, v12, v13, v14, v15, v16, v17, v18, v19, v20, v21, v22, v23, v24, v25]))] H := hP
  have hD : va_D A [(a0, .inr (15, [.int 1, v0, v1, v2, v3, v4, v5, v6, .null, v7, v8, v9, v10, v11, v12, v13, v14, v15, v16, v17, v18, v19, v20, v21, v22, v23, v24, v25]))] := hD
  refine lv_if_ne (tgt := 44) hx hb dX10_told_17 (by decide) (fun _ => ?_) (fun z => absurd z (by decide))
  refine lv_iconst (v := (-1)) hx hb dX10_told_44 (by decide) ?_
  refine lv_goto (tgt := 63) hx hb dX10_told_45 (by decide) ?_
  exact en_z hx hb hr hlk hP hD hS rfl (fun _ => 0) (is := [0]) rfl rfl (Nat.le_of_ble_eq_true rfl) (Nat.le_of_ble_eq_true rfl) dX10_told_63
set_option maxHeartbeats 4000000 in
set_option maxRecDepth 100000 in
theorem k342_X10_partLost (l : Launch) (D : va_G) (cy : Nat → ClassId) (g : Nat → Nat) (x0 : Int32) (a0 : Nat) (v0 : Value) (v1 : Value) (v2 : Value) (v3 : Value) (v4 : Value) (v5 : Value) (v6 : Value) (v7 : Value) (v8 : Value) (v9 : Value) (v10 : Value) (v11 : Value) (v12 : Value) (v13 : Value) (v14 : Value) (v15 : Value) (v16 : Value) (v17 : Value) (v18 : Value) (v19 : Value) (v20 : Value) (v21 : Value) (v22 : Value) (v23 : Value) (v24 : Value) (v25 : Value) (v26 : Value) (sz : Nat)  : Met l yX10_partLost [.code yX10_partLost cX10_partLost 2 (some .int)] ({ frames := 2, cells := 0, slots := 0, locals := 44 }) (PC D cy g [(a0, .inr (15, [v0, v1, v2, v3, v4, v5, v6, v7, .null, v8, v9, v10, v11, v12, v13, v14, v15, v16, v17, v18, v19, v20, v21, v22, v23, v24, v25, v26]))] sz [.ref a0, .int x0]) (QI D (-1) (fun ad => [(a0, .inr (15, [.int 1, v1, v2, v3, v4, v5, v6, v7, .null, v8, v9, v10, v11, v12, v13, v14, v15, v16, v17, v18, v19, v20, v21, v22, v23, v24, v25, v26]))]) (va_A [(a0, .inr (15, [v0, v1, v2, v3, v4, v5, v6, v7, .null, v8, v9, v10, v11, v12, v13, v14, v15, v16, v17, v18, v19, v20, v21, v22, v23, v24, v25, v26]))] sz)) 0 0 (va_A [(a0, .inr (15, [v0, v1, v2, v3, v4, v5, v6, v7, .null, v8, v9, v10, v11, v12, v13, v14, v15, v16, v17, v18, v19, v20, v21, v22, v23, v24, v25, v26]))] sz) := by
  refine st_I (by decide) (Nat.le_of_ble_eq_true rfl) ?_
  intro p e s m args below meth c A ls hx hb hr hml hown hlk hnm hsz hP hD hA hE hts hS hl
  have hown : s.vm.findClass RX10 = some m.cls := hown
  have hl : lv_has ls 2 [(0, .ref a0), (1, .int x0)] := hl
  refine lv_aload_n hx hb dX10_partLost_0 rfl (lv_at hl 0 rfl) ?_
  refine ca_v (isC := [0]) (isR := []) (wr := []) (rn_V (ci := 15) (q0 := 0) (isC := [0]) (wc := [(a0, .inr (15, [v0, v1, v2, v3, v4, v5, v6, v7, .null, v8, v9, v10, v11, v12, v13, v14, v15, v16, v17, v18, v19, v20, v21, v22, v23, v24, v25, v26]))]) (As := []) (rest := []) (n := 0) hx hb hml hown hts hE hS hP hD hA hl.1 (k20_X10_begins l D cy g a0 (v0) (v1) (v2) (v3) (v4) (v5) (v6) (v7) (.null) (v8) (v9) (v10) (v11) (v12) (v13) (v14) (v15) (v16) (v17) (v18) (v19) (v20) (v21) (v22) (v23) (v24) (v25) (v26) s.heap.size ) rfl rfl rfl rfl rfl ax_37 rfl rfl ax_38 ⟨Nat.le_of_ble_eq_true rfl, Nat.le_of_ble_eq_true rfl⟩ rfl rfl (Nat.le_of_ble_eq_true rfl) dX10_partLost_1 ⟨(Nat.le_of_ble_eq_true rfl), (Nat.le_of_ble_eq_true rfl)⟩) hP hD hS hA rfl rfl rfl (by decide) (fun ad1 H locs hP hD hS => ?_)
  have hP : va_P D vwCl [(a0, .inr (15, [.int 0, v1, v2, v3, v4, v5, v6, v7, .null, v8, v9, v10, v11, v12, v13, v14, v15, v16, v17, v18, v19, v20, v21, v22, v23, v24, v25, v26]))] H := hP
  have hD : va_D A [(a0, .inr (15, [.int 0, v1, v2, v3, v4, v5, v6, v7, .null, v8, v9, v10, v11, v12, v13, v14, v15, v16, v17, v18, v19, v20, v21, v22, v23, v24, v25, v26]))] := hD
  refine lv_aload_n hx hb dX10_partLost_4 rfl (lv_at hl 0 rfl) ?_
  refine lv_iload_n hx hb dX10_partLost_5 rfl (lv_at hl 1 rfl) ?_
  refine lv_iconst (v := 4) hx hb dX10_partLost_6 (by decide) ?_
  refine ca_i (isC := [0]) (isR := []) (wr := []) (rn_V (ci := 15) (q0 := 0) (isC := [0]) (wc := [(a0, .inr (15, [.int 0, v1, v2, v3, v4, v5, v6, v7, .null, v8, v9, v10, v11, v12, v13, v14, v15, v16, v17, v18, v19, v20, v21, v22, v23, v24, v25, v26]))]) (As := [.int x0, .int 4]) (rest := []) (n := 2) hx hb hml hown hts hE hS hP hD hA hl.1 (k341_X10_told l D cy g x0 a0 (v1) (v2) (v3) (v4) (v5) (v6) (v7) (v8) (v9) (v10) (v11) (v12) (v13) (v14) (v15) (v16) (v17) (v18) (v19) (v20) (v21) (v22) (v23) (v24) (v25) (v26) H.size ) rfl rfl rfl rfl rfl ax_234 rfl rfl ax_235 ⟨Nat.le_of_ble_eq_true rfl, Nat.le_of_ble_eq_true rfl⟩ rfl rfl (Nat.le_of_ble_eq_true rfl) dX10_partLost_7 ⟨(Nat.le_of_ble_eq_true rfl), (Nat.le_of_ble_eq_true rfl)⟩) hP hD hS hA rfl rfl rfl (by decide) (fun ad7 H locs hP hD hS => ?_)
  have hP : va_P D vwCl [(a0, .inr (15, [.int 1, v1, v2, v3, v4, v5, v6, v7, .null, v8, v9, v10, v11, v12, v13, v14, v15, v16, v17, v18, v19, v20, v21, v22, v23, v24, v25, v26]))] H := hP
  have hD : va_D A [(a0, .inr (15, [.int 1, v1, v2, v3, v4, v5, v6, v7, .null, v8, v9, v10, v11, v12, v13, v14, v15, v16, v17, v18, v19, v20, v21, v22, v23, v24, v25, v26]))] := hD
  exact en_z hx hb hr hlk hP hD hS rfl (fun _ => 0) (is := [0]) rfl rfl (Nat.le_of_ble_eq_true rfl) (Nat.le_of_ble_eq_true rfl) dX10_partLost_10
set_option maxHeartbeats 4000000 in
set_option maxRecDepth 100000 in
theorem k343_X9_pressureAhead (l : Launch) (hst : l.stackTraces = false) (D : va_G) (cy : Nat → ClassId) (g : Nat → Nat) (x0 : Int32) (a0 : Nat) (a1 : Nat) (v0 : Value) (v1 : Value) (v2 : Value) (v3 : Value) (v4 : Value) (v5 : Value) (v6 : Value) (v7 : Value) (v8 : Value) (v9 : Value) (v10 : Value) (v11 : Value) (v12 : Value) (v13 : Value) (sz : Nat)  : vx_Met l yX9_pressureAhead [.code yX9_pressureAhead cX9_pressureAhead 2 (some .int)] ({ frames := 8, cells := 1, slots := 6, locals := 123 }) (PC D cy g [(a0, .inr (14, [v0, v1, .ref a1, v2, v3, v4, v5])), (a1, .inr (8, [v6, v7, v8, v9, .int 0, v10, v11, v12, v13]))] sz [.ref a0, .int x0]) QN (XE "java/lang/IllegalStateException" (va_A [(a0, .inr (14, [v0, v1, .ref a1, v2, v3, v4, v5])), (a1, .inr (8, [v6, v7, v8, v9, .int 0, v10, v11, v12, v13]))] sz)) 1 6 (va_A [(a0, .inr (14, [v0, v1, .ref a1, v2, v3, v4, v5])), (a1, .inr (8, [v6, v7, v8, v9, .int 0, v10, v11, v12, v13]))] sz) := by
  refine st_X (by decide) (Nat.le_of_ble_eq_true rfl) ?_
  intro p e s m args below meth c A ls hx hb hr hml hown hlk hnm hsz hP hD hA hE hts hS hl hout
  have hown : s.vm.findClass RX9 = some m.cls := hown
  have hl : lv_has ls 2 [(0, .ref a0), (1, .int x0)] := hl
  refine lv_aload_n hx hb dX9_pressureAhead_0 rfl (lv_at hl 0 rfl) ?_
  refine lv_iload_n hx hb dX9_pressureAhead_1 rfl (lv_at hl 1 rfl) ?_
  exact cx_out (isC := [0, 1]) (rx_V (ci := 14) (q0 := 0) (isC := [0, 1]) (wc := [(a0, .inr (14, [v0, v1, .ref a1, v2, v3, v4, v5])), (a1, .inr (8, [v6, v7, v8, v9, .int 0, v10, v11, v12, v13]))]) (As := [.int x0]) (rest := []) (n := 1) hx hb hml hown hts hE hS hP hD hA hl.1 (k330_X9_requireSolvedPart l hst D cy g x0 a0 a1 (v0) (v1) (v2) (v3) (v4) (v5) (v6) (v7) (v8) (v9) (v10) (v11) (v12) (v13) s.heap.size ) rfl rfl rfl rfl rfl ax_228 rfl rfl ax_229 ⟨Nat.le_of_ble_eq_true rfl, Nat.le_of_ble_eq_true rfl⟩ rfl rfl (Nat.le_of_ble_eq_true rfl) dX9_pressureAhead_2 ⟨(Nat.le_of_ble_eq_true rfl), (Nat.le_of_ble_eq_true rfl)⟩) hD hS hA rfl hout hlk (Nat.le_of_ble_eq_true rfl) (Nat.le_of_ble_eq_true rfl)
set_option maxHeartbeats 4000000 in
set_option maxRecDepth 100000 in
theorem k344_L_pressureAhead (l : Launch) (hst : l.stackTraces = false) (D : va_G) (cy : Nat → ClassId) (g : Nat → Nat) (x0 : Int32) (a0 : Nat) (a1 : Nat) (b0 : Nat) (v0 : Value) (v1 : Value) (v2 : Value) (v3 : Value) (v4 : Value) (v5 : Value) (v6 : Value) (v7 : Value) (v8 : Value) (v9 : Value) (v10 : Value) (v11 : Value) (v12 : Value) (v13 : Value) (sz : Nat)  : Met l yL_pressureAhead [.codeWith yL_pressureAhead cL_pressureAhead 4 (some .int) [(0, 9, 12, 15), (0, 9, 15, 45)]] ({ frames := 9, cells := 1, slots := 6, locals := 144 }) (PC D cy g [(a0, .inr (14, [v0, v1, .ref a1, v2, v3, v4, v5])), (a1, .inr (8, [v6, v7, v8, v9, .int 0, v10, v11, v12, v13]))] sz [.ref a0, .int x0, .ref b0]) (QI D 1 (fun ad => []) (va_A [(a0, .inr (14, [v0, v1, .ref a1, v2, v3, v4, v5])), (a1, .inr (8, [v6, v7, v8, v9, .int 0, v10, v11, v12, v13]))] sz)) 1 6 (va_A [(a0, .inr (14, [v0, v1, .ref a1, v2, v3, v4, v5])), (a1, .inr (8, [v6, v7, v8, v9, .int 0, v10, v11, v12, v13]))] sz) := by
  refine sh_I (by decide) (Nat.le_of_ble_eq_true rfl) ?_
  intro p e s m args below meth c A ls hx hb hr hml hown hlk hnm hsz hP hD hA hE hts hS hl htb
  have hown : s.vm.findClass RL = some m.cls := hown
  have hl : lv_has ls 4 [(0, .ref a0), (1, .int x0), (2, .ref b0)] := hl
  refine lv_aload_n hx hb dL_pressureAhead_0 rfl (lv_at hl 2 rfl) ?_
  refine lv_iconst (v := 0) hx hb dL_pressureAhead_1 (by decide) ?_
  refine lv_aload_n hx hb dL_pressureAhead_2 rfl (lv_at hl 0 rfl) ?_
  refine lv_iload_n hx hb dL_pressureAhead_3 rfl (lv_at hl 1 rfl) ?_
  refine cx_catch (isC := [0, 1]) (isR := []) (wr := []) (hp := []) (z := (0, 9, 12, 15)) (hq := [(0, 9, 15, 45)]) (name := "java/lang/IllegalStateException") (own := RL) (rx_V (ci := 14) (q0 := 0) (isC := [0, 1]) (wc := [(a0, .inr (14, [v0, v1, .ref a1, v2, v3, v4, v5])), (a1, .inr (8, [v6, v7, v8, v9, .int 0, v10, v11, v12, v13]))]) (As := [.int x0]) (rest := [.int 0, .ref b0]) (n := 1) hx hb hml hown hts hE hS hP hD hA hl.1 (k343_X9_pressureAhead l hst D cy g x0 a0 a1 (v0) (v1) (v2) (v3) (v4) (v5) (v6) (v7) (v8) (v9) (v10) (v11) (v12) (v13) s.heap.size ) rfl rfl rfl rfl rfl ax_250 rfl rfl ax_251 ⟨Nat.le_of_ble_eq_true rfl, Nat.le_of_ble_eq_true rfl⟩ rfl rfl (Nat.le_of_ble_eq_true rfl) dL_pressureAhead_4 ⟨(Nat.le_of_ble_eq_true rfl), (Nat.le_of_ble_eq_true rfl)⟩) hP hD hS hA hown hts hE htb rfl rfl rfl rfl (by decide) (fun z hz => by cases hz) (by decide) (by decide) tw_720 tw_721 (fun qx H locs hP hD hS => ?_)
  have hP : va_P D vwCl [] H := hP
  have hD : va_D A [] := hD
  refine lv_astore_n (lv' := [(3, .ref qx), (0, .ref a0), (1, .int x0), (2, .ref b0)]) hx hb dL_pressureAhead_12 rfl hl (Nat.le_of_ble_eq_true rfl) rfl (fun ls hl => ?_)
  refine lv_iconst (v := 1) hx hb dL_pressureAhead_13 (by decide) ?_
  exact en_z hx hb hr hlk hP hD hS rfl (fun _ => 0) (is := []) rfl rfl (Nat.le_of_ble_eq_true rfl) (Nat.le_of_ble_eq_true rfl) dL_pressureAhead_14
set_option maxHeartbeats 4000000 in
set_option maxRecDepth 100000 in
theorem k345_X10_told (l : Launch) (D : va_G) (cy : Nat → ClassId) (g : Nat → Nat) (x0 : Int32) (a0 : Nat) (v0 : Value) (v1 : Value) (v2 : Value) (v3 : Value) (v4 : Value) (v5 : Value) (v6 : Value) (v7 : Value) (v8 : Value) (v9 : Value) (v10 : Value) (v11 : Value) (v12 : Value) (v13 : Value) (v14 : Value) (v15 : Value) (v16 : Value) (v17 : Value) (v18 : Value) (v19 : Value) (v20 : Value) (v21 : Value) (v22 : Value) (v23 : Value) (v24 : Value) (v25 : Value) (sz : Nat)  : Met l yX10_told [.code yX10_told cX10_told 3 (some .int)] ({ frames := 1, cells := 0, slots := 0, locals := 22 }) (PC D cy g [(a0, .inr (15, [.int 0, v0, v1, v2, v3, v4, v5, v6, .null, v7, v8, v9, v10, v11, v12, v13, v14, v15, v16, v17, v18, v19, v20, v21, v22, v23, v24, v25]))] sz [.ref a0, .int x0, .int 0]) (QI D (-1) (fun ad => [(a0, .inr (15, [.int 1, v0, v1, v2, v3, v4, v5, v6, .null, v7, v8, v9, v10, v11, v12, v13, v14, v15, v16, v17, v18, v19, v20, v21, v22, v23, v24, v25]))]) (va_A [(a0, .inr (15, [.int 0, v0, v1, v2, v3, v4, v5, v6, .null, v7, v8, v9, v10, v11, v12, v13, v14, v15, v16, v17, v18, v19, v20, v21, v22, v23, v24, v25]))] sz)) 0 0 (va_A [(a0, .inr (15, [.int 0, v0, v1, v2, v3, v4, v5, v6, .null, v7, v8, v9, v10, v11, v12, v13, v14, v15, v16, v17, v18, v19, v20, v21, v22, v23, v24, v25]))] sz) := by
  refine st_I (by decide) (Nat.le_of_ble_eq_true rfl) ?_
  intro p e s m args below meth c A ls hx hb hr hml hown hlk hnm hsz hP hD hA hE hts hS hl
  have hown : s.vm.findClass RX10 = some m.cls := hown
  have hl : lv_has ls 3 [(0, .ref a0), (1, .int x0), (2, .int 0)] := hl
  refine lv_aload_n hx hb dX10_told_0 rfl (lv_at hl 0 rfl) ?_
  refine lv_aload_n hx hb dX10_told_1 rfl (lv_at hl 0 rfl) ?_
  refine va_get (D := D) (ci := 15) (v := .null) (C := RX10) (T := TX10) (N := 28) hx hb hts ax_29 hown hE.1 hP 0 rfl rfl 8 (by decide) (hts _ tw_698) (fun _ h9 => h9) rfl dX10_told_2 ?_
  refine lv_ifnonnullN hx hb dX10_told_5 ?_
  refine lv_iconst (v := 1) hx hb dX10_told_8 (by decide) ?_
  refine lv_goto (tgt := 13) hx hb dX10_told_9 (by decide) ?_
  refine lv_iconst (v := 1) hx hb dX10_told_13 (by decide) ?_
  refine ca_i (isC := [0]) (isR := []) (wr := []) (rn_V (ci := 15) (q0 := 0) (isC := [0]) (wc := [(a0, .inr (15, [.int 0, v0, v1, v2, v3, v4, v5, v6, .null, v7, v8, v9, v10, v11, v12, v13, v14, v15, v16, v17, v18, v19, v20, v21, v22, v23, v24, v25]))]) (As := [.int 1, .int 1]) (rest := []) (n := 2) hx hb hml hown hts hE hS hP hD hA hl.1 (k22_X10_fails l D cy g a0 (v0) (v1) (v2) (v3) (v4) (v5) (v6) (.null) (v7) (v8) (v9) (v10) (v11) (v12) (v13) (v14) (v15) (v16) (v17) (v18) (v19) (v20) (v21) (v22) (v23) (v24) (v25) s.heap.size ) rfl rfl rfl rfl rfl ax_41 rfl rfl ax_42 ⟨Nat.le_of_ble_eq_true rfl, Nat.le_of_ble_eq_true rfl⟩ rfl rfl (Nat.le_of_ble_eq_true rfl) dX10_told_14 ⟨(Nat.le_of_ble_eq_true rfl), (Nat.le_of_ble_eq_true rfl)⟩) hP hD hS hA rfl rfl rfl (by decide) (fun ad14 H locs hP hD hS => ?_)
  have hP : va_P D vwCl [(a0, .inr (15, [.int 1, v0, v1, v2, v3, v4, v5, v6, .null, v7, v8, v9, v10, v11, v12, v13, v14, v15, v16, v17, v18, v19, v20, v21, v22, v23, v24, v25]))] H := hP
  have hD : va_D A [(a0, .inr (15, [.int 1, v0, v1, v2, v3, v4, v5, v6, .null, v7, v8, v9, v10, v11, v12, v13, v14, v15, v16, v17, v18, v19, v20, v21, v22, v23, v24, v25]))] := hD
  refine lv_if_ne (tgt := 44) hx hb dX10_told_17 (by decide) (fun _ => ?_) (fun z => absurd z (by decide))
  refine lv_iconst (v := (-1)) hx hb dX10_told_44 (by decide) ?_
  refine lv_goto (tgt := 63) hx hb dX10_told_45 (by decide) ?_
  exact en_z hx hb hr hlk hP hD hS rfl (fun _ => 0) (is := [0]) rfl rfl (Nat.le_of_ble_eq_true rfl) (Nat.le_of_ble_eq_true rfl) dX10_told_63
set_option maxHeartbeats 4000000 in
set_option maxRecDepth 100000 in
theorem k346_X10_pressureAhead (l : Launch) (D : va_G) (cy : Nat → ClassId) (g : Nat → Nat) (x0 : Int32) (a0 : Nat) (v0 : Value) (v1 : Value) (v2 : Value) (v3 : Value) (v4 : Value) (v5 : Value) (v6 : Value) (v7 : Value) (v8 : Value) (v9 : Value) (v10 : Value) (v11 : Value) (v12 : Value) (v13 : Value) (v14 : Value) (v15 : Value) (v16 : Value) (v17 : Value) (v18 : Value) (v19 : Value) (v20 : Value) (v21 : Value) (v22 : Value) (v23 : Value) (v24 : Value) (v25 : Value) (v26 : Value) (sz : Nat)  : Met l yX10_pressureAhead [.code yX10_pressureAhead cX10_pressureAhead 2 (some .int)] ({ frames := 2, cells := 0, slots := 0, locals := 44 }) (PC D cy g [(a0, .inr (15, [v0, v1, v2, v3, v4, v5, v6, v7, .null, v8, v9, v10, v11, v12, v13, v14, v15, v16, v17, v18, v19, v20, v21, v22, v23, v24, v25, v26]))] sz [.ref a0, .int x0]) (QI D (-1) (fun ad => [(a0, .inr (15, [.int 1, v1, v2, v3, v4, v5, v6, v7, .null, v8, v9, v10, v11, v12, v13, v14, v15, v16, v17, v18, v19, v20, v21, v22, v23, v24, v25, v26]))]) (va_A [(a0, .inr (15, [v0, v1, v2, v3, v4, v5, v6, v7, .null, v8, v9, v10, v11, v12, v13, v14, v15, v16, v17, v18, v19, v20, v21, v22, v23, v24, v25, v26]))] sz)) 0 0 (va_A [(a0, .inr (15, [v0, v1, v2, v3, v4, v5, v6, v7, .null, v8, v9, v10, v11, v12, v13, v14, v15, v16, v17, v18, v19, v20, v21, v22, v23, v24, v25, v26]))] sz) := by
  refine st_I (by decide) (Nat.le_of_ble_eq_true rfl) ?_
  intro p e s m args below meth c A ls hx hb hr hml hown hlk hnm hsz hP hD hA hE hts hS hl
  have hown : s.vm.findClass RX10 = some m.cls := hown
  have hl : lv_has ls 2 [(0, .ref a0), (1, .int x0)] := hl
  refine lv_aload_n hx hb dX10_pressureAhead_0 rfl (lv_at hl 0 rfl) ?_
  refine ca_v (isC := [0]) (isR := []) (wr := []) (rn_V (ci := 15) (q0 := 0) (isC := [0]) (wc := [(a0, .inr (15, [v0, v1, v2, v3, v4, v5, v6, v7, .null, v8, v9, v10, v11, v12, v13, v14, v15, v16, v17, v18, v19, v20, v21, v22, v23, v24, v25, v26]))]) (As := []) (rest := []) (n := 0) hx hb hml hown hts hE hS hP hD hA hl.1 (k20_X10_begins l D cy g a0 (v0) (v1) (v2) (v3) (v4) (v5) (v6) (v7) (.null) (v8) (v9) (v10) (v11) (v12) (v13) (v14) (v15) (v16) (v17) (v18) (v19) (v20) (v21) (v22) (v23) (v24) (v25) (v26) s.heap.size ) rfl rfl rfl rfl rfl ax_37 rfl rfl ax_38 ⟨Nat.le_of_ble_eq_true rfl, Nat.le_of_ble_eq_true rfl⟩ rfl rfl (Nat.le_of_ble_eq_true rfl) dX10_pressureAhead_1 ⟨(Nat.le_of_ble_eq_true rfl), (Nat.le_of_ble_eq_true rfl)⟩) hP hD hS hA rfl rfl rfl (by decide) (fun ad1 H locs hP hD hS => ?_)
  have hP : va_P D vwCl [(a0, .inr (15, [.int 0, v1, v2, v3, v4, v5, v6, v7, .null, v8, v9, v10, v11, v12, v13, v14, v15, v16, v17, v18, v19, v20, v21, v22, v23, v24, v25, v26]))] H := hP
  have hD : va_D A [(a0, .inr (15, [.int 0, v1, v2, v3, v4, v5, v6, v7, .null, v8, v9, v10, v11, v12, v13, v14, v15, v16, v17, v18, v19, v20, v21, v22, v23, v24, v25, v26]))] := hD
  refine lv_aload_n hx hb dX10_pressureAhead_4 rfl (lv_at hl 0 rfl) ?_
  refine lv_iload_n hx hb dX10_pressureAhead_5 rfl (lv_at hl 1 rfl) ?_
  refine lv_iconst (v := 0) hx hb dX10_pressureAhead_6 (by decide) ?_
  refine ca_i (isC := [0]) (isR := []) (wr := []) (rn_V (ci := 15) (q0 := 0) (isC := [0]) (wc := [(a0, .inr (15, [.int 0, v1, v2, v3, v4, v5, v6, v7, .null, v8, v9, v10, v11, v12, v13, v14, v15, v16, v17, v18, v19, v20, v21, v22, v23, v24, v25, v26]))]) (As := [.int x0, .int 0]) (rest := []) (n := 2) hx hb hml hown hts hE hS hP hD hA hl.1 (k345_X10_told l D cy g x0 a0 (v1) (v2) (v3) (v4) (v5) (v6) (v7) (v8) (v9) (v10) (v11) (v12) (v13) (v14) (v15) (v16) (v17) (v18) (v19) (v20) (v21) (v22) (v23) (v24) (v25) (v26) H.size ) rfl rfl rfl rfl rfl ax_234 rfl rfl ax_235 ⟨Nat.le_of_ble_eq_true rfl, Nat.le_of_ble_eq_true rfl⟩ rfl rfl (Nat.le_of_ble_eq_true rfl) dX10_pressureAhead_7 ⟨(Nat.le_of_ble_eq_true rfl), (Nat.le_of_ble_eq_true rfl)⟩) hP hD hS hA rfl rfl rfl (by decide) (fun ad7 H locs hP hD hS => ?_)
  have hP : va_P D vwCl [(a0, .inr (15, [.int 1, v1, v2, v3, v4, v5, v6, v7, .null, v8, v9, v10, v11, v12, v13, v14, v15, v16, v17, v18, v19, v20, v21, v22, v23, v24, v25, v26]))] H := hP
  have hD : va_D A [(a0, .inr (15, [.int 1, v1, v2, v3, v4, v5, v6, v7, .null, v8, v9, v10, v11, v12, v13, v14, v15, v16, v17, v18, v19, v20, v21, v22, v23, v24, v25, v26]))] := hD
  exact en_z hx hb hr hlk hP hD hS rfl (fun _ => 0) (is := [0]) rfl rfl (Nat.le_of_ble_eq_true rfl) (Nat.le_of_ble_eq_true rfl) dX10_pressureAhead_10
set_option maxHeartbeats 4000000 in
set_option maxRecDepth 100000 in
theorem k347_X9_heatAhead (l : Launch) (hst : l.stackTraces = false) (D : va_G) (cy : Nat → ClassId) (g : Nat → Nat) (x0 : Int32) (a0 : Nat) (a1 : Nat) (v0 : Value) (v1 : Value) (v2 : Value) (v3 : Value) (v4 : Value) (v5 : Value) (v6 : Value) (v7 : Value) (v8 : Value) (v9 : Value) (v10 : Value) (v11 : Value) (v12 : Value) (v13 : Value) (sz : Nat)  : vx_Met l yX9_heatAhead [.code yX9_heatAhead cX9_heatAhead 2 (some .int)] ({ frames := 8, cells := 1, slots := 6, locals := 123 }) (PC D cy g [(a0, .inr (14, [v0, v1, .ref a1, v2, v3, v4, v5])), (a1, .inr (8, [v6, v7, v8, v9, .int 0, v10, v11, v12, v13]))] sz [.ref a0, .int x0]) QN (XE "java/lang/IllegalStateException" (va_A [(a0, .inr (14, [v0, v1, .ref a1, v2, v3, v4, v5])), (a1, .inr (8, [v6, v7, v8, v9, .int 0, v10, v11, v12, v13]))] sz)) 1 6 (va_A [(a0, .inr (14, [v0, v1, .ref a1, v2, v3, v4, v5])), (a1, .inr (8, [v6, v7, v8, v9, .int 0, v10, v11, v12, v13]))] sz) := by
  refine st_X (by decide) (Nat.le_of_ble_eq_true rfl) ?_
  intro p e s m args below meth c A ls hx hb hr hml hown hlk hnm hsz hP hD hA hE hts hS hl hout
  have hown : s.vm.findClass RX9 = some m.cls := hown
  have hl : lv_has ls 2 [(0, .ref a0), (1, .int x0)] := hl
  refine lv_aload_n hx hb dX9_heatAhead_0 rfl (lv_at hl 0 rfl) ?_
  refine lv_iload_n hx hb dX9_heatAhead_1 rfl (lv_at hl 1 rfl) ?_
  exact cx_out (isC := [0, 1]) (rx_V (ci := 14) (q0 := 0) (isC := [0, 1]) (wc := [(a0, .inr (14, [v0, v1, .ref a1, v2, v3, v4, v5])), (a1, .inr (8, [v6, v7, v8, v9, .int 0, v10, v11, v12, v13]))]) (As := [.int x0]) (rest := []) (n := 1) hx hb hml hown hts hE hS hP hD hA hl.1 (k330_X9_requireSolvedPart l hst D cy g x0 a0 a1 (v0) (v1) (v2) (v3) (v4) (v5) (v6) (v7) (v8) (v9) (v10) (v11) (v12) (v13) s.heap.size ) rfl rfl rfl rfl rfl ax_228 rfl rfl ax_229 ⟨Nat.le_of_ble_eq_true rfl, Nat.le_of_ble_eq_true rfl⟩ rfl rfl (Nat.le_of_ble_eq_true rfl) dX9_heatAhead_2 ⟨(Nat.le_of_ble_eq_true rfl), (Nat.le_of_ble_eq_true rfl)⟩) hD hS hA rfl hout hlk (Nat.le_of_ble_eq_true rfl) (Nat.le_of_ble_eq_true rfl)
set_option maxHeartbeats 4000000 in
set_option maxRecDepth 100000 in
theorem k348_L_heatAhead (l : Launch) (hst : l.stackTraces = false) (D : va_G) (cy : Nat → ClassId) (g : Nat → Nat) (x0 : Int32) (a0 : Nat) (a1 : Nat) (b0 : Nat) (v0 : Value) (v1 : Value) (v2 : Value) (v3 : Value) (v4 : Value) (v5 : Value) (v6 : Value) (v7 : Value) (v8 : Value) (v9 : Value) (v10 : Value) (v11 : Value) (v12 : Value) (v13 : Value) (sz : Nat)  : Met l yL_heatAhead [.codeWith yL_heatAhead cL_heatAhead 4 (some .int) [(0, 9, 12, 15), (0, 9, 15, 45)]] ({ frames := 9, cells := 1, slots := 6, locals := 144 }) (PC D cy g [(a0, .inr (14, [v0, v1, .ref a1, v2, v3, v4, v5])), (a1, .inr (8, [v6, v7, v8, v9, .int 0, v10, v11, v12, v13]))] sz [.ref a0, .int x0, .ref b0]) (QI D 1 (fun ad => []) (va_A [(a0, .inr (14, [v0, v1, .ref a1, v2, v3, v4, v5])), (a1, .inr (8, [v6, v7, v8, v9, .int 0, v10, v11, v12, v13]))] sz)) 1 6 (va_A [(a0, .inr (14, [v0, v1, .ref a1, v2, v3, v4, v5])), (a1, .inr (8, [v6, v7, v8, v9, .int 0, v10, v11, v12, v13]))] sz) := by
  refine sh_I (by decide) (Nat.le_of_ble_eq_true rfl) ?_
  intro p e s m args below meth c A ls hx hb hr hml hown hlk hnm hsz hP hD hA hE hts hS hl htb
  have hown : s.vm.findClass RL = some m.cls := hown
  have hl : lv_has ls 4 [(0, .ref a0), (1, .int x0), (2, .ref b0)] := hl
  refine lv_aload_n hx hb dL_heatAhead_0 rfl (lv_at hl 2 rfl) ?_
  refine lv_iconst (v := 0) hx hb dL_heatAhead_1 (by decide) ?_
  refine lv_aload_n hx hb dL_heatAhead_2 rfl (lv_at hl 0 rfl) ?_
  refine lv_iload_n hx hb dL_heatAhead_3 rfl (lv_at hl 1 rfl) ?_
  refine cx_catch (isC := [0, 1]) (isR := []) (wr := []) (hp := []) (z := (0, 9, 12, 15)) (hq := [(0, 9, 15, 45)]) (name := "java/lang/IllegalStateException") (own := RL) (rx_V (ci := 14) (q0 := 0) (isC := [0, 1]) (wc := [(a0, .inr (14, [v0, v1, .ref a1, v2, v3, v4, v5])), (a1, .inr (8, [v6, v7, v8, v9, .int 0, v10, v11, v12, v13]))]) (As := [.int x0]) (rest := [.int 0, .ref b0]) (n := 1) hx hb hml hown hts hE hS hP hD hA hl.1 (k347_X9_heatAhead l hst D cy g x0 a0 a1 (v0) (v1) (v2) (v3) (v4) (v5) (v6) (v7) (v8) (v9) (v10) (v11) (v12) (v13) s.heap.size ) rfl rfl rfl rfl rfl ax_256 rfl rfl ax_257 ⟨Nat.le_of_ble_eq_true rfl, Nat.le_of_ble_eq_true rfl⟩ rfl rfl (Nat.le_of_ble_eq_true rfl) dL_heatAhead_4 ⟨(Nat.le_of_ble_eq_true rfl), (Nat.le_of_ble_eq_true rfl)⟩) hP hD hS hA hown hts hE htb rfl rfl rfl rfl (by decide) (fun z hz => by cases hz) (by decide) (by decide) tw_720 tw_721 (fun qx H locs hP hD hS => ?_)
  have hP : va_P D vwCl [] H := hP
  have hD : va_D A [] := hD
  refine lv_astore_n (lv' := [(3, .ref qx), (0, .ref a0), (1, .int x0), (2, .ref b0)]) hx hb dL_heatAhead_12 rfl hl (Nat.le_of_ble_eq_true rfl) rfl (fun ls hl => ?_)
  refine lv_iconst (v := 1) hx hb dL_heatAhead_13 (by decide) ?_
  exact en_z hx hb hr hlk hP hD hS rfl (fun _ => 0) (is := []) rfl rfl (Nat.le_of_ble_eq_true rfl) (Nat.le_of_ble_eq_true rfl) dL_heatAhead_14
set_option maxHeartbeats 4000000 in
set_option maxRecDepth 100000 in
theorem k349_X10_told (l : Launch) (D : va_G) (cy : Nat → ClassId) (g : Nat → Nat) (x0 : Int32) (a0 : Nat) (v0 : Value) (v1 : Value) (v2 : Value) (v3 : Value) (v4 : Value) (v5 : Value) (v6 : Value) (v7 : Value) (v8 : Value) (v9 : Value) (v10 : Value) (v11 : Value) (v12 : Value) (v13 : Value) (v14 : Value) (v15 : Value) (v16 : Value) (v17 : Value) (v18 : Value) (v19 : Value) (v20 : Value) (v21 : Value) (v22 : Value) (v23 : Value) (v24 : Value) (v25 : Value) (sz : Nat)  : Met l yX10_told [.code yX10_told cX10_told 3 (some .int)] ({ frames := 1, cells := 0, slots := 0, locals := 22 }) (PC D cy g [(a0, .inr (15, [.int 0, v0, v1, v2, v3, v4, v5, v6, .null, v7, v8, v9, v10, v11, v12, v13, v14, v15, v16, v17, v18, v19, v20, v21, v22, v23, v24, v25]))] sz [.ref a0, .int x0, .int 1]) (QI D (-1) (fun ad => [(a0, .inr (15, [.int 1, v0, v1, v2, v3, v4, v5, v6, .null, v7, v8, v9, v10, v11, v12, v13, v14, v15, v16, v17, v18, v19, v20, v21, v22, v23, v24, v25]))]) (va_A [(a0, .inr (15, [.int 0, v0, v1, v2, v3, v4, v5, v6, .null, v7, v8, v9, v10, v11, v12, v13, v14, v15, v16, v17, v18, v19, v20, v21, v22, v23, v24, v25]))] sz)) 0 0 (va_A [(a0, .inr (15, [.int 0, v0, v1, v2, v3, v4, v5, v6, .null, v7, v8, v9, v10, v11, v12, v13, v14, v15, v16, v17, v18, v19, v20, v21, v22, v23, v24, v25]))] sz) := by
  refine st_I (by decide) (Nat.le_of_ble_eq_true rfl) ?_
  intro p e s m args below meth c A ls hx hb hr hml hown hlk hnm hsz hP hD hA hE hts hS hl
  have hown : s.vm.findClass RX10 = some m.cls := hown
  have hl : lv_has ls 3 [(0, .ref a0), (1, .int x0), (2, .int 1)] := hl
  refine lv_aload_n hx hb dX10_told_0 rfl (lv_at hl 0 rfl) ?_
  refine lv_aload_n hx hb dX10_told_1 rfl (lv_at hl 0 rfl) ?_
  refine va_get (D := D) (ci := 15) (v := .null) (C := RX10) (T := TX10) (N := 28) hx hb hts ax_29 hown hE.1 hP 0 rfl rfl 8 (by decide) (hts _ tw_698) (fun _ h9 => h9) rfl dX10_told_2 ?_
  refine lv_ifnonnullN hx hb dX10_told_5 ?_
  refine lv_iconst (v := 1) hx hb dX10_told_8 (by decide) ?_
  refine lv_goto (tgt := 13) hx hb dX10_told_9 (by decide) ?_
  refine lv_iconst (v := 1) hx hb dX10_told_13 (by decide) ?_
  refine ca_i (isC := [0]) (isR := []) (wr := []) (rn_V (ci := 15) (q0 := 0) (isC := [0]) (wc := [(a0, .inr (15, [.int 0, v0, v1, v2, v3, v4, v5, v6, .null, v7, v8, v9, v10, v11, v12, v13, v14, v15, v16, v17, v18, v19, v20, v21, v22, v23, v24, v25]))]) (As := [.int 1, .int 1]) (rest := []) (n := 2) hx hb hml hown hts hE hS hP hD hA hl.1 (k22_X10_fails l D cy g a0 (v0) (v1) (v2) (v3) (v4) (v5) (v6) (.null) (v7) (v8) (v9) (v10) (v11) (v12) (v13) (v14) (v15) (v16) (v17) (v18) (v19) (v20) (v21) (v22) (v23) (v24) (v25) s.heap.size ) rfl rfl rfl rfl rfl ax_41 rfl rfl ax_42 ⟨Nat.le_of_ble_eq_true rfl, Nat.le_of_ble_eq_true rfl⟩ rfl rfl (Nat.le_of_ble_eq_true rfl) dX10_told_14 ⟨(Nat.le_of_ble_eq_true rfl), (Nat.le_of_ble_eq_true rfl)⟩) hP hD hS hA rfl rfl rfl (by decide) (fun ad14 H locs hP hD hS => ?_)
  have hP : va_P D vwCl [(a0, .inr (15, [.int 1, v0, v1, v2, v3, v4, v5, v6, .null, v7, v8, v9, v10, v11, v12, v13, v14, v15, v16, v17, v18, v19, v20, v21, v22, v23, v24, v25]))] H := hP
  have hD : va_D A [(a0, .inr (15, [.int 1, v0, v1, v2, v3, v4, v5, v6, .null, v7, v8, v9, v10, v11, v12, v13, v14, v15, v16, v17, v18, v19, v20, v21, v22, v23, v24, v25]))] := hD
  refine lv_if_ne (tgt := 44) hx hb dX10_told_17 (by decide) (fun _ => ?_) (fun z => absurd z (by decide))
  refine lv_iconst (v := (-1)) hx hb dX10_told_44 (by decide) ?_
  refine lv_goto (tgt := 63) hx hb dX10_told_45 (by decide) ?_
  exact en_z hx hb hr hlk hP hD hS rfl (fun _ => 0) (is := [0]) rfl rfl (Nat.le_of_ble_eq_true rfl) (Nat.le_of_ble_eq_true rfl) dX10_told_63
set_option maxHeartbeats 4000000 in
set_option maxRecDepth 100000 in
theorem k350_X10_heatAhead (l : Launch) (D : va_G) (cy : Nat → ClassId) (g : Nat → Nat) (x0 : Int32) (a0 : Nat) (v0 : Value) (v1 : Value) (v2 : Value) (v3 : Value) (v4 : Value) (v5 : Value) (v6 : Value) (v7 : Value) (v8 : Value) (v9 : Value) (v10 : Value) (v11 : Value) (v12 : Value) (v13 : Value) (v14 : Value) (v15 : Value) (v16 : Value) (v17 : Value) (v18 : Value) (v19 : Value) (v20 : Value) (v21 : Value) (v22 : Value) (v23 : Value) (v24 : Value) (v25 : Value) (v26 : Value) (sz : Nat)  : Met l yX10_heatAhead [.code yX10_heatAhead cX10_heatAhead 2 (some .int)] ({ frames := 2, cells := 0, slots := 0, locals := 44 }) (PC D cy g [(a0, .inr (15, [v0, v1, v2, v3, v4, v5, v6, v7, .null, v8, v9, v10, v11, v12, v13, v14, v15, v16, v17, v18, v19, v20, v21, v22, v23, v24, v25, v26]))] sz [.ref a0, .int x0]) (QI D (-1) (fun ad => [(a0, .inr (15, [.int 1, v1, v2, v3, v4, v5, v6, v7, .null, v8, v9, v10, v11, v12, v13, v14, v15, v16, v17, v18, v19, v20, v21, v22, v23, v24, v25, v26]))]) (va_A [(a0, .inr (15, [v0, v1, v2, v3, v4, v5, v6, v7, .null, v8, v9, v10, v11, v12, v13, v14, v15, v16, v17, v18, v19, v20, v21, v22, v23, v24, v25, v26]))] sz)) 0 0 (va_A [(a0, .inr (15, [v0, v1, v2, v3, v4, v5, v6, v7, .null, v8, v9, v10, v11, v12, v13, v14, v15, v16, v17, v18, v19, v20, v21, v22, v23, v24, v25, v26]))] sz) := by
  refine st_I (by decide) (Nat.le_of_ble_eq_true rfl) ?_
  intro p e s m args below meth c A ls hx hb hr hml hown hlk hnm hsz hP hD hA hE hts hS hl
  have hown : s.vm.findClass RX10 = some m.cls := hown
  have hl : lv_has ls 2 [(0, .ref a0), (1, .int x0)] := hl
  refine lv_aload_n hx hb dX10_heatAhead_0 rfl (lv_at hl 0 rfl) ?_
  refine ca_v (isC := [0]) (isR := []) (wr := []) (rn_V (ci := 15) (q0 := 0) (isC := [0]) (wc := [(a0, .inr (15, [v0, v1, v2, v3, v4, v5, v6, v7, .null, v8, v9, v10, v11, v12, v13, v14, v15, v16, v17, v18, v19, v20, v21, v22, v23, v24, v25, v26]))]) (As := []) (rest := []) (n := 0) hx hb hml hown hts hE hS hP hD hA hl.1 (k20_X10_begins l D cy g a0 (v0) (v1) (v2) (v3) (v4) (v5) (v6) (v7) (.null) (v8) (v9) (v10) (v11) (v12) (v13) (v14) (v15) (v16) (v17) (v18) (v19) (v20) (v21) (v22) (v23) (v24) (v25) (v26) s.heap.size ) rfl rfl rfl rfl rfl ax_37 rfl rfl ax_38 ⟨Nat.le_of_ble_eq_true rfl, Nat.le_of_ble_eq_true rfl⟩ rfl rfl (Nat.le_of_ble_eq_true rfl) dX10_heatAhead_1 ⟨(Nat.le_of_ble_eq_true rfl), (Nat.le_of_ble_eq_true rfl)⟩) hP hD hS hA rfl rfl rfl (by decide) (fun ad1 H locs hP hD hS => ?_)
  have hP : va_P D vwCl [(a0, .inr (15, [.int 0, v1, v2, v3, v4, v5, v6, v7, .null, v8, v9, v10, v11, v12, v13, v14, v15, v16, v17, v18, v19, v20, v21, v22, v23, v24, v25, v26]))] H := hP
  have hD : va_D A [(a0, .inr (15, [.int 0, v1, v2, v3, v4, v5, v6, v7, .null, v8, v9, v10, v11, v12, v13, v14, v15, v16, v17, v18, v19, v20, v21, v22, v23, v24, v25, v26]))] := hD
  refine lv_aload_n hx hb dX10_heatAhead_4 rfl (lv_at hl 0 rfl) ?_
  refine lv_iload_n hx hb dX10_heatAhead_5 rfl (lv_at hl 1 rfl) ?_
  refine lv_iconst (v := 1) hx hb dX10_heatAhead_6 (by decide) ?_
  refine ca_i (isC := [0]) (isR := []) (wr := []) (rn_V (ci := 15) (q0 := 0) (isC := [0]) (wc := [(a0, .inr (15, [.int 0, v1, v2, v3, v4, v5, v6, v7, .null, v8, v9, v10, v11, v12, v13, v14, v15, v16, v17, v18, v19, v20, v21, v22, v23, v24, v25, v26]))]) (As := [.int x0, .int 1]) (rest := []) (n := 2) hx hb hml hown hts hE hS hP hD hA hl.1 (k349_X10_told l D cy g x0 a0 (v1) (v2) (v3) (v4) (v5) (v6) (v7) (v8) (v9) (v10) (v11) (v12) (v13) (v14) (v15) (v16) (v17) (v18) (v19) (v20) (v21) (v22) (v23) (v24) (v25) (v26) H.size ) rfl rfl rfl rfl rfl ax_234 rfl rfl ax_235 ⟨Nat.le_of_ble_eq_true rfl, Nat.le_of_ble_eq_true rfl⟩ rfl rfl (Nat.le_of_ble_eq_true rfl) dX10_heatAhead_7 ⟨(Nat.le_of_ble_eq_true rfl), (Nat.le_of_ble_eq_true rfl)⟩) hP hD hS hA rfl rfl rfl (by decide) (fun ad7 H locs hP hD hS => ?_)
  have hP : va_P D vwCl [(a0, .inr (15, [.int 1, v1, v2, v3, v4, v5, v6, v7, .null, v8, v9, v10, v11, v12, v13, v14, v15, v16, v17, v18, v19, v20, v21, v22, v23, v24, v25, v26]))] H := hP
  have hD : va_D A [(a0, .inr (15, [.int 1, v1, v2, v3, v4, v5, v6, v7, .null, v8, v9, v10, v11, v12, v13, v14, v15, v16, v17, v18, v19, v20, v21, v22, v23, v24, v25, v26]))] := hD
  exact en_z hx hb hr hlk hP hD hS rfl (fun _ => 0) (is := [0]) rfl rfl (Nat.le_of_ble_eq_true rfl) (Nat.le_of_ble_eq_true rfl) dX10_heatAhead_10
set_option maxHeartbeats 4000000 in
set_option maxRecDepth 100000 in
theorem k351_X9_plantWork (l : Launch) (hst : l.stackTraces = false) (D : va_G) (cy : Nat → ClassId) (g : Nat → Nat) (a0 : Nat) (a1 : Nat) (v0 : Value) (v1 : Value) (v2 : Value) (v3 : Value) (v4 : Value) (v5 : Value) (v6 : Value) (v7 : Value) (v8 : Value) (v9 : Value) (v10 : Value) (v11 : Value) (v12 : Value) (v13 : Value) (sz : Nat)  : vx_Met l yX9_plantWork [.code yX9_plantWork cX9_plantWork 1 (some .int)] ({ frames := 7, cells := 1, slots := 6, locals := 102 }) (PC D cy g [(a0, .inr (14, [v0, v1, .ref a1, v2, v3, v4, v5])), (a1, .inr (8, [v6, v7, v8, v9, .int 0, v10, v11, v12, v13]))] sz [.ref a0]) QN (XE "java/lang/IllegalStateException" (va_A [(a0, .inr (14, [v0, v1, .ref a1, v2, v3, v4, v5])), (a1, .inr (8, [v6, v7, v8, v9, .int 0, v10, v11, v12, v13]))] sz)) 1 6 (va_A [(a0, .inr (14, [v0, v1, .ref a1, v2, v3, v4, v5])), (a1, .inr (8, [v6, v7, v8, v9, .int 0, v10, v11, v12, v13]))] sz) := by
  refine st_X (by decide) (Nat.le_of_ble_eq_true rfl) ?_
  intro p e s m args below meth c A ls hx hb hr hml hown hlk hnm hsz hP hD hA hE hts hS hl hout
  have hown : s.vm.findClass RX9 = some m.cls := hown
  have hl : lv_has ls 1 [(0, .ref a0)] := hl
  refine lv_aload_n hx hb dX9_plantWork_0 rfl (lv_at hl 0 rfl) ?_
  exact cx_out (isC := [0, 1]) (rx_V (ci := 14) (q0 := 0) (isC := [0, 1]) (wc := [(a0, .inr (14, [v0, v1, .ref a1, v2, v3, v4, v5])), (a1, .inr (8, [v6, v7, v8, v9, .int 0, v10, v11, v12, v13]))]) (As := []) (rest := []) (n := 0) hx hb hml hown hts hE hS hP hD hA hl.1 (k329_X9_requireSolved l hst D cy g a0 a1 (v0) (v1) (v2) (v3) (v4) (v5) (v6) (v7) (v8) (v9) (v10) (v11) (v12) (v13) s.heap.size ) rfl rfl rfl rfl rfl ax_226 rfl rfl ax_227 ⟨Nat.le_of_ble_eq_true rfl, Nat.le_of_ble_eq_true rfl⟩ rfl rfl (Nat.le_of_ble_eq_true rfl) dX9_plantWork_1 ⟨(Nat.le_of_ble_eq_true rfl), (Nat.le_of_ble_eq_true rfl)⟩) hD hS hA rfl hout hlk (Nat.le_of_ble_eq_true rfl) (Nat.le_of_ble_eq_true rfl)
set_option maxHeartbeats 4000000 in
set_option maxRecDepth 100000 in
theorem k352_L_plantWork (l : Launch) (hst : l.stackTraces = false) (D : va_G) (cy : Nat → ClassId) (g : Nat → Nat) (a0 : Nat) (a1 : Nat) (b0 : Nat) (v0 : Value) (v1 : Value) (v2 : Value) (v3 : Value) (v4 : Value) (v5 : Value) (v6 : Value) (v7 : Value) (v8 : Value) (v9 : Value) (v10 : Value) (v11 : Value) (v12 : Value) (v13 : Value) (sz : Nat)  : Met l yL_plantWork [.codeWith yL_plantWork cL_plantWork 3 (some .int) [(0, 8, 11, 15)]] ({ frames := 8, cells := 1, slots := 6, locals := 122 }) (PC D cy g [(a0, .inr (14, [v0, v1, .ref a1, v2, v3, v4, v5])), (a1, .inr (8, [v6, v7, v8, v9, .int 0, v10, v11, v12, v13]))] sz [.ref a0, .ref b0]) (QI D 1 (fun ad => []) (va_A [(a0, .inr (14, [v0, v1, .ref a1, v2, v3, v4, v5])), (a1, .inr (8, [v6, v7, v8, v9, .int 0, v10, v11, v12, v13]))] sz)) 1 6 (va_A [(a0, .inr (14, [v0, v1, .ref a1, v2, v3, v4, v5])), (a1, .inr (8, [v6, v7, v8, v9, .int 0, v10, v11, v12, v13]))] sz) := by
  refine sh_I (by decide) (Nat.le_of_ble_eq_true rfl) ?_
  intro p e s m args below meth c A ls hx hb hr hml hown hlk hnm hsz hP hD hA hE hts hS hl htb
  have hown : s.vm.findClass RL = some m.cls := hown
  have hl : lv_has ls 3 [(0, .ref a0), (1, .ref b0)] := hl
  refine lv_aload_n hx hb dL_plantWork_0 rfl (lv_at hl 1 rfl) ?_
  refine lv_iconst (v := 0) hx hb dL_plantWork_1 (by decide) ?_
  refine lv_aload_n hx hb dL_plantWork_2 rfl (lv_at hl 0 rfl) ?_
  refine cx_catch (isC := [0, 1]) (isR := []) (wr := []) (hp := []) (z := (0, 8, 11, 15)) (hq := []) (name := "java/lang/IllegalStateException") (own := RL) (rx_V (ci := 14) (q0 := 0) (isC := [0, 1]) (wc := [(a0, .inr (14, [v0, v1, .ref a1, v2, v3, v4, v5])), (a1, .inr (8, [v6, v7, v8, v9, .int 0, v10, v11, v12, v13]))]) (As := []) (rest := [.int 0, .ref b0]) (n := 0) hx hb hml hown hts hE hS hP hD hA hl.1 (k351_X9_plantWork l hst D cy g a0 a1 (v0) (v1) (v2) (v3) (v4) (v5) (v6) (v7) (v8) (v9) (v10) (v11) (v12) (v13) s.heap.size ) rfl rfl rfl rfl rfl ax_262 rfl rfl ax_263 ⟨Nat.le_of_ble_eq_true rfl, Nat.le_of_ble_eq_true rfl⟩ rfl rfl (Nat.le_of_ble_eq_true rfl) dL_plantWork_3 ⟨(Nat.le_of_ble_eq_true rfl), (Nat.le_of_ble_eq_true rfl)⟩) hP hD hS hA hown hts hE htb rfl rfl rfl rfl (by decide) (fun z hz => by cases hz) (by decide) (by decide) tw_720 tw_721 (fun qx H locs hP hD hS => ?_)
  have hP : va_P D vwCl [] H := hP
  have hD : va_D A [] := hD
  refine lv_astore_n (lv' := [(2, .ref qx), (0, .ref a0), (1, .ref b0)]) hx hb dL_plantWork_11 rfl hl (Nat.le_of_ble_eq_true rfl) rfl (fun ls hl => ?_)
  refine lv_iconst (v := 1) hx hb dL_plantWork_12 (by decide) ?_
  exact en_z hx hb hr hlk hP hD hS rfl (fun _ => 0) (is := []) rfl rfl (Nat.le_of_ble_eq_true rfl) (Nat.le_of_ble_eq_true rfl) dL_plantWork_13
set_option maxHeartbeats 4000000 in
set_option maxRecDepth 100000 in
theorem k353_X10_plantWork (l : Launch) (D : va_G) (cy : Nat → ClassId) (g : Nat → Nat) (a0 : Nat) (v0 : Value) (v1 : Value) (v2 : Value) (v3 : Value) (v4 : Value) (v5 : Value) (v6 : Value) (v7 : Value) (v8 : Value) (v9 : Value) (v10 : Value) (v11 : Value) (v12 : Value) (v13 : Value) (v14 : Value) (v15 : Value) (v16 : Value) (v17 : Value) (v18 : Value) (v19 : Value) (v20 : Value) (v21 : Value) (v22 : Value) (v23 : Value) (v24 : Value) (v25 : Value) (v26 : Value) (sz : Nat)  : Met l yX10_plantWork [.code yX10_plantWork cX10_plantWork 4 (some .int)] ({ frames := 1, cells := 0, slots := 0, locals := 22 }) (PC D cy g [(a0, .inr (15, [v0, v1, v2, v3, v4, v5, v6, v7, .null, v8, v9, v10, v11, v12, v13, v14, v15, v16, v17, v18, v19, v20, v21, v22, v23, v24, v25, v26]))] sz [.ref a0]) (QI D (-1) (fun ad => [(a0, .inr (15, [.int 1, v1, v2, v3, v4, v5, v6, v7, .null, v8, v9, v10, v11, v12, v13, v14, v15, v16, v17, v18, v19, v20, v21, v22, v23, v24, v25, v26]))]) (va_A [(a0, .inr (15, [v0, v1, v2, v3, v4, v5, v6, v7, .null, v8, v9, v10, v11, v12, v13, v14, v15, v16, v17, v18, v19, v20, v21, v22, v23, v24, v25, v26]))] sz)) 0 0 (va_A [(a0, .inr (15, [v0, v1, v2, v3, v4, v5, v6, v7, .null, v8, v9, v10, v11, v12, v13, v14, v15, v16, v17, v18, v19, v20, v21, v22, v23, v24, v25, v26]))] sz) := by
  refine st_I (by decide) (Nat.le_of_ble_eq_true rfl) ?_
  intro p e s m args below meth c A ls hx hb hr hml hown hlk hnm hsz hP hD hA hE hts hS hl
  have hown : s.vm.findClass RX10 = some m.cls := hown
  have hl : lv_has ls 4 [(0, .ref a0)] := hl
  refine lv_aload_n hx hb dX10_plantWork_0 rfl (lv_at hl 0 rfl) ?_
  refine ca_v (isC := [0]) (isR := []) (wr := []) (rn_V (ci := 15) (q0 := 0) (isC := [0]) (wc := [(a0, .inr (15, [v0, v1, v2, v3, v4, v5, v6, v7, .null, v8, v9, v10, v11, v12, v13, v14, v15, v16, v17, v18, v19, v20, v21, v22, v23, v24, v25, v26]))]) (As := []) (rest := []) (n := 0) hx hb hml hown hts hE hS hP hD hA hl.1 (k20_X10_begins l D cy g a0 (v0) (v1) (v2) (v3) (v4) (v5) (v6) (v7) (.null) (v8) (v9) (v10) (v11) (v12) (v13) (v14) (v15) (v16) (v17) (v18) (v19) (v20) (v21) (v22) (v23) (v24) (v25) (v26) s.heap.size ) rfl rfl rfl rfl rfl ax_37 rfl rfl ax_38 ⟨Nat.le_of_ble_eq_true rfl, Nat.le_of_ble_eq_true rfl⟩ rfl rfl (Nat.le_of_ble_eq_true rfl) dX10_plantWork_1 ⟨(Nat.le_of_ble_eq_true rfl), (Nat.le_of_ble_eq_true rfl)⟩) hP hD hS hA rfl rfl rfl (by decide) (fun ad1 H locs hP hD hS => ?_)
  have hP : va_P D vwCl [(a0, .inr (15, [.int 0, v1, v2, v3, v4, v5, v6, v7, .null, v8, v9, v10, v11, v12, v13, v14, v15, v16, v17, v18, v19, v20, v21, v22, v23, v24, v25, v26]))] H := hP
  have hD : va_D A [(a0, .inr (15, [.int 0, v1, v2, v3, v4, v5, v6, v7, .null, v8, v9, v10, v11, v12, v13, v14, v15, v16, v17, v18, v19, v20, v21, v22, v23, v24, v25, v26]))] := hD
  refine lv_aload_n hx hb dX10_plantWork_4 rfl (lv_at hl 0 rfl) ?_
  refine lv_aload_n hx hb dX10_plantWork_5 rfl (lv_at hl 0 rfl) ?_
  refine va_get (D := D) (ci := 15) (v := .null) (C := RX10) (T := TX10) (N := 28) hx hb hts ax_29 hown hE.1 hP 0 rfl rfl 8 (by decide) (hts _ tw_698) (fun _ h9 => h9) rfl dX10_plantWork_6 ?_
  refine lv_ifnonnullN hx hb dX10_plantWork_9 ?_
  refine lv_iconst (v := 1) hx hb dX10_plantWork_12 (by decide) ?_
  refine lv_goto (tgt := 17) hx hb dX10_plantWork_13 (by decide) ?_
  refine lv_iconst (v := 1) hx hb dX10_plantWork_17 (by decide) ?_
  refine ca_i (isC := [0]) (isR := []) (wr := []) (rn_V (ci := 15) (q0 := 0) (isC := [0]) (wc := [(a0, .inr (15, [.int 0, v1, v2, v3, v4, v5, v6, v7, .null, v8, v9, v10, v11, v12, v13, v14, v15, v16, v17, v18, v19, v20, v21, v22, v23, v24, v25, v26]))]) (As := [.int 1, .int 1]) (rest := []) (n := 2) hx hb hml hown hts hE hS hP hD hA hl.1 (k22_X10_fails l D cy g a0 (v1) (v2) (v3) (v4) (v5) (v6) (v7) (.null) (v8) (v9) (v10) (v11) (v12) (v13) (v14) (v15) (v16) (v17) (v18) (v19) (v20) (v21) (v22) (v23) (v24) (v25) (v26) H.size ) rfl rfl rfl rfl rfl ax_41 rfl rfl ax_42 ⟨Nat.le_of_ble_eq_true rfl, Nat.le_of_ble_eq_true rfl⟩ rfl rfl (Nat.le_of_ble_eq_true rfl) dX10_plantWork_18 ⟨(Nat.le_of_ble_eq_true rfl), (Nat.le_of_ble_eq_true rfl)⟩) hP hD hS hA rfl rfl rfl (by decide) (fun ad18 H locs hP hD hS => ?_)
  have hP : va_P D vwCl [(a0, .inr (15, [.int 1, v1, v2, v3, v4, v5, v6, v7, .null, v8, v9, v10, v11, v12, v13, v14, v15, v16, v17, v18, v19, v20, v21, v22, v23, v24, v25, v26]))] H := hP
  have hD : va_D A [(a0, .inr (15, [.int 1, v1, v2, v3, v4, v5, v6, v7, .null, v8, v9, v10, v11, v12, v13, v14, v15, v16, v17, v18, v19, v20, v21, v22, v23, v24, v25, v26]))] := hD
  refine lv_if_eq (tgt := 26) hx hb dX10_plantWork_21 (by decide) (fun z => absurd z (by decide)) (fun _ => ?_)
  refine lv_iconst (v := (-1)) hx hb dX10_plantWork_24 (by decide) ?_
  exact en_z hx hb hr hlk hP hD hS rfl (fun _ => 0) (is := [0]) rfl rfl (Nat.le_of_ble_eq_true rfl) (Nat.le_of_ble_eq_true rfl) dX10_plantWork_25
set_option maxHeartbeats 4000000 in
set_option maxRecDepth 100000 in
theorem k354_X9_setGas (l : Launch) (hst : l.stackTraces = false) (D : va_G) (cy : Nat → ClassId) (g : Nat → Nat) (x0 : Int32) (x1 : Int32) (x2 : Int32) (b0 : Nat) (sz : Nat) (h0 : x0 < 1) : vx_Met l yX9_setGas [.code yX9_setGas cX9_setGas 6 (some .int)] ({ frames := 6, cells := 1, slots := 6, locals := 82 }) (PC D cy g [] sz [.ref b0, .int x0, .int x1, .int x2]) QN (XE "java/lang/IllegalArgumentException" (va_A [] sz)) 1 6 (va_A [] sz) := by
  refine st_X (by decide) (Nat.le_of_ble_eq_true rfl) ?_
  intro p e s m args below meth c A ls hx hb hr hml hown hlk hnm hsz hP hD hA hE hts hS hl hout
  have hown : s.vm.findClass RX9 = some m.cls := hown
  have hl : lv_has ls 6 [(0, .ref b0), (1, .int x0), (2, .int x1), (3, .int x2)] := hl
  refine lv_iload_n hx hb dX9_setGas_0 rfl (lv_at hl 1 rfl) ?_
  refine lv_iconst (v := 1) hx hb dX9_setGas_1 (by decide) ?_
  refine lv_bipush (v := 20) hx hb dX9_setGas_2 (by decide) ?_
  refine ca_i (isC := []) (isR := []) (wr := []) (rn_S (isC := []) (wc := []) (As := [.int x0, .int 1, .int 20]) (rest := []) (n := 3) hx hb hml hown hts hE hS hP hD hA hl.1 (k17_X9_isOutside l D cy g x0 1 20 s.heap.size h0) rfl rfl ax_30 rfl rfl ax_31 ⟨Nat.le_of_ble_eq_true rfl, Nat.le_of_ble_eq_true rfl⟩ rfl rfl (Nat.le_of_ble_eq_true rfl) dX9_setGas_4 ⟨(Nat.le_of_ble_eq_true rfl), (Nat.le_of_ble_eq_true rfl)⟩) hP hD hS hA rfl rfl rfl (by decide) (fun ad4 H locs hP hD hS => ?_)
  have hP : va_P D vwCl [] H := hP
  have hD : va_D A [] := hD
  refine lv_if_ne (tgt := 32) hx hb dX9_setGas_7 (by decide) (fun _ => ?_) (fun z => absurd z (by decide))
  exact th_S (text := "a number is out of range") hx hb hst hown hts hE hS (hl.1.trans hml.symm) hout hlk (by decide +kernel) tw_296 tw_297 ax_32 (by decide +kernel) dX9_setGas_32 dX9_setGas_35 dX9_setGas_36 dX9_setGas_38 dX9_setGas_41 ⟨Nat.le_of_ble_eq_true rfl, Nat.le_of_ble_eq_true rfl, Nat.le_of_ble_eq_true rfl, Nat.le_of_ble_eq_true rfl⟩ (Nat.le_of_ble_eq_true rfl) (Nat.le_of_ble_eq_true rfl)
set_option maxHeartbeats 4000000 in
set_option maxRecDepth 100000 in
theorem k355_L_setGas (l : Launch) (hst : l.stackTraces = false) (D : va_G) (cy : Nat → ClassId) (g : Nat → Nat) (x0 : Int32) (x1 : Int32) (x2 : Int32) (a0 : Nat) (b0 : Nat) (v0 : Value) (v1 : Value) (v2 : Value) (v3 : Value) (v4 : Value) (v5 : Value) (v6 : Value) (sz : Nat) (h0 : x0 < 1) : Met l yL_setGas [.codeWith yL_setGas cL_setGas 6 (some .int) [(0, 12, 15, 13)]] ({ frames := 7, cells := 1, slots := 6, locals := 107 }) (PC D cy g [(a0, .inr (14, [v0, v1, v2, v3, v4, v5, v6]))] sz [.ref a0, .int x0, .int x1, .int x2, .ref b0]) (QI D 1 (fun ad => []) (va_A [(a0, .inr (14, [v0, v1, v2, v3, v4, v5, v6]))] sz)) 1 6 (va_A [(a0, .inr (14, [v0, v1, v2, v3, v4, v5, v6]))] sz) := by
  refine sh_I (by decide) (Nat.le_of_ble_eq_true rfl) ?_
  intro p e s m args below meth c A ls hx hb hr hml hown hlk hnm hsz hP hD hA hE hts hS hl htb
  have hown : s.vm.findClass RL = some m.cls := hown
  have hl : lv_has ls 6 [(0, .ref a0), (1, .int x0), (2, .int x1), (3, .int x2), (4, .ref b0)] := hl
  refine lv_aload hx hb dL_setGas_0 (lv_at hl 4 rfl) ?_
  refine lv_iconst (v := 0) hx hb dL_setGas_2 (by decide) ?_
  refine lv_aload_n hx hb dL_setGas_3 rfl (lv_at hl 0 rfl) ?_
  refine lv_iload_n hx hb dL_setGas_4 rfl (lv_at hl 1 rfl) ?_
  refine lv_iload_n hx hb dL_setGas_5 rfl (lv_at hl 2 rfl) ?_
  refine lv_iload_n hx hb dL_setGas_6 rfl (lv_at hl 3 rfl) ?_
  refine cx_catch (isC := []) (isR := [0]) (wr := [(a0, .inr (14, [v0, v1, v2, v3, v4, v5, v6]))]) (hp := []) (z := (0, 12, 15, 13)) (hq := []) (name := "java/lang/IllegalArgumentException") (own := RL) (rx_V (ci := 14) (q0 := 0) (isC := []) (wc := []) (As := [.int x0, .int x1, .int x2]) (rest := [.int 0, .ref b0]) (n := 3) hx hb hml hown hts hE hS hP hD hA hl.1 (k354_X9_setGas l hst D cy g x0 x1 x2 a0 s.heap.size h0) rfl rfl rfl rfl rfl ax_268 rfl rfl ax_269 ⟨Nat.le_of_ble_eq_true rfl, Nat.le_of_ble_eq_true rfl⟩ rfl rfl (Nat.le_of_ble_eq_true rfl) dL_setGas_7 ⟨(Nat.le_of_ble_eq_true rfl), (Nat.le_of_ble_eq_true rfl)⟩) hP hD hS hA hown hts hE htb rfl rfl rfl rfl (by decide) (fun z hz => by cases hz) (by decide) (by decide) tw_302 tw_303 (fun qx H locs hP hD hS => ?_)
  have hP : va_P D vwCl [(a0, .inr (14, [v0, v1, v2, v3, v4, v5, v6]))] H := hP
  have hD : va_D A [(a0, .inr (14, [v0, v1, v2, v3, v4, v5, v6]))] := hD
  refine lv_astore (lv' := [(5, .ref qx), (0, .ref a0), (1, .int x0), (2, .int x1), (3, .int x2), (4, .ref b0)]) hx hb dL_setGas_15 hl (Nat.le_of_ble_eq_true rfl) rfl (fun ls hl => ?_)
  refine lv_iconst (v := 1) hx hb dL_setGas_17 (by decide) ?_
  exact en_z hx hb hr hlk hP hD hS rfl (fun _ => 0) (is := []) rfl rfl (Nat.le_of_ble_eq_true rfl) (Nat.le_of_ble_eq_true rfl) dL_setGas_18
set_option maxHeartbeats 4000000 in
set_option maxRecDepth 100000 in
theorem k356_X10_setGas (l : Launch) (D : va_G) (cy : Nat → ClassId) (g : Nat → Nat) (x0 : Int32) (x1 : Int32) (x2 : Int32) (a0 : Nat) (v0 : Value) (v1 : Value) (v2 : Value) (v3 : Value) (v4 : Value) (v5 : Value) (v6 : Value) (v7 : Value) (v8 : Value) (v9 : Value) (v10 : Value) (v11 : Value) (v12 : Value) (v13 : Value) (v14 : Value) (v15 : Value) (v16 : Value) (v17 : Value) (v18 : Value) (v19 : Value) (v20 : Value) (v21 : Value) (v22 : Value) (v23 : Value) (v24 : Value) (v25 : Value) (v26 : Value) (v27 : Value) (sz : Nat) (h0 : x0 < 1) : Met l yX10_setGas [.code yX10_setGas cX10_setGas 5 (some .int)] ({ frames := 1, cells := 0, slots := 0, locals := 25 }) (PC D cy g [(a0, .inr (15, [v0, v1, v2, v3, v4, v5, v6, v7, v8, v9, v10, v11, v12, v13, v14, v15, v16, v17, v18, v19, v20, v21, v22, v23, v24, v25, v26, v27]))] sz [.ref a0, .int x0, .int x1, .int x2]) (QI D (-1) (fun ad => [(a0, .inr (15, [.int 1, v1, v2, v3, v4, v5, v6, v7, v8, v9, v10, v11, v12, v13, v14, v15, v16, v17, v18, v19, v20, v21, v22, v23, v24, v25, v26, v27]))]) (va_A [(a0, .inr (15, [v0, v1, v2, v3, v4, v5, v6, v7, v8, v9, v10, v11, v12, v13, v14, v15, v16, v17, v18, v19, v20, v21, v22, v23, v24, v25, v26, v27]))] sz)) 0 0 (va_A [(a0, .inr (15, [v0, v1, v2, v3, v4, v5, v6, v7, v8, v9, v10, v11, v12, v13, v14, v15, v16, v17, v18, v19, v20, v21, v22, v23, v24, v25, v26, v27]))] sz) := by
  refine st_I (by decide) (Nat.le_of_ble_eq_true rfl) ?_
  intro p e s m args below meth c A ls hx hb hr hml hown hlk hnm hsz hP hD hA hE hts hS hl
  have hown : s.vm.findClass RX10 = some m.cls := hown
  have hl : lv_has ls 5 [(0, .ref a0), (1, .int x0), (2, .int x1), (3, .int x2)] := hl
  refine lv_aload_n hx hb dX10_setGas_0 rfl (lv_at hl 0 rfl) ?_
  refine ca_v (isC := [0]) (isR := []) (wr := []) (rn_V (ci := 15) (q0 := 0) (isC := [0]) (wc := [(a0, .inr (15, [v0, v1, v2, v3, v4, v5, v6, v7, v8, v9, v10, v11, v12, v13, v14, v15, v16, v17, v18, v19, v20, v21, v22, v23, v24, v25, v26, v27]))]) (As := []) (rest := []) (n := 0) hx hb hml hown hts hE hS hP hD hA hl.1 (k20_X10_begins l D cy g a0 (v0) (v1) (v2) (v3) (v4) (v5) (v6) (v7) (v8) (v9) (v10) (v11) (v12) (v13) (v14) (v15) (v16) (v17) (v18) (v19) (v20) (v21) (v22) (v23) (v24) (v25) (v26) (v27) s.heap.size ) rfl rfl rfl rfl rfl ax_37 rfl rfl ax_38 ⟨Nat.le_of_ble_eq_true rfl, Nat.le_of_ble_eq_true rfl⟩ rfl rfl (Nat.le_of_ble_eq_true rfl) dX10_setGas_1 ⟨(Nat.le_of_ble_eq_true rfl), (Nat.le_of_ble_eq_true rfl)⟩) hP hD hS hA rfl rfl rfl (by decide) (fun ad1 H locs hP hD hS => ?_)
  have hP : va_P D vwCl [(a0, .inr (15, [.int 0, v1, v2, v3, v4, v5, v6, v7, v8, v9, v10, v11, v12, v13, v14, v15, v16, v17, v18, v19, v20, v21, v22, v23, v24, v25, v26, v27]))] H := hP
  have hD : va_D A [(a0, .inr (15, [.int 0, v1, v2, v3, v4, v5, v6, v7, v8, v9, v10, v11, v12, v13, v14, v15, v16, v17, v18, v19, v20, v21, v22, v23, v24, v25, v26, v27]))] := hD
  refine lv_aload_n hx hb dX10_setGas_4 rfl (lv_at hl 0 rfl) ?_
  refine lv_iload_n hx hb dX10_setGas_5 rfl (lv_at hl 1 rfl) ?_
  refine lv_i2l (v := x0.toInt64) hx hb dX10_setGas_6 rfl ?_
  refine lv_lconst (v := 1) hx hb dX10_setGas_7 (by decide) ?_
  refine lv_ldc2 (v := 20) hx hb hown (hts _ tw_808) dX10_setGas_8 ?_
  refine ca_i (isC := []) (isR := [0]) (wr := [(a0, .inr (15, [.int 0, v1, v2, v3, v4, v5, v6, v7, v8, v9, v10, v11, v12, v13, v14, v15, v16, v17, v18, v19, v20, v21, v22, v23, v24, v25, v26, v27]))]) (rn_S (isC := []) (wc := []) (As := [.long x0.toInt64, .long 1, .long 20]) (rest := [.ref a0]) (n := 3) hx hb hml hown hts hE hS hP hD hA hl.1 (k21_X10_in l D cy g x0.toInt64 1 20 H.size (wl_lt rfl (by decide) h0)) rfl rfl ax_39 rfl rfl ax_40 ⟨Nat.le_of_ble_eq_true rfl, Nat.le_of_ble_eq_true rfl⟩ rfl rfl (Nat.le_of_ble_eq_true rfl) dX10_setGas_11 ⟨(Nat.le_of_ble_eq_true rfl), (Nat.le_of_ble_eq_true rfl)⟩) hP hD hS hA rfl rfl rfl (by decide) (fun ad11 H locs hP hD hS => ?_)
  have hP : va_P D vwCl [(a0, .inr (15, [.int 0, v1, v2, v3, v4, v5, v6, v7, v8, v9, v10, v11, v12, v13, v14, v15, v16, v17, v18, v19, v20, v21, v22, v23, v24, v25, v26, v27]))] H := hP
  have hD : va_D A [(a0, .inr (15, [.int 0, v1, v2, v3, v4, v5, v6, v7, v8, v9, v10, v11, v12, v13, v14, v15, v16, v17, v18, v19, v20, v21, v22, v23, v24, v25, v26, v27]))] := hD
  refine lv_if_eq (tgt := 43) hx hb dX10_setGas_14 (by decide) (fun _ => ?_) (fun z => absurd (by decide) z)
  refine lv_iconst (v := 1) hx hb dX10_setGas_43 (by decide) ?_
  refine lv_goto (tgt := 48) hx hb dX10_setGas_44 (by decide) ?_
  refine lv_iconst (v := 1) hx hb dX10_setGas_48 (by decide) ?_
  refine ca_i (isC := [0]) (isR := []) (wr := []) (rn_V (ci := 15) (q0 := 0) (isC := [0]) (wc := [(a0, .inr (15, [.int 0, v1, v2, v3, v4, v5, v6, v7, v8, v9, v10, v11, v12, v13, v14, v15, v16, v17, v18, v19, v20, v21, v22, v23, v24, v25, v26, v27]))]) (As := [.int 1, .int 1]) (rest := []) (n := 2) hx hb hml hown hts hE hS hP hD hA hl.1 (k22_X10_fails l D cy g a0 (v1) (v2) (v3) (v4) (v5) (v6) (v7) (v8) (v9) (v10) (v11) (v12) (v13) (v14) (v15) (v16) (v17) (v18) (v19) (v20) (v21) (v22) (v23) (v24) (v25) (v26) (v27) H.size ) rfl rfl rfl rfl rfl ax_41 rfl rfl ax_42 ⟨Nat.le_of_ble_eq_true rfl, Nat.le_of_ble_eq_true rfl⟩ rfl rfl (Nat.le_of_ble_eq_true rfl) dX10_setGas_49 ⟨(Nat.le_of_ble_eq_true rfl), (Nat.le_of_ble_eq_true rfl)⟩) hP hD hS hA rfl rfl rfl (by decide) (fun ad49 H locs hP hD hS => ?_)
  have hP : va_P D vwCl [(a0, .inr (15, [.int 1, v1, v2, v3, v4, v5, v6, v7, v8, v9, v10, v11, v12, v13, v14, v15, v16, v17, v18, v19, v20, v21, v22, v23, v24, v25, v26, v27]))] H := hP
  have hD : va_D A [(a0, .inr (15, [.int 1, v1, v2, v3, v4, v5, v6, v7, v8, v9, v10, v11, v12, v13, v14, v15, v16, v17, v18, v19, v20, v21, v22, v23, v24, v25, v26, v27]))] := hD
  refine lv_if_eq (tgt := 57) hx hb dX10_setGas_52 (by decide) (fun z => absurd z (by decide)) (fun _ => ?_)
  refine lv_iconst (v := (-1)) hx hb dX10_setGas_55 (by decide) ?_
  exact en_z hx hb hr hlk hP hD hS rfl (fun _ => 0) (is := [0]) rfl rfl (Nat.le_of_ble_eq_true rfl) (Nat.le_of_ble_eq_true rfl) dX10_setGas_56
set_option maxHeartbeats 4000000 in
set_option maxRecDepth 100000 in
theorem k357_X9_setGas (l : Launch) (hst : l.stackTraces = false) (D : va_G) (cy : Nat → ClassId) (g : Nat → Nat) (x0 : Int32) (x1 : Int32) (x2 : Int32) (b0 : Nat) (sz : Nat) (h0 : ¬ x0 < 1) (h1 : (20 : Int32) < x0) : vx_Met l yX9_setGas [.code yX9_setGas cX9_setGas 6 (some .int)] ({ frames := 6, cells := 1, slots := 6, locals := 82 }) (PC D cy g [] sz [.ref b0, .int x0, .int x1, .int x2]) QN (XE "java/lang/IllegalArgumentException" (va_A [] sz)) 1 6 (va_A [] sz) := by
  refine st_X (by decide) (Nat.le_of_ble_eq_true rfl) ?_
  intro p e s m args below meth c A ls hx hb hr hml hown hlk hnm hsz hP hD hA hE hts hS hl hout
  have hown : s.vm.findClass RX9 = some m.cls := hown
  have hl : lv_has ls 6 [(0, .ref b0), (1, .int x0), (2, .int x1), (3, .int x2)] := hl
  refine lv_iload_n hx hb dX9_setGas_0 rfl (lv_at hl 1 rfl) ?_
  refine lv_iconst (v := 1) hx hb dX9_setGas_1 (by decide) ?_
  refine lv_bipush (v := 20) hx hb dX9_setGas_2 (by decide) ?_
  refine ca_i (isC := []) (isR := []) (wr := []) (rn_S (isC := []) (wc := []) (As := [.int x0, .int 1, .int 20]) (rest := []) (n := 3) hx hb hml hown hts hE hS hP hD hA hl.1 (k25_X9_isOutside l D cy g x0 1 20 s.heap.size h0 h1) rfl rfl ax_30 rfl rfl ax_31 ⟨Nat.le_of_ble_eq_true rfl, Nat.le_of_ble_eq_true rfl⟩ rfl rfl (Nat.le_of_ble_eq_true rfl) dX9_setGas_4 ⟨(Nat.le_of_ble_eq_true rfl), (Nat.le_of_ble_eq_true rfl)⟩) hP hD hS hA rfl rfl rfl (by decide) (fun ad4 H locs hP hD hS => ?_)
  have hP : va_P D vwCl [] H := hP
  have hD : va_D A [] := hD
  refine lv_if_ne (tgt := 32) hx hb dX9_setGas_7 (by decide) (fun _ => ?_) (fun z => absurd z (by decide))
  exact th_S (text := "a number is out of range") hx hb hst hown hts hE hS (hl.1.trans hml.symm) hout hlk (by decide +kernel) tw_296 tw_297 ax_32 (by decide +kernel) dX9_setGas_32 dX9_setGas_35 dX9_setGas_36 dX9_setGas_38 dX9_setGas_41 ⟨Nat.le_of_ble_eq_true rfl, Nat.le_of_ble_eq_true rfl, Nat.le_of_ble_eq_true rfl, Nat.le_of_ble_eq_true rfl⟩ (Nat.le_of_ble_eq_true rfl) (Nat.le_of_ble_eq_true rfl)
set_option maxHeartbeats 4000000 in
set_option maxRecDepth 100000 in
theorem k358_L_setGas (l : Launch) (hst : l.stackTraces = false) (D : va_G) (cy : Nat → ClassId) (g : Nat → Nat) (x0 : Int32) (x1 : Int32) (x2 : Int32) (a0 : Nat) (b0 : Nat) (v0 : Value) (v1 : Value) (v2 : Value) (v3 : Value) (v4 : Value) (v5 : Value) (v6 : Value) (sz : Nat) (h0 : ¬ x0 < 1) (h1 : (20 : Int32) < x0) : Met l yL_setGas [.codeWith yL_setGas cL_setGas 6 (some .int) [(0, 12, 15, 13)]] ({ frames := 7, cells := 1, slots := 6, locals := 107 }) (PC D cy g [(a0, .inr (14, [v0, v1, v2, v3, v4, v5, v6]))] sz [.ref a0, .int x0, .int x1, .int x2, .ref b0]) (QI D 1 (fun ad => []) (va_A [(a0, .inr (14, [v0, v1, v2, v3, v4, v5, v6]))] sz)) 1 6 (va_A [(a0, .inr (14, [v0, v1, v2, v3, v4, v5, v6]))] sz) := by
  refine sh_I (by decide) (Nat.le_of_ble_eq_true rfl) ?_
  intro p e s m args below meth c A ls hx hb hr hml hown hlk hnm hsz hP hD hA hE hts hS hl htb
  have hown : s.vm.findClass RL = some m.cls := hown
  have hl : lv_has ls 6 [(0, .ref a0), (1, .int x0), (2, .int x1), (3, .int x2), (4, .ref b0)] := hl
  refine lv_aload hx hb dL_setGas_0 (lv_at hl 4 rfl) ?_
  refine lv_iconst (v := 0) hx hb dL_setGas_2 (by decide) ?_
  refine lv_aload_n hx hb dL_setGas_3 rfl (lv_at hl 0 rfl) ?_
  refine lv_iload_n hx hb dL_setGas_4 rfl (lv_at hl 1 rfl) ?_
  refine lv_iload_n hx hb dL_setGas_5 rfl (lv_at hl 2 rfl) ?_
  refine lv_iload_n hx hb dL_setGas_6 rfl (lv_at hl 3 rfl) ?_
  refine cx_catch (isC := []) (isR := [0]) (wr := [(a0, .inr (14, [v0, v1, v2, v3, v4, v5, v6]))]) (hp := []) (z := (0, 12, 15, 13)) (hq := []) (name := "java/lang/IllegalArgumentException") (own := RL) (rx_V (ci := 14) (q0 := 0) (isC := []) (wc := []) (As := [.int x0, .int x1, .int x2]) (rest := [.int 0, .ref b0]) (n := 3) hx hb hml hown hts hE hS hP hD hA hl.1 (k357_X9_setGas l hst D cy g x0 x1 x2 a0 s.heap.size h0 h1) rfl rfl rfl rfl rfl ax_268 rfl rfl ax_269 ⟨Nat.le_of_ble_eq_true rfl, Nat.le_of_ble_eq_true rfl⟩ rfl rfl (Nat.le_of_ble_eq_true rfl) dL_setGas_7 ⟨(Nat.le_of_ble_eq_true rfl), (Nat.le_of_ble_eq_true rfl)⟩) hP hD hS hA hown hts hE htb rfl rfl rfl rfl (by decide) (fun z hz => by cases hz) (by decide) (by decide) tw_302 tw_303 (fun qx H locs hP hD hS => ?_)
  have hP : va_P D vwCl [(a0, .inr (14, [v0, v1, v2, v3, v4, v5, v6]))] H := hP
  have hD : va_D A [(a0, .inr (14, [v0, v1, v2, v3, v4, v5, v6]))] := hD
  refine lv_astore (lv' := [(5, .ref qx), (0, .ref a0), (1, .int x0), (2, .int x1), (3, .int x2), (4, .ref b0)]) hx hb dL_setGas_15 hl (Nat.le_of_ble_eq_true rfl) rfl (fun ls hl => ?_)
  refine lv_iconst (v := 1) hx hb dL_setGas_17 (by decide) ?_
  exact en_z hx hb hr hlk hP hD hS rfl (fun _ => 0) (is := []) rfl rfl (Nat.le_of_ble_eq_true rfl) (Nat.le_of_ble_eq_true rfl) dL_setGas_18
set_option maxHeartbeats 4000000 in
set_option maxRecDepth 100000 in
theorem k359_X10_setGas (l : Launch) (D : va_G) (cy : Nat → ClassId) (g : Nat → Nat) (x0 : Int32) (x1 : Int32) (x2 : Int32) (a0 : Nat) (v0 : Value) (v1 : Value) (v2 : Value) (v3 : Value) (v4 : Value) (v5 : Value) (v6 : Value) (v7 : Value) (v8 : Value) (v9 : Value) (v10 : Value) (v11 : Value) (v12 : Value) (v13 : Value) (v14 : Value) (v15 : Value) (v16 : Value) (v17 : Value) (v18 : Value) (v19 : Value) (v20 : Value) (v21 : Value) (v22 : Value) (v23 : Value) (v24 : Value) (v25 : Value) (v26 : Value) (v27 : Value) (sz : Nat) (h0 : ¬ x0 < 1) (h1 : (20 : Int32) < x0) : Met l yX10_setGas [.code yX10_setGas cX10_setGas 5 (some .int)] ({ frames := 1, cells := 0, slots := 0, locals := 25 }) (PC D cy g [(a0, .inr (15, [v0, v1, v2, v3, v4, v5, v6, v7, v8, v9, v10, v11, v12, v13, v14, v15, v16, v17, v18, v19, v20, v21, v22, v23, v24, v25, v26, v27]))] sz [.ref a0, .int x0, .int x1, .int x2]) (QI D (-1) (fun ad => [(a0, .inr (15, [.int 1, v1, v2, v3, v4, v5, v6, v7, v8, v9, v10, v11, v12, v13, v14, v15, v16, v17, v18, v19, v20, v21, v22, v23, v24, v25, v26, v27]))]) (va_A [(a0, .inr (15, [v0, v1, v2, v3, v4, v5, v6, v7, v8, v9, v10, v11, v12, v13, v14, v15, v16, v17, v18, v19, v20, v21, v22, v23, v24, v25, v26, v27]))] sz)) 0 0 (va_A [(a0, .inr (15, [v0, v1, v2, v3, v4, v5, v6, v7, v8, v9, v10, v11, v12, v13, v14, v15, v16, v17, v18, v19, v20, v21, v22, v23, v24, v25, v26, v27]))] sz) := by
  refine st_I (by decide) (Nat.le_of_ble_eq_true rfl) ?_
  intro p e s m args below meth c A ls hx hb hr hml hown hlk hnm hsz hP hD hA hE hts hS hl
  have hown : s.vm.findClass RX10 = some m.cls := hown
  have hl : lv_has ls 5 [(0, .ref a0), (1, .int x0), (2, .int x1), (3, .int x2)] := hl
  refine lv_aload_n hx hb dX10_setGas_0 rfl (lv_at hl 0 rfl) ?_
  refine ca_v (isC := [0]) (isR := []) (wr := []) (rn_V (ci := 15) (q0 := 0) (isC := [0]) (wc := [(a0, .inr (15, [v0, v1, v2, v3, v4, v5, v6, v7, v8, v9, v10, v11, v12, v13, v14, v15, v16, v17, v18, v19, v20, v21, v22, v23, v24, v25, v26, v27]))]) (As := []) (rest := []) (n := 0) hx hb hml hown hts hE hS hP hD hA hl.1 (k20_X10_begins l D cy g a0 (v0) (v1) (v2) (v3) (v4) (v5) (v6) (v7) (v8) (v9) (v10) (v11) (v12) (v13) (v14) (v15) (v16) (v17) (v18) (v19) (v20) (v21) (v22) (v23) (v24) (v25) (v26) (v27) s.heap.size ) rfl rfl rfl rfl rfl ax_37 rfl rfl ax_38 ⟨Nat.le_of_ble_eq_true rfl, Nat.le_of_ble_eq_true rfl⟩ rfl rfl (Nat.le_of_ble_eq_true rfl) dX10_setGas_1 ⟨(Nat.le_of_ble_eq_true rfl), (Nat.le_of_ble_eq_true rfl)⟩) hP hD hS hA rfl rfl rfl (by decide) (fun ad1 H locs hP hD hS => ?_)
  have hP : va_P D vwCl [(a0, .inr (15, [.int 0, v1, v2, v3, v4, v5, v6, v7, v8, v9, v10, v11, v12, v13, v14, v15, v16, v17, v18, v19, v20, v21, v22, v23, v24, v25, v26, v27]))] H := hP
  have hD : va_D A [(a0, .inr (15, [.int 0, v1, v2, v3, v4, v5, v6, v7, v8, v9, v10, v11, v12, v13, v14, v15, v16, v17, v18, v19, v20, v21, v22, v23, v24, v25, v26, v27]))] := hD
  refine lv_aload_n hx hb dX10_setGas_4 rfl (lv_at hl 0 rfl) ?_
  refine lv_iload_n hx hb dX10_setGas_5 rfl (lv_at hl 1 rfl) ?_
  refine lv_i2l (v := x0.toInt64) hx hb dX10_setGas_6 rfl ?_
  refine lv_lconst (v := 1) hx hb dX10_setGas_7 (by decide) ?_
  refine lv_ldc2 (v := 20) hx hb hown (hts _ tw_808) dX10_setGas_8 ?_
  refine ca_i (isC := []) (isR := [0]) (wr := [(a0, .inr (15, [.int 0, v1, v2, v3, v4, v5, v6, v7, v8, v9, v10, v11, v12, v13, v14, v15, v16, v17, v18, v19, v20, v21, v22, v23, v24, v25, v26, v27]))]) (rn_S (isC := []) (wc := []) (As := [.long x0.toInt64, .long 1, .long 20]) (rest := [.ref a0]) (n := 3) hx hb hml hown hts hE hS hP hD hA hl.1 (k28_X10_in l D cy g x0.toInt64 1 20 H.size (wl_nlt rfl (by decide) h0) (wl_lt (by decide) rfl h1)) rfl rfl ax_39 rfl rfl ax_40 ⟨Nat.le_of_ble_eq_true rfl, Nat.le_of_ble_eq_true rfl⟩ rfl rfl (Nat.le_of_ble_eq_true rfl) dX10_setGas_11 ⟨(Nat.le_of_ble_eq_true rfl), (Nat.le_of_ble_eq_true rfl)⟩) hP hD hS hA rfl rfl rfl (by decide) (fun ad11 H locs hP hD hS => ?_)
  have hP : va_P D vwCl [(a0, .inr (15, [.int 0, v1, v2, v3, v4, v5, v6, v7, v8, v9, v10, v11, v12, v13, v14, v15, v16, v17, v18, v19, v20, v21, v22, v23, v24, v25, v26, v27]))] H := hP
  have hD : va_D A [(a0, .inr (15, [.int 0, v1, v2, v3, v4, v5, v6, v7, v8, v9, v10, v11, v12, v13, v14, v15, v16, v17, v18, v19, v20, v21, v22, v23, v24, v25, v26, v27]))] := hD
  refine lv_if_eq (tgt := 43) hx hb dX10_setGas_14 (by decide) (fun _ => ?_) (fun z => absurd (by decide) z)
  refine lv_iconst (v := 1) hx hb dX10_setGas_43 (by decide) ?_
  refine lv_goto (tgt := 48) hx hb dX10_setGas_44 (by decide) ?_
  refine lv_iconst (v := 1) hx hb dX10_setGas_48 (by decide) ?_
  refine ca_i (isC := [0]) (isR := []) (wr := []) (rn_V (ci := 15) (q0 := 0) (isC := [0]) (wc := [(a0, .inr (15, [.int 0, v1, v2, v3, v4, v5, v6, v7, v8, v9, v10, v11, v12, v13, v14, v15, v16, v17, v18, v19, v20, v21, v22, v23, v24, v25, v26, v27]))]) (As := [.int 1, .int 1]) (rest := []) (n := 2) hx hb hml hown hts hE hS hP hD hA hl.1 (k22_X10_fails l D cy g a0 (v1) (v2) (v3) (v4) (v5) (v6) (v7) (v8) (v9) (v10) (v11) (v12) (v13) (v14) (v15) (v16) (v17) (v18) (v19) (v20) (v21) (v22) (v23) (v24) (v25) (v26) (v27) H.size ) rfl rfl rfl rfl rfl ax_41 rfl rfl ax_42 ⟨Nat.le_of_ble_eq_true rfl, Nat.le_of_ble_eq_true rfl⟩ rfl rfl (Nat.le_of_ble_eq_true rfl) dX10_setGas_49 ⟨(Nat.le_of_ble_eq_true rfl), (Nat.le_of_ble_eq_true rfl)⟩) hP hD hS hA rfl rfl rfl (by decide) (fun ad49 H locs hP hD hS => ?_)
  have hP : va_P D vwCl [(a0, .inr (15, [.int 1, v1, v2, v3, v4, v5, v6, v7, v8, v9, v10, v11, v12, v13, v14, v15, v16, v17, v18, v19, v20, v21, v22, v23, v24, v25, v26, v27]))] H := hP
  have hD : va_D A [(a0, .inr (15, [.int 1, v1, v2, v3, v4, v5, v6, v7, v8, v9, v10, v11, v12, v13, v14, v15, v16, v17, v18, v19, v20, v21, v22, v23, v24, v25, v26, v27]))] := hD
  refine lv_if_eq (tgt := 57) hx hb dX10_setGas_52 (by decide) (fun z => absurd z (by decide)) (fun _ => ?_)
  refine lv_iconst (v := (-1)) hx hb dX10_setGas_55 (by decide) ?_
  exact en_z hx hb hr hlk hP hD hS rfl (fun _ => 0) (is := [0]) rfl rfl (Nat.le_of_ble_eq_true rfl) (Nat.le_of_ble_eq_true rfl) dX10_setGas_56

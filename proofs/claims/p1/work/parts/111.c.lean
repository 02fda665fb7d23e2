set_option maxHeartbeats 4000000 in
set_option maxRecDepth 100000 in
theorem k660_X10_claim (l : Launch) (D : va_G) (cy : Nat → ClassId) (g : Nat → Nat) (x0 : Int32) (x1 : Int32) (x2 : Int32) (x3 : Int32) (a0 : Nat) (v0 : Value) (v1 : Value) (v2 : Value) (v3 : Value) (v4 : Value) (v5 : Value) (v6 : Value) (v7 : Value) (v8 : Value) (v9 : Value) (v10 : Value) (v11 : Value) (v12 : Value) (v13 : Value) (v14 : Value) (v15 : Value) (v16 : Value) (v17 : Value) (v18 : Value) (v19 : Value) (v20 : Value) (v21 : Value) (v22 : Value) (v23 : Value) (v24 : Value) (v25 : Value) (v26 : Value) (v27 : Value) (sz : Nat) (h0 : ¬ x3 < 0) (h1 : ¬ (200000 : Int32) < x3) (h2 : ¬ x0 < 1) (h3 : ¬ (100000 : Int32) < x0) (h4 : ¬ x1 < 50) (h5 : ¬ (2000 : Int32) < x1) (h6 : ¬ x2 < 50) (h7 : (2000 : Int32) < x2) : Met l yX10_claim [.code yX10_claim cX10_claim 5 (some .char)] ({ frames := 2, cells := 0, slots := 0, locals := 48 }) (PC D cy g [(a0, .inr (15, [v0, v1, v2, v3, v4, v5, v6, v7, v8, v9, v10, v11, v12, v13, v14, v15, v16, v17, v18, v19, v20, v21, v22, v23, v24, v25, v26, v27]))] sz [.ref a0, .int x0, .int x1, .int x2, .int x3]) (QI D 32 (fun ad => [(a0, .inr (15, [.int 1, v1, v2, v3, v4, v5, v6, v7, v8, v9, v10, v11, v12, v13, v14, v15, v16, v17, v18, v19, v20, v21, v22, v23, v24, v25, v26, v27]))]) (va_A [(a0, .inr (15, [v0, v1, v2, v3, v4, v5, v6, v7, v8, v9, v10, v11, v12, v13, v14, v15, v16, v17, v18, v19, v20, v21, v22, v23, v24, v25, v26, v27]))] sz)) 0 0 (va_A [(a0, .inr (15, [v0, v1, v2, v3, v4, v5, v6, v7, v8, v9, v10, v11, v12, v13, v14, v15, v16, v17, v18, v19, v20, v21, v22, v23, v24, v25, v26, v27]))] sz) := by
  refine st_I (by decide) (Nat.le_of_ble_eq_true rfl) ?_
  intro p e s m args below meth c A ls hx hb hr hml hown hlk hnm hsz hP hD hA hE hts hS hl
  have hown : s.vm.findClass RX10 = some m.cls := hown
  have hl : lv_has ls 5 [(0, .ref a0), (1, .int x0), (2, .int x1), (3, .int x2), (4, .int x3)] := hl
  refine lv_aload_n hx hb dX10_claim_0 rfl (lv_at hl 0 rfl) ?_
  refine ca_v (isC := [0]) (isR := []) (wr := []) (rn_V (ci := 15) (q0 := 0) (isC := [0]) (wc := [(a0, .inr (15, [v0, v1, v2, v3, v4, v5, v6, v7, v8, v9, v10, v11, v12, v13, v14, v15, v16, v17, v18, v19, v20, v21, v22, v23, v24, v25, v26, v27]))]) (As := []) (rest := []) (n := 0) hx hb hml hown hts hE hS hP hD hA hl.1 (k20_X10_begins l D cy g a0 (v0) (v1) (v2) (v3) (v4) (v5) (v6) (v7) (v8) (v9) (v10) (v11) (v12) (v13) (v14) (v15) (v16) (v17) (v18) (v19) (v20) (v21) (v22) (v23) (v24) (v25) (v26) (v27) s.heap.size ) rfl rfl rfl rfl rfl ax_37 rfl rfl ax_38 ⟨Nat.le_of_ble_eq_true rfl, Nat.le_of_ble_eq_true rfl⟩ rfl rfl (Nat.le_of_ble_eq_true rfl) dX10_claim_1 ⟨(Nat.le_of_ble_eq_true rfl), (Nat.le_of_ble_eq_true rfl)⟩) hP hD hS hA rfl rfl rfl (by decide) (fun ad1 H locs hP hD hS => ?_)
  have hP : va_P D vwCl [(a0, .inr (15, [.int 0, v1, v2, v3, v4, v5, v6, v7, v8, v9, v10, v11, v12, v13, v14, v15, v16, v17, v18, v19, v20, v21, v22, v23, v24, v25, v26, v27]))] H := hP
  have hD : va_D A [(a0, .inr (15, [.int 0, v1, v2, v3, v4, v5, v6, v7, v8, v9, v10, v11, v12, v13, v14, v15, v16, v17, v18, v19, v20, v21, v22, v23, v24, v25, v26, v27]))] := hD
  refine lv_aload_n hx hb dX10_claim_4 rfl (lv_at hl 0 rfl) ?_
  refine lv_iload hx hb dX10_claim_5 (lv_at hl 4 rfl) ?_
  refine lv_i2l (v := x3.toInt64) hx hb dX10_claim_7 rfl ?_
  refine lv_lconst (v := 0) hx hb dX10_claim_8 (by decide) ?_
  refine lv_ldc2 (v := 200000) hx hb hown (hts _ tw_1193) dX10_claim_9 ?_
  refine ca_i (isC := []) (isR := [0]) (wr := [(a0, .inr (15, [.int 0, v1, v2, v3, v4, v5, v6, v7, v8, v9, v10, v11, v12, v13, v14, v15, v16, v17, v18, v19, v20, v21, v22, v23, v24, v25, v26, v27]))]) (rn_S (isC := []) (wc := []) (As := [.long x3.toInt64, .long 0, .long 200000]) (rest := [.ref a0]) (n := 3) hx hb hml hown hts hE hS hP hD hA hl.1 (k33_X10_in l D cy g x3.toInt64 0 200000 H.size (wl_nlt rfl (by decide) h0) (wl_nlt (by decide) rfl h1)) rfl rfl ax_39 rfl rfl ax_40 ⟨Nat.le_of_ble_eq_true rfl, Nat.le_of_ble_eq_true rfl⟩ rfl rfl (Nat.le_of_ble_eq_true rfl) dX10_claim_12 ⟨(Nat.le_of_ble_eq_true rfl), (Nat.le_of_ble_eq_true rfl)⟩) hP hD hS hA rfl rfl rfl (by decide) (fun ad12 H locs hP hD hS => ?_)
  have hP : va_P D vwCl [(a0, .inr (15, [.int 0, v1, v2, v3, v4, v5, v6, v7, v8, v9, v10, v11, v12, v13, v14, v15, v16, v17, v18, v19, v20, v21, v22, v23, v24, v25, v26, v27]))] H := hP
  have hD : va_D A [(a0, .inr (15, [.int 0, v1, v2, v3, v4, v5, v6, v7, v8, v9, v10, v11, v12, v13, v14, v15, v16, v17, v18, v19, v20, v21, v22, v23, v24, v25, v26, v27]))] := hD
  refine lv_if_ne (tgt := 22) hx hb dX10_claim_15 (by decide) (fun _ => ?_) (fun z => absurd z (by decide))
  refine lv_iconst (v := 0) hx hb dX10_claim_22 (by decide) ?_
  refine lv_iconst (v := 1) hx hb dX10_claim_23 (by decide) ?_
  refine ca_i (isC := [0]) (isR := []) (wr := []) (rn_V (ci := 15) (q0 := 0) (isC := [0]) (wc := [(a0, .inr (15, [.int 0, v1, v2, v3, v4, v5, v6, v7, v8, v9, v10, v11, v12, v13, v14, v15, v16, v17, v18, v19, v20, v21, v22, v23, v24, v25, v26, v27]))]) (As := [.int 0, .int 1]) (rest := []) (n := 2) hx hb hml hown hts hE hS hP hD hA hl.1 (k43_X10_fails l D cy g a0 (v1) (v2) (v3) (v4) (v5) (v6) (v7) (v8) (v9) (v10) (v11) (v12) (v13) (v14) (v15) (v16) (v17) (v18) (v19) (v20) (v21) (v22) (v23) (v24) (v25) (v26) (v27) H.size ) rfl rfl rfl rfl rfl ax_41 rfl rfl ax_42 ⟨Nat.le_of_ble_eq_true rfl, Nat.le_of_ble_eq_true rfl⟩ rfl rfl (Nat.le_of_ble_eq_true rfl) dX10_claim_24 ⟨(Nat.le_of_ble_eq_true rfl), (Nat.le_of_ble_eq_true rfl)⟩) hP hD hS hA rfl rfl rfl (by decide) (fun ad24 H locs hP hD hS => ?_)
  have hP : va_P D vwCl [(a0, .inr (15, [.int 0, v1, v2, v3, v4, v5, v6, v7, v8, v9, v10, v11, v12, v13, v14, v15, v16, v17, v18, v19, v20, v21, v22, v23, v24, v25, v26, v27]))] H := hP
  have hD : va_D A [(a0, .inr (15, [.int 0, v1, v2, v3, v4, v5, v6, v7, v8, v9, v10, v11, v12, v13, v14, v15, v16, v17, v18, v19, v20, v21, v22, v23, v24, v25, v26, v27]))] := hD
  refine lv_if_ne (tgt := 40) hx hb dX10_claim_27 (by decide) (fun z => absurd (by decide) z) (fun _ => ?_)
  refine lv_aload_n hx hb dX10_claim_30 rfl (lv_at hl 0 rfl) ?_
  refine lv_iload_n hx hb dX10_claim_31 rfl (lv_at hl 1 rfl) ?_
  refine lv_iload_n hx hb dX10_claim_32 rfl (lv_at hl 2 rfl) ?_
  refine lv_iload_n hx hb dX10_claim_33 rfl (lv_at hl 3 rfl) ?_
  refine ca_i (isC := [0]) (isR := []) (wr := []) (rn_V (ci := 15) (q0 := 0) (isC := [0]) (wc := [(a0, .inr (15, [.int 0, v1, v2, v3, v4, v5, v6, v7, v8, v9, v10, v11, v12, v13, v14, v15, v16, v17, v18, v19, v20, v21, v22, v23, v24, v25, v26, v27]))]) (As := [.int x0, .int x1, .int x2]) (rest := []) (n := 3) hx hb hml hown hts hE hS hP hD hA hl.1 (k659_X10_noClaim l D cy g x0 x1 x2 a0 (v1) (v2) (v3) (v4) (v5) (v6) (v7) (v8) (v9) (v10) (v11) (v12) (v13) (v14) (v15) (v16) (v17) (v18) (v19) (v20) (v21) (v22) (v23) (v24) (v25) (v26) (v27) H.size h2 h3 h4 h5 h6 h7) rfl rfl rfl rfl rfl ax_452 rfl rfl ax_453 ⟨Nat.le_of_ble_eq_true rfl, Nat.le_of_ble_eq_true rfl⟩ rfl rfl (Nat.le_of_ble_eq_true rfl) dX10_claim_34 ⟨(Nat.le_of_ble_eq_true rfl), (Nat.le_of_ble_eq_true rfl)⟩) hP hD hS hA rfl rfl rfl (by decide) (fun ad34 H locs hP hD hS => ?_)
  have hP : va_P D vwCl [(a0, .inr (15, [.int 1, v1, v2, v3, v4, v5, v6, v7, v8, v9, v10, v11, v12, v13, v14, v15, v16, v17, v18, v19, v20, v21, v22, v23, v24, v25, v26, v27]))] H := hP
  have hD : va_D A [(a0, .inr (15, [.int 1, v1, v2, v3, v4, v5, v6, v7, v8, v9, v10, v11, v12, v13, v14, v15, v16, v17, v18, v19, v20, v21, v22, v23, v24, v25, v26, v27]))] := hD
  refine lv_if_eq (tgt := 43) hx hb dX10_claim_37 (by decide) (fun z => absurd z (by decide)) (fun _ => ?_)
  refine lv_bipush (v := 32) hx hb dX10_claim_40 (by decide) ?_
  exact en_z hx hb hr hlk hP hD hS rfl (fun _ => 0) (is := [0]) rfl rfl (Nat.le_of_ble_eq_true rfl) (Nat.le_of_ble_eq_true rfl) dX10_claim_42
set_option maxHeartbeats 4000000 in
set_option maxRecDepth 100000 in
theorem k661_X9_requireClaim (l : Launch) (D : va_G) (cy : Nat → ClassId) (g : Nat → Nat) (x0 : Int32) (x1 : Int32) (x2 : Int32) (b0 : Nat) (sz : Nat) (h0 : ¬ x0 < 1) (h1 : ¬ (100000 : Int32) < x0) (h2 : ¬ x1 < 50) (h3 : ¬ (2000 : Int32) < x1) (h4 : ¬ x2 < 50) (h5 : ¬ (2000 : Int32) < x2) (h6 : x2 < x1) : Met l yX9_requireClaim [.code yX9_requireClaim cX9_requireClaim 4 none] ({ frames := 1, cells := 0, slots := 0, locals := 22 }) (PC D cy g [] sz [.ref b0, .int x0, .int x1, .int x2]) (QV D (fun ad => []) (va_A [] sz)) 0 0 (va_A [] sz) := by
  refine st_V (by decide) (Nat.le_of_ble_eq_true rfl) ?_
  intro p e s m args below meth c A ls hx hb hr hml hown hlk hnm hsz hP hD hA hE hts hS hl
  have hown : s.vm.findClass RX9 = some m.cls := hown
  have hl : lv_has ls 4 [(0, .ref b0), (1, .int x0), (2, .int x1), (3, .int x2)] := hl
  refine lv_iload_n hx hb dX9_requireClaim_0 rfl (lv_at hl 1 rfl) ?_
  refine lv_iconst (v := 1) hx hb dX9_requireClaim_1 (by decide) ?_
  refine lv_ldc (v := 100000) hx hb hown (hts _ tw_1181) dX9_requireClaim_2 ?_
  refine ca_i (isC := []) (isR := []) (wr := []) (rn_S (isC := []) (wc := []) (As := [.int x0, .int 1, .int 100000]) (rest := []) (n := 3) hx hb hml hown hts hE hS hP hD hA hl.1 (k30_X9_isOutside l D cy g x0 1 100000 s.heap.size h0 h1) rfl rfl ax_30 rfl rfl ax_31 ⟨Nat.le_of_ble_eq_true rfl, Nat.le_of_ble_eq_true rfl⟩ rfl rfl (Nat.le_of_ble_eq_true rfl) dX9_requireClaim_4 ⟨(Nat.le_of_ble_eq_true rfl), (Nat.le_of_ble_eq_true rfl)⟩) hP hD hS hA rfl rfl rfl (by decide) (fun ad4 H locs hP hD hS => ?_)
  have hP : va_P D vwCl [] H := hP
  have hD : va_D A [] := hD
  refine lv_if_ne (tgt := 39) hx hb dX9_requireClaim_7 (by decide) (fun z => absurd (by decide) z) (fun _ => ?_)
  refine lv_iload_n hx hb dX9_requireClaim_10 rfl (lv_at hl 2 rfl) ?_
  refine lv_bipush (v := 50) hx hb dX9_requireClaim_11 (by decide) ?_
  refine lv_sipush (v := 2000) hx hb dX9_requireClaim_13 (by decide) ?_
  refine ca_i (isC := []) (isR := []) (wr := []) (rn_S (isC := []) (wc := []) (As := [.int x1, .int 50, .int 2000]) (rest := []) (n := 3) hx hb hml hown hts hE hS hP hD hA hl.1 (k30_X9_isOutside l D cy g x1 50 2000 H.size h2 h3) rfl rfl ax_30 rfl rfl ax_31 ⟨Nat.le_of_ble_eq_true rfl, Nat.le_of_ble_eq_true rfl⟩ rfl rfl (Nat.le_of_ble_eq_true rfl) dX9_requireClaim_16 ⟨(Nat.le_of_ble_eq_true rfl), (Nat.le_of_ble_eq_true rfl)⟩) hP hD hS hA rfl rfl rfl (by decide) (fun ad16 H locs hP hD hS => ?_)
  have hP : va_P D vwCl [] H := hP
  have hD : va_D A [] := hD
  refine lv_if_ne (tgt := 39) hx hb dX9_requireClaim_19 (by decide) (fun z => absurd (by decide) z) (fun _ => ?_)
  refine lv_iload_n hx hb dX9_requireClaim_22 rfl (lv_at hl 3 rfl) ?_
  refine lv_bipush (v := 50) hx hb dX9_requireClaim_23 (by decide) ?_
  refine lv_sipush (v := 2000) hx hb dX9_requireClaim_25 (by decide) ?_
  refine ca_i (isC := []) (isR := []) (wr := []) (rn_S (isC := []) (wc := []) (As := [.int x2, .int 50, .int 2000]) (rest := []) (n := 3) hx hb hml hown hts hE hS hP hD hA hl.1 (k30_X9_isOutside l D cy g x2 50 2000 H.size h4 h5) rfl rfl ax_30 rfl rfl ax_31 ⟨Nat.le_of_ble_eq_true rfl, Nat.le_of_ble_eq_true rfl⟩ rfl rfl (Nat.le_of_ble_eq_true rfl) dX9_requireClaim_28 ⟨(Nat.le_of_ble_eq_true rfl), (Nat.le_of_ble_eq_true rfl)⟩) hP hD hS hA rfl rfl rfl (by decide) (fun ad28 H locs hP hD hS => ?_)
  have hP : va_P D vwCl [] H := hP
  have hD : va_D A [] := hD
  refine lv_if_ne (tgt := 39) hx hb dX9_requireClaim_31 (by decide) (fun z => absurd (by decide) z) (fun _ => ?_)
  refine lv_iload_n hx hb dX9_requireClaim_34 rfl (lv_at hl 3 rfl) ?_
  refine lv_iload_n hx hb dX9_requireClaim_35 rfl (lv_at hl 2 rfl) ?_
  refine lv_icmp_lt (tgt := 49) hx hb dX9_requireClaim_36 (by decide) (fun _ => ?_) (fun z => absurd h6 z)
  exact en_v hx hb hr hlk hP hD hS (fun _ => 0) (is := []) rfl rfl (Nat.le_of_ble_eq_true rfl) (Nat.le_of_ble_eq_true rfl) dX9_requireClaim_49
set_option maxHeartbeats 4000000 in
set_option maxRecDepth 100000 in
theorem k662_X9_claim (l : Launch) (hst : l.stackTraces = false) (D : va_G) (cy : Nat → ClassId) (g : Nat → Nat) (x0 : Int32) (x1 : Int32) (x2 : Int32) (x3 : Int32) (a0 : Nat) (v0 : Value) (v1 : Value) (v2 : Value) (v3 : Value) (v4 : Value) (v5 : Value) (v6 : Value) (sz : Nat) (h0 : ¬ x0 < 1) (h1 : ¬ (100000 : Int32) < x0) (h2 : ¬ x1 < 50) (h3 : ¬ (2000 : Int32) < x1) (h4 : ¬ x2 < 50) (h5 : ¬ (2000 : Int32) < x2) (h6 : x2 < x1) (h7 : x3 < 0) : vx_Met l yX9_claim [.code yX9_claim cX9_claim 5 (some .char)] ({ frames := 6, cells := 1, slots := 6, locals := 82 }) (PC D cy g [(a0, .inr (14, [v0, v1, v2, v3, v4, v5, v6]))] sz [.ref a0, .int x0, .int x1, .int x2, .int x3]) QN (XE "java/lang/IllegalArgumentException" (va_A [(a0, .inr (14, [v0, v1, v2, v3, v4, v5, v6]))] sz)) 1 6 (va_A [(a0, .inr (14, [v0, v1, v2, v3, v4, v5, v6]))] sz) := by
  refine st_X (by decide) (Nat.le_of_ble_eq_true rfl) ?_
  intro p e s m args below meth c A ls hx hb hr hml hown hlk hnm hsz hP hD hA hE hts hS hl hout
  have hown : s.vm.findClass RX9 = some m.cls := hown
  have hl : lv_has ls 5 [(0, .ref a0), (1, .int x0), (2, .int x1), (3, .int x2), (4, .int x3)] := hl
  refine lv_aload_n hx hb dX9_claim_0 rfl (lv_at hl 0 rfl) ?_
  refine lv_iload_n hx hb dX9_claim_1 rfl (lv_at hl 1 rfl) ?_
  refine lv_iload_n hx hb dX9_claim_2 rfl (lv_at hl 2 rfl) ?_
  refine lv_iload_n hx hb dX9_claim_3 rfl (lv_at hl 3 rfl) ?_
  refine ca_v (isC := []) (isR := [0]) (wr := [(a0, .inr (14, [v0, v1, v2, v3, v4, v5, v6]))]) (rn_V (ci := 14) (q0 := 0) (isC := []) (wc := []) (As := [.int x0, .int x1, .int x2]) (rest := []) (n := 3) hx hb hml hown hts hE hS hP hD hA hl.1 (k661_X9_requireClaim l D cy g x0 x1 x2 a0 s.heap.size h0 h1 h2 h3 h4 h5 h6) rfl rfl rfl rfl rfl ax_444 rfl rfl ax_445 ⟨Nat.le_of_ble_eq_true rfl, Nat.le_of_ble_eq_true rfl⟩ rfl rfl (Nat.le_of_ble_eq_true rfl) dX9_claim_4 ⟨(Nat.le_of_ble_eq_true rfl), (Nat.le_of_ble_eq_true rfl)⟩) hP hD hS hA rfl rfl rfl (by decide) (fun ad4 H locs hP hD hS => ?_)
  have hP : va_P D vwCl [(a0, .inr (14, [v0, v1, v2, v3, v4, v5, v6]))] H := hP
  have hD : va_D A [(a0, .inr (14, [v0, v1, v2, v3, v4, v5, v6]))] := hD
  refine lv_iload hx hb dX9_claim_7 (lv_at hl 4 rfl) ?_
  refine lv_iconst (v := 0) hx hb dX9_claim_9 (by decide) ?_
  refine lv_ldcw (v := 200000) hx hb hown (hts _ tw_1203) dX9_claim_10 ?_
  refine ca_i (isC := []) (isR := [0]) (wr := [(a0, .inr (14, [v0, v1, v2, v3, v4, v5, v6]))]) (rn_S (isC := []) (wc := []) (As := [.int x3, .int 0, .int 200000]) (rest := []) (n := 3) hx hb hml hown hts hE hS hP hD hA hl.1 (k17_X9_isOutside l D cy g x3 0 200000 H.size h7) rfl rfl ax_30 rfl rfl ax_31 ⟨Nat.le_of_ble_eq_true rfl, Nat.le_of_ble_eq_true rfl⟩ rfl rfl (Nat.le_of_ble_eq_true rfl) dX9_claim_13 ⟨(Nat.le_of_ble_eq_true rfl), (Nat.le_of_ble_eq_true rfl)⟩) hP hD hS hA rfl rfl rfl (by decide) (fun ad13 H locs hP hD hS => ?_)
  have hP : va_P D vwCl [(a0, .inr (14, [v0, v1, v2, v3, v4, v5, v6]))] H := hP
  have hD : va_D A [(a0, .inr (14, [v0, v1, v2, v3, v4, v5, v6]))] := hD
  refine lv_if_eq (tgt := 29) hx hb dX9_claim_16 (by decide) (fun z => absurd z (by decide)) (fun _ => ?_)
  exact th_S (text := "the work is out of range") hx hb hst hown hts hE hS (hl.1.trans hml.symm) hout hlk (by decide +kernel) tw_296 tw_297 ax_32 (by decide +kernel) dX9_claim_19 dX9_claim_22 dX9_claim_23 dX9_claim_25 dX9_claim_28 ⟨Nat.le_of_ble_eq_true rfl, Nat.le_of_ble_eq_true rfl, Nat.le_of_ble_eq_true rfl, Nat.le_of_ble_eq_true rfl⟩ (Nat.le_of_ble_eq_true rfl) (Nat.le_of_ble_eq_true rfl)
set_option maxHeartbeats 4000000 in
set_option maxRecDepth 100000 in
theorem k663_L_claim (l : Launch) (hst : l.stackTraces = false) (D : va_G) (cy : Nat → ClassId) (g : Nat → Nat) (x0 : Int32) (x1 : Int32) (x2 : Int32) (x3 : Int32) (a0 : Nat) (b0 : Nat) (v0 : Value) (v1 : Value) (v2 : Value) (v3 : Value) (v4 : Value) (v5 : Value) (v6 : Value) (sz : Nat) (h0 : ¬ x0 < 1) (h1 : ¬ (100000 : Int32) < x0) (h2 : ¬ x1 < 50) (h3 : ¬ (2000 : Int32) < x1) (h4 : ¬ x2 < 50) (h5 : ¬ (2000 : Int32) < x2) (h6 : x2 < x1) (h7 : x3 < 0) : Met l yL_claim [.codeWith yL_claim cL_claim 7 (some .int) [(0, 14, 17, 13)]] ({ frames := 7, cells := 1, slots := 6, locals := 106 }) (PC D cy g [(a0, .inr (14, [v0, v1, v2, v3, v4, v5, v6]))] sz [.ref a0, .int x0, .int x1, .int x2, .int x3, .ref b0]) (QI D 1 (fun ad => []) (va_A [(a0, .inr (14, [v0, v1, v2, v3, v4, v5, v6]))] sz)) 1 6 (va_A [(a0, .inr (14, [v0, v1, v2, v3, v4, v5, v6]))] sz) := by
  refine sh_I (by decide) (Nat.le_of_ble_eq_true rfl) ?_
  intro p e s m args below meth c A ls hx hb hr hml hown hlk hnm hsz hP hD hA hE hts hS hl htb
  have hown : s.vm.findClass RL = some m.cls := hown
  have hl : lv_has ls 7 [(0, .ref a0), (1, .int x0), (2, .int x1), (3, .int x2), (4, .int x3), (5, .ref b0)] := hl
  refine lv_aload hx hb dL_claim_0 (lv_at hl 5 rfl) ?_
  refine lv_iconst (v := 0) hx hb dL_claim_2 (by decide) ?_
  refine lv_aload_n hx hb dL_claim_3 rfl (lv_at hl 0 rfl) ?_
  refine lv_iload_n hx hb dL_claim_4 rfl (lv_at hl 1 rfl) ?_
  refine lv_iload_n hx hb dL_claim_5 rfl (lv_at hl 2 rfl) ?_
  refine lv_iload_n hx hb dL_claim_6 rfl (lv_at hl 3 rfl) ?_
  refine lv_iload hx hb dL_claim_7 (lv_at hl 4 rfl) ?_
  refine cx_catch (isC := [0]) (isR := []) (wr := []) (hp := []) (z := (0, 14, 17, 13)) (hq := []) (name := "java/lang/IllegalArgumentException") (own := RL) (rx_V (ci := 14) (q0 := 0) (isC := [0]) (wc := [(a0, .inr (14, [v0, v1, v2, v3, v4, v5, v6]))]) (As := [.int x0, .int x1, .int x2, .int x3]) (rest := [.int 0, .ref b0]) (n := 4) hx hb hml hown hts hE hS hP hD hA hl.1 (k662_X9_claim l hst D cy g x0 x1 x2 x3 a0 (v0) (v1) (v2) (v3) (v4) (v5) (v6) s.heap.size h0 h1 h2 h3 h4 h5 h6 h7) rfl rfl rfl rfl rfl ax_446 rfl rfl ax_447 ⟨Nat.le_of_ble_eq_true rfl, Nat.le_of_ble_eq_true rfl⟩ rfl rfl (Nat.le_of_ble_eq_true rfl) dL_claim_9 ⟨(Nat.le_of_ble_eq_true rfl), (Nat.le_of_ble_eq_true rfl)⟩) hP hD hS hA hown hts hE htb rfl rfl rfl rfl (by decide) (fun z hz => by cases hz) (by decide) (by decide) tw_302 tw_303 (fun qx H locs hP hD hS => ?_)
  have hP : va_P D vwCl [] H := hP
  have hD : va_D A [] := hD
  refine lv_astore (lv' := [(6, .ref qx), (0, .ref a0), (1, .int x0), (2, .int x1), (3, .int x2), (4, .int x3), (5, .ref b0)]) hx hb dL_claim_17 hl (Nat.le_of_ble_eq_true rfl) rfl (fun ls hl => ?_)
  refine lv_iconst (v := 1) hx hb dL_claim_19 (by decide) ?_
  exact en_z hx hb hr hlk hP hD hS rfl (fun _ => 0) (is := []) rfl rfl (Nat.le_of_ble_eq_true rfl) (Nat.le_of_ble_eq_true rfl) dL_claim_20
set_option maxHeartbeats 4000000 in
set_option maxRecDepth 100000 in
theorem k664_X9_claim (l : Launch) (hst : l.stackTraces = false) (D : va_G) (cy : Nat → ClassId) (g : Nat → Nat) (x0 : Int32) (x1 : Int32) (x2 : Int32) (x3 : Int32) (a0 : Nat) (v0 : Value) (v1 : Value) (v2 : Value) (v3 : Value) (v4 : Value) (v5 : Value) (v6 : Value) (sz : Nat) (h0 : ¬ x0 < 1) (h1 : ¬ (100000 : Int32) < x0) (h2 : ¬ x1 < 50) (h3 : ¬ (2000 : Int32) < x1) (h4 : ¬ x2 < 50) (h5 : ¬ (2000 : Int32) < x2) (h6 : x2 < x1) (h7 : ¬ x3 < 0) (h8 : (200000 : Int32) < x3) : vx_Met l yX9_claim [.code yX9_claim cX9_claim 5 (some .char)] ({ frames := 6, cells := 1, slots := 6, locals := 82 }) (PC D cy g [(a0, .inr (14, [v0, v1, v2, v3, v4, v5, v6]))] sz [.ref a0, .int x0, .int x1, .int x2, .int x3]) QN (XE "java/lang/IllegalArgumentException" (va_A [(a0, .inr (14, [v0, v1, v2, v3, v4, v5, v6]))] sz)) 1 6 (va_A [(a0, .inr (14, [v0, v1, v2, v3, v4, v5, v6]))] sz) := by
  refine st_X (by decide) (Nat.le_of_ble_eq_true rfl) ?_
  intro p e s m args below meth c A ls hx hb hr hml hown hlk hnm hsz hP hD hA hE hts hS hl hout
  have hown : s.vm.findClass RX9 = some m.cls := hown
  have hl : lv_has ls 5 [(0, .ref a0), (1, .int x0), (2, .int x1), (3, .int x2), (4, .int x3)] := hl
  refine lv_aload_n hx hb dX9_claim_0 rfl (lv_at hl 0 rfl) ?_
  refine lv_iload_n hx hb dX9_claim_1 rfl (lv_at hl 1 rfl) ?_
  refine lv_iload_n hx hb dX9_claim_2 rfl (lv_at hl 2 rfl) ?_
  refine lv_iload_n hx hb dX9_claim_3 rfl (lv_at hl 3 rfl) ?_
  refine ca_v (isC := []) (isR := [0]) (wr := [(a0, .inr (14, [v0, v1, v2, v3, v4, v5, v6]))]) (rn_V (ci := 14) (q0 := 0) (isC := []) (wc := []) (As := [.int x0, .int x1, .int x2]) (rest := []) (n := 3) hx hb hml hown hts hE hS hP hD hA hl.1 (k661_X9_requireClaim l D cy g x0 x1 x2 a0 s.heap.size h0 h1 h2 h3 h4 h5 h6) rfl rfl rfl rfl rfl ax_444 rfl rfl ax_445 ⟨Nat.le_of_ble_eq_true rfl, Nat.le_of_ble_eq_true rfl⟩ rfl rfl (Nat.le_of_ble_eq_true rfl) dX9_claim_4 ⟨(Nat.le_of_ble_eq_true rfl), (Nat.le_of_ble_eq_true rfl)⟩) hP hD hS hA rfl rfl rfl (by decide) (fun ad4 H locs hP hD hS => ?_)
  have hP : va_P D vwCl [(a0, .inr (14, [v0, v1, v2, v3, v4, v5, v6]))] H := hP
  have hD : va_D A [(a0, .inr (14, [v0, v1, v2, v3, v4, v5, v6]))] := hD
  refine lv_iload hx hb dX9_claim_7 (lv_at hl 4 rfl) ?_
  refine lv_iconst (v := 0) hx hb dX9_claim_9 (by decide) ?_
  refine lv_ldcw (v := 200000) hx hb hown (hts _ tw_1203) dX9_claim_10 ?_
  refine ca_i (isC := []) (isR := [0]) (wr := [(a0, .inr (14, [v0, v1, v2, v3, v4, v5, v6]))]) (rn_S (isC := []) (wc := []) (As := [.int x3, .int 0, .int 200000]) (rest := []) (n := 3) hx hb hml hown hts hE hS hP hD hA hl.1 (k25_X9_isOutside l D cy g x3 0 200000 H.size h7 h8) rfl rfl ax_30 rfl rfl ax_31 ⟨Nat.le_of_ble_eq_true rfl, Nat.le_of_ble_eq_true rfl⟩ rfl rfl (Nat.le_of_ble_eq_true rfl) dX9_claim_13 ⟨(Nat.le_of_ble_eq_true rfl), (Nat.le_of_ble_eq_true rfl)⟩) hP hD hS hA rfl rfl rfl (by decide) (fun ad13 H locs hP hD hS => ?_)
  have hP : va_P D vwCl [(a0, .inr (14, [v0, v1, v2, v3, v4, v5, v6]))] H := hP
  have hD : va_D A [(a0, .inr (14, [v0, v1, v2, v3, v4, v5, v6]))] := hD
  refine lv_if_eq (tgt := 29) hx hb dX9_claim_16 (by decide) (fun z => absurd z (by decide)) (fun _ => ?_)
  exact th_S (text := "the work is out of range") hx hb hst hown hts hE hS (hl.1.trans hml.symm) hout hlk (by decide +kernel) tw_296 tw_297 ax_32 (by decide +kernel) dX9_claim_19 dX9_claim_22 dX9_claim_23 dX9_claim_25 dX9_claim_28 ⟨Nat.le_of_ble_eq_true rfl, Nat.le_of_ble_eq_true rfl, Nat.le_of_ble_eq_true rfl, Nat.le_of_ble_eq_true rfl⟩ (Nat.le_of_ble_eq_true rfl) (Nat.le_of_ble_eq_true rfl)
set_option maxHeartbeats 4000000 in
set_option maxRecDepth 100000 in
theorem k665_L_claim (l : Launch) (hst : l.stackTraces = false) (D : va_G) (cy : Nat → ClassId) (g : Nat → Nat) (x0 : Int32) (x1 : Int32) (x2 : Int32) (x3 : Int32) (a0 : Nat) (b0 : Nat) (v0 : Value) (v1 : Value) (v2 : Value) (v3 : Value) (v4 : Value) (v5 : Value) (v6 : Value) (sz : Nat) (h0 : ¬ x0 < 1) (h1 : ¬ (100000 : Int32) < x0) (h2 : ¬ x1 < 50) (h3 : ¬ (2000 : Int32) < x1) (h4 : ¬ x2 < 50) (h5 : ¬ (2000 : Int32) < x2) (h6 : x2 < x1) (h7 : ¬ x3 < 0) (h8 : (200000 : Int32) < x3) : Met l yL_claim [.codeWith yL_claim cL_claim 7 (some .int) [(0, 14, 17, 13)]] ({ frames := 7, cells := 1, slots := 6, locals := 106 }) (PC D cy g [(a0, .inr (14, [v0, v1, v2, v3, v4, v5, v6]))] sz [.ref a0, .int x0, .int x1, .int x2, .int x3, .ref b0]) (QI D 1 (fun ad => []) (va_A [(a0, .inr (14, [v0, v1, v2, v3, v4, v5, v6]))] sz)) 1 6 (va_A [(a0, .inr (14, [v0, v1, v2, v3, v4, v5, v6]))] sz) := by
  refine sh_I (by decide) (Nat.le_of_ble_eq_true rfl) ?_
  intro p e s m args below meth c A ls hx hb hr hml hown hlk hnm hsz hP hD hA hE hts hS hl htb
  have hown : s.vm.findClass RL = some m.cls := hown
  have hl : lv_has ls 7 [(0, .ref a0), (1, .int x0), (2, .int x1), (3, .int x2), (4, .int x3), (5, .ref b0)] := hl
  refine lv_aload hx hb dL_claim_0 (lv_at hl 5 rfl) ?_
  refine lv_iconst (v := 0) hx hb dL_claim_2 (by decide) ?_
  refine lv_aload_n hx hb dL_claim_3 rfl (lv_at hl 0 rfl) ?_
  refine lv_iload_n hx hb dL_claim_4 rfl (lv_at hl 1 rfl) ?_
  refine lv_iload_n hx hb dL_claim_5 rfl (lv_at hl 2 rfl) ?_
  refine lv_iload_n hx hb dL_claim_6 rfl (lv_at hl 3 rfl) ?_
  refine lv_iload hx hb dL_claim_7 (lv_at hl 4 rfl) ?_
  refine cx_catch (isC := [0]) (isR := []) (wr := []) (hp := []) (z := (0, 14, 17, 13)) (hq := []) (name := "java/lang/IllegalArgumentException") (own := RL) (rx_V (ci := 14) (q0 := 0) (isC := [0]) (wc := [(a0, .inr (14, [v0, v1, v2, v3, v4, v5, v6]))]) (As := [.int x0, .int x1, .int x2, .int x3]) (rest := [.int 0, .ref b0]) (n := 4) hx hb hml hown hts hE hS hP hD hA hl.1 (k664_X9_claim l hst D cy g x0 x1 x2 x3 a0 (v0) (v1) (v2) (v3) (v4) (v5) (v6) s.heap.size h0 h1 h2 h3 h4 h5 h6 h7 h8) rfl rfl rfl rfl rfl ax_446 rfl rfl ax_447 ⟨Nat.le_of_ble_eq_true rfl, Nat.le_of_ble_eq_true rfl⟩ rfl rfl (Nat.le_of_ble_eq_true rfl) dL_claim_9 ⟨(Nat.le_of_ble_eq_true rfl), (Nat.le_of_ble_eq_true rfl)⟩) hP hD hS hA hown hts hE htb rfl rfl rfl rfl (by decide) (fun z hz => by cases hz) (by decide) (by decide) tw_302 tw_303 (fun qx H locs hP hD hS => ?_)
  have hP : va_P D vwCl [] H := hP
  have hD : va_D A [] := hD
  refine lv_astore (lv' := [(6, .ref qx), (0, .ref a0), (1, .int x0), (2, .int x1), (3, .int x2), (4, .int x3), (5, .ref b0)]) hx hb dL_claim_17 hl (Nat.le_of_ble_eq_true rfl) rfl (fun ls hl => ?_)
  refine lv_iconst (v := 1) hx hb dL_claim_19 (by decide) ?_
  exact en_z hx hb hr hlk hP hD hS rfl (fun _ => 0) (is := []) rfl rfl (Nat.le_of_ble_eq_true rfl) (Nat.le_of_ble_eq_true rfl) dL_claim_20
set_option maxHeartbeats 4000000 in
set_option maxRecDepth 100000 in
theorem k666_X9_claim (l : Launch) (D : va_G) (cy : Nat → ClassId) (g : Nat → Nat) (x0 : Int32) (x1 : Int32) (x2 : Int32) (x3 : Int32) (a0 : Nat) (v0 : Value) (v1 : Value) (v2 : Value) (v3 : Value) (v4 : Value) (v5 : Value) (v6 : Value) (sz : Nat) (h0 : ¬ x0 < 1) (h1 : ¬ (100000 : Int32) < x0) (h2 : ¬ x1 < 50) (h3 : ¬ (2000 : Int32) < x1) (h4 : ¬ x2 < 50) (h5 : ¬ (2000 : Int32) < x2) (h6 : x2 < x1) (h7 : ¬ x3 < 0) (h8 : ¬ (200000 : Int32) < x3) (h9 : x0 < x3) : Met l yX9_claim [.code yX9_claim cX9_claim 5 (some .char)] ({ frames := 2, cells := 0, slots := 0, locals := 45 }) (PC D cy g [(a0, .inr (14, [v0, v1, v2, v3, v4, v5, v6]))] sz [.ref a0, .int x0, .int x1, .int x2, .int x3]) (QI D 101 (fun ad => [(a0, .inr (14, [v0, v1, v2, v3, v4, v5, v6]))]) (va_A [(a0, .inr (14, [v0, v1, v2, v3, v4, v5, v6]))] sz)) 0 0 (va_A [(a0, .inr (14, [v0, v1, v2, v3, v4, v5, v6]))] sz) := by
  refine st_I (by decide) (Nat.le_of_ble_eq_true rfl) ?_
  intro p e s m args below meth c A ls hx hb hr hml hown hlk hnm hsz hP hD hA hE hts hS hl
  have hown : s.vm.findClass RX9 = some m.cls := hown
  have hl : lv_has ls 5 [(0, .ref a0), (1, .int x0), (2, .int x1), (3, .int x2), (4, .int x3)] := hl
  refine lv_aload_n hx hb dX9_claim_0 rfl (lv_at hl 0 rfl) ?_
  refine lv_iload_n hx hb dX9_claim_1 rfl (lv_at hl 1 rfl) ?_
  refine lv_iload_n hx hb dX9_claim_2 rfl (lv_at hl 2 rfl) ?_
  refine lv_iload_n hx hb dX9_claim_3 rfl (lv_at hl 3 rfl) ?_
  refine ca_v (isC := []) (isR := [0]) (wr := [(a0, .inr (14, [v0, v1, v2, v3, v4, v5, v6]))]) (rn_V (ci := 14) (q0 := 0) (isC := []) (wc := []) (As := [.int x0, .int x1, .int x2]) (rest := []) (n := 3) hx hb hml hown hts hE hS hP hD hA hl.1 (k661_X9_requireClaim l D cy g x0 x1 x2 a0 s.heap.size h0 h1 h2 h3 h4 h5 h6) rfl rfl rfl rfl rfl ax_444 rfl rfl ax_445 ⟨Nat.le_of_ble_eq_true rfl, Nat.le_of_ble_eq_true rfl⟩ rfl rfl (Nat.le_of_ble_eq_true rfl) dX9_claim_4 ⟨(Nat.le_of_ble_eq_true rfl), (Nat.le_of_ble_eq_true rfl)⟩) hP hD hS hA rfl rfl rfl (by decide) (fun ad4 H locs hP hD hS => ?_)
  have hP : va_P D vwCl [(a0, .inr (14, [v0, v1, v2, v3, v4, v5, v6]))] H := hP
  have hD : va_D A [(a0, .inr (14, [v0, v1, v2, v3, v4, v5, v6]))] := hD
  refine lv_iload hx hb dX9_claim_7 (lv_at hl 4 rfl) ?_
  refine lv_iconst (v := 0) hx hb dX9_claim_9 (by decide) ?_
  refine lv_ldcw (v := 200000) hx hb hown (hts _ tw_1203) dX9_claim_10 ?_
  refine ca_i (isC := []) (isR := [0]) (wr := [(a0, .inr (14, [v0, v1, v2, v3, v4, v5, v6]))]) (rn_S (isC := []) (wc := []) (As := [.int x3, .int 0, .int 200000]) (rest := []) (n := 3) hx hb hml hown hts hE hS hP hD hA hl.1 (k30_X9_isOutside l D cy g x3 0 200000 H.size h7 h8) rfl rfl ax_30 rfl rfl ax_31 ⟨Nat.le_of_ble_eq_true rfl, Nat.le_of_ble_eq_true rfl⟩ rfl rfl (Nat.le_of_ble_eq_true rfl) dX9_claim_13 ⟨(Nat.le_of_ble_eq_true rfl), (Nat.le_of_ble_eq_true rfl)⟩) hP hD hS hA rfl rfl rfl (by decide) (fun ad13 H locs hP hD hS => ?_)
  have hP : va_P D vwCl [(a0, .inr (14, [v0, v1, v2, v3, v4, v5, v6]))] H := hP
  have hD : va_D A [(a0, .inr (14, [v0, v1, v2, v3, v4, v5, v6]))] := hD
  refine lv_if_eq (tgt := 29) hx hb dX9_claim_16 (by decide) (fun _ => ?_) (fun z => absurd (by decide) z)
  refine lv_iload hx hb dX9_claim_29 (lv_at hl 4 rfl) ?_
  refine lv_iload_n hx hb dX9_claim_31 rfl (lv_at hl 1 rfl) ?_
  refine lv_icmp_le (tgt := 38) hx hb dX9_claim_32 (by decide) (fun z => absurd z (fa_of_lt h9).2.1) (fun _ => ?_)
  refine lv_bipush (v := 101) hx hb dX9_claim_35 (by decide) ?_
  exact en_z hx hb hr hlk hP hD hS rfl (fun _ => 0) (is := [0]) rfl rfl (Nat.le_of_ble_eq_true rfl) (Nat.le_of_ble_eq_true rfl) dX9_claim_37
set_option maxHeartbeats 4000000 in
set_option maxRecDepth 100000 in
theorem k667_L_claim (l : Launch) (D : va_G) (cy : Nat → ClassId) (g : Nat → Nat) (x0 : Int32) (x1 : Int32) (x2 : Int32) (x3 : Int32) (a0 : Nat) (a1 : Nat) (v0 : Value) (v1 : Value) (v2 : Value) (v3 : Value) (v4 : Value) (v5 : Value) (v6 : Value) (f0 : Nat → Int64) (sz : Nat) (h0 : ¬ x0 < 1) (h1 : ¬ (100000 : Int32) < x0) (h2 : ¬ x1 < 50) (h3 : ¬ (2000 : Int32) < x1) (h4 : ¬ x2 < 50) (h5 : ¬ (2000 : Int32) < x2) (h6 : x2 < x1) (h7 : ¬ x3 < 0) (h8 : ¬ (200000 : Int32) < x3) (h9 : x0 < x3) : Met l yL_claim [.codeWith yL_claim cL_claim 7 (some .int) [(0, 14, 17, 13)]] ({ frames := 3, cells := 0, slots := 0, locals := 69 }) (PC D cy g [(a0, .inr (14, [v0, v1, v2, v3, v4, v5, v6])), (a1, .inl (cy 2, 1, .inr (.inl f0)))] sz [.ref a0, .int x0, .int x1, .int x2, .int x3, .ref a1]) (QI D 0 (fun ad => [(a1, .inl (cy 2, 1, .inr (.inl (vp_updL f0 (0 : Int32).toNatClampNeg 101))))]) (va_A [(a0, .inr (14, [v0, v1, v2, v3, v4, v5, v6])), (a1, .inl (cy 2, 1, .inr (.inl f0)))] sz)) 0 0 (va_A [(a0, .inr (14, [v0, v1, v2, v3, v4, v5, v6])), (a1, .inl (cy 2, 1, .inr (.inl f0)))] sz) := by
  refine sh_I (by decide) (Nat.le_of_ble_eq_true rfl) ?_
  intro p e s m args below meth c A ls hx hb hr hml hown hlk hnm hsz hP hD hA hE hts hS hl htb
  have hown : s.vm.findClass RL = some m.cls := hown
  have hl : lv_has ls 7 [(0, .ref a0), (1, .int x0), (2, .int x1), (3, .int x2), (4, .int x3), (5, .ref a1)] := hl
  refine lv_aload hx hb dL_claim_0 (lv_at hl 5 rfl) ?_
  refine lv_iconst (v := 0) hx hb dL_claim_2 (by decide) ?_
  refine lv_aload_n hx hb dL_claim_3 rfl (lv_at hl 0 rfl) ?_
  refine lv_iload_n hx hb dL_claim_4 rfl (lv_at hl 1 rfl) ?_
  refine lv_iload_n hx hb dL_claim_5 rfl (lv_at hl 2 rfl) ?_
  refine lv_iload_n hx hb dL_claim_6 rfl (lv_at hl 3 rfl) ?_
  refine lv_iload hx hb dL_claim_7 (lv_at hl 4 rfl) ?_
  refine ca_i (isC := [0]) (isR := [1]) (wr := [(a1, .inl (cy 2, 1, .inr (.inl f0)))]) (rn_V (ci := 14) (q0 := 0) (isC := [0]) (wc := [(a0, .inr (14, [v0, v1, v2, v3, v4, v5, v6]))]) (As := [.int x0, .int x1, .int x2, .int x3]) (rest := [.int 0, .ref a1]) (n := 4) hx hb hml hown hts hE hS hP hD hA hl.1 (k666_X9_claim l D cy g x0 x1 x2 x3 a0 (v0) (v1) (v2) (v3) (v4) (v5) (v6) s.heap.size h0 h1 h2 h3 h4 h5 h6 h7 h8 h9) rfl rfl rfl rfl rfl ax_446 rfl rfl ax_447 ⟨Nat.le_of_ble_eq_true rfl, Nat.le_of_ble_eq_true rfl⟩ rfl rfl (Nat.le_of_ble_eq_true rfl) dL_claim_9 ⟨(Nat.le_of_ble_eq_true rfl), (Nat.le_of_ble_eq_true rfl)⟩) hP hD hS hA rfl rfl rfl (by decide) (fun ad9 H locs hP hD hS => ?_)
  have hP : va_P D vwCl [(a1, .inl (cy 2, 1, .inr (.inl f0))), (a0, .inr (14, [v0, v1, v2, v3, v4, v5, v6]))] H := hP
  have hD : va_D A [(a1, .inl (cy 2, 1, .inr (.inl f0))), (a0, .inr (14, [v0, v1, v2, v3, v4, v5, v6]))] := hD
  refine lv_i2l (v := 101) hx hb dL_claim_12 (by decide) ?_
  refine va_last hx hb hE.1 hP hD hS 0 2 rfl rfl (by unfold vp_in; decide) dL_claim_13 (fun H locs hP hD hS => ?_)
  have hP : va_P D vwCl [(a1, .inl (cy 2, 1, .inr (.inl (vp_updL f0 (0 : Int32).toNatClampNeg 101)))), (a0, .inr (14, [v0, v1, v2, v3, v4, v5, v6]))] H := hP
  have hD : va_D A [(a1, .inl (cy 2, 1, .inr (.inl (vp_updL f0 (0 : Int32).toNatClampNeg 101)))), (a0, .inr (14, [v0, v1, v2, v3, v4, v5, v6]))] := hD
  refine lv_goto (tgt := 21) hx hb dL_claim_14 (by decide) ?_
  refine lv_iconst (v := 0) hx hb dL_claim_21 (by decide) ?_
  exact en_z hx hb hr hlk hP hD hS rfl (fun _ => 0) (is := [0]) rfl rfl (Nat.le_of_ble_eq_true rfl) (Nat.le_of_ble_eq_true rfl) dL_claim_22
set_option maxHeartbeats 4000000 in
set_option maxRecDepth 100000 in
theorem k668_X10_noClaim (l : Launch) (D : va_G) (cy : Nat → ClassId) (g : Nat → Nat) (x0 : Int32) (x1 : Int32) (x2 : Int32) (a0 : Nat) (v0 : Value) (v1 : Value) (v2 : Value) (v3 : Value) (v4 : Value) (v5 : Value) (v6 : Value) (v7 : Value) (v8 : Value) (v9 : Value) (v10 : Value) (v11 : Value) (v12 : Value) (v13 : Value) (v14 : Value) (v15 : Value) (v16 : Value) (v17 : Value) (v18 : Value) (v19 : Value) (v20 : Value) (v21 : Value) (v22 : Value) (v23 : Value) (v24 : Value) (v25 : Value) (v26 : Value) (sz : Nat) (h0 : ¬ x0 < 1) (h1 : ¬ (100000 : Int32) < x0) (h2 : ¬ x1 < 50) (h3 : ¬ (2000 : Int32) < x1) (h4 : ¬ x2 < 50) (h5 : ¬ (2000 : Int32) < x2) (h6 : x2 < x1) : Met l yX10_noClaim [.code yX10_noClaim cX10_noClaim 4 (some .boolean)] ({ frames := 1, cells := 0, slots := 0, locals := 25 }) (PC D cy g [(a0, .inr (15, [.int 0, v0, v1, v2, v3, v4, v5, v6, v7, v8, v9, v10, v11, v12, v13, v14, v15, v16, v17, v18, v19, v20, v21, v22, v23, v24, v25, v26]))] sz [.ref a0, .int x0, .int x1, .int x2]) (QI D 0 (fun ad => [(a0, .inr (15, [.int 0, v0, v1, v2, v3, v4, v5, v6, v7, v8, v9, v10, v11, v12, v13, v14, v15, v16, v17, v18, v19, v20, v21, v22, v23, v24, v25, v26]))]) (va_A [(a0, .inr (15, [.int 0, v0, v1, v2, v3, v4, v5, v6, v7, v8, v9, v10, v11, v12, v13, v14, v15, v16, v17, v18, v19, v20, v21, v22, v23, v24, v25, v26]))] sz)) 0 0 (va_A [(a0, .inr (15, [.int 0, v0, v1, v2, v3, v4, v5, v6, v7, v8, v9, v10, v11, v12, v13, v14, v15, v16, v17, v18, v19, v20, v21, v22, v23, v24, v25, v26]))] sz) := by
  refine st_I (by decide) (Nat.le_of_ble_eq_true rfl) ?_
  intro p e s m args below meth c A ls hx hb hr hml hown hlk hnm hsz hP hD hA hE hts hS hl
  have hown : s.vm.findClass RX10 = some m.cls := hown
  have hl : lv_has ls 4 [(0, .ref a0), (1, .int x0), (2, .int x1), (3, .int x2)] := hl
  refine lv_aload_n hx hb dX10_noClaim_0 rfl (lv_at hl 0 rfl) ?_
  refine lv_iload_n hx hb dX10_noClaim_1 rfl (lv_at hl 1 rfl) ?_
  refine lv_i2l (v := x0.toInt64) hx hb dX10_noClaim_2 rfl ?_
  refine lv_lconst (v := 1) hx hb dX10_noClaim_3 (by decide) ?_
  refine lv_ldc2 (v := 100000) hx hb hown (hts _ tw_1198) dX10_noClaim_4 ?_
  refine ca_i (isC := []) (isR := [0]) (wr := [(a0, .inr (15, [.int 0, v0, v1, v2, v3, v4, v5, v6, v7, v8, v9, v10, v11, v12, v13, v14, v15, v16, v17, v18, v19, v20, v21, v22, v23, v24, v25, v26]))]) (rn_S (isC := []) (wc := []) (As := [.long x0.toInt64, .long 1, .long 100000]) (rest := [.ref a0]) (n := 3) hx hb hml hown hts hE hS hP hD hA hl.1 (k33_X10_in l D cy g x0.toInt64 1 100000 s.heap.size (wl_nlt rfl (by decide) h0) (wl_nlt (by decide) rfl h1)) rfl rfl ax_39 rfl rfl ax_40 ⟨Nat.le_of_ble_eq_true rfl, Nat.le_of_ble_eq_true rfl⟩ rfl rfl (Nat.le_of_ble_eq_true rfl) dX10_noClaim_7 ⟨(Nat.le_of_ble_eq_true rfl), (Nat.le_of_ble_eq_true rfl)⟩) hP hD hS hA rfl rfl rfl (by decide) (fun ad7 H locs hP hD hS => ?_)
  have hP : va_P D vwCl [(a0, .inr (15, [.int 0, v0, v1, v2, v3, v4, v5, v6, v7, v8, v9, v10, v11, v12, v13, v14, v15, v16, v17, v18, v19, v20, v21, v22, v23, v24, v25, v26]))] H := hP
  have hD : va_D A [(a0, .inr (15, [.int 0, v0, v1, v2, v3, v4, v5, v6, v7, v8, v9, v10, v11, v12, v13, v14, v15, v16, v17, v18, v19, v20, v21, v22, v23, v24, v25, v26]))] := hD
  refine lv_if_eq (tgt := 46) hx hb dX10_noClaim_10 (by decide) (fun z => absurd z (by decide)) (fun _ => ?_)
  refine lv_iload_n hx hb dX10_noClaim_13 rfl (lv_at hl 2 rfl) ?_
  refine lv_i2l (v := x1.toInt64) hx hb dX10_noClaim_14 rfl ?_
  refine lv_ldc2 (v := 50) hx hb hown (hts _ tw_314) dX10_noClaim_15 ?_
  refine lv_ldc2 (v := 2000) hx hb hown (hts _ tw_315) dX10_noClaim_18 ?_
  refine ca_i (isC := []) (isR := [0]) (wr := [(a0, .inr (15, [.int 0, v0, v1, v2, v3, v4, v5, v6, v7, v8, v9, v10, v11, v12, v13, v14, v15, v16, v17, v18, v19, v20, v21, v22, v23, v24, v25, v26]))]) (rn_S (isC := []) (wc := []) (As := [.long x1.toInt64, .long 50, .long 2000]) (rest := [.ref a0]) (n := 3) hx hb hml hown hts hE hS hP hD hA hl.1 (k33_X10_in l D cy g x1.toInt64 50 2000 H.size (wl_nlt rfl (by decide) h2) (wl_nlt (by decide) rfl h3)) rfl rfl ax_39 rfl rfl ax_40 ⟨Nat.le_of_ble_eq_true rfl, Nat.le_of_ble_eq_true rfl⟩ rfl rfl (Nat.le_of_ble_eq_true rfl) dX10_noClaim_21 ⟨(Nat.le_of_ble_eq_true rfl), (Nat.le_of_ble_eq_true rfl)⟩) hP hD hS hA rfl rfl rfl (by decide) (fun ad21 H locs hP hD hS => ?_)
  have hP : va_P D vwCl [(a0, .inr (15, [.int 0, v0, v1, v2, v3, v4, v5, v6, v7, v8, v9, v10, v11, v12, v13, v14, v15, v16, v17, v18, v19, v20, v21, v22, v23, v24, v25, v26]))] H := hP
  have hD : va_D A [(a0, .inr (15, [.int 0, v0, v1, v2, v3, v4, v5, v6, v7, v8, v9, v10, v11, v12, v13, v14, v15, v16, v17, v18, v19, v20, v21, v22, v23, v24, v25, v26]))] := hD
  refine lv_if_eq (tgt := 46) hx hb dX10_noClaim_24 (by decide) (fun z => absurd z (by decide)) (fun _ => ?_)
  refine lv_iload_n hx hb dX10_noClaim_27 rfl (lv_at hl 3 rfl) ?_
  refine lv_i2l (v := x2.toInt64) hx hb dX10_noClaim_28 rfl ?_
  refine lv_ldc2 (v := 50) hx hb hown (hts _ tw_314) dX10_noClaim_29 ?_
  refine lv_ldc2 (v := 2000) hx hb hown (hts _ tw_315) dX10_noClaim_32 ?_
  refine ca_i (isC := []) (isR := [0]) (wr := [(a0, .inr (15, [.int 0, v0, v1, v2, v3, v4, v5, v6, v7, v8, v9, v10, v11, v12, v13, v14, v15, v16, v17, v18, v19, v20, v21, v22, v23, v24, v25, v26]))]) (rn_S (isC := []) (wc := []) (As := [.long x2.toInt64, .long 50, .long 2000]) (rest := [.ref a0]) (n := 3) hx hb hml hown hts hE hS hP hD hA hl.1 (k33_X10_in l D cy g x2.toInt64 50 2000 H.size (wl_nlt rfl (by decide) h4) (wl_nlt (by decide) rfl h5)) rfl rfl ax_39 rfl rfl ax_40 ⟨Nat.le_of_ble_eq_true rfl, Nat.le_of_ble_eq_true rfl⟩ rfl rfl (Nat.le_of_ble_eq_true rfl) dX10_noClaim_35 ⟨(Nat.le_of_ble_eq_true rfl), (Nat.le_of_ble_eq_true rfl)⟩) hP hD hS hA rfl rfl rfl (by decide) (fun ad35 H locs hP hD hS => ?_)
  have hP : va_P D vwCl [(a0, .inr (15, [.int 0, v0, v1, v2, v3, v4, v5, v6, v7, v8, v9, v10, v11, v12, v13, v14, v15, v16, v17, v18, v19, v20, v21, v22, v23, v24, v25, v26]))] H := hP
  have hD : va_D A [(a0, .inr (15, [.int 0, v0, v1, v2, v3, v4, v5, v6, v7, v8, v9, v10, v11, v12, v13, v14, v15, v16, v17, v18, v19, v20, v21, v22, v23, v24, v25, v26]))] := hD
  refine lv_if_eq (tgt := 46) hx hb dX10_noClaim_38 (by decide) (fun z => absurd z (by decide)) (fun _ => ?_)
  refine lv_iload_n hx hb dX10_noClaim_41 rfl (lv_at hl 3 rfl) ?_
  refine lv_iload_n hx hb dX10_noClaim_42 rfl (lv_at hl 2 rfl) ?_
  refine lv_icmp_lt (tgt := 50) hx hb dX10_noClaim_43 (by decide) (fun _ => ?_) (fun z => absurd h6 z)
  refine lv_iconst (v := 0) hx hb dX10_noClaim_50 (by decide) ?_
  refine lv_iconst (v := 1) hx hb dX10_noClaim_51 (by decide) ?_
  refine ca_i (isC := [0]) (isR := []) (wr := []) (rn_V (ci := 15) (q0 := 0) (isC := [0]) (wc := [(a0, .inr (15, [.int 0, v0, v1, v2, v3, v4, v5, v6, v7, v8, v9, v10, v11, v12, v13, v14, v15, v16, v17, v18, v19, v20, v21, v22, v23, v24, v25, v26]))]) (As := [.int 0, .int 1]) (rest := []) (n := 2) hx hb hml hown hts hE hS hP hD hA hl.1 (k43_X10_fails l D cy g a0 (v0) (v1) (v2) (v3) (v4) (v5) (v6) (v7) (v8) (v9) (v10) (v11) (v12) (v13) (v14) (v15) (v16) (v17) (v18) (v19) (v20) (v21) (v22) (v23) (v24) (v25) (v26) H.size ) rfl rfl rfl rfl rfl ax_41 rfl rfl ax_42 ⟨Nat.le_of_ble_eq_true rfl, Nat.le_of_ble_eq_true rfl⟩ rfl rfl (Nat.le_of_ble_eq_true rfl) dX10_noClaim_52 ⟨(Nat.le_of_ble_eq_true rfl), (Nat.le_of_ble_eq_true rfl)⟩) hP hD hS hA rfl rfl rfl (by decide) (fun ad52 H locs hP hD hS => ?_)
  have hP : va_P D vwCl [(a0, .inr (15, [.int 0, v0, v1, v2, v3, v4, v5, v6, v7, v8, v9, v10, v11, v12, v13, v14, v15, v16, v17, v18, v19, v20, v21, v22, v23, v24, v25, v26]))] H := hP
  have hD : va_D A [(a0, .inr (15, [.int 0, v0, v1, v2, v3, v4, v5, v6, v7, v8, v9, v10, v11, v12, v13, v14, v15, v16, v17, v18, v19, v20, v21, v22, v23, v24, v25, v26]))] := hD
  exact en_z hx hb hr hlk hP hD hS rfl (fun _ => 0) (is := [0]) rfl rfl (Nat.le_of_ble_eq_true rfl) (Nat.le_of_ble_eq_true rfl) dX10_noClaim_55
set_option maxHeartbeats 4000000 in
set_option maxRecDepth 100000 in
theorem k669_X10_claim (l : Launch) (D : va_G) (cy : Nat → ClassId) (g : Nat → Nat) (x0 : Int32) (x1 : Int32) (x2 : Int32) (x3 : Int32) (a0 : Nat) (v0 : Value) (v1 : Value) (v2 : Value) (v3 : Value) (v4 : Value) (v5 : Value) (v6 : Value) (v7 : Value) (v8 : Value) (v9 : Value) (v10 : Value) (v11 : Value) (v12 : Value) (v13 : Value) (v14 : Value) (v15 : Value) (v16 : Value) (v17 : Value) (v18 : Value) (v19 : Value) (v20 : Value) (v21 : Value) (v22 : Value) (v23 : Value) (v24 : Value) (v25 : Value) (v26 : Value) (v27 : Value) (sz : Nat) (h0 : ¬ x3 < 0) (h1 : ¬ (200000 : Int32) < x3) (h2 : ¬ x0 < 1) (h3 : ¬ (100000 : Int32) < x0) (h4 : ¬ x1 < 50) (h5 : ¬ (2000 : Int32) < x1) (h6 : ¬ x2 < 50) (h7 : ¬ (2000 : Int32) < x2) (h8 : x2 < x1) (h9 : x0 < x3) : Met l yX10_claim [.code yX10_claim cX10_claim 5 (some .char)] ({ frames := 2, cells := 0, slots := 0, locals := 48 }) (PC D cy g [(a0, .inr (15, [v0, v1, v2, v3, v4, v5, v6, v7, v8, v9, v10, v11, v12, v13, v14, v15, v16, v17, v18, v19, v20, v21, v22, v23, v24, v25, v26, v27]))] sz [.ref a0, .int x0, .int x1, .int x2, .int x3]) (QI D 101 (fun ad => [(a0, .inr (15, [.int 0, v1, v2, v3, v4, v5, v6, v7, v8, v9, v10, v11, v12, v13, v14, v15, v16, v17, v18, v19, v20, v21, v22, v23, v24, v25, v26, v27]))]) (va_A [(a0, .inr (15, [v0, v1, v2, v3, v4, v5, v6, v7, v8, v9, v10, v11, v12, v13, v14, v15, v16, v17, v18, v19, v20, v21, v22, v23, v24, v25, v26, v27]))] sz)) 0 0 (va_A [(a0, .inr (15, [v0, v1, v2, v3, v4, v5, v6, v7, v8, v9, v10, v11, v12, v13, v14, v15, v16, v17, v18, v19, v20, v21, v22, v23, v24, v25, v26, v27]))] sz) := by
  refine st_I (by decide) (Nat.le_of_ble_eq_true rfl) ?_
  intro p e s m args below meth c A ls hx hb hr hml hown hlk hnm hsz hP hD hA hE hts hS hl
  have hown : s.vm.findClass RX10 = some m.cls := hown
  have hl : lv_has ls 5 [(0, .ref a0), (1, .int x0), (2, .int x1), (3, .int x2), (4, .int x3)] := hl
  refine lv_aload_n hx hb dX10_claim_0 rfl (lv_at hl 0 rfl) ?_
  refine ca_v (isC := [0]) (isR := []) (wr := []) (rn_V (ci := 15) (q0 := 0) (isC := [0]) (wc := [(a0, .inr (15, [v0, v1, v2, v3, v4, v5, v6, v7, v8, v9, v10, v11, v12, v13, v14, v15, v16, v17, v18, v19, v20, v21, v22, v23, v24, v25, v26, v27]))]) (As := []) (rest := []) (n := 0) hx hb hml hown hts hE hS hP hD hA hl.1 (k20_X10_begins l D cy g a0 (v0) (v1) (v2) (v3) (v4) (v5) (v6) (v7) (v8) (v9) (v10) (v11) (v12) (v13) (v14) (v15) (v16) (v17) (v18) (v19) (v20) (v21) (v22) (v23) (v24) (v25) (v26) (v27) s.heap.size ) rfl rfl rfl rfl rfl ax_37 rfl rfl ax_38 ⟨Nat.le_of_ble_eq_true rfl, Nat.le_of_ble_eq_true rfl⟩ rfl rfl (Nat.le_of_ble_eq_true rfl) dX10_claim_1 ⟨(Nat.le_of_ble_eq_true rfl), (Nat.le_of_ble_eq_true rfl)⟩) hP hD hS hA rfl rfl rfl (by decide) (fun ad1 H locs hP hD hS => ?_)
  have hP : va_P D vwCl [(a0, .inr (15, [.int 0, v1, v2, v3, v4, v5, v6, v7, v8, v9, v10, v11, v12, v13, v14, v15, v16, v17, v18, v19, v20, v21, v22, v23, v24, v25, v26, v27]))] H := hP
  have hD : va_D A [(a0, .inr (15, [.int 0, v1, v2, v3, v4, v5, v6, v7, v8, v9, v10, v11, v12, v13, v14, v15, v16, v17, v18, v19, v20, v21, v22, v23, v24, v25, v26, v27]))] := hD
  refine lv_aload_n hx hb dX10_claim_4 rfl (lv_at hl 0 rfl) ?_
  refine lv_iload hx hb dX10_claim_5 (lv_at hl 4 rfl) ?_
  refine lv_i2l (v := x3.toInt64) hx hb dX10_claim_7 rfl ?_
  refine lv_lconst (v := 0) hx hb dX10_claim_8 (by decide) ?_
  refine lv_ldc2 (v := 200000) hx hb hown (hts _ tw_1193) dX10_claim_9 ?_
  refine ca_i (isC := []) (isR := [0]) (wr := [(a0, .inr (15, [.int 0, v1, v2, v3, v4, v5, v6, v7, v8, v9, v10, v11, v12, v13, v14, v15, v16, v17, v18, v19, v20, v21, v22, v23, v24, v25, v26, v27]))]) (rn_S (isC := []) (wc := []) (As := [.long x3.toInt64, .long 0, .long 200000]) (rest := [.ref a0]) (n := 3) hx hb hml hown hts hE hS hP hD hA hl.1 (k33_X10_in l D cy g x3.toInt64 0 200000 H.size (wl_nlt rfl (by decide) h0) (wl_nlt (by decide) rfl h1)) rfl rfl ax_39 rfl rfl ax_40 ⟨Nat.le_of_ble_eq_true rfl, Nat.le_of_ble_eq_true rfl⟩ rfl rfl (Nat.le_of_ble_eq_true rfl) dX10_claim_12 ⟨(Nat.le_of_ble_eq_true rfl), (Nat.le_of_ble_eq_true rfl)⟩) hP hD hS hA rfl rfl rfl (by decide) (fun ad12 H locs hP hD hS => ?_)
  have hP : va_P D vwCl [(a0, .inr (15, [.int 0, v1, v2, v3, v4, v5, v6, v7, v8, v9, v10, v11, v12, v13, v14, v15, v16, v17, v18, v19, v20, v21, v22, v23, v24, v25, v26, v27]))] H := hP
  have hD : va_D A [(a0, .inr (15, [.int 0, v1, v2, v3, v4, v5, v6, v7, v8, v9, v10, v11, v12, v13, v14, v15, v16, v17, v18, v19, v20, v21, v22, v23, v24, v25, v26, v27]))] := hD
  refine lv_if_ne (tgt := 22) hx hb dX10_claim_15 (by decide) (fun _ => ?_) (fun z => absurd z (by decide))
  refine lv_iconst (v := 0) hx hb dX10_claim_22 (by decide) ?_
  refine lv_iconst (v := 1) hx hb dX10_claim_23 (by decide) ?_
  refine ca_i (isC := [0]) (isR := []) (wr := []) (rn_V (ci := 15) (q0 := 0) (isC := [0]) (wc := [(a0, .inr (15, [.int 0, v1, v2, v3, v4, v5, v6, v7, v8, v9, v10, v11, v12, v13, v14, v15, v16, v17, v18, v19, v20, v21, v22, v23, v24, v25, v26, v27]))]) (As := [.int 0, .int 1]) (rest := []) (n := 2) hx hb hml hown hts hE hS hP hD hA hl.1 (k43_X10_fails l D cy g a0 (v1) (v2) (v3) (v4) (v5) (v6) (v7) (v8) (v9) (v10) (v11) (v12) (v13) (v14) (v15) (v16) (v17) (v18) (v19) (v20) (v21) (v22) (v23) (v24) (v25) (v26) (v27) H.size ) rfl rfl rfl rfl rfl ax_41 rfl rfl ax_42 ⟨Nat.le_of_ble_eq_true rfl, Nat.le_of_ble_eq_true rfl⟩ rfl rfl (Nat.le_of_ble_eq_true rfl) dX10_claim_24 ⟨(Nat.le_of_ble_eq_true rfl), (Nat.le_of_ble_eq_true rfl)⟩) hP hD hS hA rfl rfl rfl (by decide) (fun ad24 H locs hP hD hS => ?_)
  have hP : va_P D vwCl [(a0, .inr (15, [.int 0, v1, v2, v3, v4, v5, v6, v7, v8, v9, v10, v11, v12, v13, v14, v15, v16, v17, v18, v19, v20, v21, v22, v23, v24, v25, v26, v27]))] H := hP
  have hD : va_D A [(a0, .inr (15, [.int 0, v1, v2, v3, v4, v5, v6, v7, v8, v9, v10, v11, v12, v13, v14, v15, v16, v17, v18, v19, v20, v21, v22, v23, v24, v25, v26, v27]))] := hD
  refine lv_if_ne (tgt := 40) hx hb dX10_claim_27 (by decide) (fun z => absurd (by decide) z) (fun _ => ?_)
  refine lv_aload_n hx hb dX10_claim_30 rfl (lv_at hl 0 rfl) ?_
  refine lv_iload_n hx hb dX10_claim_31 rfl (lv_at hl 1 rfl) ?_
  refine lv_iload_n hx hb dX10_claim_32 rfl (lv_at hl 2 rfl) ?_
  refine lv_iload_n hx hb dX10_claim_33 rfl (lv_at hl 3 rfl) ?_
  refine ca_i (isC := [0]) (isR := []) (wr := []) (rn_V (ci := 15) (q0 := 0) (isC := [0]) (wc := [(a0, .inr (15, [.int 0, v1, v2, v3, v4, v5, v6, v7, v8, v9, v10, v11, v12, v13, v14, v15, v16, v17, v18, v19, v20, v21, v22, v23, v24, v25, v26, v27]))]) (As := [.int x0, .int x1, .int x2]) (rest := []) (n := 3) hx hb hml hown hts hE hS hP hD hA hl.1 (k668_X10_noClaim l D cy g x0 x1 x2 a0 (v1) (v2) (v3) (v4) (v5) (v6) (v7) (v8) (v9) (v10) (v11) (v12) (v13) (v14) (v15) (v16) (v17) (v18) (v19) (v20) (v21) (v22) (v23) (v24) (v25) (v26) (v27) H.size h2 h3 h4 h5 h6 h7 h8) rfl rfl rfl rfl rfl ax_452 rfl rfl ax_453 ⟨Nat.le_of_ble_eq_true rfl, Nat.le_of_ble_eq_true rfl⟩ rfl rfl (Nat.le_of_ble_eq_true rfl) dX10_claim_34 ⟨(Nat.le_of_ble_eq_true rfl), (Nat.le_of_ble_eq_true rfl)⟩) hP hD hS hA rfl rfl rfl (by decide) (fun ad34 H locs hP hD hS => ?_)
  have hP : va_P D vwCl [(a0, .inr (15, [.int 0, v1, v2, v3, v4, v5, v6, v7, v8, v9, v10, v11, v12, v13, v14, v15, v16, v17, v18, v19, v20, v21, v22, v23, v24, v25, v26, v27]))] H := hP
  have hD : va_D A [(a0, .inr (15, [.int 0, v1, v2, v3, v4, v5, v6, v7, v8, v9, v10, v11, v12, v13, v14, v15, v16, v17, v18, v19, v20, v21, v22, v23, v24, v25, v26, v27]))] := hD
  refine lv_if_eq (tgt := 43) hx hb dX10_claim_37 (by decide) (fun _ => ?_) (fun z => absurd (by decide) z)
  refine lv_iload hx hb dX10_claim_43 (lv_at hl 4 rfl) ?_
  refine lv_iload_n hx hb dX10_claim_45 rfl (lv_at hl 1 rfl) ?_
  refine lv_icmp_le (tgt := 54) hx hb dX10_claim_46 (by decide) (fun z => absurd z (fa_of_lt h9).2.1) (fun _ => ?_)
  refine lv_bipush (v := 101) hx hb dX10_claim_49 (by decide) ?_
  refine lv_goto (tgt := 74) hx hb dX10_claim_51 (by decide) ?_
  exact en_z hx hb hr hlk hP hD hS rfl (fun _ => 0) (is := [0]) rfl rfl (Nat.le_of_ble_eq_true rfl) (Nat.le_of_ble_eq_true rfl) dX10_claim_74
set_option maxHeartbeats 4000000 in
set_option maxRecDepth 100000 in
theorem k670_X9_dividedDown (l : Launch) (D : va_G) (cy : Nat → ClassId) (g : Nat → Nat) (x0 : Int32) (x1 : Int32) (sz : Nat) (h0 : ¬ x1 < 1) (h1 : ¬ x1 = 0) : Met l yX9_dividedDown [.code yX9_dividedDown cX9_dividedDown 2 (some .int)] ({ frames := 0, cells := 0, slots := 0, locals := 0 }) (PC D cy g [] sz [.int x0, .int x1]) (QI D (x0 / x1) (fun ad => []) (va_A [] sz)) 0 0 (va_A [] sz) := by
  refine st_I (by decide) (Nat.le_of_ble_eq_true rfl) ?_
  intro p e s m args below meth c A ls hx hb hr hml hown hlk hnm hsz hP hD hA hE hts hS hl
  have hown : s.vm.findClass RX9 = some m.cls := hown
  have hl : lv_has ls 2 [(0, .int x0), (1, .int x1)] := hl
  refine lv_iload_n hx hb dX9_dividedDown_0 rfl (lv_at hl 1 rfl) ?_
  refine lv_iconst (v := 1) hx hb dX9_dividedDown_1 (by decide) ?_
  refine lv_icmp_ge (tgt := 9) hx hb dX9_dividedDown_2 (by decide) (fun _ => ?_) (fun z => absurd (fa_of_nlt h0) z)
  refine lv_iload_n hx hb dX9_dividedDown_9 rfl (lv_at hl 0 rfl) ?_
  refine lv_iload_n hx hb dX9_dividedDown_10 rfl (lv_at hl 1 rfl) ?_
  refine lv_idiv hx hb dX9_dividedDown_11 h1 ?_
  exact en_z hx hb hr hlk hP hD hS rfl (fun _ => 0) (is := []) rfl rfl (Nat.le_of_ble_eq_true rfl) (Nat.le_of_ble_eq_true rfl) dX9_dividedDown_12
set_option maxHeartbeats 4000000 in
theorem k671_X9_dividedUp (l : Launch) (D : va_G) (cy : Nat → ClassId) (g : Nat → Nat) (x0 : Int32) (x1 : Int32) (sz : Nat) (h0 : ¬ x1 < 1) : Met l yX9_dividedUp [.code yX9_dividedUp cX9_dividedUp 3 (some .int)] ({ frames := 0, cells := 0, slots := 0, locals := 0 }) (PC D cy g [] sz [.int x0, .int x1]) (QI D (dU x0 x1) (fun ad => []) (va_A [] sz)) 0 0 (va_A [] sz) := by
  refine st_I (by decide) (Nat.le_of_ble_eq_true rfl) ?_
  intro p e s m args below meth c A ls hx hb hr hml hown hlk hnm hsz hP hD hA hE hts hS hl
  have hl : lv_has ls 3 [(0, .int x0), (1, .int x1)] := hl
  refine lv_iload_n hx hb dX9_dividedUp_0 rfl (lv_at hl 1 rfl) ?_
  refine lv_iconst (v := 1) hx hb dX9_dividedUp_1 (by decide) ?_
  refine lv_icmp_ge (tgt := 7) hx hb dX9_dividedUp_2 (by decide) (fun _ => ?_) (fun z => absurd (fa_of_nlt h0) z)
  refine lv_iload_n hx hb dX9_dividedUp_7 rfl (lv_at hl 0 rfl) ?_
  refine lv_iload_n hx hb dX9_dividedUp_8 rfl (lv_at hl 1 rfl) ?_
  refine lv_idiv hx hb dX9_dividedUp_9 (fun z => absurd (show x1 < 1 by rw [z]; decide) h0) ?_
  refine lv_istore_n (lv' := [(2, .int (x0 / x1)), (0, .int x0), (1, .int x1)]) hx hb dX9_dividedUp_10 rfl hl (Nat.le_of_ble_eq_true rfl) rfl (fun ls hl => ?_)
  refine lv_iload_n hx hb dX9_dividedUp_11 rfl (lv_at hl 0 rfl) ?_
  refine lv_iload_n hx hb dX9_dividedUp_12 rfl (lv_at hl 2 rfl) ?_
  refine lv_imul hx hb dX9_dividedUp_13 ?_
  refine lv_iload_n hx hb dX9_dividedUp_14 rfl (lv_at hl 1 rfl) ?_
  refine lv_icmp_ge (tgt := 24) hx hb dX9_dividedUp_15 (by decide) (fun hc => ?_) (fun hc => ?_)
  · refine lv_iload_n hx hb dX9_dividedUp_24 rfl (lv_at hl 0 rfl) ?_
    refine tp_i (dU x0 x1) (dU_ge hc).symm ?_
    exact en_z hx hb hr hlk hP hD hS rfl (fun _ => 0) (is := []) rfl rfl (Nat.le_of_ble_eq_true rfl) (Nat.le_of_ble_eq_true rfl) dX9_dividedUp_25
  · refine lv_iload_n hx hb dX9_dividedUp_18 rfl (lv_at hl 0 rfl) ?_
    refine lv_iconst (v := 1) hx hb dX9_dividedUp_19 (by decide) ?_
    refine lv_iadd hx hb dX9_dividedUp_20 ?_
    refine tp_i (dU x0 x1) (dU_lt hc).symm ?_
    refine lv_goto (tgt := 25) hx hb dX9_dividedUp_21 (by decide) ?_
    exact en_z hx hb hr hlk hP hD hS rfl (fun _ => 0) (is := []) rfl rfl (Nat.le_of_ble_eq_true rfl) (Nat.le_of_ble_eq_true rfl) dX9_dividedUp_25
set_option maxHeartbeats 4000000 in
set_option maxRecDepth 100000 in
theorem k672_X9_disorderMade (l : Launch) (D : va_G) (cy : Nat → ClassId) (g : Nat → Nat) (x0 : Int32) (x1 : Int32) (x2 : Int32) (x3 : Int32) (sz : Nat) (h0 : ¬ (1073741824 : Int32) < x1) (h1 : ¬ (1073741824 : Int32) < x3) (h2 : ¬ x3 < 1) (h3 : ¬ x3 = 0) (h4 : ¬ x1 < 1) : Met l yX9_disorderMade [.code yX9_disorderMade cX9_disorderMade 8 (some .int)] ({ frames := 1, cells := 0, slots := 0, locals := 22 }) (PC D cy g [] sz [.int x0, .long x1.toInt64, .int x2, .long x3.toInt64]) (QI D (((1000 * x2) / x3) - (dU (1000 * x0) x1)) (fun ad => []) (va_A [] sz)) 0 0 (va_A [] sz) := by
  refine st_I (by decide) (Nat.le_of_ble_eq_true rfl) ?_
  intro p e s m args below meth c A ls hx hb hr hml hown hlk hnm hsz hP hD hA hE hts hS hl
  have hown : s.vm.findClass RX9 = some m.cls := hown
  have hl : lv_has ls 8 [(0, .int x0), (1, .long x1.toInt64), (3, .int x2), (4, .long x3.toInt64)] := hl
  refine lv_lload_n hx hb dX9_disorderMade_0 rfl (lv_at hl 1 rfl) ?_
  refine lv_ldc2 (v := 1073741824) hx hb hown (hts _ tw_1204) dX9_disorderMade_1 ?_
  refine va_mmin_long hx hb (hml.trans hl.1.symm) hown (hts _ tw_1205) (hts _ tw_1206) (hts _ tw_345) (hts _ tw_1207) (Nat.le_of_ble_eq_true rfl) (Nat.le_of_ble_eq_true rfl) (Nat.le_of_ble_eq_true rfl) (Nat.le_of_ble_eq_true rfl) dX9_disorderMade_4 ?_
  refine tp_l x1.toInt64 (if_neg (wl_nlt (by decide) rfl h0)) ?_
  refine lv_l2i (v := x1) hx hb dX9_disorderMade_7 (li _) ?_
  refine lv_istore (lv' := [(6, .int x1), (0, .int x0), (1, .long x1.toInt64), (3, .int x2), (4, .long x3.toInt64)]) hx hb dX9_disorderMade_8 hl (Nat.le_of_ble_eq_true rfl) rfl (fun ls hl => ?_)
  refine lv_lload hx hb dX9_disorderMade_10 (lv_at hl 4 rfl) ?_
  refine lv_ldc2 (v := 1073741824) hx hb hown (hts _ tw_1204) dX9_disorderMade_12 ?_
  refine va_mmin_long hx hb (hml.trans hl.1.symm) hown (hts _ tw_1205) (hts _ tw_1206) (hts _ tw_345) (hts _ tw_1207) (Nat.le_of_ble_eq_true rfl) (Nat.le_of_ble_eq_true rfl) (Nat.le_of_ble_eq_true rfl) (Nat.le_of_ble_eq_true rfl) dX9_disorderMade_15 ?_
  refine tp_l x3.toInt64 (if_neg (wl_nlt (by decide) rfl h1)) ?_
  refine lv_l2i (v := x3) hx hb dX9_disorderMade_18 (li _) ?_
  refine lv_istore (lv' := [(7, .int x3), (6, .int x1), (0, .int x0), (1, .long x1.toInt64), (3, .int x2), (4, .long x3.toInt64)]) hx hb dX9_disorderMade_19 hl (Nat.le_of_ble_eq_true rfl) rfl (fun ls hl => ?_)
  refine lv_sipush (v := 1000) hx hb dX9_disorderMade_21 (by decide) ?_
  refine lv_iload_n hx hb dX9_disorderMade_24 rfl (lv_at hl 4 rfl) ?_
  refine lv_imul hx hb dX9_disorderMade_25 ?_
  refine lv_iload hx hb dX9_disorderMade_26 (lv_at hl 0 rfl) ?_
  refine ca_i (isC := []) (isR := []) (wr := []) (rn_S (isC := []) (wc := []) (As := [.int (1000 * x2), .int x3]) (rest := []) (n := 2) hx hb hml hown hts hE hS hP hD hA hl.1 (k670_X9_dividedDown l D cy g (1000 * x2) x3 s.heap.size h2 h3) rfl rfl ax_454 rfl rfl ax_455 ⟨Nat.le_of_ble_eq_true rfl, Nat.le_of_ble_eq_true rfl⟩ rfl rfl (Nat.le_of_ble_eq_true rfl) dX9_disorderMade_28 ⟨(Nat.le_of_ble_eq_true rfl), (Nat.le_of_ble_eq_true rfl)⟩) hP hD hS hA rfl rfl rfl (by decide) (fun ad28 H locs hP hD hS => ?_)
  have hP : va_P D vwCl [] H := hP
  have hD : va_D A [] := hD
  refine lv_sipush (v := 1000) hx hb dX9_disorderMade_31 (by decide) ?_
  refine lv_iload_n hx hb dX9_disorderMade_34 rfl (lv_at hl 2 rfl) ?_
  refine lv_imul hx hb dX9_disorderMade_35 ?_
  refine lv_iload hx hb dX9_disorderMade_36 (lv_at hl 1 rfl) ?_
  refine ca_i (isC := []) (isR := []) (wr := []) (rn_S (isC := []) (wc := []) (As := [.int (1000 * x0), .int x1]) (rest := [.int ((1000 * x2) / x3)]) (n := 2) hx hb hml hown hts hE hS hP hD hA hl.1 (k671_X9_dividedUp l D cy g (1000 * x0) x1 H.size h4) rfl rfl ax_456 rfl rfl ax_457 ⟨Nat.le_of_ble_eq_true rfl, Nat.le_of_ble_eq_true rfl⟩ rfl rfl (Nat.le_of_ble_eq_true rfl) dX9_disorderMade_38 ⟨(Nat.le_of_ble_eq_true rfl), (Nat.le_of_ble_eq_true rfl)⟩) hP hD hS hA rfl rfl rfl (by decide) (fun ad38 H locs hP hD hS => ?_)
  have hP : va_P D vwCl [] H := hP
  have hD : va_D A [] := hD
  refine lv_isub hx hb dX9_disorderMade_41 ?_
  exact en_z hx hb hr hlk hP hD hS rfl (fun _ => 0) (is := []) rfl rfl (Nat.le_of_ble_eq_true rfl) (Nat.le_of_ble_eq_true rfl) dX9_disorderMade_42
set_option maxHeartbeats 4000000 in
set_option maxRecDepth 100000 in
theorem k673_X9_claim (l : Launch) (D : va_G) (cy : Nat → ClassId) (g : Nat → Nat) (x0 : Int32) (x1 : Int32) (x2 : Int32) (x3 : Int32) (a0 : Nat) (v0 : Value) (v1 : Value) (v2 : Value) (v3 : Value) (v4 : Value) (v5 : Value) (v6 : Value) (sz : Nat) (h0 : ¬ x0 < 1) (h1 : ¬ (100000 : Int32) < x0) (h2 : ¬ x1 < 50) (h3 : ¬ (2000 : Int32) < x1) (h4 : ¬ x2 < 50) (h5 : ¬ (2000 : Int32) < x2) (h6 : x2 < x1) (h7 : ¬ x3 < 0) (h8 : ¬ (200000 : Int32) < x3) (h9 : ¬ x0 < x3) (h10 : ¬ (1073741824 : Int32) < x1) (h11 : ¬ (1073741824 : Int32) < x2) (h12 : ¬ x2 < 1) (h13 : ¬ x2 = 0) (h14 : ¬ x1 < 1) (h15 : (((1000 * (x0 - x3)) / x2) - (dU (1000 * x0) x1)) < 0) : Met l yX9_claim [.code yX9_claim cX9_claim 5 (some .char)] ({ frames := 2, cells := 0, slots := 0, locals := 49 }) (PC D cy g [(a0, .inr (14, [v0, v1, v2, v3, v4, v5, v6]))] sz [.ref a0, .int x0, .int x1, .int x2, .int x3]) (QI D 100 (fun ad => [(a0, .inr (14, [v0, v1, v2, v3, v4, v5, v6]))]) (va_A [(a0, .inr (14, [v0, v1, v2, v3, v4, v5, v6]))] sz)) 0 0 (va_A [(a0, .inr (14, [v0, v1, v2, v3, v4, v5, v6]))] sz) := by
  refine st_I (by decide) (Nat.le_of_ble_eq_true rfl) ?_
  intro p e s m args below meth c A ls hx hb hr hml hown hlk hnm hsz hP hD hA hE hts hS hl
  have hown : s.vm.findClass RX9 = some m.cls := hown
  have hl : lv_has ls 5 [(0, .ref a0), (1, .int x0), (2, .int x1), (3, .int x2), (4, .int x3)] := hl
  refine lv_aload_n hx hb dX9_claim_0 rfl (lv_at hl 0 rfl) ?_
  refine lv_iload_n hx hb dX9_claim_1 rfl (lv_at hl 1 rfl) ?_
  refine lv_iload_n hx hb dX9_claim_2 rfl (lv_at hl 2 rfl) ?_
  refine lv_iload_n hx hb dX9_claim_3 rfl (lv_at hl 3 rfl) ?_
  refine ca_v (isC := []) (isR := [0]) (wr := [(a0, .inr (14, [v0, v1, v2, v3, v4, v5, v6]))]) (rn_V (ci := 14) (q0 := 0) (isC := []) (wc := []) (As := [.int x0, .int x1, .int x2]) (rest := []) (n := 3) hx hb hml hown hts hE hS hP hD hA hl.1 (k661_X9_requireClaim l D cy g x0 x1 x2 a0 s.heap.size h0 h1 h2 h3 h4 h5 h6) rfl rfl rfl rfl rfl ax_444 rfl rfl ax_445 ⟨Nat.le_of_ble_eq_true rfl, Nat.le_of_ble_eq_true rfl⟩ rfl rfl (Nat.le_of_ble_eq_true rfl) dX9_claim_4 ⟨(Nat.le_of_ble_eq_true rfl), (Nat.le_of_ble_eq_true rfl)⟩) hP hD hS hA rfl rfl rfl (by decide) (fun ad4 H locs hP hD hS => ?_)
  have hP : va_P D vwCl [(a0, .inr (14, [v0, v1, v2, v3, v4, v5, v6]))] H := hP
  have hD : va_D A [(a0, .inr (14, [v0, v1, v2, v3, v4, v5, v6]))] := hD
  refine lv_iload hx hb dX9_claim_7 (lv_at hl 4 rfl) ?_
  refine lv_iconst (v := 0) hx hb dX9_claim_9 (by decide) ?_
  refine lv_ldcw (v := 200000) hx hb hown (hts _ tw_1203) dX9_claim_10 ?_
  refine ca_i (isC := []) (isR := [0]) (wr := [(a0, .inr (14, [v0, v1, v2, v3, v4, v5, v6]))]) (rn_S (isC := []) (wc := []) (As := [.int x3, .int 0, .int 200000]) (rest := []) (n := 3) hx hb hml hown hts hE hS hP hD hA hl.1 (k30_X9_isOutside l D cy g x3 0 200000 H.size h7 h8) rfl rfl ax_30 rfl rfl ax_31 ⟨Nat.le_of_ble_eq_true rfl, Nat.le_of_ble_eq_true rfl⟩ rfl rfl (Nat.le_of_ble_eq_true rfl) dX9_claim_13 ⟨(Nat.le_of_ble_eq_true rfl), (Nat.le_of_ble_eq_true rfl)⟩) hP hD hS hA rfl rfl rfl (by decide) (fun ad13 H locs hP hD hS => ?_)
  have hP : va_P D vwCl [(a0, .inr (14, [v0, v1, v2, v3, v4, v5, v6]))] H := hP
  have hD : va_D A [(a0, .inr (14, [v0, v1, v2, v3, v4, v5, v6]))] := hD
  refine lv_if_eq (tgt := 29) hx hb dX9_claim_16 (by decide) (fun _ => ?_) (fun z => absurd (by decide) z)
  refine lv_iload hx hb dX9_claim_29 (lv_at hl 4 rfl) ?_
  refine lv_iload_n hx hb dX9_claim_31 rfl (lv_at hl 1 rfl) ?_
  refine lv_icmp_le (tgt := 38) hx hb dX9_claim_32 (by decide) (fun _ => ?_) (fun z => absurd (fa_of_nlt h9) z)
  refine lv_iload_n hx hb dX9_claim_38 rfl (lv_at hl 1 rfl) ?_
  refine lv_iload_n hx hb dX9_claim_39 rfl (lv_at hl 2 rfl) ?_
  refine lv_i2l (v := x1.toInt64) hx hb dX9_claim_40 rfl ?_
  refine lv_iload_n hx hb dX9_claim_41 rfl (lv_at hl 1 rfl) ?_
  refine lv_iload hx hb dX9_claim_42 (lv_at hl 4 rfl) ?_
  refine lv_isub hx hb dX9_claim_44 ?_
  refine lv_iload_n hx hb dX9_claim_45 rfl (lv_at hl 3 rfl) ?_
  refine lv_i2l (v := x2.toInt64) hx hb dX9_claim_46 rfl ?_
  refine ca_i (isC := []) (isR := [0]) (wr := [(a0, .inr (14, [v0, v1, v2, v3, v4, v5, v6]))]) (rn_S (isC := []) (wc := []) (As := [.int x0, .long x1.toInt64, .int (x0 - x3), .long x2.toInt64]) (rest := []) (n := 4) hx hb hml hown hts hE hS hP hD hA hl.1 (k672_X9_disorderMade l D cy g x0 x1 (x0 - x3) x2 H.size h10 h11 h12 h13 h14) rfl rfl ax_458 rfl rfl ax_459 ⟨Nat.le_of_ble_eq_true rfl, Nat.le_of_ble_eq_true rfl⟩ rfl rfl (Nat.le_of_ble_eq_true rfl) dX9_claim_47 ⟨(Nat.le_of_ble_eq_true rfl), (Nat.le_of_ble_eq_true rfl)⟩) hP hD hS hA rfl rfl rfl (by decide) (fun ad47 H locs hP hD hS => ?_)
  have hP : va_P D vwCl [(a0, .inr (14, [v0, v1, v2, v3, v4, v5, v6]))] H := hP
  have hD : va_D A [(a0, .inr (14, [v0, v1, v2, v3, v4, v5, v6]))] := hD
  refine lv_if_ge (tgt := 58) hx hb dX9_claim_50 (by decide) (fun z => absurd z (fa_of_lt h15).2.1) (fun _ => ?_)
  refine lv_bipush (v := 100) hx hb dX9_claim_53 (by decide) ?_
  refine lv_goto (tgt := 60) hx hb dX9_claim_55 (by decide) ?_
  exact en_z hx hb hr hlk hP hD hS rfl (fun _ => 0) (is := [0]) rfl rfl (Nat.le_of_ble_eq_true rfl) (Nat.le_of_ble_eq_true rfl) dX9_claim_60
set_option maxHeartbeats 4000000 in
set_option maxRecDepth 100000 in
theorem k674_L_claim (l : Launch) (D : va_G) (cy : Nat → ClassId) (g : Nat → Nat) (x0 : Int32) (x1 : Int32) (x2 : Int32) (x3 : Int32) (a0 : Nat) (a1 : Nat) (v0 : Value) (v1 : Value) (v2 : Value) (v3 : Value) (v4 : Value) (v5 : Value) (v6 : Value) (f0 : Nat → Int64) (sz : Nat) (h0 : ¬ x0 < 1) (h1 : ¬ (100000 : Int32) < x0) (h2 : ¬ x1 < 50) (h3 : ¬ (2000 : Int32) < x1) (h4 : ¬ x2 < 50) (h5 : ¬ (2000 : Int32) < x2) (h6 : x2 < x1) (h7 : ¬ x3 < 0) (h8 : ¬ (200000 : Int32) < x3) (h9 : ¬ x0 < x3) (h10 : ¬ (1073741824 : Int32) < x1) (h11 : ¬ (1073741824 : Int32) < x2) (h12 : ¬ x2 < 1) (h13 : ¬ x2 = 0) (h14 : ¬ x1 < 1) (h15 : (((1000 * (x0 - x3)) / x2) - (dU (1000 * x0) x1)) < 0) : Met l yL_claim [.codeWith yL_claim cL_claim 7 (some .int) [(0, 14, 17, 13)]] ({ frames := 3, cells := 0, slots := 0, locals := 73 }) (PC D cy g [(a0, .inr (14, [v0, v1, v2, v3, v4, v5, v6])), (a1, .inl (cy 2, 1, .inr (.inl f0)))] sz [.ref a0, .int x0, .int x1, .int x2, .int x3, .ref a1]) (QI D 0 (fun ad => [(a1, .inl (cy 2, 1, .inr (.inl (vp_updL f0 (0 : Int32).toNatClampNeg 100))))]) (va_A [(a0, .inr (14, [v0, v1, v2, v3, v4, v5, v6])), (a1, .inl (cy 2, 1, .inr (.inl f0)))] sz)) 0 0 (va_A [(a0, .inr (14, [v0, v1, v2, v3, v4, v5, v6])), (a1, .inl (cy 2, 1, .inr (.inl f0)))] sz) := by
  refine sh_I (by decide) (Nat.le_of_ble_eq_true rfl) ?_
  intro p e s m args below meth c A ls hx hb hr hml hown hlk hnm hsz hP hD hA hE hts hS hl htb
  have hown : s.vm.findClass RL = some m.cls := hown
  have hl : lv_has ls 7 [(0, .ref a0), (1, .int x0), (2, .int x1), (3, .int x2), (4, .int x3), (5, .ref a1)] := hl
  refine lv_aload hx hb dL_claim_0 (lv_at hl 5 rfl) ?_
  refine lv_iconst (v := 0) hx hb dL_claim_2 (by decide) ?_
  refine lv_aload_n hx hb dL_claim_3 rfl (lv_at hl 0 rfl) ?_
  refine lv_iload_n hx hb dL_claim_4 rfl (lv_at hl 1 rfl) ?_
  refine lv_iload_n hx hb dL_claim_5 rfl (lv_at hl 2 rfl) ?_
  refine lv_iload_n hx hb dL_claim_6 rfl (lv_at hl 3 rfl) ?_
  refine lv_iload hx hb dL_claim_7 (lv_at hl 4 rfl) ?_
  refine ca_i (isC := [0]) (isR := [1]) (wr := [(a1, .inl (cy 2, 1, .inr (.inl f0)))]) (rn_V (ci := 14) (q0 := 0) (isC := [0]) (wc := [(a0, .inr (14, [v0, v1, v2, v3, v4, v5, v6]))]) (As := [.int x0, .int x1, .int x2, .int x3]) (rest := [.int 0, .ref a1]) (n := 4) hx hb hml hown hts hE hS hP hD hA hl.1 (k673_X9_claim l D cy g x0 x1 x2 x3 a0 (v0) (v1) (v2) (v3) (v4) (v5) (v6) s.heap.size h0 h1 h2 h3 h4 h5 h6 h7 h8 h9 h10 h11 h12 h13 h14 h15) rfl rfl rfl rfl rfl ax_446 rfl rfl ax_447 ⟨Nat.le_of_ble_eq_true rfl, Nat.le_of_ble_eq_true rfl⟩ rfl rfl (Nat.le_of_ble_eq_true rfl) dL_claim_9 ⟨(Nat.le_of_ble_eq_true rfl), (Nat.le_of_ble_eq_true rfl)⟩) hP hD hS hA rfl rfl rfl (by decide) (fun ad9 H locs hP hD hS => ?_)
  have hP : va_P D vwCl [(a1, .inl (cy 2, 1, .inr (.inl f0))), (a0, .inr (14, [v0, v1, v2, v3, v4, v5, v6]))] H := hP
  have hD : va_D A [(a1, .inl (cy 2, 1, .inr (.inl f0))), (a0, .inr (14, [v0, v1, v2, v3, v4, v5, v6]))] := hD
  refine lv_i2l (v := 100) hx hb dL_claim_12 (by decide) ?_
  refine va_last hx hb hE.1 hP hD hS 0 2 rfl rfl (by unfold vp_in; decide) dL_claim_13 (fun H locs hP hD hS => ?_)
  have hP : va_P D vwCl [(a1, .inl (cy 2, 1, .inr (.inl (vp_updL f0 (0 : Int32).toNatClampNeg 100)))), (a0, .inr (14, [v0, v1, v2, v3, v4, v5, v6]))] H := hP
  have hD : va_D A [(a1, .inl (cy 2, 1, .inr (.inl (vp_updL f0 (0 : Int32).toNatClampNeg 100)))), (a0, .inr (14, [v0, v1, v2, v3, v4, v5, v6]))] := hD
  refine lv_goto (tgt := 21) hx hb dL_claim_14 (by decide) ?_
  refine lv_iconst (v := 0) hx hb dL_claim_21 (by decide) ?_
  exact en_z hx hb hr hlk hP hD hS rfl (fun _ => 0) (is := [0]) rfl rfl (Nat.le_of_ble_eq_true rfl) (Nat.le_of_ble_eq_true rfl) dL_claim_22
set_option maxHeartbeats 4000000 in
set_option maxRecDepth 100000 in
theorem k675_X10_disorder (l : Launch) (D : va_G) (cy : Nat → ClassId) (g : Nat → Nat) (x0 : Int32) (x1 : Int32) (x2 : Int32) (x3 : Int32) (sz : Nat) (h0 : ¬ x3 = 0) (h1 : ¬ x1 = 0) (h2 : ¬ x0 < 0) (h3 : ¬ (100000 : Int32) < x0) (h4 : ¬ x1 < 50) (h5 : ¬ (2000 : Int32) < x1) (h6 : ¬ x2 < 1) (h7 : ¬ (100000 : Int32) < x2) (h8 : ¬ x3 < 50) (h9 : ¬ (2000 : Int32) < x3) : Met l yX10_disorder [.code yX10_disorder cX10_disorder 6 (some .int)] ({ frames := 0, cells := 0, slots := 0, locals := 0 }) (PC D cy g [] sz [.int x0, .int x1, .int x2, .int x3]) (QI D (((1000 * x0) / x1) - (dU (1000 * x2) x3)) (fun ad => []) (va_A [] sz)) 0 0 (va_A [] sz) := by
  refine st_I (by decide) (Nat.le_of_ble_eq_true rfl) ?_
  intro p e s m args below meth c A ls hx hb hr hml hown hlk hnm hsz hP hD hA hE hts hS hl
  have hown : s.vm.findClass RX10 = some m.cls := hown
  have hl : lv_has ls 6 [(0, .int x0), (1, .int x1), (2, .int x2), (3, .int x3)] := hl
  refine lv_ldc2 (v := 1000) hx hb hown (hts _ tw_331) dX10_disorder_0 ?_
  refine lv_iload_n hx hb dX10_disorder_3 rfl (lv_at hl 2 rfl) ?_
  refine lv_i2l (v := x2.toInt64) hx hb dX10_disorder_4 rfl ?_
  refine lv_lmul hx hb dX10_disorder_5 ?_
  refine lv_iload_n hx hb dX10_disorder_6 rfl (lv_at hl 3 rfl) ?_
  refine lv_i2l (v := x3.toInt64) hx hb dX10_disorder_7 rfl ?_
  refine lv_ladd hx hb dX10_disorder_8 ?_
  refine lv_lconst (v := 1) hx hb dX10_disorder_9 (by decide) ?_
  refine lv_lsub hx hb dX10_disorder_10 ?_
  refine lv_iload_n hx hb dX10_disorder_11 rfl (lv_at hl 3 rfl) ?_
  refine lv_i2l (v := x3.toInt64) hx hb dX10_disorder_12 rfl ?_
  refine lv_ldiv hx hb dX10_disorder_13 (wl_neq rfl (by decide) h0) ?_
  refine lv_lstore (lv' := [(4, .long ((((1000 * x2.toInt64) + x3.toInt64) - 1) / x3.toInt64)), (0, .int x0), (1, .int x1), (2, .int x2), (3, .int x3)]) hx hb dX10_disorder_14 hl (Nat.le_of_ble_eq_true rfl) rfl (fun ls hl => ?_)
  refine lv_ldc2 (v := 1000) hx hb hown (hts _ tw_331) dX10_disorder_16 ?_
  refine lv_iload_n hx hb dX10_disorder_19 rfl (lv_at hl 1 rfl) ?_
  refine lv_i2l (v := x0.toInt64) hx hb dX10_disorder_20 rfl ?_
  refine lv_lmul hx hb dX10_disorder_21 ?_
  refine lv_iload_n hx hb dX10_disorder_22 rfl (lv_at hl 2 rfl) ?_
  refine lv_i2l (v := x1.toInt64) hx hb dX10_disorder_23 rfl ?_
  refine lv_ldiv hx hb dX10_disorder_24 (wl_neq rfl (by decide) h1) ?_
  refine lv_lload hx hb dX10_disorder_25 (lv_at hl 0 rfl) ?_
  refine lv_lsub hx hb dX10_disorder_27 ?_
  refine lv_l2i (v := (((1000 * x0.toInt64) / x1.toInt64) - ((((1000 * x2.toInt64) + x3.toInt64) - 1) / x3.toInt64)).toInt32) hx hb dX10_disorder_28 rfl ?_
  refine tp_i (((1000 * x0) / x1) - (dU (1000 * x2) x3)) (dis_eq h2 h3 h4 h5 h6 h7 h8 h9) ?_
  exact en_z hx hb hr hlk hP hD hS rfl (fun _ => 0) (is := []) rfl rfl (Nat.le_of_ble_eq_true rfl) (Nat.le_of_ble_eq_true rfl) dX10_disorder_29
set_option maxHeartbeats 4000000 in
set_option maxRecDepth 100000 in
theorem k676_X10_claim (l : Launch) (D : va_G) (cy : Nat → ClassId) (g : Nat → Nat) (x0 : Int32) (x1 : Int32) (x2 : Int32) (x3 : Int32) (a0 : Nat) (v0 : Value) (v1 : Value) (v2 : Value) (v3 : Value) (v4 : Value) (v5 : Value) (v6 : Value) (v7 : Value) (v8 : Value) (v9 : Value) (v10 : Value) (v11 : Value) (v12 : Value) (v13 : Value) (v14 : Value) (v15 : Value) (v16 : Value) (v17 : Value) (v18 : Value) (v19 : Value) (v20 : Value) (v21 : Value) (v22 : Value) (v23 : Value) (v24 : Value) (v25 : Value) (v26 : Value) (v27 : Value) (sz : Nat) (h0 : ¬ x3 < 0) (h1 : ¬ (200000 : Int32) < x3) (h2 : ¬ x0 < 1) (h3 : ¬ (100000 : Int32) < x0) (h4 : ¬ x1 < 50) (h5 : ¬ (2000 : Int32) < x1) (h6 : ¬ x2 < 50) (h7 : ¬ (2000 : Int32) < x2) (h8 : x2 < x1) (h9 : ¬ x0 < x3) (h10 : ¬ x1 = 0) (h11 : ¬ x2 = 0) (h12 : ¬ (x0 - x3) < 0) (h13 : ¬ (100000 : Int32) < (x0 - x3)) (h14 : (((1000 * (x0 - x3)) / x2) - (dU (1000 * x0) x1)) < 0) : Met l yX10_claim [.code yX10_claim cX10_claim 5 (some .char)] ({ frames := 2, cells := 0, slots := 0, locals := 48 }) (PC D cy g [(a0, .inr (15, [v0, v1, v2, v3, v4, v5, v6, v7, v8, v9, v10, v11, v12, v13, v14, v15, v16, v17, v18, v19, v20, v21, v22, v23, v24, v25, v26, v27]))] sz [.ref a0, .int x0, .int x1, .int x2, .int x3]) (QI D 100 (fun ad => [(a0, .inr (15, [.int 0, v1, v2, v3, v4, v5, v6, v7, v8, v9, v10, v11, v12, v13, v14, v15, v16, v17, v18, v19, v20, v21, v22, v23, v24, v25, v26, v27]))]) (va_A [(a0, .inr (15, [v0, v1, v2, v3, v4, v5, v6, v7, v8, v9, v10, v11, v12, v13, v14, v15, v16, v17, v18, v19, v20, v21, v22, v23, v24, v25, v26, v27]))] sz)) 0 0 (va_A [(a0, .inr (15, [v0, v1, v2, v3, v4, v5, v6, v7, v8, v9, v10, v11, v12, v13, v14, v15, v16, v17, v18, v19, v20, v21, v22, v23, v24, v25, v26, v27]))] sz) := by
  refine st_I (by decide) (Nat.le_of_ble_eq_true rfl) ?_
  intro p e s m args below meth c A ls hx hb hr hml hown hlk hnm hsz hP hD hA hE hts hS hl
  have hown : s.vm.findClass RX10 = some m.cls := hown
  have hl : lv_has ls 5 [(0, .ref a0), (1, .int x0), (2, .int x1), (3, .int x2), (4, .int x3)] := hl
  refine lv_aload_n hx hb dX10_claim_0 rfl (lv_at hl 0 rfl) ?_
  refine ca_v (isC := [0]) (isR := []) (wr := []) (rn_V (ci := 15) (q0 := 0) (isC := [0]) (wc := [(a0, .inr (15, [v0, v1, v2, v3, v4, v5, v6, v7, v8, v9, v10, v11, v12, v13, v14, v15, v16, v17, v18, v19, v20, v21, v22, v23, v24, v25, v26, v27]))]) (As := []) (rest := []) (n := 0) hx hb hml hown hts hE hS hP hD hA hl.1 (k20_X10_begins l D cy g a0 (v0) (v1) (v2) (v3) (v4) (v5) (v6) (v7) (v8) (v9) (v10) (v11) (v12) (v13) (v14) (v15) (v16) (v17) (v18) (v19) (v20) (v21) (v22) (v23) (v24) (v25) (v26) (v27) s.heap.size ) rfl rfl rfl rfl rfl ax_37 rfl rfl ax_38 ⟨Nat.le_of_ble_eq_true rfl, Nat.le_of_ble_eq_true rfl⟩ rfl rfl (Nat.le_of_ble_eq_true rfl) dX10_claim_1 ⟨(Nat.le_of_ble_eq_true rfl), (Nat.le_of_ble_eq_true rfl)⟩) hP hD hS hA rfl rfl rfl (by decide) (fun ad1 H locs hP hD hS => ?_)
  have hP : va_P D vwCl [(a0, .inr (15, [.int 0, v1, v2, v3, v4, v5, v6, v7, v8, v9, v10, v11, v12, v13, v14, v15, v16, v17, v18, v19, v20, v21, v22, v23, v24, v25, v26, v27]))] H := hP
  have hD : va_D A [(a0, .inr (15, [.int 0, v1, v2, v3, v4, v5, v6, v7, v8, v9, v10, v11, v12, v13, v14, v15, v16, v17, v18, v19, v20, v21, v22, v23, v24, v25, v26, v27]))] := hD
  refine lv_aload_n hx hb dX10_claim_4 rfl (lv_at hl 0 rfl) ?_
  refine lv_iload hx hb dX10_claim_5 (lv_at hl 4 rfl) ?_
  refine lv_i2l (v := x3.toInt64) hx hb dX10_claim_7 rfl ?_
  refine lv_lconst (v := 0) hx hb dX10_claim_8 (by decide) ?_
  refine lv_ldc2 (v := 200000) hx hb hown (hts _ tw_1193) dX10_claim_9 ?_
  refine ca_i (isC := []) (isR := [0]) (wr := [(a0, .inr (15, [.int 0, v1, v2, v3, v4, v5, v6, v7, v8, v9, v10, v11, v12, v13, v14, v15, v16, v17, v18, v19, v20, v21, v22, v23, v24, v25, v26, v27]))]) (rn_S (isC := []) (wc := []) (As := [.long x3.toInt64, .long 0, .long 200000]) (rest := [.ref a0]) (n := 3) hx hb hml hown hts hE hS hP hD hA hl.1 (k33_X10_in l D cy g x3.toInt64 0 200000 H.size (wl_nlt rfl (by decide) h0) (wl_nlt (by decide) rfl h1)) rfl rfl ax_39 rfl rfl ax_40 ⟨Nat.le_of_ble_eq_true rfl, Nat.le_of_ble_eq_true rfl⟩ rfl rfl (Nat.le_of_ble_eq_true rfl) dX10_claim_12 ⟨(Nat.le_of_ble_eq_true rfl), (Nat.le_of_ble_eq_true rfl)⟩) hP hD hS hA rfl rfl rfl (by decide) (fun ad12 H locs hP hD hS => ?_)
  have hP : va_P D vwCl [(a0, .inr (15, [.int 0, v1, v2, v3, v4, v5, v6, v7, v8, v9, v10, v11, v12, v13, v14, v15, v16, v17, v18, v19, v20, v21, v22, v23, v24, v25, v26, v27]))] H := hP
  have hD : va_D A [(a0, .inr (15, [.int 0, v1, v2, v3, v4, v5, v6, v7, v8, v9, v10, v11, v12, v13, v14, v15, v16, v17, v18, v19, v20, v21, v22, v23, v24, v25, v26, v27]))] := hD
  refine lv_if_ne (tgt := 22) hx hb dX10_claim_15 (by decide) (fun _ => ?_) (fun z => absurd z (by decide))
  refine lv_iconst (v := 0) hx hb dX10_claim_22 (by decide) ?_
  refine lv_iconst (v := 1) hx hb dX10_claim_23 (by decide) ?_
  refine ca_i (isC := [0]) (isR := []) (wr := []) (rn_V (ci := 15) (q0 := 0) (isC := [0]) (wc := [(a0, .inr (15, [.int 0, v1, v2, v3, v4, v5, v6, v7, v8, v9, v10, v11, v12, v13, v14, v15, v16, v17, v18, v19, v20, v21, v22, v23, v24, v25, v26, v27]))]) (As := [.int 0, .int 1]) (rest := []) (n := 2) hx hb hml hown hts hE hS hP hD hA hl.1 (k43_X10_fails l D cy g a0 (v1) (v2) (v3) (v4) (v5) (v6) (v7) (v8) (v9) (v10) (v11) (v12) (v13) (v14) (v15) (v16) (v17) (v18) (v19) (v20) (v21) (v22) (v23) (v24) (v25) (v26) (v27) H.size ) rfl rfl rfl rfl rfl ax_41 rfl rfl ax_42 ⟨Nat.le_of_ble_eq_true rfl, Nat.le_of_ble_eq_true rfl⟩ rfl rfl (Nat.le_of_ble_eq_true rfl) dX10_claim_24 ⟨(Nat.le_of_ble_eq_true rfl), (Nat.le_of_ble_eq_true rfl)⟩) hP hD hS hA rfl rfl rfl (by decide) (fun ad24 H locs hP hD hS => ?_)
  have hP : va_P D vwCl [(a0, .inr (15, [.int 0, v1, v2, v3, v4, v5, v6, v7, v8, v9, v10, v11, v12, v13, v14, v15, v16, v17, v18, v19, v20, v21, v22, v23, v24, v25, v26, v27]))] H := hP
  have hD : va_D A [(a0, .inr (15, [.int 0, v1, v2, v3, v4, v5, v6, v7, v8, v9, v10, v11, v12, v13, v14, v15, v16, v17, v18, v19, v20, v21, v22, v23, v24, v25, v26, v27]))] := hD
  refine lv_if_ne (tgt := 40) hx hb dX10_claim_27 (by decide) (fun z => absurd (by decide) z) (fun _ => ?_)
  refine lv_aload_n hx hb dX10_claim_30 rfl (lv_at hl 0 rfl) ?_
  refine lv_iload_n hx hb dX10_claim_31 rfl (lv_at hl 1 rfl) ?_
  refine lv_iload_n hx hb dX10_claim_32 rfl (lv_at hl 2 rfl) ?_
  refine lv_iload_n hx hb dX10_claim_33 rfl (lv_at hl 3 rfl) ?_
  refine ca_i (isC := [0]) (isR := []) (wr := []) (rn_V (ci := 15) (q0 := 0) (isC := [0]) (wc := [(a0, .inr (15, [.int 0, v1, v2, v3, v4, v5, v6, v7, v8, v9, v10, v11, v12, v13, v14, v15, v16, v17, v18, v19, v20, v21, v22, v23, v24, v25, v26, v27]))]) (As := [.int x0, .int x1, .int x2]) (rest := []) (n := 3) hx hb hml hown hts hE hS hP hD hA hl.1 (k668_X10_noClaim l D cy g x0 x1 x2 a0 (v1) (v2) (v3) (v4) (v5) (v6) (v7) (v8) (v9) (v10) (v11) (v12) (v13) (v14) (v15) (v16) (v17) (v18) (v19) (v20) (v21) (v22) (v23) (v24) (v25) (v26) (v27) H.size h2 h3 h4 h5 h6 h7 h8) rfl rfl rfl rfl rfl ax_452 rfl rfl ax_453 ⟨Nat.le_of_ble_eq_true rfl, Nat.le_of_ble_eq_true rfl⟩ rfl rfl (Nat.le_of_ble_eq_true rfl) dX10_claim_34 ⟨(Nat.le_of_ble_eq_true rfl), (Nat.le_of_ble_eq_true rfl)⟩) hP hD hS hA rfl rfl rfl (by decide) (fun ad34 H locs hP hD hS => ?_)
  have hP : va_P D vwCl [(a0, .inr (15, [.int 0, v1, v2, v3, v4, v5, v6, v7, v8, v9, v10, v11, v12, v13, v14, v15, v16, v17, v18, v19, v20, v21, v22, v23, v24, v25, v26, v27]))] H := hP
  have hD : va_D A [(a0, .inr (15, [.int 0, v1, v2, v3, v4, v5, v6, v7, v8, v9, v10, v11, v12, v13, v14, v15, v16, v17, v18, v19, v20, v21, v22, v23, v24, v25, v26, v27]))] := hD
  refine lv_if_eq (tgt := 43) hx hb dX10_claim_37 (by decide) (fun _ => ?_) (fun z => absurd (by decide) z)
  refine lv_iload hx hb dX10_claim_43 (lv_at hl 4 rfl) ?_
  refine lv_iload_n hx hb dX10_claim_45 rfl (lv_at hl 1 rfl) ?_
  refine lv_icmp_le (tgt := 54) hx hb dX10_claim_46 (by decide) (fun _ => ?_) (fun z => absurd (fa_of_nlt h9) z)
  refine lv_iload_n hx hb dX10_claim_54 rfl (lv_at hl 1 rfl) ?_
  refine lv_iload hx hb dX10_claim_55 (lv_at hl 4 rfl) ?_
  refine lv_isub hx hb dX10_claim_57 ?_
  refine lv_iload_n hx hb dX10_claim_58 rfl (lv_at hl 3 rfl) ?_
  refine lv_iload_n hx hb dX10_claim_59 rfl (lv_at hl 1 rfl) ?_
  refine lv_iload_n hx hb dX10_claim_60 rfl (lv_at hl 2 rfl) ?_
  refine ca_i (isC := []) (isR := [0]) (wr := [(a0, .inr (15, [.int 0, v1, v2, v3, v4, v5, v6, v7, v8, v9, v10, v11, v12, v13, v14, v15, v16, v17, v18, v19, v20, v21, v22, v23, v24, v25, v26, v27]))]) (rn_S (isC := []) (wc := []) (As := [.int (x0 - x3), .int x2, .int x0, .int x1]) (rest := []) (n := 4) hx hb hml hown hts hE hS hP hD hA hl.1 (k675_X10_disorder l D cy g (x0 - x3) x2 x0 x1 H.size h10 h11 h12 h13 h6 h7 h2 h3 h4 h5) rfl rfl ax_460 rfl rfl ax_461 ⟨Nat.le_of_ble_eq_true rfl, Nat.le_of_ble_eq_true rfl⟩ rfl rfl (Nat.le_of_ble_eq_true rfl) dX10_claim_61 ⟨(Nat.le_of_ble_eq_true rfl), (Nat.le_of_ble_eq_true rfl)⟩) hP hD hS hA rfl rfl rfl (by decide) (fun ad61 H locs hP hD hS => ?_)
  have hP : va_P D vwCl [(a0, .inr (15, [.int 0, v1, v2, v3, v4, v5, v6, v7, v8, v9, v10, v11, v12, v13, v14, v15, v16, v17, v18, v19, v20, v21, v22, v23, v24, v25, v26, v27]))] H := hP
  have hD : va_D A [(a0, .inr (15, [.int 0, v1, v2, v3, v4, v5, v6, v7, v8, v9, v10, v11, v12, v13, v14, v15, v16, v17, v18, v19, v20, v21, v22, v23, v24, v25, v26, v27]))] := hD
  refine lv_if_ge (tgt := 72) hx hb dX10_claim_64 (by decide) (fun z => absurd z (fa_of_lt h14).2.1) (fun _ => ?_)
  refine lv_bipush (v := 100) hx hb dX10_claim_67 (by decide) ?_
  refine lv_goto (tgt := 74) hx hb dX10_claim_69 (by decide) ?_
  exact en_z hx hb hr hlk hP hD hS rfl (fun _ => 0) (is := [0]) rfl rfl (Nat.le_of_ble_eq_true rfl) (Nat.le_of_ble_eq_true rfl) dX10_claim_74
set_option maxHeartbeats 4000000 in
set_option maxRecDepth 100000 in
theorem k677_X9_claim (l : Launch) (D : va_G) (cy : Nat → ClassId) (g : Nat → Nat) (x0 : Int32) (x1 : Int32) (x2 : Int32) (x3 : Int32) (a0 : Nat) (v0 : Value) (v1 : Value) (v2 : Value) (v3 : Value) (v4 : Value) (v5 : Value) (v6 : Value) (sz : Nat) (h0 : ¬ x0 < 1) (h1 : ¬ (100000 : Int32) < x0) (h2 : ¬ x1 < 50) (h3 : ¬ (2000 : Int32) < x1) (h4 : ¬ x2 < 50) (h5 : ¬ (2000 : Int32) < x2) (h6 : x2 < x1) (h7 : ¬ x3 < 0) (h8 : ¬ (200000 : Int32) < x3) (h9 : ¬ x0 < x3) (h10 : ¬ (1073741824 : Int32) < x1) (h11 : ¬ (1073741824 : Int32) < x2) (h12 : ¬ x2 < 1) (h13 : ¬ x2 = 0) (h14 : ¬ x1 < 1) (h15 : ¬ (((1000 * (x0 - x3)) / x2) - (dU (1000 * x0) x1)) < 0) : Met l yX9_claim [.code yX9_claim cX9_claim 5 (some .char)] ({ frames := 2, cells := 0, slots := 0, locals := 49 }) (PC D cy g [(a0, .inr (14, [v0, v1, v2, v3, v4, v5, v6]))] sz [.ref a0, .int x0, .int x1, .int x2, .int x3]) (QI D 45 (fun ad => [(a0, .inr (14, [v0, v1, v2, v3, v4, v5, v6]))]) (va_A [(a0, .inr (14, [v0, v1, v2, v3, v4, v5, v6]))] sz)) 0 0 (va_A [(a0, .inr (14, [v0, v1, v2, v3, v4, v5, v6]))] sz) := by
  refine st_I (by decide) (Nat.le_of_ble_eq_true rfl) ?_
  intro p e s m args below meth c A ls hx hb hr hml hown hlk hnm hsz hP hD hA hE hts hS hl
  have hown : s.vm.findClass RX9 = some m.cls := hown
  have hl : lv_has ls 5 [(0, .ref a0), (1, .int x0), (2, .int x1), (3, .int x2), (4, .int x3)] := hl
  refine lv_aload_n hx hb dX9_claim_0 rfl (lv_at hl 0 rfl) ?_
  refine lv_iload_n hx hb dX9_claim_1 rfl (lv_at hl 1 rfl) ?_
  refine lv_iload_n hx hb dX9_claim_2 rfl (lv_at hl 2 rfl) ?_
  refine lv_iload_n hx hb dX9_claim_3 rfl (lv_at hl 3 rfl) ?_
  refine ca_v (isC := []) (isR := [0]) (wr := [(a0, .inr (14, [v0, v1, v2, v3, v4, v5, v6]))]) (rn_V (ci := 14) (q0 := 0) (isC := []) (wc := []) (As := [.int x0, .int x1, .int x2]) (rest := []) (n := 3) hx hb hml hown hts hE hS hP hD hA hl.1 (k661_X9_requireClaim l D cy g x0 x1 x2 a0 s.heap.size h0 h1 h2 h3 h4 h5 h6) rfl rfl rfl rfl rfl ax_444 rfl rfl ax_445 ⟨Nat.le_of_ble_eq_true rfl, Nat.le_of_ble_eq_true rfl⟩ rfl rfl (Nat.le_of_ble_eq_true rfl) dX9_claim_4 ⟨(Nat.le_of_ble_eq_true rfl), (Nat.le_of_ble_eq_true rfl)⟩) hP hD hS hA rfl rfl rfl (by decide) (fun ad4 H locs hP hD hS => ?_)
  have hP : va_P D vwCl [(a0, .inr (14, [v0, v1, v2, v3, v4, v5, v6]))] H := hP
  have hD : va_D A [(a0, .inr (14, [v0, v1, v2, v3, v4, v5, v6]))] := hD
  refine lv_iload hx hb dX9_claim_7 (lv_at hl 4 rfl) ?_
  refine lv_iconst (v := 0) hx hb dX9_claim_9 (by decide) ?_
  refine lv_ldcw (v := 200000) hx hb hown (hts _ tw_1203) dX9_claim_10 ?_
  refine ca_i (isC := []) (isR := [0]) (wr := [(a0, .inr (14, [v0, v1, v2, v3, v4, v5, v6]))]) (rn_S (isC := []) (wc := []) (As := [.int x3, .int 0, .int 200000]) (rest := []) (n := 3) hx hb hml hown hts hE hS hP hD hA hl.1 (k30_X9_isOutside l D cy g x3 0 200000 H.size h7 h8) rfl rfl ax_30 rfl rfl ax_31 ⟨Nat.le_of_ble_eq_true rfl, Nat.le_of_ble_eq_true rfl⟩ rfl rfl (Nat.le_of_ble_eq_true rfl) dX9_claim_13 ⟨(Nat.le_of_ble_eq_true rfl), (Nat.le_of_ble_eq_true rfl)⟩) hP hD hS hA rfl rfl rfl (by decide) (fun ad13 H locs hP hD hS => ?_)
  have hP : va_P D vwCl [(a0, .inr (14, [v0, v1, v2, v3, v4, v5, v6]))] H := hP
  have hD : va_D A [(a0, .inr (14, [v0, v1, v2, v3, v4, v5, v6]))] := hD
  refine lv_if_eq (tgt := 29) hx hb dX9_claim_16 (by decide) (fun _ => ?_) (fun z => absurd (by decide) z)
  refine lv_iload hx hb dX9_claim_29 (lv_at hl 4 rfl) ?_
  refine lv_iload_n hx hb dX9_claim_31 rfl (lv_at hl 1 rfl) ?_
  refine lv_icmp_le (tgt := 38) hx hb dX9_claim_32 (by decide) (fun _ => ?_) (fun z => absurd (fa_of_nlt h9) z)
  refine lv_iload_n hx hb dX9_claim_38 rfl (lv_at hl 1 rfl) ?_
  refine lv_iload_n hx hb dX9_claim_39 rfl (lv_at hl 2 rfl) ?_
  refine lv_i2l (v := x1.toInt64) hx hb dX9_claim_40 rfl ?_
  refine lv_iload_n hx hb dX9_claim_41 rfl (lv_at hl 1 rfl) ?_
  refine lv_iload hx hb dX9_claim_42 (lv_at hl 4 rfl) ?_
  refine lv_isub hx hb dX9_claim_44 ?_
  refine lv_iload_n hx hb dX9_claim_45 rfl (lv_at hl 3 rfl) ?_
  refine lv_i2l (v := x2.toInt64) hx hb dX9_claim_46 rfl ?_
  refine ca_i (isC := []) (isR := [0]) (wr := [(a0, .inr (14, [v0, v1, v2, v3, v4, v5, v6]))]) (rn_S (isC := []) (wc := []) (As := [.int x0, .long x1.toInt64, .int (x0 - x3), .long x2.toInt64]) (rest := []) (n := 4) hx hb hml hown hts hE hS hP hD hA hl.1 (k672_X9_disorderMade l D cy g x0 x1 (x0 - x3) x2 H.size h10 h11 h12 h13 h14) rfl rfl ax_458 rfl rfl ax_459 ⟨Nat.le_of_ble_eq_true rfl, Nat.le_of_ble_eq_true rfl⟩ rfl rfl (Nat.le_of_ble_eq_true rfl) dX9_claim_47 ⟨(Nat.le_of_ble_eq_true rfl), (Nat.le_of_ble_eq_true rfl)⟩) hP hD hS hA rfl rfl rfl (by decide) (fun ad47 H locs hP hD hS => ?_)
  have hP : va_P D vwCl [(a0, .inr (14, [v0, v1, v2, v3, v4, v5, v6]))] H := hP
  have hD : va_D A [(a0, .inr (14, [v0, v1, v2, v3, v4, v5, v6]))] := hD
  refine lv_if_ge (tgt := 58) hx hb dX9_claim_50 (by decide) (fun _ => ?_) (fun z => absurd (fa_of_nlt h15) z)
  refine lv_bipush (v := 45) hx hb dX9_claim_58 (by decide) ?_
  exact en_z hx hb hr hlk hP hD hS rfl (fun _ => 0) (is := [0]) rfl rfl (Nat.le_of_ble_eq_true rfl) (Nat.le_of_ble_eq_true rfl) dX9_claim_60
set_option maxHeartbeats 4000000 in
set_option maxRecDepth 100000 in
theorem k678_L_claim (l : Launch) (D : va_G) (cy : Nat → ClassId) (g : Nat → Nat) (x0 : Int32) (x1 : Int32) (x2 : Int32) (x3 : Int32) (a0 : Nat) (a1 : Nat) (v0 : Value) (v1 : Value) (v2 : Value) (v3 : Value) (v4 : Value) (v5 : Value) (v6 : Value) (f0 : Nat → Int64) (sz : Nat) (h0 : ¬ x0 < 1) (h1 : ¬ (100000 : Int32) < x0) (h2 : ¬ x1 < 50) (h3 : ¬ (2000 : Int32) < x1) (h4 : ¬ x2 < 50) (h5 : ¬ (2000 : Int32) < x2) (h6 : x2 < x1) (h7 : ¬ x3 < 0) (h8 : ¬ (200000 : Int32) < x3) (h9 : ¬ x0 < x3) (h10 : ¬ (1073741824 : Int32) < x1) (h11 : ¬ (1073741824 : Int32) < x2) (h12 : ¬ x2 < 1) (h13 : ¬ x2 = 0) (h14 : ¬ x1 < 1) (h15 : ¬ (((1000 * (x0 - x3)) / x2) - (dU (1000 * x0) x1)) < 0) : Met l yL_claim [.codeWith yL_claim cL_claim 7 (some .int) [(0, 14, 17, 13)]] ({ frames := 3, cells := 0, slots := 0, locals := 73 }) (PC D cy g [(a0, .inr (14, [v0, v1, v2, v3, v4, v5, v6])), (a1, .inl (cy 2, 1, .inr (.inl f0)))] sz [.ref a0, .int x0, .int x1, .int x2, .int x3, .ref a1]) (QI D 0 (fun ad => [(a1, .inl (cy 2, 1, .inr (.inl (vp_updL f0 (0 : Int32).toNatClampNeg 45))))]) (va_A [(a0, .inr (14, [v0, v1, v2, v3, v4, v5, v6])), (a1, .inl (cy 2, 1, .inr (.inl f0)))] sz)) 0 0 (va_A [(a0, .inr (14, [v0, v1, v2, v3, v4, v5, v6])), (a1, .inl (cy 2, 1, .inr (.inl f0)))] sz) := by
  refine sh_I (by decide) (Nat.le_of_ble_eq_true rfl) ?_
  intro p e s m args below meth c A ls hx hb hr hml hown hlk hnm hsz hP hD hA hE hts hS hl htb
  have hown : s.vm.findClass RL = some m.cls := hown
  have hl : lv_has ls 7 [(0, .ref a0), (1, .int x0), (2, .int x1), (3, .int x2), (4, .int x3), (5, .ref a1)] := hl
  refine lv_aload hx hb dL_claim_0 (lv_at hl 5 rfl) ?_
  refine lv_iconst (v := 0) hx hb dL_claim_2 (by decide) ?_
  refine lv_aload_n hx hb dL_claim_3 rfl (lv_at hl 0 rfl) ?_
  refine lv_iload_n hx hb dL_claim_4 rfl (lv_at hl 1 rfl) ?_
  refine lv_iload_n hx hb dL_claim_5 rfl (lv_at hl 2 rfl) ?_
  refine lv_iload_n hx hb dL_claim_6 rfl (lv_at hl 3 rfl) ?_
  refine lv_iload hx hb dL_claim_7 (lv_at hl 4 rfl) ?_
  refine ca_i (isC := [0]) (isR := [1]) (wr := [(a1, .inl (cy 2, 1, .inr (.inl f0)))]) (rn_V (ci := 14) (q0 := 0) (isC := [0]) (wc := [(a0, .inr (14, [v0, v1, v2, v3, v4, v5, v6]))]) (As := [.int x0, .int x1, .int x2, .int x3]) (rest := [.int 0, .ref a1]) (n := 4) hx hb hml hown hts hE hS hP hD hA hl.1 (k677_X9_claim l D cy g x0 x1 x2 x3 a0 (v0) (v1) (v2) (v3) (v4) (v5) (v6) s.heap.size h0 h1 h2 h3 h4 h5 h6 h7 h8 h9 h10 h11 h12 h13 h14 h15) rfl rfl rfl rfl rfl ax_446 rfl rfl ax_447 ⟨Nat.le_of_ble_eq_true rfl, Nat.le_of_ble_eq_true rfl⟩ rfl rfl (Nat.le_of_ble_eq_true rfl) dL_claim_9 ⟨(Nat.le_of_ble_eq_true rfl), (Nat.le_of_ble_eq_true rfl)⟩) hP hD hS hA rfl rfl rfl (by decide) (fun ad9 H locs hP hD hS => ?_)
  have hP : va_P D vwCl [(a1, .inl (cy 2, 1, .inr (.inl f0))), (a0, .inr (14, [v0, v1, v2, v3, v4, v5, v6]))] H := hP
  have hD : va_D A [(a1, .inl (cy 2, 1, .inr (.inl f0))), (a0, .inr (14, [v0, v1, v2, v3, v4, v5, v6]))] := hD
  refine lv_i2l (v := 45) hx hb dL_claim_12 (by decide) ?_
  refine va_last hx hb hE.1 hP hD hS 0 2 rfl rfl (by unfold vp_in; decide) dL_claim_13 (fun H locs hP hD hS => ?_)
  have hP : va_P D vwCl [(a1, .inl (cy 2, 1, .inr (.inl (vp_updL f0 (0 : Int32).toNatClampNeg 45)))), (a0, .inr (14, [v0, v1, v2, v3, v4, v5, v6]))] H := hP
  have hD : va_D A [(a1, .inl (cy 2, 1, .inr (.inl (vp_updL f0 (0 : Int32).toNatClampNeg 45)))), (a0, .inr (14, [v0, v1, v2, v3, v4, v5, v6]))] := hD
  refine lv_goto (tgt := 21) hx hb dL_claim_14 (by decide) ?_
  refine lv_iconst (v := 0) hx hb dL_claim_21 (by decide) ?_
  exact en_z hx hb hr hlk hP hD hS rfl (fun _ => 0) (is := [0]) rfl rfl (Nat.le_of_ble_eq_true rfl) (Nat.le_of_ble_eq_true rfl) dL_claim_22
set_option maxHeartbeats 4000000 in
set_option maxRecDepth 100000 in
theorem k679_X10_claim (l : Launch) (D : va_G) (cy : Nat → ClassId) (g : Nat → Nat) (x0 : Int32) (x1 : Int32) (x2 : Int32) (x3 : Int32) (a0 : Nat) (v0 : Value) (v1 : Value) (v2 : Value) (v3 : Value) (v4 : Value) (v5 : Value) (v6 : Value) (v7 : Value) (v8 : Value) (v9 : Value) (v10 : Value) (v11 : Value) (v12 : Value) (v13 : Value) (v14 : Value) (v15 : Value) (v16 : Value) (v17 : Value) (v18 : Value) (v19 : Value) (v20 : Value) (v21 : Value) (v22 : Value) (v23 : Value) (v24 : Value) (v25 : Value) (v26 : Value) (v27 : Value) (sz : Nat) (h0 : ¬ x3 < 0) (h1 : ¬ (200000 : Int32) < x3) (h2 : ¬ x0 < 1) (h3 : ¬ (100000 : Int32) < x0) (h4 : ¬ x1 < 50) (h5 : ¬ (2000 : Int32) < x1) (h6 : ¬ x2 < 50) (h7 : ¬ (2000 : Int32) < x2) (h8 : x2 < x1) (h9 : ¬ x0 < x3) (h10 : ¬ x1 = 0) (h11 : ¬ x2 = 0) (h12 : ¬ (x0 - x3) < 0) (h13 : ¬ (100000 : Int32) < (x0 - x3)) (h14 : ¬ (((1000 * (x0 - x3)) / x2) - (dU (1000 * x0) x1)) < 0) : Met l yX10_claim [.code yX10_claim cX10_claim 5 (some .char)] ({ frames := 2, cells := 0, slots := 0, locals := 48 }) (PC D cy g [(a0, .inr (15, [v0, v1, v2, v3, v4, v5, v6, v7, v8, v9, v10, v11, v12, v13, v14, v15, v16, v17, v18, v19, v20, v21, v22, v23, v24, v25, v26, v27]))] sz [.ref a0, .int x0, .int x1, .int x2, .int x3]) (QI D 45 (fun ad => [(a0, .inr (15, [.int 0, v1, v2, v3, v4, v5, v6, v7, v8, v9, v10, v11, v12, v13, v14, v15, v16, v17, v18, v19, v20, v21, v22, v23, v24, v25, v26, v27]))]) (va_A [(a0, .inr (15, [v0, v1, v2, v3, v4, v5, v6, v7, v8, v9, v10, v11, v12, v13, v14, v15, v16, v17, v18, v19, v20, v21, v22, v23, v24, v25, v26, v27]))] sz)) 0 0 (va_A [(a0, .inr (15, [v0, v1, v2, v3, v4, v5, v6, v7, v8, v9, v10, v11, v12, v13, v14, v15, v16, v17, v18, v19, v20, v21, v22, v23, v24, v25, v26, v27]))] sz) := by
  refine st_I (by decide) (Nat.le_of_ble_eq_true rfl) ?_
  intro p e s m args below meth c A ls hx hb hr hml hown hlk hnm hsz hP hD hA hE hts hS hl
  have hown : s.vm.findClass RX10 = some m.cls := hown
  have hl : lv_has ls 5 [(0, .ref a0), (1, .int x0), (2, .int x1), (3, .int x2), (4, .int x3)] := hl
  refine lv_aload_n hx hb dX10_claim_0 rfl (lv_at hl 0 rfl) ?_
  refine ca_v (isC := [0]) (isR := []) (wr := []) (rn_V (ci := 15) (q0 := 0) (isC := [0]) (wc := [(a0, .inr (15, [v0, v1, v2, v3, v4, v5, v6, v7, v8, v9, v10, v11, v12, v13, v14, v15, v16, v17, v18, v19, v20, v21, v22, v23, v24, v25, v26, v27]))]) (As := []) (rest := []) (n := 0) hx hb hml hown hts hE hS hP hD hA hl.1 (k20_X10_begins l D cy g a0 (v0) (v1) (v2) (v3) (v4) (v5) (v6) (v7) (v8) (v9) (v10) (v11) (v12) (v13) (v14) (v15) (v16) (v17) (v18) (v19) (v20) (v21) (v22) (v23) (v24) (v25) (v26) (v27) s.heap.size ) rfl rfl rfl rfl rfl ax_37 rfl rfl ax_38 ⟨Nat.le_of_ble_eq_true rfl, Nat.le_of_ble_eq_true rfl⟩ rfl rfl (Nat.le_of_ble_eq_true rfl) dX10_claim_1 ⟨(Nat.le_of_ble_eq_true rfl), (Nat.le_of_ble_eq_true rfl)⟩) hP hD hS hA rfl rfl rfl (by decide) (fun ad1 H locs hP hD hS => ?_)
  have hP : va_P D vwCl [(a0, .inr (15, [.int 0, v1, v2, v3, v4, v5, v6, v7, v8, v9, v10, v11, v12, v13, v14, v15, v16, v17, v18, v19, v20, v21, v22, v23, v24, v25, v26, v27]))] H := hP
  have hD : va_D A [(a0, .inr (15, [.int 0, v1, v2, v3, v4, v5, v6, v7, v8, v9, v10, v11, v12, v13, v14, v15, v16, v17, v18, v19, v20, v21, v22, v23, v24, v25, v26, v27]))] := hD
  refine lv_aload_n hx hb dX10_claim_4 rfl (lv_at hl 0 rfl) ?_
  refine lv_iload hx hb dX10_claim_5 (lv_at hl 4 rfl) ?_
  refine lv_i2l (v := x3.toInt64) hx hb dX10_claim_7 rfl ?_
  refine lv_lconst (v := 0) hx hb dX10_claim_8 (by decide) ?_
  refine lv_ldc2 (v := 200000) hx hb hown (hts _ tw_1193) dX10_claim_9 ?_
  refine ca_i (isC := []) (isR := [0]) (wr := [(a0, .inr (15, [.int 0, v1, v2, v3, v4, v5, v6, v7, v8, v9, v10, v11, v12, v13, v14, v15, v16, v17, v18, v19, v20, v21, v22, v23, v24, v25, v26, v27]))]) (rn_S (isC := []) (wc := []) (As := [.long x3.toInt64, .long 0, .long 200000]) (rest := [.ref a0]) (n := 3) hx hb hml hown hts hE hS hP hD hA hl.1 (k33_X10_in l D cy g x3.toInt64 0 200000 H.size (wl_nlt rfl (by decide) h0) (wl_nlt (by decide) rfl h1)) rfl rfl ax_39 rfl rfl ax_40 ⟨Nat.le_of_ble_eq_true rfl, Nat.le_of_ble_eq_true rfl⟩ rfl rfl (Nat.le_of_ble_eq_true rfl) dX10_claim_12 ⟨(Nat.le_of_ble_eq_true rfl), (Nat.le_of_ble_eq_true rfl)⟩) hP hD hS hA rfl rfl rfl (by decide) (fun ad12 H locs hP hD hS => ?_)
  have hP : va_P D vwCl [(a0, .inr (15, [.int 0, v1, v2, v3, v4, v5, v6, v7, v8, v9, v10, v11, v12, v13, v14, v15, v16, v17, v18, v19, v20, v21, v22, v23, v24, v25, v26, v27]))] H := hP
  have hD : va_D A [(a0, .inr (15, [.int 0, v1, v2, v3, v4, v5, v6, v7, v8, v9, v10, v11, v12, v13, v14, v15, v16, v17, v18, v19, v20, v21, v22, v23, v24, v25, v26, v27]))] := hD
  refine lv_if_ne (tgt := 22) hx hb dX10_claim_15 (by decide) (fun _ => ?_) (fun z => absurd z (by decide))
  refine lv_iconst (v := 0) hx hb dX10_claim_22 (by decide) ?_
  refine lv_iconst (v := 1) hx hb dX10_claim_23 (by decide) ?_
  refine ca_i (isC := [0]) (isR := []) (wr := []) (rn_V (ci := 15) (q0 := 0) (isC := [0]) (wc := [(a0, .inr (15, [.int 0, v1, v2, v3, v4, v5, v6, v7, v8, v9, v10, v11, v12, v13, v14, v15, v16, v17, v18, v19, v20, v21, v22, v23, v24, v25, v26, v27]))]) (As := [.int 0, .int 1]) (rest := []) (n := 2) hx hb hml hown hts hE hS hP hD hA hl.1 (k43_X10_fails l D cy g a0 (v1) (v2) (v3) (v4) (v5) (v6) (v7) (v8) (v9) (v10) (v11) (v12) (v13) (v14) (v15) (v16) (v17) (v18) (v19) (v20) (v21) (v22) (v23) (v24) (v25) (v26) (v27) H.size ) rfl rfl rfl rfl rfl ax_41 rfl rfl ax_42 ⟨Nat.le_of_ble_eq_true rfl, Nat.le_of_ble_eq_true rfl⟩ rfl rfl (Nat.le_of_ble_eq_true rfl) dX10_claim_24 ⟨(Nat.le_of_ble_eq_true rfl), (Nat.le_of_ble_eq_true rfl)⟩) hP hD hS hA rfl rfl rfl (by decide) (fun ad24 H locs hP hD hS => ?_)
  have hP : va_P D vwCl [(a0, .inr (15, [.int 0, v1, v2, v3, v4, v5, v6, v7, v8, v9, v10, v11, v12, v13, v14, v15, v16, v17, v18, v19, v20, v21, v22, v23, v24, v25, v26, v27]))] H := hP
  have hD : va_D A [(a0, .inr (15, [.int 0, v1, v2, v3, v4, v5, v6, v7, v8, v9, v10, v11, v12, v13, v14, v15, v16, v17, v18, v19, v20, v21, v22, v23, v24, v25, v26, v27]))] := hD
  refine lv_if_ne (tgt := 40) hx hb dX10_claim_27 (by decide) (fun z => absurd (by decide) z) (fun _ => ?_)
  refine lv_aload_n hx hb dX10_claim_30 rfl (lv_at hl 0 rfl) ?_
  refine lv_iload_n hx hb dX10_claim_31 rfl (lv_at hl 1 rfl) ?_
  refine lv_iload_n hx hb dX10_claim_32 rfl (lv_at hl 2 rfl) ?_
  refine lv_iload_n hx hb dX10_claim_33 rfl (lv_at hl 3 rfl) ?_
  refine ca_i (isC := [0]) (isR := []) (wr := []) (rn_V (ci := 15) (q0 := 0) (isC := [0]) (wc := [(a0, .inr (15, [.int 0, v1, v2, v3, v4, v5, v6, v7, v8, v9, v10, v11, v12, v13, v14, v15, v16, v17, v18, v19, v20, v21, v22, v23, v24, v25, v26, v27]))]) (As := [.int x0, .int x1, .int x2]) (rest := []) (n := 3) hx hb hml hown hts hE hS hP hD hA hl.1 (k668_X10_noClaim l D cy g x0 x1 x2 a0 (v1) (v2) (v3) (v4) (v5) (v6) (v7) (v8) (v9) (v10) (v11) (v12) (v13) (v14) (v15) (v16) (v17) (v18) (v19) (v20) (v21) (v22) (v23) (v24) (v25) (v26) (v27) H.size h2 h3 h4 h5 h6 h7 h8) rfl rfl rfl rfl rfl ax_452 rfl rfl ax_453 ⟨Nat.le_of_ble_eq_true rfl, Nat.le_of_ble_eq_true rfl⟩ rfl rfl (Nat.le_of_ble_eq_true rfl) dX10_claim_34 ⟨(Nat.le_of_ble_eq_true rfl), (Nat.le_of_ble_eq_true rfl)⟩) hP hD hS hA rfl rfl rfl (by decide) (fun ad34 H locs hP hD hS => ?_)
  have hP : va_P D vwCl [(a0, .inr (15, [.int 0, v1, v2, v3, v4, v5, v6, v7, v8, v9, v10, v11, v12, v13, v14, v15, v16, v17, v18, v19, v20, v21, v22, v23, v24, v25, v26, v27]))] H := hP
  have hD : va_D A [(a0, .inr (15, [.int 0, v1, v2, v3, v4, v5, v6, v7, v8, v9, v10, v11, v12, v13, v14, v15, v16, v17, v18, v19, v20, v21, v22, v23, v24, v25, v26, v27]))] := hD
  refine lv_if_eq (tgt := 43) hx hb dX10_claim_37 (by decide) (fun _ => ?_) (fun z => absurd (by decide) z)
  refine lv_iload hx hb dX10_claim_43 (lv_at hl 4 rfl) ?_
  refine lv_iload_n hx hb dX10_claim_45 rfl (lv_at hl 1 rfl) ?_
  refine lv_icmp_le (tgt := 54) hx hb dX10_claim_46 (by decide) (fun _ => ?_) (fun z => absurd (fa_of_nlt h9) z)
  refine lv_iload_n hx hb dX10_claim_54 rfl (lv_at hl 1 rfl) ?_
  refine lv_iload hx hb dX10_claim_55 (lv_at hl 4 rfl) ?_
  refine lv_isub hx hb dX10_claim_57 ?_
  refine lv_iload_n hx hb dX10_claim_58 rfl (lv_at hl 3 rfl) ?_
  refine lv_iload_n hx hb dX10_claim_59 rfl (lv_at hl 1 rfl) ?_
  refine lv_iload_n hx hb dX10_claim_60 rfl (lv_at hl 2 rfl) ?_
  refine ca_i (isC := []) (isR := [0]) (wr := [(a0, .inr (15, [.int 0, v1, v2, v3, v4, v5, v6, v7, v8, v9, v10, v11, v12, v13, v14, v15, v16, v17, v18, v19, v20, v21, v22, v23, v24, v25, v26, v27]))]) (rn_S (isC := []) (wc := []) (As := [.int (x0 - x3), .int x2, .int x0, .int x1]) (rest := []) (n := 4) hx hb hml hown hts hE hS hP hD hA hl.1 (k675_X10_disorder l D cy g (x0 - x3) x2 x0 x1 H.size h10 h11 h12 h13 h6 h7 h2 h3 h4 h5) rfl rfl ax_460 rfl rfl ax_461 ⟨Nat.le_of_ble_eq_true rfl, Nat.le_of_ble_eq_true rfl⟩ rfl rfl (Nat.le_of_ble_eq_true rfl) dX10_claim_61 ⟨(Nat.le_of_ble_eq_true rfl), (Nat.le_of_ble_eq_true rfl)⟩) hP hD hS hA rfl rfl rfl (by decide) (fun ad61 H locs hP hD hS => ?_)
  have hP : va_P D vwCl [(a0, .inr (15, [.int 0, v1, v2, v3, v4, v5, v6, v7, v8, v9, v10, v11, v12, v13, v14, v15, v16, v17, v18, v19, v20, v21, v22, v23, v24, v25, v26, v27]))] H := hP
  have hD : va_D A [(a0, .inr (15, [.int 0, v1, v2, v3, v4, v5, v6, v7, v8, v9, v10, v11, v12, v13, v14, v15, v16, v17, v18, v19, v20, v21, v22, v23, v24, v25, v26, v27]))] := hD
  refine lv_if_ge (tgt := 72) hx hb dX10_claim_64 (by decide) (fun _ => ?_) (fun z => absurd (fa_of_nlt h14) z)
  refine lv_bipush (v := 45) hx hb dX10_claim_72 (by decide) ?_
  exact en_z hx hb hr hlk hP hD hS rfl (fun _ => 0) (is := [0]) rfl rfl (Nat.le_of_ble_eq_true rfl) (Nat.le_of_ble_eq_true rfl) dX10_claim_74
set_option maxHeartbeats 4000000 in
set_option maxRecDepth 100000 in
theorem k680_X9_requireClaim (l : Launch) (hst : l.stackTraces = false) (D : va_G) (cy : Nat → ClassId) (g : Nat → Nat) (x0 : Int32) (x1 : Int32) (x2 : Int32) (b0 : Nat) (sz : Nat) (h0 : ¬ x0 < 1) (h1 : ¬ (100000 : Int32) < x0) (h2 : ¬ x1 < 50) (h3 : ¬ (2000 : Int32) < x1) (h4 : ¬ x2 < 50) (h5 : ¬ (2000 : Int32) < x2) (h6 : ¬ x2 < x1) : vx_Met l yX9_requireClaim [.code yX9_requireClaim cX9_requireClaim 4 none] ({ frames := 6, cells := 1, slots := 6, locals := 82 }) (PC D cy g [] sz [.ref b0, .int x0, .int x1, .int x2]) QN (XE "java/lang/IllegalArgumentException" (va_A [] sz)) 1 6 (va_A [] sz) := by
  refine st_X (by decide) (Nat.le_of_ble_eq_true rfl) ?_
  intro p e s m args below meth c A ls hx hb hr hml hown hlk hnm hsz hP hD hA hE hts hS hl hout
  have hown : s.vm.findClass RX9 = some m.cls := hown
  have hl : lv_has ls 4 [(0, .ref b0), (1, .int x0), (2, .int x1), (3, .int x2)] := hl
  refine lv_iload_n hx hb dX9_requireClaim_0 rfl (lv_at hl 1 rfl) ?_
  refine lv_iconst (v := 1) hx hb dX9_requireClaim_1 (by decide) ?_
  refine lv_ldc (v := 100000) hx hb hown (hts _ tw_1181) dX9_requireClaim_2 ?_
  refine ca_i (isC := []) (isR := []) (wr := []) (rn_S (isC := []) (wc := []) (As := [.int x0, .int 1, .int 100000]) (rest := []) (n := 3) hx hb hml hown hts hE hS hP hD hA hl.1 (k30_X9_isOutside l D cy g x0 1 100000 s.heap.size h0 h1) rfl rfl ax_30 rfl rfl ax_31 ⟨Nat.le_of_ble_eq_true rfl, Nat.le_of_ble_eq_true rfl⟩ rfl rfl (Nat.le_of_ble_eq_true rfl) dX9_requireClaim_4 ⟨(Nat.le_of_ble_eq_true rfl), (Nat.le_of_ble_eq_true rfl)⟩) hP hD hS hA rfl rfl rfl (by decide) (fun ad4 H locs hP hD hS => ?_)
  have hP : va_P D vwCl [] H := hP
  have hD : va_D A [] := hD
  refine lv_if_ne (tgt := 39) hx hb dX9_requireClaim_7 (by decide) (fun z => absurd (by decide) z) (fun _ => ?_)
  refine lv_iload_n hx hb dX9_requireClaim_10 rfl (lv_at hl 2 rfl) ?_
  refine lv_bipush (v := 50) hx hb dX9_requireClaim_11 (by decide) ?_
  refine lv_sipush (v := 2000) hx hb dX9_requireClaim_13 (by decide) ?_
  refine ca_i (isC := []) (isR := []) (wr := []) (rn_S (isC := []) (wc := []) (As := [.int x1, .int 50, .int 2000]) (rest := []) (n := 3) hx hb hml hown hts hE hS hP hD hA hl.1 (k30_X9_isOutside l D cy g x1 50 2000 H.size h2 h3) rfl rfl ax_30 rfl rfl ax_31 ⟨Nat.le_of_ble_eq_true rfl, Nat.le_of_ble_eq_true rfl⟩ rfl rfl (Nat.le_of_ble_eq_true rfl) dX9_requireClaim_16 ⟨(Nat.le_of_ble_eq_true rfl), (Nat.le_of_ble_eq_true rfl)⟩) hP hD hS hA rfl rfl rfl (by decide) (fun ad16 H locs hP hD hS => ?_)
  have hP : va_P D vwCl [] H := hP
  have hD : va_D A [] := hD
  refine lv_if_ne (tgt := 39) hx hb dX9_requireClaim_19 (by decide) (fun z => absurd (by decide) z) (fun _ => ?_)
  refine lv_iload_n hx hb dX9_requireClaim_22 rfl (lv_at hl 3 rfl) ?_
  refine lv_bipush (v := 50) hx hb dX9_requireClaim_23 (by decide) ?_
  refine lv_sipush (v := 2000) hx hb dX9_requireClaim_25 (by decide) ?_
  refine ca_i (isC := []) (isR := []) (wr := []) (rn_S (isC := []) (wc := []) (As := [.int x2, .int 50, .int 2000]) (rest := []) (n := 3) hx hb hml hown hts hE hS hP hD hA hl.1 (k30_X9_isOutside l D cy g x2 50 2000 H.size h4 h5) rfl rfl ax_30 rfl rfl ax_31 ⟨Nat.le_of_ble_eq_true rfl, Nat.le_of_ble_eq_true rfl⟩ rfl rfl (Nat.le_of_ble_eq_true rfl) dX9_requireClaim_28 ⟨(Nat.le_of_ble_eq_true rfl), (Nat.le_of_ble_eq_true rfl)⟩) hP hD hS hA rfl rfl rfl (by decide) (fun ad28 H locs hP hD hS => ?_)
  have hP : va_P D vwCl [] H := hP
  have hD : va_D A [] := hD
  refine lv_if_ne (tgt := 39) hx hb dX9_requireClaim_31 (by decide) (fun z => absurd (by decide) z) (fun _ => ?_)
  refine lv_iload_n hx hb dX9_requireClaim_34 rfl (lv_at hl 3 rfl) ?_
  refine lv_iload_n hx hb dX9_requireClaim_35 rfl (lv_at hl 2 rfl) ?_
  refine lv_icmp_lt (tgt := 49) hx hb dX9_requireClaim_36 (by decide) (fun z => absurd z h6) (fun _ => ?_)
  exact th_S (text := "a number is out of range") hx hb hst hown hts hE hS (hl.1.trans hml.symm) hout hlk (by decide +kernel) tw_296 tw_297 ax_32 (by decide +kernel) dX9_requireClaim_39 dX9_requireClaim_42 dX9_requireClaim_43 dX9_requireClaim_45 dX9_requireClaim_48 ⟨Nat.le_of_ble_eq_true rfl, Nat.le_of_ble_eq_true rfl, Nat.le_of_ble_eq_true rfl, Nat.le_of_ble_eq_true rfl⟩ (Nat.le_of_ble_eq_true rfl) (Nat.le_of_ble_eq_true rfl)
set_option maxHeartbeats 4000000 in
set_option maxRecDepth 100000 in
theorem k681_X9_claim (l : Launch) (hst : l.stackTraces = false) (D : va_G) (cy : Nat → ClassId) (g : Nat → Nat) (x0 : Int32) (x1 : Int32) (x2 : Int32) (x3 : Int32) (a0 : Nat) (v0 : Value) (v1 : Value) (v2 : Value) (v3 : Value) (v4 : Value) (v5 : Value) (v6 : Value) (sz : Nat) (h0 : ¬ x0 < 1) (h1 : ¬ (100000 : Int32) < x0) (h2 : ¬ x1 < 50) (h3 : ¬ (2000 : Int32) < x1) (h4 : ¬ x2 < 50) (h5 : ¬ (2000 : Int32) < x2) (h6 : ¬ x2 < x1) : vx_Met l yX9_claim [.code yX9_claim cX9_claim 5 (some .char)] ({ frames := 7, cells := 1, slots := 6, locals := 105 }) (PC D cy g [(a0, .inr (14, [v0, v1, v2, v3, v4, v5, v6]))] sz [.ref a0, .int x0, .int x1, .int x2, .int x3]) QN (XE "java/lang/IllegalArgumentException" (va_A [(a0, .inr (14, [v0, v1, v2, v3, v4, v5, v6]))] sz)) 1 6 (va_A [(a0, .inr (14, [v0, v1, v2, v3, v4, v5, v6]))] sz) := by
  refine st_X (by decide) (Nat.le_of_ble_eq_true rfl) ?_
  intro p e s m args below meth c A ls hx hb hr hml hown hlk hnm hsz hP hD hA hE hts hS hl hout
  have hown : s.vm.findClass RX9 = some m.cls := hown
  have hl : lv_has ls 5 [(0, .ref a0), (1, .int x0), (2, .int x1), (3, .int x2), (4, .int x3)] := hl
  refine lv_aload_n hx hb dX9_claim_0 rfl (lv_at hl 0 rfl) ?_
  refine lv_iload_n hx hb dX9_claim_1 rfl (lv_at hl 1 rfl) ?_
  refine lv_iload_n hx hb dX9_claim_2 rfl (lv_at hl 2 rfl) ?_
  refine lv_iload_n hx hb dX9_claim_3 rfl (lv_at hl 3 rfl) ?_
  exact cx_out (isC := []) (rx_V (ci := 14) (q0 := 0) (isC := []) (wc := []) (As := [.int x0, .int x1, .int x2]) (rest := []) (n := 3) hx hb hml hown hts hE hS hP hD hA hl.1 (k680_X9_requireClaim l hst D cy g x0 x1 x2 a0 s.heap.size h0 h1 h2 h3 h4 h5 h6) rfl rfl rfl rfl rfl ax_444 rfl rfl ax_445 ⟨Nat.le_of_ble_eq_true rfl, Nat.le_of_ble_eq_true rfl⟩ rfl rfl (Nat.le_of_ble_eq_true rfl) dX9_claim_4 ⟨(Nat.le_of_ble_eq_true rfl), (Nat.le_of_ble_eq_true rfl)⟩) hD hS hA rfl hout hlk (Nat.le_of_ble_eq_true rfl) (Nat.le_of_ble_eq_true rfl)
set_option maxHeartbeats 4000000 in
set_option maxRecDepth 100000 in
theorem k682_L_claim (l : Launch) (hst : l.stackTraces = false) (D : va_G) (cy : Nat → ClassId) (g : Nat → Nat) (x0 : Int32) (x1 : Int32) (x2 : Int32) (x3 : Int32) (a0 : Nat) (b0 : Nat) (v0 : Value) (v1 : Value) (v2 : Value) (v3 : Value) (v4 : Value) (v5 : Value) (v6 : Value) (sz : Nat) (h0 : ¬ x0 < 1) (h1 : ¬ (100000 : Int32) < x0) (h2 : ¬ x1 < 50) (h3 : ¬ (2000 : Int32) < x1) (h4 : ¬ x2 < 50) (h5 : ¬ (2000 : Int32) < x2) (h6 : ¬ x2 < x1) : Met l yL_claim [.codeWith yL_claim cL_claim 7 (some .int) [(0, 14, 17, 13)]] ({ frames := 8, cells := 1, slots := 6, locals := 129 }) (PC D cy g [(a0, .inr (14, [v0, v1, v2, v3, v4, v5, v6]))] sz [.ref a0, .int x0, .int x1, .int x2, .int x3, .ref b0]) (QI D 1 (fun ad => []) (va_A [(a0, .inr (14, [v0, v1, v2, v3, v4, v5, v6]))] sz)) 1 6 (va_A [(a0, .inr (14, [v0, v1, v2, v3, v4, v5, v6]))] sz) := by
  refine sh_I (by decide) (Nat.le_of_ble_eq_true rfl) ?_
  intro p e s m args below meth c A ls hx hb hr hml hown hlk hnm hsz hP hD hA hE hts hS hl htb
  have hown : s.vm.findClass RL = some m.cls := hown
  have hl : lv_has ls 7 [(0, .ref a0), (1, .int x0), (2, .int x1), (3, .int x2), (4, .int x3), (5, .ref b0)] := hl
  refine lv_aload hx hb dL_claim_0 (lv_at hl 5 rfl) ?_
  refine lv_iconst (v := 0) hx hb dL_claim_2 (by decide) ?_
  refine lv_aload_n hx hb dL_claim_3 rfl (lv_at hl 0 rfl) ?_
  refine lv_iload_n hx hb dL_claim_4 rfl (lv_at hl 1 rfl) ?_
  refine lv_iload_n hx hb dL_claim_5 rfl (lv_at hl 2 rfl) ?_
  refine lv_iload_n hx hb dL_claim_6 rfl (lv_at hl 3 rfl) ?_
  refine lv_iload hx hb dL_claim_7 (lv_at hl 4 rfl) ?_
  refine cx_catch (isC := [0]) (isR := []) (wr := []) (hp := []) (z := (0, 14, 17, 13)) (hq := []) (name := "java/lang/IllegalArgumentException") (own := RL) (rx_V (ci := 14) (q0 := 0) (isC := [0]) (wc := [(a0, .inr (14, [v0, v1, v2, v3, v4, v5, v6]))]) (As := [.int x0, .int x1, .int x2, .int x3]) (rest := [.int 0, .ref b0]) (n := 4) hx hb hml hown hts hE hS hP hD hA hl.1 (k681_X9_claim l hst D cy g x0 x1 x2 x3 a0 (v0) (v1) (v2) (v3) (v4) (v5) (v6) s.heap.size h0 h1 h2 h3 h4 h5 h6) rfl rfl rfl rfl rfl ax_446 rfl rfl ax_447 ⟨Nat.le_of_ble_eq_true rfl, Nat.le_of_ble_eq_true rfl⟩ rfl rfl (Nat.le_of_ble_eq_true rfl) dL_claim_9 ⟨(Nat.le_of_ble_eq_true rfl), (Nat.le_of_ble_eq_true rfl)⟩) hP hD hS hA hown hts hE htb rfl rfl rfl rfl (by decide) (fun z hz => by cases hz) (by decide) (by decide) tw_302 tw_303 (fun qx H locs hP hD hS => ?_)
  have hP : va_P D vwCl [] H := hP
  have hD : va_D A [] := hD
  refine lv_astore (lv' := [(6, .ref qx), (0, .ref a0), (1, .int x0), (2, .int x1), (3, .int x2), (4, .int x3), (5, .ref b0)]) hx hb dL_claim_17 hl (Nat.le_of_ble_eq_true rfl) rfl (fun ls hl => ?_)
  refine lv_iconst (v := 1) hx hb dL_claim_19 (by decide) ?_
  exact en_z hx hb hr hlk hP hD hS rfl (fun _ => 0) (is := []) rfl rfl (Nat.le_of_ble_eq_true rfl) (Nat.le_of_ble_eq_true rfl) dL_claim_20
set_option maxHeartbeats 4000000 in
set_option maxRecDepth 100000 in
theorem k683_X10_noClaim (l : Launch) (D : va_G) (cy : Nat → ClassId) (g : Nat → Nat) (x0 : Int32) (x1 : Int32) (x2 : Int32) (a0 : Nat) (v0 : Value) (v1 : Value) (v2 : Value) (v3 : Value) (v4 : Value) (v5 : Value) (v6 : Value) (v7 : Value) (v8 : Value) (v9 : Value) (v10 : Value) (v11 : Value) (v12 : Value) (v13 : Value) (v14 : Value) (v15 : Value) (v16 : Value) (v17 : Value) (v18 : Value) (v19 : Value) (v20 : Value) (v21 : Value) (v22 : Value) (v23 : Value) (v24 : Value) (v25 : Value) (v26 : Value) (sz : Nat) (h0 : ¬ x0 < 1) (h1 : ¬ (100000 : Int32) < x0) (h2 : ¬ x1 < 50) (h3 : ¬ (2000 : Int32) < x1) (h4 : ¬ x2 < 50) (h5 : ¬ (2000 : Int32) < x2) (h6 : ¬ x2 < x1) : Met l yX10_noClaim [.code yX10_noClaim cX10_noClaim 4 (some .boolean)] ({ frames := 1, cells := 0, slots := 0, locals := 25 }) (PC D cy g [(a0, .inr (15, [.int 0, v0, v1, v2, v3, v4, v5, v6, v7, v8, v9, v10, v11, v12, v13, v14, v15, v16, v17, v18, v19, v20, v21, v22, v23, v24, v25, v26]))] sz [.ref a0, .int x0, .int x1, .int x2]) (QI D 1 (fun ad => [(a0, .inr (15, [.int 1, v0, v1, v2, v3, v4, v5, v6, v7, v8, v9, v10, v11, v12, v13, v14, v15, v16, v17, v18, v19, v20, v21, v22, v23, v24, v25, v26]))]) (va_A [(a0, .inr (15, [.int 0, v0, v1, v2, v3, v4, v5, v6, v7, v8, v9, v10, v11, v12, v13, v14, v15, v16, v17, v18, v19, v20, v21, v22, v23, v24, v25, v26]))] sz)) 0 0 (va_A [(a0, .inr (15, [.int 0, v0, v1, v2, v3, v4, v5, v6, v7, v8, v9, v10, v11, v12, v13, v14, v15, v16, v17, v18, v19, v20, v21, v22, v23, v24, v25, v26]))] sz) := by
  refine st_I (by decide) (Nat.le_of_ble_eq_true rfl) ?_
  intro p e s m args below meth c A ls hx hb hr hml hown hlk hnm hsz hP hD hA hE hts hS hl
  have hown : s.vm.findClass RX10 = some m.cls := hown
  have hl : lv_has ls 4 [(0, .ref a0), (1, .int x0), (2, .int x1), (3, .int x2)] := hl
  refine lv_aload_n hx hb dX10_noClaim_0 rfl (lv_at hl 0 rfl) ?_
  refine lv_iload_n hx hb dX10_noClaim_1 rfl (lv_at hl 1 rfl) ?_
  refine lv_i2l (v := x0.toInt64) hx hb dX10_noClaim_2 rfl ?_
  refine lv_lconst (v := 1) hx hb dX10_noClaim_3 (by decide) ?_
  refine lv_ldc2 (v := 100000) hx hb hown (hts _ tw_1198) dX10_noClaim_4 ?_
  refine ca_i (isC := []) (isR := [0]) (wr := [(a0, .inr (15, [.int 0, v0, v1, v2, v3, v4, v5, v6, v7, v8, v9, v10, v11, v12, v13, v14, v15, v16, v17, v18, v19, v20, v21, v22, v23, v24, v25, v26]))]) (rn_S (isC := []) (wc := []) (As := [.long x0.toInt64, .long 1, .long 100000]) (rest := [.ref a0]) (n := 3) hx hb hml hown hts hE hS hP hD hA hl.1 (k33_X10_in l D cy g x0.toInt64 1 100000 s.heap.size (wl_nlt rfl (by decide) h0) (wl_nlt (by decide) rfl h1)) rfl rfl ax_39 rfl rfl ax_40 ⟨Nat.le_of_ble_eq_true rfl, Nat.le_of_ble_eq_true rfl⟩ rfl rfl (Nat.le_of_ble_eq_true rfl) dX10_noClaim_7 ⟨(Nat.le_of_ble_eq_true rfl), (Nat.le_of_ble_eq_true rfl)⟩) hP hD hS hA rfl rfl rfl (by decide) (fun ad7 H locs hP hD hS => ?_)
  have hP : va_P D vwCl [(a0, .inr (15, [.int 0, v0, v1, v2, v3, v4, v5, v6, v7, v8, v9, v10, v11, v12, v13, v14, v15, v16, v17, v18, v19, v20, v21, v22, v23, v24, v25, v26]))] H := hP
  have hD : va_D A [(a0, .inr (15, [.int 0, v0, v1, v2, v3, v4, v5, v6, v7, v8, v9, v10, v11, v12, v13, v14, v15, v16, v17, v18, v19, v20, v21, v22, v23, v24, v25, v26]))] := hD
  refine lv_if_eq (tgt := 46) hx hb dX10_noClaim_10 (by decide) (fun z => absurd z (by decide)) (fun _ => ?_)
  refine lv_iload_n hx hb dX10_noClaim_13 rfl (lv_at hl 2 rfl) ?_
  refine lv_i2l (v := x1.toInt64) hx hb dX10_noClaim_14 rfl ?_
  refine lv_ldc2 (v := 50) hx hb hown (hts _ tw_314) dX10_noClaim_15 ?_
  refine lv_ldc2 (v := 2000) hx hb hown (hts _ tw_315) dX10_noClaim_18 ?_
  refine ca_i (isC := []) (isR := [0]) (wr := [(a0, .inr (15, [.int 0, v0, v1, v2, v3, v4, v5, v6, v7, v8, v9, v10, v11, v12, v13, v14, v15, v16, v17, v18, v19, v20, v21, v22, v23, v24, v25, v26]))]) (rn_S (isC := []) (wc := []) (As := [.long x1.toInt64, .long 50, .long 2000]) (rest := [.ref a0]) (n := 3) hx hb hml hown hts hE hS hP hD hA hl.1 (k33_X10_in l D cy g x1.toInt64 50 2000 H.size (wl_nlt rfl (by decide) h2) (wl_nlt (by decide) rfl h3)) rfl rfl ax_39 rfl rfl ax_40 ⟨Nat.le_of_ble_eq_true rfl, Nat.le_of_ble_eq_true rfl⟩ rfl rfl (Nat.le_of_ble_eq_true rfl) dX10_noClaim_21 ⟨(Nat.le_of_ble_eq_true rfl), (Nat.le_of_ble_eq_true rfl)⟩) hP hD hS hA rfl rfl rfl (by decide) (fun ad21 H locs hP hD hS => ?_)
  have hP : va_P D vwCl [(a0, .inr (15, [.int 0, v0, v1, v2, v3, v4, v5, v6, v7, v8, v9, v10, v11, v12, v13, v14, v15, v16, v17, v18, v19, v20, v21, v22, v23, v24, v25, v26]))] H := hP
  have hD : va_D A [(a0, .inr (15, [.int 0, v0, v1, v2, v3, v4, v5, v6, v7, v8, v9, v10, v11, v12, v13, v14, v15, v16, v17, v18, v19, v20, v21, v22, v23, v24, v25, v26]))] := hD
  refine lv_if_eq (tgt := 46) hx hb dX10_noClaim_24 (by decide) (fun z => absurd z (by decide)) (fun _ => ?_)
  refine lv_iload_n hx hb dX10_noClaim_27 rfl (lv_at hl 3 rfl) ?_
  refine lv_i2l (v := x2.toInt64) hx hb dX10_noClaim_28 rfl ?_
  refine lv_ldc2 (v := 50) hx hb hown (hts _ tw_314) dX10_noClaim_29 ?_
  refine lv_ldc2 (v := 2000) hx hb hown (hts _ tw_315) dX10_noClaim_32 ?_
  refine ca_i (isC := []) (isR := [0]) (wr := [(a0, .inr (15, [.int 0, v0, v1, v2, v3, v4, v5, v6, v7, v8, v9, v10, v11, v12, v13, v14, v15, v16, v17, v18, v19, v20, v21, v22, v23, v24, v25, v26]))]) (rn_S (isC := []) (wc := []) (As := [.long x2.toInt64, .long 50, .long 2000]) (rest := [.ref a0]) (n := 3) hx hb hml hown hts hE hS hP hD hA hl.1 (k33_X10_in l D cy g x2.toInt64 50 2000 H.size (wl_nlt rfl (by decide) h4) (wl_nlt (by decide) rfl h5)) rfl rfl ax_39 rfl rfl ax_40 ⟨Nat.le_of_ble_eq_true rfl, Nat.le_of_ble_eq_true rfl⟩ rfl rfl (Nat.le_of_ble_eq_true rfl) dX10_noClaim_35 ⟨(Nat.le_of_ble_eq_true rfl), (Nat.le_of_ble_eq_true rfl)⟩) hP hD hS hA rfl rfl rfl (by decide) (fun ad35 H locs hP hD hS => ?_)
  have hP : va_P D vwCl [(a0, .inr (15, [.int 0, v0, v1, v2, v3, v4, v5, v6, v7, v8, v9, v10, v11, v12, v13, v14, v15, v16, v17, v18, v19, v20, v21, v22, v23, v24, v25, v26]))] H := hP
  have hD : va_D A [(a0, .inr (15, [.int 0, v0, v1, v2, v3, v4, v5, v6, v7, v8, v9, v10, v11, v12, v13, v14, v15, v16, v17, v18, v19, v20, v21, v22, v23, v24, v25, v26]))] := hD
  refine lv_if_eq (tgt := 46) hx hb dX10_noClaim_38 (by decide) (fun z => absurd z (by decide)) (fun _ => ?_)
  refine lv_iload_n hx hb dX10_noClaim_41 rfl (lv_at hl 3 rfl) ?_
  refine lv_iload_n hx hb dX10_noClaim_42 rfl (lv_at hl 2 rfl) ?_
  refine lv_icmp_lt (tgt := 50) hx hb dX10_noClaim_43 (by decide) (fun z => absurd z h6) (fun _ => ?_)
  refine lv_iconst (v := 1) hx hb dX10_noClaim_46 (by decide) ?_
  refine lv_goto (tgt := 51) hx hb dX10_noClaim_47 (by decide) ?_
  refine lv_iconst (v := 1) hx hb dX10_noClaim_51 (by decide) ?_
  refine ca_i (isC := [0]) (isR := []) (wr := []) (rn_V (ci := 15) (q0 := 0) (isC := [0]) (wc := [(a0, .inr (15, [.int 0, v0, v1, v2, v3, v4, v5, v6, v7, v8, v9, v10, v11, v12, v13, v14, v15, v16, v17, v18, v19, v20, v21, v22, v23, v24, v25, v26]))]) (As := [.int 1, .int 1]) (rest := []) (n := 2) hx hb hml hown hts hE hS hP hD hA hl.1 (k22_X10_fails l D cy g a0 (v0) (v1) (v2) (v3) (v4) (v5) (v6) (v7) (v8) (v9) (v10) (v11) (v12) (v13) (v14) (v15) (v16) (v17) (v18) (v19) (v20) (v21) (v22) (v23) (v24) (v25) (v26) H.size ) rfl rfl rfl rfl rfl ax_41 rfl rfl ax_42 ⟨Nat.le_of_ble_eq_true rfl, Nat.le_of_ble_eq_true rfl⟩ rfl rfl (Nat.le_of_ble_eq_true rfl) dX10_noClaim_52 ⟨(Nat.le_of_ble_eq_true rfl), (Nat.le_of_ble_eq_true rfl)⟩) hP hD hS hA rfl rfl rfl (by decide) (fun ad52 H locs hP hD hS => ?_)
  have hP : va_P D vwCl [(a0, .inr (15, [.int 1, v0, v1, v2, v3, v4, v5, v6, v7, v8, v9, v10, v11, v12, v13, v14, v15, v16, v17, v18, v19, v20, v21, v22, v23, v24, v25, v26]))] H := hP
  have hD : va_D A [(a0, .inr (15, [.int 1, v0, v1, v2, v3, v4, v5, v6, v7, v8, v9, v10, v11, v12, v13, v14, v15, v16, v17, v18, v19, v20, v21, v22, v23, v24, v25, v26]))] := hD
  exact en_z hx hb hr hlk hP hD hS rfl (fun _ => 0) (is := [0]) rfl rfl (Nat.le_of_ble_eq_true rfl) (Nat.le_of_ble_eq_true rfl) dX10_noClaim_55
set_option maxHeartbeats 4000000 in
set_option maxRecDepth 100000 in
theorem k684_X10_claim (l : Launch) (D : va_G) (cy : Nat → ClassId) (g : Nat → Nat) (x0 : Int32) (x1 : Int32) (x2 : Int32) (x3 : Int32) (a0 : Nat) (v0 : Value) (v1 : Value) (v2 : Value) (v3 : Value) (v4 : Value) (v5 : Value) (v6 : Value) (v7 : Value) (v8 : Value) (v9 : Value) (v10 : Value) (v11 : Value) (v12 : Value) (v13 : Value) (v14 : Value) (v15 : Value) (v16 : Value) (v17 : Value) (v18 : Value) (v19 : Value) (v20 : Value) (v21 : Value) (v22 : Value) (v23 : Value) (v24 : Value) (v25 : Value) (v26 : Value) (v27 : Value) (sz : Nat) (h0 : ¬ x3 < 0) (h1 : ¬ (200000 : Int32) < x3) (h2 : ¬ x0 < 1) (h3 : ¬ (100000 : Int32) < x0) (h4 : ¬ x1 < 50) (h5 : ¬ (2000 : Int32) < x1) (h6 : ¬ x2 < 50) (h7 : ¬ (2000 : Int32) < x2) (h8 : ¬ x2 < x1) : Met l yX10_claim [.code yX10_claim cX10_claim 5 (some .char)] ({ frames := 2, cells := 0, slots := 0, locals := 48 }) (PC D cy g [(a0, .inr (15, [v0, v1, v2, v3, v4, v5, v6, v7, v8, v9, v10, v11, v12, v13, v14, v15, v16, v17, v18, v19, v20, v21, v22, v23, v24, v25, v26, v27]))] sz [.ref a0, .int x0, .int x1, .int x2, .int x3]) (QI D 32 (fun ad => [(a0, .inr (15, [.int 1, v1, v2, v3, v4, v5, v6, v7, v8, v9, v10, v11, v12, v13, v14, v15, v16, v17, v18, v19, v20, v21, v22, v23, v24, v25, v26, v27]))]) (va_A [(a0, .inr (15, [v0, v1, v2, v3, v4, v5, v6, v7, v8, v9, v10, v11, v12, v13, v14, v15, v16, v17, v18, v19, v20, v21, v22, v23, v24, v25, v26, v27]))] sz)) 0 0 (va_A [(a0, .inr (15, [v0, v1, v2, v3, v4, v5, v6, v7, v8, v9, v10, v11, v12, v13, v14, v15, v16, v17, v18, v19, v20, v21, v22, v23, v24, v25, v26, v27]))] sz) := by
  refine st_I (by decide) (Nat.le_of_ble_eq_true rfl) ?_
  intro p e s m args below meth c A ls hx hb hr hml hown hlk hnm hsz hP hD hA hE hts hS hl
  have hown : s.vm.findClass RX10 = some m.cls := hown
  have hl : lv_has ls 5 [(0, .ref a0), (1, .int x0), (2, .int x1), (3, .int x2), (4, .int x3)] := hl
  refine lv_aload_n hx hb dX10_claim_0 rfl (lv_at hl 0 rfl) ?_
  refine ca_v (isC := [0]) (isR := []) (wr := []) (rn_V (ci := 15) (q0 := 0) (isC := [0]) (wc := [(a0, .inr (15, [v0, v1, v2, v3, v4, v5, v6, v7, v8, v9, v10, v11, v12, v13, v14, v15, v16, v17, v18, v19, v20, v21, v22, v23, v24, v25, v26, v27]))]) (As := []) (rest := []) (n := 0) hx hb hml hown hts hE hS hP hD hA hl.1 (k20_X10_begins l D cy g a0 (v0) (v1) (v2) (v3) (v4) (v5) (v6) (v7) (v8) (v9) (v10) (v11) (v12) (v13) (v14) (v15) (v16) (v17) (v18) (v19) (v20) (v21) (v22) (v23) (v24) (v25) (v26) (v27) s.heap.size ) rfl rfl rfl rfl rfl ax_37 rfl rfl ax_38 ⟨Nat.le_of_ble_eq_true rfl, Nat.le_of_ble_eq_true rfl⟩ rfl rfl (Nat.le_of_ble_eq_true rfl) dX10_claim_1 ⟨(Nat.le_of_ble_eq_true rfl), (Nat.le_of_ble_eq_true rfl)⟩) hP hD hS hA rfl rfl rfl (by decide) (fun ad1 H locs hP hD hS => ?_)
  have hP : va_P D vwCl [(a0, .inr (15, [.int 0, v1, v2, v3, v4, v5, v6, v7, v8, v9, v10, v11, v12, v13, v14, v15, v16, v17, v18, v19, v20, v21, v22, v23, v24, v25, v26, v27]))] H := hP
  have hD : va_D A [(a0, .inr (15, [.int 0, v1, v2, v3, v4, v5, v6, v7, v8, v9, v10, v11, v12, v13, v14, v15, v16, v17, v18, v19, v20, v21, v22, v23, v24, v25, v26, v27]))] := hD
  refine lv_aload_n hx hb dX10_claim_4 rfl (lv_at hl 0 rfl) ?_
  refine lv_iload hx hb dX10_claim_5 (lv_at hl 4 rfl) ?_
  refine lv_i2l (v := x3.toInt64) hx hb dX10_claim_7 rfl ?_
  refine lv_lconst (v := 0) hx hb dX10_claim_8 (by decide) ?_
  refine lv_ldc2 (v := 200000) hx hb hown (hts _ tw_1193) dX10_claim_9 ?_
  refine ca_i (isC := []) (isR := [0]) (wr := [(a0, .inr (15, [.int 0, v1, v2, v3, v4, v5, v6, v7, v8, v9, v10, v11, v12, v13, v14, v15, v16, v17, v18, v19, v20, v21, v22, v23, v24, v25, v26, v27]))]) (rn_S (isC := []) (wc := []) (As := [.long x3.toInt64, .long 0, .long 200000]) (rest := [.ref a0]) (n := 3) hx hb hml hown hts hE hS hP hD hA hl.1 (k33_X10_in l D cy g x3.toInt64 0 200000 H.size (wl_nlt rfl (by decide) h0) (wl_nlt (by decide) rfl h1)) rfl rfl ax_39 rfl rfl ax_40 ⟨Nat.le_of_ble_eq_true rfl, Nat.le_of_ble_eq_true rfl⟩ rfl rfl (Nat.le_of_ble_eq_true rfl) dX10_claim_12 ⟨(Nat.le_of_ble_eq_true rfl), (Nat.le_of_ble_eq_true rfl)⟩) hP hD hS hA rfl rfl rfl (by decide) (fun ad12 H locs hP hD hS => ?_)
  have hP : va_P D vwCl [(a0, .inr (15, [.int 0, v1, v2, v3, v4, v5, v6, v7, v8, v9, v10, v11, v12, v13, v14, v15, v16, v17, v18, v19, v20, v21, v22, v23, v24, v25, v26, v27]))] H := hP
  have hD : va_D A [(a0, .inr (15, [.int 0, v1, v2, v3, v4, v5, v6, v7, v8, v9, v10, v11, v12, v13, v14, v15, v16, v17, v18, v19, v20, v21, v22, v23, v24, v25, v26, v27]))] := hD
  refine lv_if_ne (tgt := 22) hx hb dX10_claim_15 (by decide) (fun _ => ?_) (fun z => absurd z (by decide))
  refine lv_iconst (v := 0) hx hb dX10_claim_22 (by decide) ?_
  refine lv_iconst (v := 1) hx hb dX10_claim_23 (by decide) ?_
  refine ca_i (isC := [0]) (isR := []) (wr := []) (rn_V (ci := 15) (q0 := 0) (isC := [0]) (wc := [(a0, .inr (15, [.int 0, v1, v2, v3, v4, v5, v6, v7, v8, v9, v10, v11, v12, v13, v14, v15, v16, v17, v18, v19, v20, v21, v22, v23, v24, v25, v26, v27]))]) (As := [.int 0, .int 1]) (rest := []) (n := 2) hx hb hml hown hts hE hS hP hD hA hl.1 (k43_X10_fails l D cy g a0 (v1) (v2) (v3) (v4) (v5) (v6) (v7) (v8) (v9) (v10) (v11) (v12) (v13) (v14) (v15) (v16) (v17) (v18) (v19) (v20) (v21) (v22) (v23) (v24) (v25) (v26) (v27) H.size ) rfl rfl rfl rfl rfl ax_41 rfl rfl ax_42 ⟨Nat.le_of_ble_eq_true rfl, Nat.le_of_ble_eq_true rfl⟩ rfl rfl (Nat.le_of_ble_eq_true rfl) dX10_claim_24 ⟨(Nat.le_of_ble_eq_true rfl), (Nat.le_of_ble_eq_true rfl)⟩) hP hD hS hA rfl rfl rfl (by decide) (fun ad24 H locs hP hD hS => ?_)
  have hP : va_P D vwCl [(a0, .inr (15, [.int 0, v1, v2, v3, v4, v5, v6, v7, v8, v9, v10, v11, v12, v13, v14, v15, v16, v17, v18, v19, v20, v21, v22, v23, v24, v25, v26, v27]))] H := hP
  have hD : va_D A [(a0, .inr (15, [.int 0, v1, v2, v3, v4, v5, v6, v7, v8, v9, v10, v11, v12, v13, v14, v15, v16, v17, v18, v19, v20, v21, v22, v23, v24, v25, v26, v27]))] := hD
  refine lv_if_ne (tgt := 40) hx hb dX10_claim_27 (by decide) (fun z => absurd (by decide) z) (fun _ => ?_)
  refine lv_aload_n hx hb dX10_claim_30 rfl (lv_at hl 0 rfl) ?_
  refine lv_iload_n hx hb dX10_claim_31 rfl (lv_at hl 1 rfl) ?_
  refine lv_iload_n hx hb dX10_claim_32 rfl (lv_at hl 2 rfl) ?_
  refine lv_iload_n hx hb dX10_claim_33 rfl (lv_at hl 3 rfl) ?_
  refine ca_i (isC := [0]) (isR := []) (wr := []) (rn_V (ci := 15) (q0 := 0) (isC := [0]) (wc := [(a0, .inr (15, [.int 0, v1, v2, v3, v4, v5, v6, v7, v8, v9, v10, v11, v12, v13, v14, v15, v16, v17, v18, v19, v20, v21, v22, v23, v24, v25, v26, v27]))]) (As := [.int x0, .int x1, .int x2]) (rest := []) (n := 3) hx hb hml hown hts hE hS hP hD hA hl.1 (k683_X10_noClaim l D cy g x0 x1 x2 a0 (v1) (v2) (v3) (v4) (v5) (v6) (v7) (v8) (v9) (v10) (v11) (v12) (v13) (v14) (v15) (v16) (v17) (v18) (v19) (v20) (v21) (v22) (v23) (v24) (v25) (v26) (v27) H.size h2 h3 h4 h5 h6 h7 h8) rfl rfl rfl rfl rfl ax_452 rfl rfl ax_453 ⟨Nat.le_of_ble_eq_true rfl, Nat.le_of_ble_eq_true rfl⟩ rfl rfl (Nat.le_of_ble_eq_true rfl) dX10_claim_34 ⟨(Nat.le_of_ble_eq_true rfl), (Nat.le_of_ble_eq_true rfl)⟩) hP hD hS hA rfl rfl rfl (by decide) (fun ad34 H locs hP hD hS => ?_)
  have hP : va_P D vwCl [(a0, .inr (15, [.int 1, v1, v2, v3, v4, v5, v6, v7, v8, v9, v10, v11, v12, v13, v14, v15, v16, v17, v18, v19, v20, v21, v22, v23, v24, v25, v26, v27]))] H := hP
  have hD : va_D A [(a0, .inr (15, [.int 1, v1, v2, v3, v4, v5, v6, v7, v8, v9, v10, v11, v12, v13, v14, v15, v16, v17, v18, v19, v20, v21, v22, v23, v24, v25, v26, v27]))] := hD
  refine lv_if_eq (tgt := 43) hx hb dX10_claim_37 (by decide) (fun z => absurd z (by decide)) (fun _ => ?_)
  refine lv_bipush (v := 32) hx hb dX10_claim_40 (by decide) ?_
  exact en_z hx hb hr hlk hP hD hS rfl (fun _ => 0) (is := [0]) rfl rfl (Nat.le_of_ble_eq_true rfl) (Nat.le_of_ble_eq_true rfl) dX10_claim_42
set_option maxHeartbeats 4000000 in
set_option maxRecDepth 100000 in
theorem k685_X9_bestWork (l : Launch) (hst : l.stackTraces = false) (D : va_G) (cy : Nat → ClassId) (g : Nat → Nat) (x0 : Int32) (x1 : Int32) (x2 : Int32) (a0 : Nat) (v0 : Value) (v1 : Value) (v2 : Value) (v3 : Value) (v4 : Value) (v5 : Value) (v6 : Value) (sz : Nat) (h0 : x0 < 1) : vx_Met l yX9_bestWork [.code yX9_bestWork cX9_bestWork 5 (some .int)] ({ frames := 7, cells := 1, slots := 6, locals := 105 }) (PC D cy g [(a0, .inr (14, [v0, v1, v2, v3, v4, v5, v6]))] sz [.ref a0, .int x0, .int x1, .int x2]) QN (XE "java/lang/IllegalArgumentException" (va_A [(a0, .inr (14, [v0, v1, v2, v3, v4, v5, v6]))] sz)) 1 6 (va_A [(a0, .inr (14, [v0, v1, v2, v3, v4, v5, v6]))] sz) := by
  refine st_X (by decide) (Nat.le_of_ble_eq_true rfl) ?_
  intro p e s m args below meth c A ls hx hb hr hml hown hlk hnm hsz hP hD hA hE hts hS hl hout
  have hown : s.vm.findClass RX9 = some m.cls := hown
  have hl : lv_has ls 5 [(0, .ref a0), (1, .int x0), (2, .int x1), (3, .int x2)] := hl
  refine lv_aload_n hx hb dX9_bestWork_0 rfl (lv_at hl 0 rfl) ?_
  refine lv_iload_n hx hb dX9_bestWork_1 rfl (lv_at hl 1 rfl) ?_
  refine lv_iload_n hx hb dX9_bestWork_2 rfl (lv_at hl 2 rfl) ?_
  refine lv_iload_n hx hb dX9_bestWork_3 rfl (lv_at hl 3 rfl) ?_
  exact cx_out (isC := []) (rx_V (ci := 14) (q0 := 0) (isC := []) (wc := []) (As := [.int x0, .int x1, .int x2]) (rest := []) (n := 3) hx hb hml hown hts hE hS hP hD hA hl.1 (k629_X9_requireClaim l hst D cy g x0 x1 x2 a0 s.heap.size h0) rfl rfl rfl rfl rfl ax_444 rfl rfl ax_445 ⟨Nat.le_of_ble_eq_true rfl, Nat.le_of_ble_eq_true rfl⟩ rfl rfl (Nat.le_of_ble_eq_true rfl) dX9_bestWork_4 ⟨(Nat.le_of_ble_eq_true rfl), (Nat.le_of_ble_eq_true rfl)⟩) hD hS hA rfl hout hlk (Nat.le_of_ble_eq_true rfl) (Nat.le_of_ble_eq_true rfl)
set_option maxHeartbeats 4000000 in
set_option maxRecDepth 100000 in
theorem k686_L_bestWork (l : Launch) (hst : l.stackTraces = false) (D : va_G) (cy : Nat → ClassId) (g : Nat → Nat) (x0 : Int32) (x1 : Int32) (x2 : Int32) (a0 : Nat) (b0 : Nat) (v0 : Value) (v1 : Value) (v2 : Value) (v3 : Value) (v4 : Value) (v5 : Value) (v6 : Value) (sz : Nat) (h0 : x0 < 1) : Met l yL_bestWork [.codeWith yL_bestWork cL_bestWork 6 (some .int) [(0, 12, 15, 13), (0, 12, 19, 45)]] ({ frames := 8, cells := 1, slots := 6, locals := 129 }) (PC D cy g [(a0, .inr (14, [v0, v1, v2, v3, v4, v5, v6]))] sz [.ref a0, .int x0, .int x1, .int x2, .ref b0]) (QI D 1 (fun ad => []) (va_A [(a0, .inr (14, [v0, v1, v2, v3, v4, v5, v6]))] sz)) 1 6 (va_A [(a0, .inr (14, [v0, v1, v2, v3, v4, v5, v6]))] sz) := by
  refine sh_I (by decide) (Nat.le_of_ble_eq_true rfl) ?_
  intro p e s m args below meth c A ls hx hb hr hml hown hlk hnm hsz hP hD hA hE hts hS hl htb
  have hown : s.vm.findClass RL = some m.cls := hown
  have hl : lv_has ls 6 [(0, .ref a0), (1, .int x0), (2, .int x1), (3, .int x2), (4, .ref b0)] := hl
  refine lv_aload hx hb dL_bestWork_0 (lv_at hl 4 rfl) ?_
  refine lv_iconst (v := 0) hx hb dL_bestWork_2 (by decide) ?_
  refine lv_aload_n hx hb dL_bestWork_3 rfl (lv_at hl 0 rfl) ?_
  refine lv_iload_n hx hb dL_bestWork_4 rfl (lv_at hl 1 rfl) ?_
  refine lv_iload_n hx hb dL_bestWork_5 rfl (lv_at hl 2 rfl) ?_
  refine lv_iload_n hx hb dL_bestWork_6 rfl (lv_at hl 3 rfl) ?_
  refine cx_catch (isC := [0]) (isR := []) (wr := []) (hp := []) (z := (0, 12, 15, 13)) (hq := [(0, 12, 19, 45)]) (name := "java/lang/IllegalArgumentException") (own := RL) (rx_V (ci := 14) (q0 := 0) (isC := [0]) (wc := [(a0, .inr (14, [v0, v1, v2, v3, v4, v5, v6]))]) (As := [.int x0, .int x1, .int x2]) (rest := [.int 0, .ref b0]) (n := 3) hx hb hml hown hts hE hS hP hD hA hl.1 (k685_X9_bestWork l hst D cy g x0 x1 x2 a0 (v0) (v1) (v2) (v3) (v4) (v5) (v6) s.heap.size h0) rfl rfl rfl rfl rfl ax_462 rfl rfl ax_463 ⟨Nat.le_of_ble_eq_true rfl, Nat.le_of_ble_eq_true rfl⟩ rfl rfl (Nat.le_of_ble_eq_true rfl) dL_bestWork_7 ⟨(Nat.le_of_ble_eq_true rfl), (Nat.le_of_ble_eq_true rfl)⟩) hP hD hS hA hown hts hE htb rfl rfl rfl rfl (by decide) (fun z hz => by cases hz) (by decide) (by decide) tw_302 tw_303 (fun qx H locs hP hD hS => ?_)
  have hP : va_P D vwCl [] H := hP
  have hD : va_D A [] := hD
  refine lv_astore (lv' := [(5, .ref qx), (0, .ref a0), (1, .int x0), (2, .int x1), (3, .int x2), (4, .ref b0)]) hx hb dL_bestWork_15 hl (Nat.le_of_ble_eq_true rfl) rfl (fun ls hl => ?_)
  refine lv_iconst (v := 1) hx hb dL_bestWork_17 (by decide) ?_
  exact en_z hx hb hr hlk hP hD hS rfl (fun _ => 0) (is := []) rfl rfl (Nat.le_of_ble_eq_true rfl) (Nat.le_of_ble_eq_true rfl) dL_bestWork_18
set_option maxHeartbeats 4000000 in
set_option maxRecDepth 100000 in
theorem k687_X10_bestWork (l : Launch) (D : va_G) (cy : Nat → ClassId) (g : Nat → Nat) (x0 : Int32) (x1 : Int32) (x2 : Int32) (a0 : Nat) (v0 : Value) (v1 : Value) (v2 : Value) (v3 : Value) (v4 : Value) (v5 : Value) (v6 : Value) (v7 : Value) (v8 : Value) (v9 : Value) (v10 : Value) (v11 : Value) (v12 : Value) (v13 : Value) (v14 : Value) (v15 : Value) (v16 : Value) (v17 : Value) (v18 : Value) (v19 : Value) (v20 : Value) (v21 : Value) (v22 : Value) (v23 : Value) (v24 : Value) (v25 : Value) (v26 : Value) (v27 : Value) (sz : Nat) (h0 : x0 < 1) : Met l yX10_bestWork [.code yX10_bestWork cX10_bestWork 5 (some .int)] ({ frames := 2, cells := 0, slots := 0, locals := 48 }) (PC D cy g [(a0, .inr (15, [v0, v1, v2, v3, v4, v5, v6, v7, v8, v9, v10, v11, v12, v13, v14, v15, v16, v17, v18, v19, v20, v21, v22, v23, v24, v25, v26, v27]))] sz [.ref a0, .int x0, .int x1, .int x2]) (QI D (-1) (fun ad => [(a0, .inr (15, [.int 1, v1, v2, v3, v4, v5, v6, v7, v8, v9, v10, v11, v12, v13, v14, v15, v16, v17, v18, v19, v20, v21, v22, v23, v24, v25, v26, v27]))]) (va_A [(a0, .inr (15, [v0, v1, v2, v3, v4, v5, v6, v7, v8, v9, v10, v11, v12, v13, v14, v15, v16, v17, v18, v19, v20, v21, v22, v23, v24, v25, v26, v27]))] sz)) 0 0 (va_A [(a0, .inr (15, [v0, v1, v2, v3, v4, v5, v6, v7, v8, v9, v10, v11, v12, v13, v14, v15, v16, v17, v18, v19, v20, v21, v22, v23, v24, v25, v26, v27]))] sz) := by
  refine st_I (by decide) (Nat.le_of_ble_eq_true rfl) ?_
  intro p e s m args below meth c A ls hx hb hr hml hown hlk hnm hsz hP hD hA hE hts hS hl
  have hown : s.vm.findClass RX10 = some m.cls := hown
  have hl : lv_has ls 5 [(0, .ref a0), (1, .int x0), (2, .int x1), (3, .int x2)] := hl
  refine lv_aload_n hx hb dX10_bestWork_0 rfl (lv_at hl 0 rfl) ?_
  refine ca_v (isC := [0]) (isR := []) (wr := []) (rn_V (ci := 15) (q0 := 0) (isC := [0]) (wc := [(a0, .inr (15, [v0, v1, v2, v3, v4, v5, v6, v7, v8, v9, v10, v11, v12, v13, v14, v15, v16, v17, v18, v19, v20, v21, v22, v23, v24, v25, v26, v27]))]) (As := []) (rest := []) (n := 0) hx hb hml hown hts hE hS hP hD hA hl.1 (k20_X10_begins l D cy g a0 (v0) (v1) (v2) (v3) (v4) (v5) (v6) (v7) (v8) (v9) (v10) (v11) (v12) (v13) (v14) (v15) (v16) (v17) (v18) (v19) (v20) (v21) (v22) (v23) (v24) (v25) (v26) (v27) s.heap.size ) rfl rfl rfl rfl rfl ax_37 rfl rfl ax_38 ⟨Nat.le_of_ble_eq_true rfl, Nat.le_of_ble_eq_true rfl⟩ rfl rfl (Nat.le_of_ble_eq_true rfl) dX10_bestWork_1 ⟨(Nat.le_of_ble_eq_true rfl), (Nat.le_of_ble_eq_true rfl)⟩) hP hD hS hA rfl rfl rfl (by decide) (fun ad1 H locs hP hD hS => ?_)
  have hP : va_P D vwCl [(a0, .inr (15, [.int 0, v1, v2, v3, v4, v5, v6, v7, v8, v9, v10, v11, v12, v13, v14, v15, v16, v17, v18, v19, v20, v21, v22, v23, v24, v25, v26, v27]))] H := hP
  have hD : va_D A [(a0, .inr (15, [.int 0, v1, v2, v3, v4, v5, v6, v7, v8, v9, v10, v11, v12, v13, v14, v15, v16, v17, v18, v19, v20, v21, v22, v23, v24, v25, v26, v27]))] := hD
  refine lv_aload_n hx hb dX10_bestWork_4 rfl (lv_at hl 0 rfl) ?_
  refine lv_iload_n hx hb dX10_bestWork_5 rfl (lv_at hl 1 rfl) ?_
  refine lv_iload_n hx hb dX10_bestWork_6 rfl (lv_at hl 2 rfl) ?_
  refine lv_iload_n hx hb dX10_bestWork_7 rfl (lv_at hl 3 rfl) ?_
  refine ca_i (isC := [0]) (isR := []) (wr := []) (rn_V (ci := 15) (q0 := 0) (isC := [0]) (wc := [(a0, .inr (15, [.int 0, v1, v2, v3, v4, v5, v6, v7, v8, v9, v10, v11, v12, v13, v14, v15, v16, v17, v18, v19, v20, v21, v22, v23, v24, v25, v26, v27]))]) (As := [.int x0, .int x1, .int x2]) (rest := []) (n := 3) hx hb hml hown hts hE hS hP hD hA hl.1 (k634_X10_noClaim l D cy g x0 x1 x2 a0 (v1) (v2) (v3) (v4) (v5) (v6) (v7) (v8) (v9) (v10) (v11) (v12) (v13) (v14) (v15) (v16) (v17) (v18) (v19) (v20) (v21) (v22) (v23) (v24) (v25) (v26) (v27) H.size h0) rfl rfl rfl rfl rfl ax_452 rfl rfl ax_453 ⟨Nat.le_of_ble_eq_true rfl, Nat.le_of_ble_eq_true rfl⟩ rfl rfl (Nat.le_of_ble_eq_true rfl) dX10_bestWork_8 ⟨(Nat.le_of_ble_eq_true rfl), (Nat.le_of_ble_eq_true rfl)⟩) hP hD hS hA rfl rfl rfl (by decide) (fun ad8 H locs hP hD hS => ?_)
  have hP : va_P D vwCl [(a0, .inr (15, [.int 1, v1, v2, v3, v4, v5, v6, v7, v8, v9, v10, v11, v12, v13, v14, v15, v16, v17, v18, v19, v20, v21, v22, v23, v24, v25, v26, v27]))] H := hP
  have hD : va_D A [(a0, .inr (15, [.int 1, v1, v2, v3, v4, v5, v6, v7, v8, v9, v10, v11, v12, v13, v14, v15, v16, v17, v18, v19, v20, v21, v22, v23, v24, v25, v26, v27]))] := hD
  refine lv_if_eq (tgt := 16) hx hb dX10_bestWork_11 (by decide) (fun z => absurd z (by decide)) (fun _ => ?_)
  refine lv_iconst (v := (-1)) hx hb dX10_bestWork_14 (by decide) ?_
  exact en_z hx hb hr hlk hP hD hS rfl (fun _ => 0) (is := [0]) rfl rfl (Nat.le_of_ble_eq_true rfl) (Nat.le_of_ble_eq_true rfl) dX10_bestWork_15
set_option maxHeartbeats 4000000 in
set_option maxRecDepth 100000 in
theorem k688_X9_bestWork (l : Launch) (hst : l.stackTraces = false) (D : va_G) (cy : Nat → ClassId) (g : Nat → Nat) (x0 : Int32) (x1 : Int32) (x2 : Int32) (a0 : Nat) (v0 : Value) (v1 : Value) (v2 : Value) (v3 : Value) (v4 : Value) (v5 : Value) (v6 : Value) (sz : Nat) (h0 : ¬ x0 < 1) (h1 : (100000 : Int32) < x0) : vx_Met l yX9_bestWork [.code yX9_bestWork cX9_bestWork 5 (some .int)] ({ frames := 7, cells := 1, slots := 6, locals := 105 }) (PC D cy g [(a0, .inr (14, [v0, v1, v2, v3, v4, v5, v6]))] sz [.ref a0, .int x0, .int x1, .int x2]) QN (XE "java/lang/IllegalArgumentException" (va_A [(a0, .inr (14, [v0, v1, v2, v3, v4, v5, v6]))] sz)) 1 6 (va_A [(a0, .inr (14, [v0, v1, v2, v3, v4, v5, v6]))] sz) := by
  refine st_X (by decide) (Nat.le_of_ble_eq_true rfl) ?_
  intro p e s m args below meth c A ls hx hb hr hml hown hlk hnm hsz hP hD hA hE hts hS hl hout
  have hown : s.vm.findClass RX9 = some m.cls := hown
  have hl : lv_has ls 5 [(0, .ref a0), (1, .int x0), (2, .int x1), (3, .int x2)] := hl
  refine lv_aload_n hx hb dX9_bestWork_0 rfl (lv_at hl 0 rfl) ?_
  refine lv_iload_n hx hb dX9_bestWork_1 rfl (lv_at hl 1 rfl) ?_
  refine lv_iload_n hx hb dX9_bestWork_2 rfl (lv_at hl 2 rfl) ?_
  refine lv_iload_n hx hb dX9_bestWork_3 rfl (lv_at hl 3 rfl) ?_
  exact cx_out (isC := []) (rx_V (ci := 14) (q0 := 0) (isC := []) (wc := []) (As := [.int x0, .int x1, .int x2]) (rest := []) (n := 3) hx hb hml hown hts hE hS hP hD hA hl.1 (k636_X9_requireClaim l hst D cy g x0 x1 x2 a0 s.heap.size h0 h1) rfl rfl rfl rfl rfl ax_444 rfl rfl ax_445 ⟨Nat.le_of_ble_eq_true rfl, Nat.le_of_ble_eq_true rfl⟩ rfl rfl (Nat.le_of_ble_eq_true rfl) dX9_bestWork_4 ⟨(Nat.le_of_ble_eq_true rfl), (Nat.le_of_ble_eq_true rfl)⟩) hD hS hA rfl hout hlk (Nat.le_of_ble_eq_true rfl) (Nat.le_of_ble_eq_true rfl)
set_option maxHeartbeats 4000000 in
set_option maxRecDepth 100000 in
theorem k689_L_bestWork (l : Launch) (hst : l.stackTraces = false) (D : va_G) (cy : Nat → ClassId) (g : Nat → Nat) (x0 : Int32) (x1 : Int32) (x2 : Int32) (a0 : Nat) (b0 : Nat) (v0 : Value) (v1 : Value) (v2 : Value) (v3 : Value) (v4 : Value) (v5 : Value) (v6 : Value) (sz : Nat) (h0 : ¬ x0 < 1) (h1 : (100000 : Int32) < x0) : Met l yL_bestWork [.codeWith yL_bestWork cL_bestWork 6 (some .int) [(0, 12, 15, 13), (0, 12, 19, 45)]] ({ frames := 8, cells := 1, slots := 6, locals := 129 }) (PC D cy g [(a0, .inr (14, [v0, v1, v2, v3, v4, v5, v6]))] sz [.ref a0, .int x0, .int x1, .int x2, .ref b0]) (QI D 1 (fun ad => []) (va_A [(a0, .inr (14, [v0, v1, v2, v3, v4, v5, v6]))] sz)) 1 6 (va_A [(a0, .inr (14, [v0, v1, v2, v3, v4, v5, v6]))] sz) := by
  refine sh_I (by decide) (Nat.le_of_ble_eq_true rfl) ?_
  intro p e s m args below meth c A ls hx hb hr hml hown hlk hnm hsz hP hD hA hE hts hS hl htb
  have hown : s.vm.findClass RL = some m.cls := hown
  have hl : lv_has ls 6 [(0, .ref a0), (1, .int x0), (2, .int x1), (3, .int x2), (4, .ref b0)] := hl
  refine lv_aload hx hb dL_bestWork_0 (lv_at hl 4 rfl) ?_
  refine lv_iconst (v := 0) hx hb dL_bestWork_2 (by decide) ?_
  refine lv_aload_n hx hb dL_bestWork_3 rfl (lv_at hl 0 rfl) ?_
  refine lv_iload_n hx hb dL_bestWork_4 rfl (lv_at hl 1 rfl) ?_
  refine lv_iload_n hx hb dL_bestWork_5 rfl (lv_at hl 2 rfl) ?_
  refine lv_iload_n hx hb dL_bestWork_6 rfl (lv_at hl 3 rfl) ?_
  refine cx_catch (isC := [0]) (isR := []) (wr := []) (hp := []) (z := (0, 12, 15, 13)) (hq := [(0, 12, 19, 45)]) (name := "java/lang/IllegalArgumentException") (own := RL) (rx_V (ci := 14) (q0 := 0) (isC := [0]) (wc := [(a0, .inr (14, [v0, v1, v2, v3, v4, v5, v6]))]) (As := [.int x0, .int x1, .int x2]) (rest := [.int 0, .ref b0]) (n := 3) hx hb hml hown hts hE hS hP hD hA hl.1 (k688_X9_bestWork l hst D cy g x0 x1 x2 a0 (v0) (v1) (v2) (v3) (v4) (v5) (v6) s.heap.size h0 h1) rfl rfl rfl rfl rfl ax_462 rfl rfl ax_463 ⟨Nat.le_of_ble_eq_true rfl, Nat.le_of_ble_eq_true rfl⟩ rfl rfl (Nat.le_of_ble_eq_true rfl) dL_bestWork_7 ⟨(Nat.le_of_ble_eq_true rfl), (Nat.le_of_ble_eq_true rfl)⟩) hP hD hS hA hown hts hE htb rfl rfl rfl rfl (by decide) (fun z hz => by cases hz) (by decide) (by decide) tw_302 tw_303 (fun qx H locs hP hD hS => ?_)
  have hP : va_P D vwCl [] H := hP
  have hD : va_D A [] := hD
  refine lv_astore (lv' := [(5, .ref qx), (0, .ref a0), (1, .int x0), (2, .int x1), (3, .int x2), (4, .ref b0)]) hx hb dL_bestWork_15 hl (Nat.le_of_ble_eq_true rfl) rfl (fun ls hl => ?_)
  refine lv_iconst (v := 1) hx hb dL_bestWork_17 (by decide) ?_
  exact en_z hx hb hr hlk hP hD hS rfl (fun _ => 0) (is := []) rfl rfl (Nat.le_of_ble_eq_true rfl) (Nat.le_of_ble_eq_true rfl) dL_bestWork_18
set_option maxHeartbeats 4000000 in
set_option maxRecDepth 100000 in
theorem k690_X10_bestWork (l : Launch) (D : va_G) (cy : Nat → ClassId) (g : Nat → Nat) (x0 : Int32) (x1 : Int32) (x2 : Int32) (a0 : Nat) (v0 : Value) (v1 : Value) (v2 : Value) (v3 : Value) (v4 : Value) (v5 : Value) (v6 : Value) (v7 : Value) (v8 : Value) (v9 : Value) (v10 : Value) (v11 : Value) (v12 : Value) (v13 : Value) (v14 : Value) (v15 : Value) (v16 : Value) (v17 : Value) (v18 : Value) (v19 : Value) (v20 : Value) (v21 : Value) (v22 : Value) (v23 : Value) (v24 : Value) (v25 : Value) (v26 : Value) (v27 : Value) (sz : Nat) (h0 : ¬ x0 < 1) (h1 : (100000 : Int32) < x0) : Met l yX10_bestWork [.code yX10_bestWork cX10_bestWork 5 (some .int)] ({ frames := 2, cells := 0, slots := 0, locals := 48 }) (PC D cy g [(a0, .inr (15, [v0, v1, v2, v3, v4, v5, v6, v7, v8, v9, v10, v11, v12, v13, v14, v15, v16, v17, v18, v19, v20, v21, v22, v23, v24, v25, v26, v27]))] sz [.ref a0, .int x0, .int x1, .int x2]) (QI D (-1) (fun ad => [(a0, .inr (15, [.int 1, v1, v2, v3, v4, v5, v6, v7, v8, v9, v10, v11, v12, v13, v14, v15, v16, v17, v18, v19, v20, v21, v22, v23, v24, v25, v26, v27]))]) (va_A [(a0, .inr (15, [v0, v1, v2, v3, v4, v5, v6, v7, v8, v9, v10, v11, v12, v13, v14, v15, v16, v17, v18, v19, v20, v21, v22, v23, v24, v25, v26, v27]))] sz)) 0 0 (va_A [(a0, .inr (15, [v0, v1, v2, v3, v4, v5, v6, v7, v8, v9, v10, v11, v12, v13, v14, v15, v16, v17, v18, v19, v20, v21, v22, v23, v24, v25, v26, v27]))] sz) := by
  refine st_I (by decide) (Nat.le_of_ble_eq_true rfl) ?_
  intro p e s m args below meth c A ls hx hb hr hml hown hlk hnm hsz hP hD hA hE hts hS hl
  have hown : s.vm.findClass RX10 = some m.cls := hown
  have hl : lv_has ls 5 [(0, .ref a0), (1, .int x0), (2, .int x1), (3, .int x2)] := hl
  refine lv_aload_n hx hb dX10_bestWork_0 rfl (lv_at hl 0 rfl) ?_
  refine ca_v (isC := [0]) (isR := []) (wr := []) (rn_V (ci := 15) (q0 := 0) (isC := [0]) (wc := [(a0, .inr (15, [v0, v1, v2, v3, v4, v5, v6, v7, v8, v9, v10, v11, v12, v13, v14, v15, v16, v17, v18, v19, v20, v21, v22, v23, v24, v25, v26, v27]))]) (As := []) (rest := []) (n := 0) hx hb hml hown hts hE hS hP hD hA hl.1 (k20_X10_begins l D cy g a0 (v0) (v1) (v2) (v3) (v4) (v5) (v6) (v7) (v8) (v9) (v10) (v11) (v12) (v13) (v14) (v15) (v16) (v17) (v18) (v19) (v20) (v21) (v22) (v23) (v24) (v25) (v26) (v27) s.heap.size ) rfl rfl rfl rfl rfl ax_37 rfl rfl ax_38 ⟨Nat.le_of_ble_eq_true rfl, Nat.le_of_ble_eq_true rfl⟩ rfl rfl (Nat.le_of_ble_eq_true rfl) dX10_bestWork_1 ⟨(Nat.le_of_ble_eq_true rfl), (Nat.le_of_ble_eq_true rfl)⟩) hP hD hS hA rfl rfl rfl (by decide) (fun ad1 H locs hP hD hS => ?_)
  have hP : va_P D vwCl [(a0, .inr (15, [.int 0, v1, v2, v3, v4, v5, v6, v7, v8, v9, v10, v11, v12, v13, v14, v15, v16, v17, v18, v19, v20, v21, v22, v23, v24, v25, v26, v27]))] H := hP
  have hD : va_D A [(a0, .inr (15, [.int 0, v1, v2, v3, v4, v5, v6, v7, v8, v9, v10, v11, v12, v13, v14, v15, v16, v17, v18, v19, v20, v21, v22, v23, v24, v25, v26, v27]))] := hD
  refine lv_aload_n hx hb dX10_bestWork_4 rfl (lv_at hl 0 rfl) ?_
  refine lv_iload_n hx hb dX10_bestWork_5 rfl (lv_at hl 1 rfl) ?_
  refine lv_iload_n hx hb dX10_bestWork_6 rfl (lv_at hl 2 rfl) ?_
  refine lv_iload_n hx hb dX10_bestWork_7 rfl (lv_at hl 3 rfl) ?_
  refine ca_i (isC := [0]) (isR := []) (wr := []) (rn_V (ci := 15) (q0 := 0) (isC := [0]) (wc := [(a0, .inr (15, [.int 0, v1, v2, v3, v4, v5, v6, v7, v8, v9, v10, v11, v12, v13, v14, v15, v16, v17, v18, v19, v20, v21, v22, v23, v24, v25, v26, v27]))]) (As := [.int x0, .int x1, .int x2]) (rest := []) (n := 3) hx hb hml hown hts hE hS hP hD hA hl.1 (k639_X10_noClaim l D cy g x0 x1 x2 a0 (v1) (v2) (v3) (v4) (v5) (v6) (v7) (v8) (v9) (v10) (v11) (v12) (v13) (v14) (v15) (v16) (v17) (v18) (v19) (v20) (v21) (v22) (v23) (v24) (v25) (v26) (v27) H.size h0 h1) rfl rfl rfl rfl rfl ax_452 rfl rfl ax_453 ⟨Nat.le_of_ble_eq_true rfl, Nat.le_of_ble_eq_true rfl⟩ rfl rfl (Nat.le_of_ble_eq_true rfl) dX10_bestWork_8 ⟨(Nat.le_of_ble_eq_true rfl), (Nat.le_of_ble_eq_true rfl)⟩) hP hD hS hA rfl rfl rfl (by decide) (fun ad8 H locs hP hD hS => ?_)
  have hP : va_P D vwCl [(a0, .inr (15, [.int 1, v1, v2, v3, v4, v5, v6, v7, v8, v9, v10, v11, v12, v13, v14, v15, v16, v17, v18, v19, v20, v21, v22, v23, v24, v25, v26, v27]))] H := hP
  have hD : va_D A [(a0, .inr (15, [.int 1, v1, v2, v3, v4, v5, v6, v7, v8, v9, v10, v11, v12, v13, v14, v15, v16, v17, v18, v19, v20, v21, v22, v23, v24, v25, v26, v27]))] := hD
  refine lv_if_eq (tgt := 16) hx hb dX10_bestWork_11 (by decide) (fun z => absurd z (by decide)) (fun _ => ?_)
  refine lv_iconst (v := (-1)) hx hb dX10_bestWork_14 (by decide) ?_
  exact en_z hx hb hr hlk hP hD hS rfl (fun _ => 0) (is := [0]) rfl rfl (Nat.le_of_ble_eq_true rfl) (Nat.le_of_ble_eq_true rfl) dX10_bestWork_15
set_option maxHeartbeats 4000000 in
set_option maxRecDepth 100000 in
theorem k691_X9_bestWork (l : Launch) (hst : l.stackTraces = false) (D : va_G) (cy : Nat → ClassId) (g : Nat → Nat) (x0 : Int32) (x1 : Int32) (x2 : Int32) (a0 : Nat) (v0 : Value) (v1 : Value) (v2 : Value) (v3 : Value) (v4 : Value) (v5 : Value) (v6 : Value) (sz : Nat) (h0 : ¬ x0 < 1) (h1 : ¬ (100000 : Int32) < x0) (h2 : x1 < 50) : vx_Met l yX9_bestWork [.code yX9_bestWork cX9_bestWork 5 (some .int)] ({ frames := 7, cells := 1, slots := 6, locals := 105 }) (PC D cy g [(a0, .inr (14, [v0, v1, v2, v3, v4, v5, v6]))] sz [.ref a0, .int x0, .int x1, .int x2]) QN (XE "java/lang/IllegalArgumentException" (va_A [(a0, .inr (14, [v0, v1, v2, v3, v4, v5, v6]))] sz)) 1 6 (va_A [(a0, .inr (14, [v0, v1, v2, v3, v4, v5, v6]))] sz) := by
  refine st_X (by decide) (Nat.le_of_ble_eq_true rfl) ?_
  intro p e s m args below meth c A ls hx hb hr hml hown hlk hnm hsz hP hD hA hE hts hS hl hout
  have hown : s.vm.findClass RX9 = some m.cls := hown
  have hl : lv_has ls 5 [(0, .ref a0), (1, .int x0), (2, .int x1), (3, .int x2)] := hl
  refine lv_aload_n hx hb dX9_bestWork_0 rfl (lv_at hl 0 rfl) ?_
  refine lv_iload_n hx hb dX9_bestWork_1 rfl (lv_at hl 1 rfl) ?_
  refine lv_iload_n hx hb dX9_bestWork_2 rfl (lv_at hl 2 rfl) ?_
  refine lv_iload_n hx hb dX9_bestWork_3 rfl (lv_at hl 3 rfl) ?_
  exact cx_out (isC := []) (rx_V (ci := 14) (q0 := 0) (isC := []) (wc := []) (As := [.int x0, .int x1, .int x2]) (rest := []) (n := 3) hx hb hml hown hts hE hS hP hD hA hl.1 (k641_X9_requireClaim l hst D cy g x0 x1 x2 a0 s.heap.size h0 h1 h2) rfl rfl rfl rfl rfl ax_444 rfl rfl ax_445 ⟨Nat.le_of_ble_eq_true rfl, Nat.le_of_ble_eq_true rfl⟩ rfl rfl (Nat.le_of_ble_eq_true rfl) dX9_bestWork_4 ⟨(Nat.le_of_ble_eq_true rfl), (Nat.le_of_ble_eq_true rfl)⟩) hD hS hA rfl hout hlk (Nat.le_of_ble_eq_true rfl) (Nat.le_of_ble_eq_true rfl)
set_option maxHeartbeats 4000000 in
set_option maxRecDepth 100000 in
theorem k692_L_bestWork (l : Launch) (hst : l.stackTraces = false) (D : va_G) (cy : Nat → ClassId) (g : Nat → Nat) (x0 : Int32) (x1 : Int32) (x2 : Int32) (a0 : Nat) (b0 : Nat) (v0 : Value) (v1 : Value) (v2 : Value) (v3 : Value) (v4 : Value) (v5 : Value) (v6 : Value) (sz : Nat) (h0 : ¬ x0 < 1) (h1 : ¬ (100000 : Int32) < x0) (h2 : x1 < 50) : Met l yL_bestWork [.codeWith yL_bestWork cL_bestWork 6 (some .int) [(0, 12, 15, 13), (0, 12, 19, 45)]] ({ frames := 8, cells := 1, slots := 6, locals := 129 }) (PC D cy g [(a0, .inr (14, [v0, v1, v2, v3, v4, v5, v6]))] sz [.ref a0, .int x0, .int x1, .int x2, .ref b0]) (QI D 1 (fun ad => []) (va_A [(a0, .inr (14, [v0, v1, v2, v3, v4, v5, v6]))] sz)) 1 6 (va_A [(a0, .inr (14, [v0, v1, v2, v3, v4, v5, v6]))] sz) := by
  refine sh_I (by decide) (Nat.le_of_ble_eq_true rfl) ?_
  intro p e s m args below meth c A ls hx hb hr hml hown hlk hnm hsz hP hD hA hE hts hS hl htb
  have hown : s.vm.findClass RL = some m.cls := hown
  have hl : lv_has ls 6 [(0, .ref a0), (1, .int x0), (2, .int x1), (3, .int x2), (4, .ref b0)] := hl
  refine lv_aload hx hb dL_bestWork_0 (lv_at hl 4 rfl) ?_
  refine lv_iconst (v := 0) hx hb dL_bestWork_2 (by decide) ?_
  refine lv_aload_n hx hb dL_bestWork_3 rfl (lv_at hl 0 rfl) ?_
  refine lv_iload_n hx hb dL_bestWork_4 rfl (lv_at hl 1 rfl) ?_
  refine lv_iload_n hx hb dL_bestWork_5 rfl (lv_at hl 2 rfl) ?_
  refine lv_iload_n hx hb dL_bestWork_6 rfl (lv_at hl 3 rfl) ?_
  refine cx_catch (isC := [0]) (isR := []) (wr := []) (hp := []) (z := (0, 12, 15, 13)) (hq := [(0, 12, 19, 45)]) (name := "java/lang/IllegalArgumentException") (own := RL) (rx_V (ci := 14) (q0 := 0) (isC := [0]) (wc := [(a0, .inr (14, [v0, v1, v2, v3, v4, v5, v6]))]) (As := [.int x0, .int x1, .int x2]) (rest := [.int 0, .ref b0]) (n := 3) hx hb hml hown hts hE hS hP hD hA hl.1 (k691_X9_bestWork l hst D cy g x0 x1 x2 a0 (v0) (v1) (v2) (v3) (v4) (v5) (v6) s.heap.size h0 h1 h2) rfl rfl rfl rfl rfl ax_462 rfl rfl ax_463 ⟨Nat.le_of_ble_eq_true rfl, Nat.le_of_ble_eq_true rfl⟩ rfl rfl (Nat.le_of_ble_eq_true rfl) dL_bestWork_7 ⟨(Nat.le_of_ble_eq_true rfl), (Nat.le_of_ble_eq_true rfl)⟩) hP hD hS hA hown hts hE htb rfl rfl rfl rfl (by decide) (fun z hz => by cases hz) (by decide) (by decide) tw_302 tw_303 (fun qx H locs hP hD hS => ?_)
  have hP : va_P D vwCl [] H := hP
  have hD : va_D A [] := hD
  refine lv_astore (lv' := [(5, .ref qx), (0, .ref a0), (1, .int x0), (2, .int x1), (3, .int x2), (4, .ref b0)]) hx hb dL_bestWork_15 hl (Nat.le_of_ble_eq_true rfl) rfl (fun ls hl => ?_)
  refine lv_iconst (v := 1) hx hb dL_bestWork_17 (by decide) ?_
  exact en_z hx hb hr hlk hP hD hS rfl (fun _ => 0) (is := []) rfl rfl (Nat.le_of_ble_eq_true rfl) (Nat.le_of_ble_eq_true rfl) dL_bestWork_18
set_option maxHeartbeats 4000000 in
set_option maxRecDepth 100000 in
theorem k693_X10_bestWork (l : Launch) (D : va_G) (cy : Nat → ClassId) (g : Nat → Nat) (x0 : Int32) (x1 : Int32) (x2 : Int32) (a0 : Nat) (v0 : Value) (v1 : Value) (v2 : Value) (v3 : Value) (v4 : Value) (v5 : Value) (v6 : Value) (v7 : Value) (v8 : Value) (v9 : Value) (v10 : Value) (v11 : Value) (v12 : Value) (v13 : Value) (v14 : Value) (v15 : Value) (v16 : Value) (v17 : Value) (v18 : Value) (v19 : Value) (v20 : Value) (v21 : Value) (v22 : Value) (v23 : Value) (v24 : Value) (v25 : Value) (v26 : Value) (v27 : Value) (sz : Nat) (h0 : ¬ x0 < 1) (h1 : ¬ (100000 : Int32) < x0) (h2 : x1 < 50) : Met l yX10_bestWork [.code yX10_bestWork cX10_bestWork 5 (some .int)] ({ frames := 2, cells := 0, slots := 0, locals := 48 }) (PC D cy g [(a0, .inr (15, [v0, v1, v2, v3, v4, v5, v6, v7, v8, v9, v10, v11, v12, v13, v14, v15, v16, v17, v18, v19, v20, v21, v22, v23, v24, v25, v26, v27]))] sz [.ref a0, .int x0, .int x1, .int x2]) (QI D (-1) (fun ad => [(a0, .inr (15, [.int 1, v1, v2, v3, v4, v5, v6, v7, v8, v9, v10, v11, v12, v13, v14, v15, v16, v17, v18, v19, v20, v21, v22, v23, v24, v25, v26, v27]))]) (va_A [(a0, .inr (15, [v0, v1, v2, v3, v4, v5, v6, v7, v8, v9, v10, v11, v12, v13, v14, v15, v16, v17, v18, v19, v20, v21, v22, v23, v24, v25, v26, v27]))] sz)) 0 0 (va_A [(a0, .inr (15, [v0, v1, v2, v3, v4, v5, v6, v7, v8, v9, v10, v11, v12, v13, v14, v15, v16, v17, v18, v19, v20, v21, v22, v23, v24, v25, v26, v27]))] sz) := by
  refine st_I (by decide) (Nat.le_of_ble_eq_true rfl) ?_
  intro p e s m args below meth c A ls hx hb hr hml hown hlk hnm hsz hP hD hA hE hts hS hl
  have hown : s.vm.findClass RX10 = some m.cls := hown
  have hl : lv_has ls 5 [(0, .ref a0), (1, .int x0), (2, .int x1), (3, .int x2)] := hl
  refine lv_aload_n hx hb dX10_bestWork_0 rfl (lv_at hl 0 rfl) ?_
  refine ca_v (isC := [0]) (isR := []) (wr := []) (rn_V (ci := 15) (q0 := 0) (isC := [0]) (wc := [(a0, .inr (15, [v0, v1, v2, v3, v4, v5, v6, v7, v8, v9, v10, v11, v12, v13, v14, v15, v16, v17, v18, v19, v20, v21, v22, v23, v24, v25, v26, v27]))]) (As := []) (rest := []) (n := 0) hx hb hml hown hts hE hS hP hD hA hl.1 (k20_X10_begins l D cy g a0 (v0) (v1) (v2) (v3) (v4) (v5) (v6) (v7) (v8) (v9) (v10) (v11) (v12) (v13) (v14) (v15) (v16) (v17) (v18) (v19) (v20) (v21) (v22) (v23) (v24) (v25) (v26) (v27) s.heap.size ) rfl rfl rfl rfl rfl ax_37 rfl rfl ax_38 ⟨Nat.le_of_ble_eq_true rfl, Nat.le_of_ble_eq_true rfl⟩ rfl rfl (Nat.le_of_ble_eq_true rfl) dX10_bestWork_1 ⟨(Nat.le_of_ble_eq_true rfl), (Nat.le_of_ble_eq_true rfl)⟩) hP hD hS hA rfl rfl rfl (by decide) (fun ad1 H locs hP hD hS => ?_)
  have hP : va_P D vwCl [(a0, .inr (15, [.int 0, v1, v2, v3, v4, v5, v6, v7, v8, v9, v10, v11, v12, v13, v14, v15, v16, v17, v18, v19, v20, v21, v22, v23, v24, v25, v26, v27]))] H := hP
  have hD : va_D A [(a0, .inr (15, [.int 0, v1, v2, v3, v4, v5, v6, v7, v8, v9, v10, v11, v12, v13, v14, v15, v16, v17, v18, v19, v20, v21, v22, v23, v24, v25, v26, v27]))] := hD
  refine lv_aload_n hx hb dX10_bestWork_4 rfl (lv_at hl 0 rfl) ?_
  refine lv_iload_n hx hb dX10_bestWork_5 rfl (lv_at hl 1 rfl) ?_
  refine lv_iload_n hx hb dX10_bestWork_6 rfl (lv_at hl 2 rfl) ?_
  refine lv_iload_n hx hb dX10_bestWork_7 rfl (lv_at hl 3 rfl) ?_
  refine ca_i (isC := [0]) (isR := []) (wr := []) (rn_V (ci := 15) (q0 := 0) (isC := [0]) (wc := [(a0, .inr (15, [.int 0, v1, v2, v3, v4, v5, v6, v7, v8, v9, v10, v11, v12, v13, v14, v15, v16, v17, v18, v19, v20, v21, v22, v23, v24, v25, v26, v27]))]) (As := [.int x0, .int x1, .int x2]) (rest := []) (n := 3) hx hb hml hown hts hE hS hP hD hA hl.1 (k644_X10_noClaim l D cy g x0 x1 x2 a0 (v1) (v2) (v3) (v4) (v5) (v6) (v7) (v8) (v9) (v10) (v11) (v12) (v13) (v14) (v15) (v16) (v17) (v18) (v19) (v20) (v21) (v22) (v23) (v24) (v25) (v26) (v27) H.size h0 h1 h2) rfl rfl rfl rfl rfl ax_452 rfl rfl ax_453 ⟨Nat.le_of_ble_eq_true rfl, Nat.le_of_ble_eq_true rfl⟩ rfl rfl (Nat.le_of_ble_eq_true rfl) dX10_bestWork_8 ⟨(Nat.le_of_ble_eq_true rfl), (Nat.le_of_ble_eq_true rfl)⟩) hP hD hS hA rfl rfl rfl (by decide) (fun ad8 H locs hP hD hS => ?_)
  have hP : va_P D vwCl [(a0, .inr (15, [.int 1, v1, v2, v3, v4, v5, v6, v7, v8, v9, v10, v11, v12, v13, v14, v15, v16, v17, v18, v19, v20, v21, v22, v23, v24, v25, v26, v27]))] H := hP
  have hD : va_D A [(a0, .inr (15, [.int 1, v1, v2, v3, v4, v5, v6, v7, v8, v9, v10, v11, v12, v13, v14, v15, v16, v17, v18, v19, v20, v21, v22, v23, v24, v25, v26, v27]))] := hD
  refine lv_if_eq (tgt := 16) hx hb dX10_bestWork_11 (by decide) (fun z => absurd z (by decide)) (fun _ => ?_)
  refine lv_iconst (v := (-1)) hx hb dX10_bestWork_14 (by decide) ?_
  exact en_z hx hb hr hlk hP hD hS rfl (fun _ => 0) (is := [0]) rfl rfl (Nat.le_of_ble_eq_true rfl) (Nat.le_of_ble_eq_true rfl) dX10_bestWork_15
set_option maxHeartbeats 4000000 in
set_option maxRecDepth 100000 in
theorem k694_X9_bestWork (l : Launch) (hst : l.stackTraces = false) (D : va_G) (cy : Nat → ClassId) (g : Nat → Nat) (x0 : Int32) (x1 : Int32) (x2 : Int32) (a0 : Nat) (v0 : Value) (v1 : Value) (v2 : Value) (v3 : Value) (v4 : Value) (v5 : Value) (v6 : Value) (sz : Nat) (h0 : ¬ x0 < 1) (h1 : ¬ (100000 : Int32) < x0) (h2 : ¬ x1 < 50) (h3 : (2000 : Int32) < x1) : vx_Met l yX9_bestWork [.code yX9_bestWork cX9_bestWork 5 (some .int)] ({ frames := 7, cells := 1, slots := 6, locals := 105 }) (PC D cy g [(a0, .inr (14, [v0, v1, v2, v3, v4, v5, v6]))] sz [.ref a0, .int x0, .int x1, .int x2]) QN (XE "java/lang/IllegalArgumentException" (va_A [(a0, .inr (14, [v0, v1, v2, v3, v4, v5, v6]))] sz)) 1 6 (va_A [(a0, .inr (14, [v0, v1, v2, v3, v4, v5, v6]))] sz) := by
  refine st_X (by decide) (Nat.le_of_ble_eq_true rfl) ?_
  intro p e s m args below meth c A ls hx hb hr hml hown hlk hnm hsz hP hD hA hE hts hS hl hout
  have hown : s.vm.findClass RX9 = some m.cls := hown
  have hl : lv_has ls 5 [(0, .ref a0), (1, .int x0), (2, .int x1), (3, .int x2)] := hl
  refine lv_aload_n hx hb dX9_bestWork_0 rfl (lv_at hl 0 rfl) ?_
  refine lv_iload_n hx hb dX9_bestWork_1 rfl (lv_at hl 1 rfl) ?_
  refine lv_iload_n hx hb dX9_bestWork_2 rfl (lv_at hl 2 rfl) ?_
  refine lv_iload_n hx hb dX9_bestWork_3 rfl (lv_at hl 3 rfl) ?_
  exact cx_out (isC := []) (rx_V (ci := 14) (q0 := 0) (isC := []) (wc := []) (As := [.int x0, .int x1, .int x2]) (rest := []) (n := 3) hx hb hml hown hts hE hS hP hD hA hl.1 (k646_X9_requireClaim l hst D cy g x0 x1 x2 a0 s.heap.size h0 h1 h2 h3) rfl rfl rfl rfl rfl ax_444 rfl rfl ax_445 ⟨Nat.le_of_ble_eq_true rfl, Nat.le_of_ble_eq_true rfl⟩ rfl rfl (Nat.le_of_ble_eq_true rfl) dX9_bestWork_4 ⟨(Nat.le_of_ble_eq_true rfl), (Nat.le_of_ble_eq_true rfl)⟩) hD hS hA rfl hout hlk (Nat.le_of_ble_eq_true rfl) (Nat.le_of_ble_eq_true rfl)
set_option maxHeartbeats 4000000 in
set_option maxRecDepth 100000 in
theorem k695_L_bestWork (l : Launch) (hst : l.stackTraces = false) (D : va_G) (cy : Nat → ClassId) (g : Nat → Nat) (x0 : Int32) (x1 : Int32) (x2 : Int32) (a0 : Nat) (b0 : Nat) (v0 : Value) (v1 : Value) (v2 : Value) (v3 : Value) (v4 : Value) (v5 : Value) (v6 : Value) (sz : Nat) (h0 : ¬ x0 < 1) (h1 : ¬ (100000 : Int32) < x0) (h2 : ¬ x1 < 50) (h3 : (2000 : Int32) < x1) : Met l yL_bestWork [.codeWith yL_bestWork cL_bestWork 6 (some .int) [(0, 12, 15, 13), (0, 12, 19, 45)]] ({ frames := 8, cells := 1, slots := 6, locals := 129 }) (PC D cy g [(a0, .inr (14, [v0, v1, v2, v3, v4, v5, v6]))] sz [.ref a0, .int x0, .int x1, .int x2, .ref b0]) (QI D 1 (fun ad => []) (va_A [(a0, .inr (14, [v0, v1, v2, v3, v4, v5, v6]))] sz)) 1 6 (va_A [(a0, .inr (14, [v0, v1, v2, v3, v4, v5, v6]))] sz) := by
  refine sh_I (by decide) (Nat.le_of_ble_eq_true rfl) ?_
  intro p e s m args below meth c A ls hx hb hr hml hown hlk hnm hsz hP hD hA hE hts hS hl htb
  have hown : s.vm.findClass RL = some m.cls := hown
  have hl : lv_has ls 6 [(0, .ref a0), (1, .int x0), (2, .int x1), (3, .int x2), (4, .ref b0)] := hl
  refine lv_aload hx hb dL_bestWork_0 (lv_at hl 4 rfl) ?_
  refine lv_iconst (v := 0) hx hb dL_bestWork_2 (by decide) ?_
  refine lv_aload_n hx hb dL_bestWork_3 rfl (lv_at hl 0 rfl) ?_
  refine lv_iload_n hx hb dL_bestWork_4 rfl (lv_at hl 1 rfl) ?_
  refine lv_iload_n hx hb dL_bestWork_5 rfl (lv_at hl 2 rfl) ?_
  refine lv_iload_n hx hb dL_bestWork_6 rfl (lv_at hl 3 rfl) ?_
  refine cx_catch (isC := [0]) (isR := []) (wr := []) (hp := []) (z := (0, 12, 15, 13)) (hq := [(0, 12, 19, 45)]) (name := "java/lang/IllegalArgumentException") (own := RL) (rx_V (ci := 14) (q0 := 0) (isC := [0]) (wc := [(a0, .inr (14, [v0, v1, v2, v3, v4, v5, v6]))]) (As := [.int x0, .int x1, .int x2]) (rest := [.int 0, .ref b0]) (n := 3) hx hb hml hown hts hE hS hP hD hA hl.1 (k694_X9_bestWork l hst D cy g x0 x1 x2 a0 (v0) (v1) (v2) (v3) (v4) (v5) (v6) s.heap.size h0 h1 h2 h3) rfl rfl rfl rfl rfl ax_462 rfl rfl ax_463 ⟨Nat.le_of_ble_eq_true rfl, Nat.le_of_ble_eq_true rfl⟩ rfl rfl (Nat.le_of_ble_eq_true rfl) dL_bestWork_7 ⟨(Nat.le_of_ble_eq_true rfl), (Nat.le_of_ble_eq_true rfl)⟩) hP hD hS hA hown hts hE htb rfl rfl rfl rfl (by decide) (fun z hz => by cases hz) (by decide) (by decide) tw_302 tw_303 (fun qx H locs hP hD hS => ?_)
  have hP : va_P D vwCl [] H := hP
  have hD : va_D A [] := hD
  refine lv_astore (lv' := [(5, .ref qx), (0, .ref a0), (1, .int x0), (2, .int x1), (3, .int x2), (4, .ref b0)]) hx hb dL_bestWork_15 hl (Nat.le_of_ble_eq_true rfl) rfl (fun ls hl => ?_)
  refine lv_iconst (v := 1) hx hb dL_bestWork_17 (by decide) ?_
  exact en_z hx hb hr hlk hP hD hS rfl (fun _ => 0) (is := []) rfl rfl (Nat.le_of_ble_eq_true rfl) (Nat.le_of_ble_eq_true rfl) dL_bestWork_18
set_option maxHeartbeats 4000000 in
set_option maxRecDepth 100000 in
theorem k696_X10_bestWork (l : Launch) (D : va_G) (cy : Nat → ClassId) (g : Nat → Nat) (x0 : Int32) (x1 : Int32) (x2 : Int32) (a0 : Nat) (v0 : Value) (v1 : Value) (v2 : Value) (v3 : Value) (v4 : Value) (v5 : Value) (v6 : Value) (v7 : Value) (v8 : Value) (v9 : Value) (v10 : Value) (v11 : Value) (v12 : Value) (v13 : Value) (v14 : Value) (v15 : Value) (v16 : Value) (v17 : Value) (v18 : Value) (v19 : Value) (v20 : Value) (v21 : Value) (v22 : Value) (v23 : Value) (v24 : Value) (v25 : Value) (v26 : Value) (v27 : Value) (sz : Nat) (h0 : ¬ x0 < 1) (h1 : ¬ (100000 : Int32) < x0) (h2 : ¬ x1 < 50) (h3 : (2000 : Int32) < x1) : Met l yX10_bestWork [.code yX10_bestWork cX10_bestWork 5 (some .int)] ({ frames := 2, cells := 0, slots := 0, locals := 48 }) (PC D cy g [(a0, .inr (15, [v0, v1, v2, v3, v4, v5, v6, v7, v8, v9, v10, v11, v12, v13, v14, v15, v16, v17, v18, v19, v20, v21, v22, v23, v24, v25, v26, v27]))] sz [.ref a0, .int x0, .int x1, .int x2]) (QI D (-1) (fun ad => [(a0, .inr (15, [.int 1, v1, v2, v3, v4, v5, v6, v7, v8, v9, v10, v11, v12, v13, v14, v15, v16, v17, v18, v19, v20, v21, v22, v23, v24, v25, v26, v27]))]) (va_A [(a0, .inr (15, [v0, v1, v2, v3, v4, v5, v6, v7, v8, v9, v10, v11, v12, v13, v14, v15, v16, v17, v18, v19, v20, v21, v22, v23, v24, v25, v26, v27]))] sz)) 0 0 (va_A [(a0, .inr (15, [v0, v1, v2, v3, v4, v5, v6, v7, v8, v9, v10, v11, v12, v13, v14, v15, v16, v17, v18, v19, v20, v21, v22, v23, v24, v25, v26, v27]))] sz) := by
  refine st_I (by decide) (Nat.le_of_ble_eq_true rfl) ?_
  intro p e s m args below meth c A ls hx hb hr hml hown hlk hnm hsz hP hD hA hE hts hS hl
  have hown : s.vm.findClass RX10 = some m.cls := hown
  have hl : lv_has ls 5 [(0, .ref a0), (1, .int x0), (2, .int x1), (3, .int x2)] := hl
  refine lv_aload_n hx hb dX10_bestWork_0 rfl (lv_at hl 0 rfl) ?_
  refine ca_v (isC := [0]) (isR := []) (wr := []) (rn_V (ci := 15) (q0 := 0) (isC := [0]) (wc := [(a0, .inr (15, [v0, v1, v2, v3, v4, v5, v6, v7, v8, v9, v10, v11, v12, v13, v14, v15, v16, v17, v18, v19, v20, v21, v22, v23, v24, v25, v26, v27]))]) (As := []) (rest := []) (n := 0) hx hb hml hown hts hE hS hP hD hA hl.1 (k20_X10_begins l D cy g a0 (v0) (v1) (v2) (v3) (v4) (v5) (v6) (v7) (v8) (v9) (v10) (v11) (v12) (v13) (v14) (v15) (v16) (v17) (v18) (v19) (v20) (v21) (v22) (v23) (v24) (v25) (v26) (v27) s.heap.size ) rfl rfl rfl rfl rfl ax_37 rfl rfl ax_38 ⟨Nat.le_of_ble_eq_true rfl, Nat.le_of_ble_eq_true rfl⟩ rfl rfl (Nat.le_of_ble_eq_true rfl) dX10_bestWork_1 ⟨(Nat.le_of_ble_eq_true rfl), (Nat.le_of_ble_eq_true rfl)⟩) hP hD hS hA rfl rfl rfl (by decide) (fun ad1 H locs hP hD hS => ?_)
  have hP : va_P D vwCl [(a0, .inr (15, [.int 0, v1, v2, v3, v4, v5, v6, v7, v8, v9, v10, v11, v12, v13, v14, v15, v16, v17, v18, v19, v20, v21, v22, v23, v24, v25, v26, v27]))] H := hP
  have hD : va_D A [(a0, .inr (15, [.int 0, v1, v2, v3, v4, v5, v6, v7, v8, v9, v10, v11, v12, v13, v14, v15, v16, v17, v18, v19, v20, v21, v22, v23, v24, v25, v26, v27]))] := hD
  refine lv_aload_n hx hb dX10_bestWork_4 rfl (lv_at hl 0 rfl) ?_
  refine lv_iload_n hx hb dX10_bestWork_5 rfl (lv_at hl 1 rfl) ?_
  refine lv_iload_n hx hb dX10_bestWork_6 rfl (lv_at hl 2 rfl) ?_
  refine lv_iload_n hx hb dX10_bestWork_7 rfl (lv_at hl 3 rfl) ?_
  refine ca_i (isC := [0]) (isR := []) (wr := []) (rn_V (ci := 15) (q0 := 0) (isC := [0]) (wc := [(a0, .inr (15, [.int 0, v1, v2, v3, v4, v5, v6, v7, v8, v9, v10, v11, v12, v13, v14, v15, v16, v17, v18, v19, v20, v21, v22, v23, v24, v25, v26, v27]))]) (As := [.int x0, .int x1, .int x2]) (rest := []) (n := 3) hx hb hml hown hts hE hS hP hD hA hl.1 (k649_X10_noClaim l D cy g x0 x1 x2 a0 (v1) (v2) (v3) (v4) (v5) (v6) (v7) (v8) (v9) (v10) (v11) (v12) (v13) (v14) (v15) (v16) (v17) (v18) (v19) (v20) (v21) (v22) (v23) (v24) (v25) (v26) (v27) H.size h0 h1 h2 h3) rfl rfl rfl rfl rfl ax_452 rfl rfl ax_453 ⟨Nat.le_of_ble_eq_true rfl, Nat.le_of_ble_eq_true rfl⟩ rfl rfl (Nat.le_of_ble_eq_true rfl) dX10_bestWork_8 ⟨(Nat.le_of_ble_eq_true rfl), (Nat.le_of_ble_eq_true rfl)⟩) hP hD hS hA rfl rfl rfl (by decide) (fun ad8 H locs hP hD hS => ?_)
  have hP : va_P D vwCl [(a0, .inr (15, [.int 1, v1, v2, v3, v4, v5, v6, v7, v8, v9, v10, v11, v12, v13, v14, v15, v16, v17, v18, v19, v20, v21, v22, v23, v24, v25, v26, v27]))] H := hP
  have hD : va_D A [(a0, .inr (15, [.int 1, v1, v2, v3, v4, v5, v6, v7, v8, v9, v10, v11, v12, v13, v14, v15, v16, v17, v18, v19, v20, v21, v22, v23, v24, v25, v26, v27]))] := hD
  refine lv_if_eq (tgt := 16) hx hb dX10_bestWork_11 (by decide) (fun z => absurd z (by decide)) (fun _ => ?_)
  refine lv_iconst (v := (-1)) hx hb dX10_bestWork_14 (by decide) ?_
  exact en_z hx hb hr hlk hP hD hS rfl (fun _ => 0) (is := [0]) rfl rfl (Nat.le_of_ble_eq_true rfl) (Nat.le_of_ble_eq_true rfl) dX10_bestWork_15
set_option maxHeartbeats 4000000 in
set_option maxRecDepth 100000 in
theorem k697_X9_bestWork (l : Launch) (hst : l.stackTraces = false) (D : va_G) (cy : Nat → ClassId) (g : Nat → Nat) (x0 : Int32) (x1 : Int32) (x2 : Int32) (a0 : Nat) (v0 : Value) (v1 : Value) (v2 : Value) (v3 : Value) (v4 : Value) (v5 : Value) (v6 : Value) (sz : Nat) (h0 : ¬ x0 < 1) (h1 : ¬ (100000 : Int32) < x0) (h2 : ¬ x1 < 50) (h3 : ¬ (2000 : Int32) < x1) (h4 : x2 < 50) : vx_Met l yX9_bestWork [.code yX9_bestWork cX9_bestWork 5 (some .int)] ({ frames := 7, cells := 1, slots := 6, locals := 105 }) (PC D cy g [(a0, .inr (14, [v0, v1, v2, v3, v4, v5, v6]))] sz [.ref a0, .int x0, .int x1, .int x2]) QN (XE "java/lang/IllegalArgumentException" (va_A [(a0, .inr (14, [v0, v1, v2, v3, v4, v5, v6]))] sz)) 1 6 (va_A [(a0, .inr (14, [v0, v1, v2, v3, v4, v5, v6]))] sz) := by
  refine st_X (by decide) (Nat.le_of_ble_eq_true rfl) ?_
  intro p e s m args below meth c A ls hx hb hr hml hown hlk hnm hsz hP hD hA hE hts hS hl hout
  have hown : s.vm.findClass RX9 = some m.cls := hown
  have hl : lv_has ls 5 [(0, .ref a0), (1, .int x0), (2, .int x1), (3, .int x2)] := hl
  refine lv_aload_n hx hb dX9_bestWork_0 rfl (lv_at hl 0 rfl) ?_
  refine lv_iload_n hx hb dX9_bestWork_1 rfl (lv_at hl 1 rfl) ?_
  refine lv_iload_n hx hb dX9_bestWork_2 rfl (lv_at hl 2 rfl) ?_
  refine lv_iload_n hx hb dX9_bestWork_3 rfl (lv_at hl 3 rfl) ?_
  exact cx_out (isC := []) (rx_V (ci := 14) (q0 := 0) (isC := []) (wc := []) (As := [.int x0, .int x1, .int x2]) (rest := []) (n := 3) hx hb hml hown hts hE hS hP hD hA hl.1 (k651_X9_requireClaim l hst D cy g x0 x1 x2 a0 s.heap.size h0 h1 h2 h3 h4) rfl rfl rfl rfl rfl ax_444 rfl rfl ax_445 ⟨Nat.le_of_ble_eq_true rfl, Nat.le_of_ble_eq_true rfl⟩ rfl rfl (Nat.le_of_ble_eq_true rfl) dX9_bestWork_4 ⟨(Nat.le_of_ble_eq_true rfl), (Nat.le_of_ble_eq_true rfl)⟩) hD hS hA rfl hout hlk (Nat.le_of_ble_eq_true rfl) (Nat.le_of_ble_eq_true rfl)
set_option maxHeartbeats 4000000 in
set_option maxRecDepth 100000 in
theorem k698_L_bestWork (l : Launch) (hst : l.stackTraces = false) (D : va_G) (cy : Nat → ClassId) (g : Nat → Nat) (x0 : Int32) (x1 : Int32) (x2 : Int32) (a0 : Nat) (b0 : Nat) (v0 : Value) (v1 : Value) (v2 : Value) (v3 : Value) (v4 : Value) (v5 : Value) (v6 : Value) (sz : Nat) (h0 : ¬ x0 < 1) (h1 : ¬ (100000 : Int32) < x0) (h2 : ¬ x1 < 50) (h3 : ¬ (2000 : Int32) < x1) (h4 : x2 < 50) : Met l yL_bestWork [.codeWith yL_bestWork cL_bestWork 6 (some .int) [(0, 12, 15, 13), (0, 12, 19, 45)]] ({ frames := 8, cells := 1, slots := 6, locals := 129 }) (PC D cy g [(a0, .inr (14, [v0, v1, v2, v3, v4, v5, v6]))] sz [.ref a0, .int x0, .int x1, .int x2, .ref b0]) (QI D 1 (fun ad => []) (va_A [(a0, .inr (14, [v0, v1, v2, v3, v4, v5, v6]))] sz)) 1 6 (va_A [(a0, .inr (14, [v0, v1, v2, v3, v4, v5, v6]))] sz) := by
  refine sh_I (by decide) (Nat.le_of_ble_eq_true rfl) ?_
  intro p e s m args below meth c A ls hx hb hr hml hown hlk hnm hsz hP hD hA hE hts hS hl htb
  have hown : s.vm.findClass RL = some m.cls := hown
  have hl : lv_has ls 6 [(0, .ref a0), (1, .int x0), (2, .int x1), (3, .int x2), (4, .ref b0)] := hl
  refine lv_aload hx hb dL_bestWork_0 (lv_at hl 4 rfl) ?_
  refine lv_iconst (v := 0) hx hb dL_bestWork_2 (by decide) ?_
  refine lv_aload_n hx hb dL_bestWork_3 rfl (lv_at hl 0 rfl) ?_
  refine lv_iload_n hx hb dL_bestWork_4 rfl (lv_at hl 1 rfl) ?_
  refine lv_iload_n hx hb dL_bestWork_5 rfl (lv_at hl 2 rfl) ?_
  refine lv_iload_n hx hb dL_bestWork_6 rfl (lv_at hl 3 rfl) ?_
  refine cx_catch (isC := [0]) (isR := []) (wr := []) (hp := []) (z := (0, 12, 15, 13)) (hq := [(0, 12, 19, 45)]) (name := "java/lang/IllegalArgumentException") (own := RL) (rx_V (ci := 14) (q0 := 0) (isC := [0]) (wc := [(a0, .inr (14, [v0, v1, v2, v3, v4, v5, v6]))]) (As := [.int x0, .int x1, .int x2]) (rest := [.int 0, .ref b0]) (n := 3) hx hb hml hown hts hE hS hP hD hA hl.1 (k697_X9_bestWork l hst D cy g x0 x1 x2 a0 (v0) (v1) (v2) (v3) (v4) (v5) (v6) s.heap.size h0 h1 h2 h3 h4) rfl rfl rfl rfl rfl ax_462 rfl rfl ax_463 ⟨Nat.le_of_ble_eq_true rfl, Nat.le_of_ble_eq_true rfl⟩ rfl rfl (Nat.le_of_ble_eq_true rfl) dL_bestWork_7 ⟨(Nat.le_of_ble_eq_true rfl), (Nat.le_of_ble_eq_true rfl)⟩) hP hD hS hA hown hts hE htb rfl rfl rfl rfl (by decide) (fun z hz => by cases hz) (by decide) (by decide) tw_302 tw_303 (fun qx H locs hP hD hS => ?_)
  have hP : va_P D vwCl [] H := hP
  have hD : va_D A [] := hD
  refine lv_astore (lv' := [(5, .ref qx), (0, .ref a0), (1, .int x0), (2, .int x1), (3, .int x2), (4, .ref b0)]) hx hb dL_bestWork_15 hl (Nat.le_of_ble_eq_true rfl) rfl (fun ls hl => ?_)
  refine lv_iconst (v := 1) hx hb dL_bestWork_17 (by decide) ?_
  exact en_z hx hb hr hlk hP hD hS rfl (fun _ => 0) (is := []) rfl rfl (Nat.le_of_ble_eq_true rfl) (Nat.le_of_ble_eq_true rfl) dL_bestWork_18
set_option maxHeartbeats 4000000 in
set_option maxRecDepth 100000 in
theorem k699_X10_bestWork (l : Launch) (D : va_G) (cy : Nat → ClassId) (g : Nat → Nat) (x0 : Int32) (x1 : Int32) (x2 : Int32) (a0 : Nat) (v0 : Value) (v1 : Value) (v2 : Value) (v3 : Value) (v4 : Value) (v5 : Value) (v6 : Value) (v7 : Value) (v8 : Value) (v9 : Value) (v10 : Value) (v11 : Value) (v12 : Value) (v13 : Value) (v14 : Value) (v15 : Value) (v16 : Value) (v17 : Value) (v18 : Value) (v19 : Value) (v20 : Value) (v21 : Value) (v22 : Value) (v23 : Value) (v24 : Value) (v25 : Value) (v26 : Value) (v27 : Value) (sz : Nat) (h0 : ¬ x0 < 1) (h1 : ¬ (100000 : Int32) < x0) (h2 : ¬ x1 < 50) (h3 : ¬ (2000 : Int32) < x1) (h4 : x2 < 50) : Met l yX10_bestWork [.code yX10_bestWork cX10_bestWork 5 (some .int)] ({ frames := 2, cells := 0, slots := 0, locals := 48 }) (PC D cy g [(a0, .inr (15, [v0, v1, v2, v3, v4, v5, v6, v7, v8, v9, v10, v11, v12, v13, v14, v15, v16, v17, v18, v19, v20, v21, v22, v23, v24, v25, v26, v27]))] sz [.ref a0, .int x0, .int x1, .int x2]) (QI D (-1) (fun ad => [(a0, .inr (15, [.int 1, v1, v2, v3, v4, v5, v6, v7, v8, v9, v10, v11, v12, v13, v14, v15, v16, v17, v18, v19, v20, v21, v22, v23, v24, v25, v26, v27]))]) (va_A [(a0, .inr (15, [v0, v1, v2, v3, v4, v5, v6, v7, v8, v9, v10, v11, v12, v13, v14, v15, v16, v17, v18, v19, v20, v21, v22, v23, v24, v25, v26, v27]))] sz)) 0 0 (va_A [(a0, .inr (15, [v0, v1, v2, v3, v4, v5, v6, v7, v8, v9, v10, v11, v12, v13, v14, v15, v16, v17, v18, v19, v20, v21, v22, v23, v24, v25, v26, v27]))] sz) := by
  refine st_I (by decide) (Nat.le_of_ble_eq_true rfl) ?_
  intro p e s m args below meth c A ls hx hb hr hml hown hlk hnm hsz hP hD hA hE hts hS hl
  have hown : s.vm.findClass RX10 = some m.cls := hown
  have hl : lv_has ls 5 [(0, .ref a0), (1, .int x0), (2, .int x1), (3, .int x2)] := hl
  refine lv_aload_n hx hb dX10_bestWork_0 rfl (lv_at hl 0 rfl) ?_
  refine ca_v (isC := [0]) (isR := []) (wr := []) (rn_V (ci := 15) (q0 := 0) (isC := [0]) (wc := [(a0, .inr (15, [v0, v1, v2, v3, v4, v5, v6, v7, v8, v9, v10, v11, v12, v13, v14, v15, v16, v17, v18, v19, v20, v21, v22, v23, v24, v25, v26, v27]))]) (As := []) (rest := []) (n := 0) hx hb hml hown hts hE hS hP hD hA hl.1 (k20_X10_begins l D cy g a0 (v0) (v1) (v2) (v3) (v4) (v5) (v6) (v7) (v8) (v9) (v10) (v11) (v12) (v13) (v14) (v15) (v16) (v17) (v18) (v19) (v20) (v21) (v22) (v23) (v24) (v25) (v26) (v27) s.heap.size ) rfl rfl rfl rfl rfl ax_37 rfl rfl ax_38 ⟨Nat.le_of_ble_eq_true rfl, Nat.le_of_ble_eq_true rfl⟩ rfl rfl (Nat.le_of_ble_eq_true rfl) dX10_bestWork_1 ⟨(Nat.le_of_ble_eq_true rfl), (Nat.le_of_ble_eq_true rfl)⟩) hP hD hS hA rfl rfl rfl (by decide) (fun ad1 H locs hP hD hS => ?_)
  have hP : va_P D vwCl [(a0, .inr (15, [.int 0, v1, v2, v3, v4, v5, v6, v7, v8, v9, v10, v11, v12, v13, v14, v15, v16, v17, v18, v19, v20, v21, v22, v23, v24, v25, v26, v27]))] H := hP
  have hD : va_D A [(a0, .inr (15, [.int 0, v1, v2, v3, v4, v5, v6, v7, v8, v9, v10, v11, v12, v13, v14, v15, v16, v17, v18, v19, v20, v21, v22, v23, v24, v25, v26, v27]))] := hD
  refine lv_aload_n hx hb dX10_bestWork_4 rfl (lv_at hl 0 rfl) ?_
  refine lv_iload_n hx hb dX10_bestWork_5 rfl (lv_at hl 1 rfl) ?_
  refine lv_iload_n hx hb dX10_bestWork_6 rfl (lv_at hl 2 rfl) ?_
  refine lv_iload_n hx hb dX10_bestWork_7 rfl (lv_at hl 3 rfl) ?_
  refine ca_i (isC := [0]) (isR := []) (wr := []) (rn_V (ci := 15) (q0 := 0) (isC := [0]) (wc := [(a0, .inr (15, [.int 0, v1, v2, v3, v4, v5, v6, v7, v8, v9, v10, v11, v12, v13, v14, v15, v16, v17, v18, v19, v20, v21, v22, v23, v24, v25, v26, v27]))]) (As := [.int x0, .int x1, .int x2]) (rest := []) (n := 3) hx hb hml hown hts hE hS hP hD hA hl.1 (k654_X10_noClaim l D cy g x0 x1 x2 a0 (v1) (v2) (v3) (v4) (v5) (v6) (v7) (v8) (v9) (v10) (v11) (v12) (v13) (v14) (v15) (v16) (v17) (v18) (v19) (v20) (v21) (v22) (v23) (v24) (v25) (v26) (v27) H.size h0 h1 h2 h3 h4) rfl rfl rfl rfl rfl ax_452 rfl rfl ax_453 ⟨Nat.le_of_ble_eq_true rfl, Nat.le_of_ble_eq_true rfl⟩ rfl rfl (Nat.le_of_ble_eq_true rfl) dX10_bestWork_8 ⟨(Nat.le_of_ble_eq_true rfl), (Nat.le_of_ble_eq_true rfl)⟩) hP hD hS hA rfl rfl rfl (by decide) (fun ad8 H locs hP hD hS => ?_)
  have hP : va_P D vwCl [(a0, .inr (15, [.int 1, v1, v2, v3, v4, v5, v6, v7, v8, v9, v10, v11, v12, v13, v14, v15, v16, v17, v18, v19, v20, v21, v22, v23, v24, v25, v26, v27]))] H := hP
  have hD : va_D A [(a0, .inr (15, [.int 1, v1, v2, v3, v4, v5, v6, v7, v8, v9, v10, v11, v12, v13, v14, v15, v16, v17, v18, v19, v20, v21, v22, v23, v24, v25, v26, v27]))] := hD
  refine lv_if_eq (tgt := 16) hx hb dX10_bestWork_11 (by decide) (fun z => absurd z (by decide)) (fun _ => ?_)
  refine lv_iconst (v := (-1)) hx hb dX10_bestWork_14 (by decide) ?_
  exact en_z hx hb hr hlk hP hD hS rfl (fun _ => 0) (is := [0]) rfl rfl (Nat.le_of_ble_eq_true rfl) (Nat.le_of_ble_eq_true rfl) dX10_bestWork_15
set_option maxHeartbeats 4000000 in
set_option maxRecDepth 100000 in
theorem k700_X9_bestWork (l : Launch) (hst : l.stackTraces = false) (D : va_G) (cy : Nat → ClassId) (g : Nat → Nat) (x0 : Int32) (x1 : Int32) (x2 : Int32) (a0 : Nat) (v0 : Value) (v1 : Value) (v2 : Value) (v3 : Value) (v4 : Value) (v5 : Value) (v6 : Value) (sz : Nat) (h0 : ¬ x0 < 1) (h1 : ¬ (100000 : Int32) < x0) (h2 : ¬ x1 < 50) (h3 : ¬ (2000 : Int32) < x1) (h4 : ¬ x2 < 50) (h5 : (2000 : Int32) < x2) : vx_Met l yX9_bestWork [.code yX9_bestWork cX9_bestWork 5 (some .int)] ({ frames := 7, cells := 1, slots := 6, locals := 105 }) (PC D cy g [(a0, .inr (14, [v0, v1, v2, v3, v4, v5, v6]))] sz [.ref a0, .int x0, .int x1, .int x2]) QN (XE "java/lang/IllegalArgumentException" (va_A [(a0, .inr (14, [v0, v1, v2, v3, v4, v5, v6]))] sz)) 1 6 (va_A [(a0, .inr (14, [v0, v1, v2, v3, v4, v5, v6]))] sz) := by
  refine st_X (by decide) (Nat.le_of_ble_eq_true rfl) ?_
  intro p e s m args below meth c A ls hx hb hr hml hown hlk hnm hsz hP hD hA hE hts hS hl hout
  have hown : s.vm.findClass RX9 = some m.cls := hown
  have hl : lv_has ls 5 [(0, .ref a0), (1, .int x0), (2, .int x1), (3, .int x2)] := hl
  refine lv_aload_n hx hb dX9_bestWork_0 rfl (lv_at hl 0 rfl) ?_
  refine lv_iload_n hx hb dX9_bestWork_1 rfl (lv_at hl 1 rfl) ?_
  refine lv_iload_n hx hb dX9_bestWork_2 rfl (lv_at hl 2 rfl) ?_
  refine lv_iload_n hx hb dX9_bestWork_3 rfl (lv_at hl 3 rfl) ?_
  exact cx_out (isC := []) (rx_V (ci := 14) (q0 := 0) (isC := []) (wc := []) (As := [.int x0, .int x1, .int x2]) (rest := []) (n := 3) hx hb hml hown hts hE hS hP hD hA hl.1 (k656_X9_requireClaim l hst D cy g x0 x1 x2 a0 s.heap.size h0 h1 h2 h3 h4 h5) rfl rfl rfl rfl rfl ax_444 rfl rfl ax_445 ⟨Nat.le_of_ble_eq_true rfl, Nat.le_of_ble_eq_true rfl⟩ rfl rfl (Nat.le_of_ble_eq_true rfl) dX9_bestWork_4 ⟨(Nat.le_of_ble_eq_true rfl), (Nat.le_of_ble_eq_true rfl)⟩) hD hS hA rfl hout hlk (Nat.le_of_ble_eq_true rfl) (Nat.le_of_ble_eq_true rfl)
set_option maxHeartbeats 4000000 in
set_option maxRecDepth 100000 in
theorem k701_L_bestWork (l : Launch) (hst : l.stackTraces = false) (D : va_G) (cy : Nat → ClassId) (g : Nat → Nat) (x0 : Int32) (x1 : Int32) (x2 : Int32) (a0 : Nat) (b0 : Nat) (v0 : Value) (v1 : Value) (v2 : Value) (v3 : Value) (v4 : Value) (v5 : Value) (v6 : Value) (sz : Nat) (h0 : ¬ x0 < 1) (h1 : ¬ (100000 : Int32) < x0) (h2 : ¬ x1 < 50) (h3 : ¬ (2000 : Int32) < x1) (h4 : ¬ x2 < 50) (h5 : (2000 : Int32) < x2) : Met l yL_bestWork [.codeWith yL_bestWork cL_bestWork 6 (some .int) [(0, 12, 15, 13), (0, 12, 19, 45)]] ({ frames := 8, cells := 1, slots := 6, locals := 129 }) (PC D cy g [(a0, .inr (14, [v0, v1, v2, v3, v4, v5, v6]))] sz [.ref a0, .int x0, .int x1, .int x2, .ref b0]) (QI D 1 (fun ad => []) (va_A [(a0, .inr (14, [v0, v1, v2, v3, v4, v5, v6]))] sz)) 1 6 (va_A [(a0, .inr (14, [v0, v1, v2, v3, v4, v5, v6]))] sz) := by
  refine sh_I (by decide) (Nat.le_of_ble_eq_true rfl) ?_
  intro p e s m args below meth c A ls hx hb hr hml hown hlk hnm hsz hP hD hA hE hts hS hl htb
  have hown : s.vm.findClass RL = some m.cls := hown
  have hl : lv_has ls 6 [(0, .ref a0), (1, .int x0), (2, .int x1), (3, .int x2), (4, .ref b0)] := hl
  refine lv_aload hx hb dL_bestWork_0 (lv_at hl 4 rfl) ?_
  refine lv_iconst (v := 0) hx hb dL_bestWork_2 (by decide) ?_
  refine lv_aload_n hx hb dL_bestWork_3 rfl (lv_at hl 0 rfl) ?_
  refine lv_iload_n hx hb dL_bestWork_4 rfl (lv_at hl 1 rfl) ?_
  refine lv_iload_n hx hb dL_bestWork_5 rfl (lv_at hl 2 rfl) ?_
  refine lv_iload_n hx hb dL_bestWork_6 rfl (lv_at hl 3 rfl) ?_
  refine cx_catch (isC := [0]) (isR := []) (wr := []) (hp := []) (z := (0, 12, 15, 13)) (hq := [(0, 12, 19, 45)]) (name := "java/lang/IllegalArgumentException") (own := RL) (rx_V (ci := 14) (q0 := 0) (isC := [0]) (wc := [(a0, .inr (14, [v0, v1, v2, v3, v4, v5, v6]))]) (As := [.int x0, .int x1, .int x2]) (rest := [.int 0, .ref b0]) (n := 3) hx hb hml hown hts hE hS hP hD hA hl.1 (k700_X9_bestWork l hst D cy g x0 x1 x2 a0 (v0) (v1) (v2) (v3) (v4) (v5) (v6) s.heap.size h0 h1 h2 h3 h4 h5) rfl rfl rfl rfl rfl ax_462 rfl rfl ax_463 ⟨Nat.le_of_ble_eq_true rfl, Nat.le_of_ble_eq_true rfl⟩ rfl rfl (Nat.le_of_ble_eq_true rfl) dL_bestWork_7 ⟨(Nat.le_of_ble_eq_true rfl), (Nat.le_of_ble_eq_true rfl)⟩) hP hD hS hA hown hts hE htb rfl rfl rfl rfl (by decide) (fun z hz => by cases hz) (by decide) (by decide) tw_302 tw_303 (fun qx H locs hP hD hS => ?_)
  have hP : va_P D vwCl [] H := hP
  have hD : va_D A [] := hD
  refine lv_astore (lv' := [(5, .ref qx), (0, .ref a0), (1, .int x0), (2, .int x1), (3, .int x2), (4, .ref b0)]) hx hb dL_bestWork_15 hl (Nat.le_of_ble_eq_true rfl) rfl (fun ls hl => ?_)
  refine lv_iconst (v := 1) hx hb dL_bestWork_17 (by decide) ?_
  exact en_z hx hb hr hlk hP hD hS rfl (fun _ => 0) (is := []) rfl rfl (Nat.le_of_ble_eq_true rfl) (Nat.le_of_ble_eq_true rfl) dL_bestWork_18
set_option maxHeartbeats 4000000 in
set_option maxRecDepth 100000 in
theorem k702_X10_bestWork (l : Launch) (D : va_G) (cy : Nat → ClassId) (g : Nat → Nat) (x0 : Int32) (x1 : Int32) (x2 : Int32) (a0 : Nat) (v0 : Value) (v1 : Value) (v2 : Value) (v3 : Value) (v4 : Value) (v5 : Value) (v6 : Value) (v7 : Value) (v8 : Value) (v9 : Value) (v10 : Value) (v11 : Value) (v12 : Value) (v13 : Value) (v14 : Value) (v15 : Value) (v16 : Value) (v17 : Value) (v18 : Value) (v19 : Value) (v20 : Value) (v21 : Value) (v22 : Value) (v23 : Value) (v24 : Value) (v25 : Value) (v26 : Value) (v27 : Value) (sz : Nat) (h0 : ¬ x0 < 1) (h1 : ¬ (100000 : Int32) < x0) (h2 : ¬ x1 < 50) (h3 : ¬ (2000 : Int32) < x1) (h4 : ¬ x2 < 50) (h5 : (2000 : Int32) < x2) : Met l yX10_bestWork [.code yX10_bestWork cX10_bestWork 5 (some .int)] ({ frames := 2, cells := 0, slots := 0, locals := 48 }) (PC D cy g [(a0, .inr (15, [v0, v1, v2, v3, v4, v5, v6, v7, v8, v9, v10, v11, v12, v13, v14, v15, v16, v17, v18, v19, v20, v21, v22, v23, v24, v25, v26, v27]))] sz [.ref a0, .int x0, .int x1, .int x2]) (QI D (-1) (fun ad => [(a0, .inr (15, [.int 1, v1, v2, v3, v4, v5, v6, v7, v8, v9, v10, v11, v12, v13, v14, v15, v16, v17, v18, v19, v20, v21, v22, v23, v24, v25, v26, v27]))]) (va_A [(a0, .inr (15, [v0, v1, v2, v3, v4, v5, v6, v7, v8, v9, v10, v11, v12, v13, v14, v15, v16, v17, v18, v19, v20, v21, v22, v23, v24, v25, v26, v27]))] sz)) 0 0 (va_A [(a0, .inr (15, [v0, v1, v2, v3, v4, v5, v6, v7, v8, v9, v10, v11, v12, v13, v14, v15, v16, v17, v18, v19, v20, v21, v22, v23, v24, v25, v26, v27]))] sz) := by
  refine st_I (by decide) (Nat.le_of_ble_eq_true rfl) ?_
  intro p e s m args below meth c A ls hx hb hr hml hown hlk hnm hsz hP hD hA hE hts hS hl
  have hown : s.vm.findClass RX10 = some m.cls := hown
  have hl : lv_has ls 5 [(0, .ref a0), (1, .int x0), (2, .int x1), (3, .int x2)] := hl
  refine lv_aload_n hx hb dX10_bestWork_0 rfl (lv_at hl 0 rfl) ?_
  refine ca_v (isC := [0]) (isR := []) (wr := []) (rn_V (ci := 15) (q0 := 0) (isC := [0]) (wc := [(a0, .inr (15, [v0, v1, v2, v3, v4, v5, v6, v7, v8, v9, v10, v11, v12, v13, v14, v15, v16, v17, v18, v19, v20, v21, v22, v23, v24, v25, v26, v27]))]) (As := []) (rest := []) (n := 0) hx hb hml hown hts hE hS hP hD hA hl.1 (k20_X10_begins l D cy g a0 (v0) (v1) (v2) (v3) (v4) (v5) (v6) (v7) (v8) (v9) (v10) (v11) (v12) (v13) (v14) (v15) (v16) (v17) (v18) (v19) (v20) (v21) (v22) (v23) (v24) (v25) (v26) (v27) s.heap.size ) rfl rfl rfl rfl rfl ax_37 rfl rfl ax_38 ⟨Nat.le_of_ble_eq_true rfl, Nat.le_of_ble_eq_true rfl⟩ rfl rfl (Nat.le_of_ble_eq_true rfl) dX10_bestWork_1 ⟨(Nat.le_of_ble_eq_true rfl), (Nat.le_of_ble_eq_true rfl)⟩) hP hD hS hA rfl rfl rfl (by decide) (fun ad1 H locs hP hD hS => ?_)
  have hP : va_P D vwCl [(a0, .inr (15, [.int 0, v1, v2, v3, v4, v5, v6, v7, v8, v9, v10, v11, v12, v13, v14, v15, v16, v17, v18, v19, v20, v21, v22, v23, v24, v25, v26, v27]))] H := hP
  have hD : va_D A [(a0, .inr (15, [.int 0, v1, v2, v3, v4, v5, v6, v7, v8, v9, v10, v11, v12, v13, v14, v15, v16, v17, v18, v19, v20, v21, v22, v23, v24, v25, v26, v27]))] := hD
  refine lv_aload_n hx hb dX10_bestWork_4 rfl (lv_at hl 0 rfl) ?_
  refine lv_iload_n hx hb dX10_bestWork_5 rfl (lv_at hl 1 rfl) ?_
  refine lv_iload_n hx hb dX10_bestWork_6 rfl (lv_at hl 2 rfl) ?_
  refine lv_iload_n hx hb dX10_bestWork_7 rfl (lv_at hl 3 rfl) ?_
  refine ca_i (isC := [0]) (isR := []) (wr := []) (rn_V (ci := 15) (q0 := 0) (isC := [0]) (wc := [(a0, .inr (15, [.int 0, v1, v2, v3, v4, v5, v6, v7, v8, v9, v10, v11, v12, v13, v14, v15, v16, v17, v18, v19, v20, v21, v22, v23, v24, v25, v26, v27]))]) (As := [.int x0, .int x1, .int x2]) (rest := []) (n := 3) hx hb hml hown hts hE hS hP hD hA hl.1 (k659_X10_noClaim l D cy g x0 x1 x2 a0 (v1) (v2) (v3) (v4) (v5) (v6) (v7) (v8) (v9) (v10) (v11) (v12) (v13) (v14) (v15) (v16) (v17) (v18) (v19) (v20) (v21) (v22) (v23) (v24) (v25) (v26) (v27) H.size h0 h1 h2 h3 h4 h5) rfl rfl rfl rfl rfl ax_452 rfl rfl ax_453 ⟨Nat.le_of_ble_eq_true rfl, Nat.le_of_ble_eq_true rfl⟩ rfl rfl (Nat.le_of_ble_eq_true rfl) dX10_bestWork_8 ⟨(Nat.le_of_ble_eq_true rfl), (Nat.le_of_ble_eq_true rfl)⟩) hP hD hS hA rfl rfl rfl (by decide) (fun ad8 H locs hP hD hS => ?_)
  have hP : va_P D vwCl [(a0, .inr (15, [.int 1, v1, v2, v3, v4, v5, v6, v7, v8, v9, v10, v11, v12, v13, v14, v15, v16, v17, v18, v19, v20, v21, v22, v23, v24, v25, v26, v27]))] H := hP
  have hD : va_D A [(a0, .inr (15, [.int 1, v1, v2, v3, v4, v5, v6, v7, v8, v9, v10, v11, v12, v13, v14, v15, v16, v17, v18, v19, v20, v21, v22, v23, v24, v25, v26, v27]))] := hD
  refine lv_if_eq (tgt := 16) hx hb dX10_bestWork_11 (by decide) (fun z => absurd z (by decide)) (fun _ => ?_)
  refine lv_iconst (v := (-1)) hx hb dX10_bestWork_14 (by decide) ?_
  exact en_z hx hb hr hlk hP hD hS rfl (fun _ => 0) (is := [0]) rfl rfl (Nat.le_of_ble_eq_true rfl) (Nat.le_of_ble_eq_true rfl) dX10_bestWork_15
set_option maxHeartbeats 4000000 in
theorem k703_X9_dividedUp (l : Launch) (D : va_G) (cy : Nat → ClassId) (g : Nat → Nat) (x0 : Int32) (sz : Nat)  : Met l yX9_dividedUp [.code yX9_dividedUp cX9_dividedUp 3 (some .int)] ({ frames := 0, cells := 0, slots := 0, locals := 0 }) (PC D cy g [] sz [.int x0, .int 1000]) (QI D (dU x0 1000) (fun ad => []) (va_A [] sz)) 0 0 (va_A [] sz) := by
  refine st_I (by decide) (Nat.le_of_ble_eq_true rfl) ?_
  intro p e s m args below meth c A ls hx hb hr hml hown hlk hnm hsz hP hD hA hE hts hS hl
  have hl : lv_has ls 3 [(0, .int x0), (1, .int 1000)] := hl
  refine lv_iload_n hx hb dX9_dividedUp_0 rfl (lv_at hl 1 rfl) ?_
  refine lv_iconst (v := 1) hx hb dX9_dividedUp_1 (by decide) ?_
  refine lv_icmp_ge (tgt := 7) hx hb dX9_dividedUp_2 (by decide) (fun _ => ?_) (fun z => absurd (fa_of_nlt (by decide)) z)
  refine lv_iload_n hx hb dX9_dividedUp_7 rfl (lv_at hl 0 rfl) ?_
  refine lv_iload_n hx hb dX9_dividedUp_8 rfl (lv_at hl 1 rfl) ?_
  refine lv_idiv hx hb dX9_dividedUp_9 (by decide) ?_
  refine lv_istore_n (lv' := [(2, .int (x0 / 1000)), (0, .int x0), (1, .int 1000)]) hx hb dX9_dividedUp_10 rfl hl (Nat.le_of_ble_eq_true rfl) rfl (fun ls hl => ?_)
  refine lv_iload_n hx hb dX9_dividedUp_11 rfl (lv_at hl 0 rfl) ?_
  refine lv_iload_n hx hb dX9_dividedUp_12 rfl (lv_at hl 2 rfl) ?_
  refine lv_imul hx hb dX9_dividedUp_13 ?_
  refine lv_iload_n hx hb dX9_dividedUp_14 rfl (lv_at hl 1 rfl) ?_
  refine lv_icmp_ge (tgt := 24) hx hb dX9_dividedUp_15 (by decide) (fun hc => ?_) (fun hc => ?_)
  · refine lv_iload_n hx hb dX9_dividedUp_24 rfl (lv_at hl 0 rfl) ?_
    refine tp_i (dU x0 1000) (dU_ge hc).symm ?_
    exact en_z hx hb hr hlk hP hD hS rfl (fun _ => 0) (is := []) rfl rfl (Nat.le_of_ble_eq_true rfl) (Nat.le_of_ble_eq_true rfl) dX9_dividedUp_25
  · refine lv_iload_n hx hb dX9_dividedUp_18 rfl (lv_at hl 0 rfl) ?_
    refine lv_iconst (v := 1) hx hb dX9_dividedUp_19 (by decide) ?_
    refine lv_iadd hx hb dX9_dividedUp_20 ?_
    refine tp_i (dU x0 1000) (dU_lt hc).symm ?_
    refine lv_goto (tgt := 25) hx hb dX9_dividedUp_21 (by decide) ?_
    exact en_z hx hb hr hlk hP hD hS rfl (fun _ => 0) (is := []) rfl rfl (Nat.le_of_ble_eq_true rfl) (Nat.le_of_ble_eq_true rfl) dX9_dividedUp_25
set_option maxHeartbeats 4000000 in
set_option maxRecDepth 100000 in
theorem k704_X9_bestWork (l : Launch) (hst : l.stackTraces = false) (D : va_G) (cy : Nat → ClassId) (g : Nat → Nat) (x0 : Int32) (x1 : Int32) (x2 : Int32) (a0 : Nat) (v0 : Value) (v1 : Value) (v2 : Value) (v3 : Value) (v4 : Value) (v5 : Value) (v6 : Value) (sz : Nat) (h0 : ¬ x0 < 1) (h1 : ¬ (100000 : Int32) < x0) (h2 : ¬ x1 < 50) (h3 : ¬ (2000 : Int32) < x1) (h4 : ¬ x2 < 50) (h5 : ¬ (2000 : Int32) < x2) (h6 : x2 < x1) (h7 : ¬ x1 < 1) (h8 : x0 < (dU ((dU (1000 * x0) x1) * x2) 1000)) : vx_Met l yX9_bestWork [.code yX9_bestWork cX9_bestWork 5 (some .int)] ({ frames := 6, cells := 1, slots := 6, locals := 82 }) (PC D cy g [(a0, .inr (14, [v0, v1, v2, v3, v4, v5, v6]))] sz [.ref a0, .int x0, .int x1, .int x2]) QN (XE "java/util/NoSuchElementException" (va_A [(a0, .inr (14, [v0, v1, v2, v3, v4, v5, v6]))] sz)) 1 6 (va_A [(a0, .inr (14, [v0, v1, v2, v3, v4, v5, v6]))] sz) := by
  refine st_X (by decide) (Nat.le_of_ble_eq_true rfl) ?_
  intro p e s m args below meth c A ls hx hb hr hml hown hlk hnm hsz hP hD hA hE hts hS hl hout
  have hown : s.vm.findClass RX9 = some m.cls := hown
  have hl : lv_has ls 5 [(0, .ref a0), (1, .int x0), (2, .int x1), (3, .int x2)] := hl
  refine lv_aload_n hx hb dX9_bestWork_0 rfl (lv_at hl 0 rfl) ?_
  refine lv_iload_n hx hb dX9_bestWork_1 rfl (lv_at hl 1 rfl) ?_
  refine lv_iload_n hx hb dX9_bestWork_2 rfl (lv_at hl 2 rfl) ?_
  refine lv_iload_n hx hb dX9_bestWork_3 rfl (lv_at hl 3 rfl) ?_
  refine ca_v (isC := []) (isR := [0]) (wr := [(a0, .inr (14, [v0, v1, v2, v3, v4, v5, v6]))]) (rn_V (ci := 14) (q0 := 0) (isC := []) (wc := []) (As := [.int x0, .int x1, .int x2]) (rest := []) (n := 3) hx hb hml hown hts hE hS hP hD hA hl.1 (k661_X9_requireClaim l D cy g x0 x1 x2 a0 s.heap.size h0 h1 h2 h3 h4 h5 h6) rfl rfl rfl rfl rfl ax_444 rfl rfl ax_445 ⟨Nat.le_of_ble_eq_true rfl, Nat.le_of_ble_eq_true rfl⟩ rfl rfl (Nat.le_of_ble_eq_true rfl) dX9_bestWork_4 ⟨(Nat.le_of_ble_eq_true rfl), (Nat.le_of_ble_eq_true rfl)⟩) hP hD hS hA rfl rfl rfl (by decide) (fun ad4 H locs hP hD hS => ?_)
  have hP : va_P D vwCl [(a0, .inr (14, [v0, v1, v2, v3, v4, v5, v6]))] H := hP
  have hD : va_D A [(a0, .inr (14, [v0, v1, v2, v3, v4, v5, v6]))] := hD
  refine lv_sipush (v := 1000) hx hb dX9_bestWork_7 (by decide) ?_
  refine lv_iload_n hx hb dX9_bestWork_10 rfl (lv_at hl 1 rfl) ?_
  refine lv_imul hx hb dX9_bestWork_11 ?_
  refine lv_iload_n hx hb dX9_bestWork_12 rfl (lv_at hl 2 rfl) ?_
  refine ca_i (isC := []) (isR := [0]) (wr := [(a0, .inr (14, [v0, v1, v2, v3, v4, v5, v6]))]) (rn_S (isC := []) (wc := []) (As := [.int (1000 * x0), .int x1]) (rest := []) (n := 2) hx hb hml hown hts hE hS hP hD hA hl.1 (k671_X9_dividedUp l D cy g (1000 * x0) x1 H.size h7) rfl rfl ax_456 rfl rfl ax_457 ⟨Nat.le_of_ble_eq_true rfl, Nat.le_of_ble_eq_true rfl⟩ rfl rfl (Nat.le_of_ble_eq_true rfl) dX9_bestWork_13 ⟨(Nat.le_of_ble_eq_true rfl), (Nat.le_of_ble_eq_true rfl)⟩) hP hD hS hA rfl rfl rfl (by decide) (fun ad13 H locs hP hD hS => ?_)
  have hP : va_P D vwCl [(a0, .inr (14, [v0, v1, v2, v3, v4, v5, v6]))] H := hP
  have hD : va_D A [(a0, .inr (14, [v0, v1, v2, v3, v4, v5, v6]))] := hD
  refine lv_iload_n hx hb dX9_bestWork_16 rfl (lv_at hl 3 rfl) ?_
  refine lv_imul hx hb dX9_bestWork_17 ?_
  refine lv_sipush (v := 1000) hx hb dX9_bestWork_18 (by decide) ?_
  refine ca_i (isC := []) (isR := [0]) (wr := [(a0, .inr (14, [v0, v1, v2, v3, v4, v5, v6]))]) (rn_S (isC := []) (wc := []) (As := [.int ((dU (1000 * x0) x1) * x2), .int 1000]) (rest := []) (n := 2) hx hb hml hown hts hE hS hP hD hA hl.1 (k703_X9_dividedUp l D cy g ((dU (1000 * x0) x1) * x2) H.size ) rfl rfl ax_456 rfl rfl ax_457 ⟨Nat.le_of_ble_eq_true rfl, Nat.le_of_ble_eq_true rfl⟩ rfl rfl (Nat.le_of_ble_eq_true rfl) dX9_bestWork_21 ⟨(Nat.le_of_ble_eq_true rfl), (Nat.le_of_ble_eq_true rfl)⟩) hP hD hS hA rfl rfl rfl (by decide) (fun ad21 H locs hP hD hS => ?_)
  have hP : va_P D vwCl [(a0, .inr (14, [v0, v1, v2, v3, v4, v5, v6]))] H := hP
  have hD : va_D A [(a0, .inr (14, [v0, v1, v2, v3, v4, v5, v6]))] := hD
  refine lv_istore (lv' := [(4, .int (dU ((dU (1000 * x0) x1) * x2) 1000)), (0, .ref a0), (1, .int x0), (2, .int x1), (3, .int x2)]) hx hb dX9_bestWork_24 hl (Nat.le_of_ble_eq_true rfl) rfl (fun ls hl => ?_)
  refine lv_iload hx hb dX9_bestWork_26 (lv_at hl 0 rfl) ?_
  refine lv_iload_n hx hb dX9_bestWork_28 rfl (lv_at hl 2 rfl) ?_
  refine lv_icmp_le (tgt := 43) hx hb dX9_bestWork_29 (by decide) (fun z => absurd z (fa_of_lt h8).2.1) (fun _ => ?_)
  exact th_NW (text := "every claim is refused") hx hb hst hown hts hE hS (hl.1.trans hml.symm) hout hlk tw_524 tw_525 (by decide +kernel) dX9_bestWork_32 dX9_bestWork_35 dX9_bestWork_36 dX9_bestWork_39 dX9_bestWork_42 ⟨Nat.le_of_ble_eq_true rfl, Nat.le_of_ble_eq_true rfl, Nat.le_of_ble_eq_true rfl, Nat.le_of_ble_eq_true rfl⟩ (Nat.le_of_ble_eq_true rfl) (Nat.le_of_ble_eq_true rfl)
set_option maxHeartbeats 4000000 in
set_option maxRecDepth 100000 in
theorem k705_L_bestWork (l : Launch) (hst : l.stackTraces = false) (D : va_G) (cy : Nat → ClassId) (g : Nat → Nat) (x0 : Int32) (x1 : Int32) (x2 : Int32) (a0 : Nat) (b0 : Nat) (v0 : Value) (v1 : Value) (v2 : Value) (v3 : Value) (v4 : Value) (v5 : Value) (v6 : Value) (sz : Nat) (h0 : ¬ x0 < 1) (h1 : ¬ (100000 : Int32) < x0) (h2 : ¬ x1 < 50) (h3 : ¬ (2000 : Int32) < x1) (h4 : ¬ x2 < 50) (h5 : ¬ (2000 : Int32) < x2) (h6 : x2 < x1) (h7 : ¬ x1 < 1) (h8 : x0 < (dU ((dU (1000 * x0) x1) * x2) 1000)) : Met l yL_bestWork [.codeWith yL_bestWork cL_bestWork 6 (some .int) [(0, 12, 15, 13), (0, 12, 19, 45)]] ({ frames := 7, cells := 1, slots := 6, locals := 106 }) (PC D cy g [(a0, .inr (14, [v0, v1, v2, v3, v4, v5, v6]))] sz [.ref a0, .int x0, .int x1, .int x2, .ref b0]) (QI D 2 (fun ad => []) (va_A [(a0, .inr (14, [v0, v1, v2, v3, v4, v5, v6]))] sz)) 1 6 (va_A [(a0, .inr (14, [v0, v1, v2, v3, v4, v5, v6]))] sz) := by
  refine sh_I (by decide) (Nat.le_of_ble_eq_true rfl) ?_
  intro p e s m args below meth c A ls hx hb hr hml hown hlk hnm hsz hP hD hA hE hts hS hl htb
  have hown : s.vm.findClass RL = some m.cls := hown
  have hl : lv_has ls 6 [(0, .ref a0), (1, .int x0), (2, .int x1), (3, .int x2), (4, .ref b0)] := hl
  refine lv_aload hx hb dL_bestWork_0 (lv_at hl 4 rfl) ?_
  refine lv_iconst (v := 0) hx hb dL_bestWork_2 (by decide) ?_
  refine lv_aload_n hx hb dL_bestWork_3 rfl (lv_at hl 0 rfl) ?_
  refine lv_iload_n hx hb dL_bestWork_4 rfl (lv_at hl 1 rfl) ?_
  refine lv_iload_n hx hb dL_bestWork_5 rfl (lv_at hl 2 rfl) ?_
  refine lv_iload_n hx hb dL_bestWork_6 rfl (lv_at hl 3 rfl) ?_
  refine cx_catch (isC := [0]) (isR := []) (wr := []) (hp := [(0, 12, 15, 13)]) (z := (0, 12, 19, 45)) (hq := []) (name := "java/util/NoSuchElementException") (own := RL) (rx_V (ci := 14) (q0 := 0) (isC := [0]) (wc := [(a0, .inr (14, [v0, v1, v2, v3, v4, v5, v6]))]) (As := [.int x0, .int x1, .int x2]) (rest := [.int 0, .ref b0]) (n := 3) hx hb hml hown hts hE hS hP hD hA hl.1 (k704_X9_bestWork l hst D cy g x0 x1 x2 a0 (v0) (v1) (v2) (v3) (v4) (v5) (v6) s.heap.size h0 h1 h2 h3 h4 h5 h6 h7 h8) rfl rfl rfl rfl rfl ax_462 rfl rfl ax_463 ⟨Nat.le_of_ble_eq_true rfl, Nat.le_of_ble_eq_true rfl⟩ rfl rfl (Nat.le_of_ble_eq_true rfl) dL_bestWork_7 ⟨(Nat.le_of_ble_eq_true rfl), (Nat.le_of_ble_eq_true rfl)⟩) hP hD hS hA hown hts hE htb rfl rfl rfl rfl (by decide) (fun z hz => by rcases List.mem_singleton.mp hz with rfl; exact ⟨by decide, "java/lang/IllegalArgumentException", tw_302, by decide +kernel⟩) (by decide) (by decide) tw_534 tw_535 (fun qx H locs hP hD hS => ?_)
  have hP : va_P D vwCl [] H := hP
  have hD : va_D A [] := hD
  refine lv_astore (lv' := [(5, .ref qx), (0, .ref a0), (1, .int x0), (2, .int x1), (3, .int x2), (4, .ref b0)]) hx hb dL_bestWork_19 hl (Nat.le_of_ble_eq_true rfl) rfl (fun ls hl => ?_)
  refine lv_iconst (v := 2) hx hb dL_bestWork_21 (by decide) ?_
  exact en_z hx hb hr hlk hP hD hS rfl (fun _ => 0) (is := []) rfl rfl (Nat.le_of_ble_eq_true rfl) (Nat.le_of_ble_eq_true rfl) dL_bestWork_22
set_option maxHeartbeats 4000000 in
set_option maxRecDepth 100000 in
theorem k706_X10_bestWork (l : Launch) (D : va_G) (cy : Nat → ClassId) (g : Nat → Nat) (x0 : Int32) (x1 : Int32) (x2 : Int32) (a0 : Nat) (v0 : Value) (v1 : Value) (v2 : Value) (v3 : Value) (v4 : Value) (v5 : Value) (v6 : Value) (v7 : Value) (v8 : Value) (v9 : Value) (v10 : Value) (v11 : Value) (v12 : Value) (v13 : Value) (v14 : Value) (v15 : Value) (v16 : Value) (v17 : Value) (v18 : Value) (v19 : Value) (v20 : Value) (v21 : Value) (v22 : Value) (v23 : Value) (v24 : Value) (v25 : Value) (v26 : Value) (v27 : Value) (sz : Nat) (h0 : ¬ x0 < 1) (h1 : ¬ (100000 : Int32) < x0) (h2 : ¬ x1 < 50) (h3 : ¬ (2000 : Int32) < x1) (h4 : ¬ x2 < 50) (h5 : ¬ (2000 : Int32) < x2) (h6 : x2 < x1) (h7 : ¬ x1 = 0) (h8 : ¬ x2 = 0) (h9 : x0 < (dU ((dU (1000 * x0) x1) * x2) 1000)) : Met l yX10_bestWork [.code yX10_bestWork cX10_bestWork 5 (some .int)] ({ frames := 2, cells := 0, slots := 0, locals := 48 }) (PC D cy g [(a0, .inr (15, [v0, v1, v2, v3, v4, v5, v6, v7, v8, v9, v10, v11, v12, v13, v14, v15, v16, v17, v18, v19, v20, v21, v22, v23, v24, v25, v26, v27]))] sz [.ref a0, .int x0, .int x1, .int x2]) (QI D (-1) (fun ad => [(a0, .inr (15, [.int 2, v1, v2, v3, v4, v5, v6, v7, v8, v9, v10, v11, v12, v13, v14, v15, v16, v17, v18, v19, v20, v21, v22, v23, v24, v25, v26, v27]))]) (va_A [(a0, .inr (15, [v0, v1, v2, v3, v4, v5, v6, v7, v8, v9, v10, v11, v12, v13, v14, v15, v16, v17, v18, v19, v20, v21, v22, v23, v24, v25, v26, v27]))] sz)) 0 0 (va_A [(a0, .inr (15, [v0, v1, v2, v3, v4, v5, v6, v7, v8, v9, v10, v11, v12, v13, v14, v15, v16, v17, v18, v19, v20, v21, v22, v23, v24, v25, v26, v27]))] sz) := by
  refine st_I (by decide) (Nat.le_of_ble_eq_true rfl) ?_
  intro p e s m args below meth c A ls hx hb hr hml hown hlk hnm hsz hP hD hA hE hts hS hl
  have hown : s.vm.findClass RX10 = some m.cls := hown
  have hl : lv_has ls 5 [(0, .ref a0), (1, .int x0), (2, .int x1), (3, .int x2)] := hl
  refine lv_aload_n hx hb dX10_bestWork_0 rfl (lv_at hl 0 rfl) ?_
  refine ca_v (isC := [0]) (isR := []) (wr := []) (rn_V (ci := 15) (q0 := 0) (isC := [0]) (wc := [(a0, .inr (15, [v0, v1, v2, v3, v4, v5, v6, v7, v8, v9, v10, v11, v12, v13, v14, v15, v16, v17, v18, v19, v20, v21, v22, v23, v24, v25, v26, v27]))]) (As := []) (rest := []) (n := 0) hx hb hml hown hts hE hS hP hD hA hl.1 (k20_X10_begins l D cy g a0 (v0) (v1) (v2) (v3) (v4) (v5) (v6) (v7) (v8) (v9) (v10) (v11) (v12) (v13) (v14) (v15) (v16) (v17) (v18) (v19) (v20) (v21) (v22) (v23) (v24) (v25) (v26) (v27) s.heap.size ) rfl rfl rfl rfl rfl ax_37 rfl rfl ax_38 ⟨Nat.le_of_ble_eq_true rfl, Nat.le_of_ble_eq_true rfl⟩ rfl rfl (Nat.le_of_ble_eq_true rfl) dX10_bestWork_1 ⟨(Nat.le_of_ble_eq_true rfl), (Nat.le_of_ble_eq_true rfl)⟩) hP hD hS hA rfl rfl rfl (by decide) (fun ad1 H locs hP hD hS => ?_)
  have hP : va_P D vwCl [(a0, .inr (15, [.int 0, v1, v2, v3, v4, v5, v6, v7, v8, v9, v10, v11, v12, v13, v14, v15, v16, v17, v18, v19, v20, v21, v22, v23, v24, v25, v26, v27]))] H := hP
  have hD : va_D A [(a0, .inr (15, [.int 0, v1, v2, v3, v4, v5, v6, v7, v8, v9, v10, v11, v12, v13, v14, v15, v16, v17, v18, v19, v20, v21, v22, v23, v24, v25, v26, v27]))] := hD
  refine lv_aload_n hx hb dX10_bestWork_4 rfl (lv_at hl 0 rfl) ?_
  refine lv_iload_n hx hb dX10_bestWork_5 rfl (lv_at hl 1 rfl) ?_
  refine lv_iload_n hx hb dX10_bestWork_6 rfl (lv_at hl 2 rfl) ?_
  refine lv_iload_n hx hb dX10_bestWork_7 rfl (lv_at hl 3 rfl) ?_
  refine ca_i (isC := [0]) (isR := []) (wr := []) (rn_V (ci := 15) (q0 := 0) (isC := [0]) (wc := [(a0, .inr (15, [.int 0, v1, v2, v3, v4, v5, v6, v7, v8, v9, v10, v11, v12, v13, v14, v15, v16, v17, v18, v19, v20, v21, v22, v23, v24, v25, v26, v27]))]) (As := [.int x0, .int x1, .int x2]) (rest := []) (n := 3) hx hb hml hown hts hE hS hP hD hA hl.1 (k668_X10_noClaim l D cy g x0 x1 x2 a0 (v1) (v2) (v3) (v4) (v5) (v6) (v7) (v8) (v9) (v10) (v11) (v12) (v13) (v14) (v15) (v16) (v17) (v18) (v19) (v20) (v21) (v22) (v23) (v24) (v25) (v26) (v27) H.size h0 h1 h2 h3 h4 h5 h6) rfl rfl rfl rfl rfl ax_452 rfl rfl ax_453 ⟨Nat.le_of_ble_eq_true rfl, Nat.le_of_ble_eq_true rfl⟩ rfl rfl (Nat.le_of_ble_eq_true rfl) dX10_bestWork_8 ⟨(Nat.le_of_ble_eq_true rfl), (Nat.le_of_ble_eq_true rfl)⟩) hP hD hS hA rfl rfl rfl (by decide) (fun ad8 H locs hP hD hS => ?_)
  have hP : va_P D vwCl [(a0, .inr (15, [.int 0, v1, v2, v3, v4, v5, v6, v7, v8, v9, v10, v11, v12, v13, v14, v15, v16, v17, v18, v19, v20, v21, v22, v23, v24, v25, v26, v27]))] H := hP
  have hD : va_D A [(a0, .inr (15, [.int 0, v1, v2, v3, v4, v5, v6, v7, v8, v9, v10, v11, v12, v13, v14, v15, v16, v17, v18, v19, v20, v21, v22, v23, v24, v25, v26, v27]))] := hD
  refine lv_if_eq (tgt := 16) hx hb dX10_bestWork_11 (by decide) (fun _ => ?_) (fun z => absurd (by decide) z)
  refine lv_iload_n hx hb dX10_bestWork_16 rfl (lv_at hl 1 rfl) ?_
  refine lv_istore (lv' := [(4, .int x0), (0, .ref a0), (1, .int x0), (2, .int x1), (3, .int x2)]) hx hb dX10_bestWork_17 hl (Nat.le_of_ble_eq_true rfl) rfl (fun ls hl => ?_)
  obtain ⟨hT1, hT2, hG1⟩ := bw_rng h0 h1 h2 h3 h4 h5 h6
  have hG := h9
  rw [fa_lt] at hG
  have loop : ∀ (n : Nat) (i : Int32), (i.toInt + 1 = (n : Int) ∧ i.toInt ≤ x0.toInt) → ∀ (H : Heap) (locs : List Loc) (ls : Array Slot), va_P D vwCl [(a0, .inr (15, [.int 0, v1, v2, v3, v4, v5, v6, v7, v8, v9, v10, v11, v12, v13, v14, v15, v16, v17, v18, v19, v20, v21, v22, v23, v24, v25, v26, v27]))] H → va_D A [(a0, .inr (15, [.int 0, v1, v2, v3, v4, v5, v6, v7, v8, v9, v10, v11, v12, v13, v14, v15, v16, v17, v18, v19, v20, v21, v22, v23, v24, v25, v26, v27]))] → va_S A s.heap H locs → lv_has ls 5 [(4, .int i), (0, .ref a0), (1, .int x0), (2, .int x1), (3, .int x2)] → W p l e ({ frames := 2, cells := 0, slots := 0, locals := 48 }) s m args below meth c H locs 0 0 (MQ below (QI D (-1) (fun ad => [(a0, .inr (15, [.int 2, v1, v2, v3, v4, v5, v6, v7, v8, v9, v10, v11, v12, v13, v14, v15, v16, v17, v18, v19, v20, v21, v22, v23, v24, v25, v26, v27]))]) A) args s 0 0 A) (F0 m 19 ls []) := by
    intro n
    induction n with
    | zero =>
      intro i hi H locs ls hP hD hS hl
      obtain ⟨hi1, hi2⟩ := hi
      have w0 : (-1 : Int32).toInt = -1 := by decide
      obtain rfl : i = -1 := (fa_eq _ _).mpr (by omega)
      refine lv_iload hx hb dX10_bestWork_19 (lv_at hl 0 rfl) ?_
      refine lv_if_lt (tgt := 43) hx hb dX10_bestWork_21 (by decide) (fun _ => ?_) (fun z => absurd (by decide) z)
      refine lv_aload_n hx hb dX10_bestWork_43 rfl (lv_at hl 1 rfl) ?_
      refine lv_iload hx hb dX10_bestWork_44 (lv_at hl 0 rfl) ?_
      refine lv_if_ge (tgt := 53) hx hb dX10_bestWork_46 (by decide) (fun z => absurd z (by decide)) (fun _ => ?_)
      refine lv_iconst (v := 1) hx hb dX10_bestWork_49 (by decide) ?_
      refine lv_goto (tgt := 54) hx hb dX10_bestWork_50 (by decide) ?_
      refine lv_iconst (v := 2) hx hb dX10_bestWork_54 (by decide) ?_
      refine ca_i (isC := [0]) (isR := []) (wr := []) (rn_V (ci := 15) (q0 := 0) (isC := [0]) (wc := [(a0, .inr (15, [.int 0, v1, v2, v3, v4, v5, v6, v7, v8, v9, v10, v11, v12, v13, v14, v15, v16, v17, v18, v19, v20, v21, v22, v23, v24, v25, v26, v27]))]) (As := [.int 1, .int 2]) (rest := []) (n := 2) hx hb hml hown hts hE hS hP hD hA hl.1 (k146_X10_fails l D cy g a0 (v1) (v2) (v3) (v4) (v5) (v6) (v7) (v8) (v9) (v10) (v11) (v12) (v13) (v14) (v15) (v16) (v17) (v18) (v19) (v20) (v21) (v22) (v23) (v24) (v25) (v26) (v27) H.size ) rfl rfl rfl rfl rfl ax_41 rfl rfl ax_42 ⟨Nat.le_of_ble_eq_true rfl, Nat.le_of_ble_eq_true rfl⟩ rfl rfl (Nat.le_of_ble_eq_true rfl) dX10_bestWork_55 ⟨(Nat.le_of_ble_eq_true rfl), (Nat.le_of_ble_eq_true rfl)⟩) hP hD hS hA rfl rfl rfl (by decide) (fun ad55 H locs hP hD hS => ?_)
      have hP : va_P D vwCl [(a0, .inr (15, [.int 2, v1, v2, v3, v4, v5, v6, v7, v8, v9, v10, v11, v12, v13, v14, v15, v16, v17, v18, v19, v20, v21, v22, v23, v24, v25, v26, v27]))] H := hP
      have hD : va_D A [(a0, .inr (15, [.int 2, v1, v2, v3, v4, v5, v6, v7, v8, v9, v10, v11, v12, v13, v14, v15, v16, v17, v18, v19, v20, v21, v22, v23, v24, v25, v26, v27]))] := hD
      refine lv_if_eq (tgt := 65) hx hb dX10_bestWork_58 (by decide) (fun z => absurd z (by decide)) (fun _ => ?_)
      refine lv_iconst (v := (-1)) hx hb dX10_bestWork_61 (by decide) ?_
      refine lv_goto (tgt := 67) hx hb dX10_bestWork_62 (by decide) ?_
      exact en_z hx hb hr hlk hP hD hS rfl (fun _ => 0) (is := [0]) rfl rfl (Nat.le_of_ble_eq_true rfl) (Nat.le_of_ble_eq_true rfl) dX10_bestWork_67
    | succ n ih =>
      intro i hi H locs ls hP hD hS hl
      obtain ⟨hi1, hi2⟩ := hi
      have hbw := bw_at (i := i) h0 h1 h2 h3 h4 h5 h6
      obtain ⟨hc0, hc1, hc2, hc3⟩ := hbw.1 (by omega) (by omega) (by omega)
      refine lv_iload hx hb dX10_bestWork_19 (lv_at hl 0 rfl) ?_
      refine lv_if_lt (tgt := 43) hx hb dX10_bestWork_21 (by decide) (fun z => absurd z hc0) (fun _ => ?_)
      refine lv_iload_n hx hb dX10_bestWork_24 rfl (lv_at hl 2 rfl) ?_
      refine lv_iload hx hb dX10_bestWork_25 (lv_at hl 0 rfl) ?_
      refine lv_isub hx hb dX10_bestWork_27 ?_
      refine lv_iload_n hx hb dX10_bestWork_28 rfl (lv_at hl 4 rfl) ?_
      refine lv_iload_n hx hb dX10_bestWork_29 rfl (lv_at hl 2 rfl) ?_
      refine lv_iload_n hx hb dX10_bestWork_30 rfl (lv_at hl 3 rfl) ?_
      refine ca_i (isC := []) (isR := [0]) (wr := [(a0, .inr (15, [.int 0, v1, v2, v3, v4, v5, v6, v7, v8, v9, v10, v11, v12, v13, v14, v15, v16, v17, v18, v19, v20, v21, v22, v23, v24, v25, v26, v27]))]) (rn_S (isC := []) (wc := []) (As := [.int (x0 - i), .int x2, .int x0, .int x1]) (rest := []) (n := 4) hx hb hml hown hts hE hS hP hD hA hl.1 (k675_X10_disorder l D cy g (x0 - i) x2 x0 x1 H.size h7 h8 hc2 hc3 h4 h5 h0 h1 h2 h3) rfl rfl ax_460 rfl rfl ax_461 ⟨Nat.le_of_ble_eq_true rfl, Nat.le_of_ble_eq_true rfl⟩ rfl rfl (Nat.le_of_ble_eq_true rfl) dX10_bestWork_31 ⟨(Nat.le_of_ble_eq_true rfl), (Nat.le_of_ble_eq_true rfl)⟩) hP hD hS hA rfl rfl rfl (by decide) (fun ad31 H locs hP hD hS => ?_)
      have hP : va_P D vwCl [(a0, .inr (15, [.int 0, v1, v2, v3, v4, v5, v6, v7, v8, v9, v10, v11, v12, v13, v14, v15, v16, v17, v18, v19, v20, v21, v22, v23, v24, v25, v26, v27]))] H := hP
      have hD : va_D A [(a0, .inr (15, [.int 0, v1, v2, v3, v4, v5, v6, v7, v8, v9, v10, v11, v12, v13, v14, v15, v16, v17, v18, v19, v20, v21, v22, v23, v24, v25, v26, v27]))] := hD
      refine lv_if_ge (tgt := 43) hx hb dX10_bestWork_34 (by decide) (fun z => absurd z (fa_of_lt hc1).2.1) (fun _ => ?_)
      refine lv_iinc (v := (i + (-1))) (lv' := [(4, .int (i + (-1))), (0, .ref a0), (1, .int x0), (2, .int x1), (3, .int x2)]) hx hb dX10_bestWork_37 hl (k := 0) rfl rfl (Nat.le_of_ble_eq_true rfl) rfl (fun ls hl => ?_)
      refine lv_goto (tgt := 19) hx hb dX10_bestWork_40 (by decide) ?_
      exact ih _ ⟨by rw [dec_i (by omega) (by omega)]; omega, by rw [dec_i (by omega) (by omega)]; omega⟩ H locs ls hP hD hS (lv_sub hl [0, 1, 2, 3, 4] rfl)
  exact loop (x0.toInt + 1).toNat x0 ⟨by omega, by omega⟩  _ _ _ hP hD hS (lv_sub hl [0, 1, 2, 3, 4] rfl)
set_option maxHeartbeats 4000000 in
set_option maxRecDepth 100000 in
theorem k707_X9_bestWork (l : Launch) (D : va_G) (cy : Nat → ClassId) (g : Nat → Nat) (x0 : Int32) (x1 : Int32) (x2 : Int32) (a0 : Nat) (v0 : Value) (v1 : Value) (v2 : Value) (v3 : Value) (v4 : Value) (v5 : Value) (v6 : Value) (sz : Nat) (h0 : ¬ x0 < 1) (h1 : ¬ (100000 : Int32) < x0) (h2 : ¬ x1 < 50) (h3 : ¬ (2000 : Int32) < x1) (h4 : ¬ x2 < 50) (h5 : ¬ (2000 : Int32) < x2) (h6 : x2 < x1) (h7 : ¬ x1 < 1) (h8 : ¬ x0 < (dU ((dU (1000 * x0) x1) * x2) 1000)) : Met l yX9_bestWork [.code yX9_bestWork cX9_bestWork 5 (some .int)] ({ frames := 2, cells := 0, slots := 0, locals := 45 }) (PC D cy g [(a0, .inr (14, [v0, v1, v2, v3, v4, v5, v6]))] sz [.ref a0, .int x0, .int x1, .int x2]) (QI D (x0 - (dU ((dU (1000 * x0) x1) * x2) 1000)) (fun ad => [(a0, .inr (14, [v0, v1, v2, v3, v4, v5, v6]))]) (va_A [(a0, .inr (14, [v0, v1, v2, v3, v4, v5, v6]))] sz)) 0 0 (va_A [(a0, .inr (14, [v0, v1, v2, v3, v4, v5, v6]))] sz) := by
  refine st_I (by decide) (Nat.le_of_ble_eq_true rfl) ?_
  intro p e s m args below meth c A ls hx hb hr hml hown hlk hnm hsz hP hD hA hE hts hS hl
  have hown : s.vm.findClass RX9 = some m.cls := hown
  have hl : lv_has ls 5 [(0, .ref a0), (1, .int x0), (2, .int x1), (3, .int x2)] := hl
  refine lv_aload_n hx hb dX9_bestWork_0 rfl (lv_at hl 0 rfl) ?_
  refine lv_iload_n hx hb dX9_bestWork_1 rfl (lv_at hl 1 rfl) ?_
  refine lv_iload_n hx hb dX9_bestWork_2 rfl (lv_at hl 2 rfl) ?_
  refine lv_iload_n hx hb dX9_bestWork_3 rfl (lv_at hl 3 rfl) ?_
  refine ca_v (isC := []) (isR := [0]) (wr := [(a0, .inr (14, [v0, v1, v2, v3, v4, v5, v6]))]) (rn_V (ci := 14) (q0 := 0) (isC := []) (wc := []) (As := [.int x0, .int x1, .int x2]) (rest := []) (n := 3) hx hb hml hown hts hE hS hP hD hA hl.1 (k661_X9_requireClaim l D cy g x0 x1 x2 a0 s.heap.size h0 h1 h2 h3 h4 h5 h6) rfl rfl rfl rfl rfl ax_444 rfl rfl ax_445 ⟨Nat.le_of_ble_eq_true rfl, Nat.le_of_ble_eq_true rfl⟩ rfl rfl (Nat.le_of_ble_eq_true rfl) dX9_bestWork_4 ⟨(Nat.le_of_ble_eq_true rfl), (Nat.le_of_ble_eq_true rfl)⟩) hP hD hS hA rfl rfl rfl (by decide) (fun ad4 H locs hP hD hS => ?_)
  have hP : va_P D vwCl [(a0, .inr (14, [v0, v1, v2, v3, v4, v5, v6]))] H := hP
  have hD : va_D A [(a0, .inr (14, [v0, v1, v2, v3, v4, v5, v6]))] := hD
  refine lv_sipush (v := 1000) hx hb dX9_bestWork_7 (by decide) ?_
  refine lv_iload_n hx hb dX9_bestWork_10 rfl (lv_at hl 1 rfl) ?_
  refine lv_imul hx hb dX9_bestWork_11 ?_
  refine lv_iload_n hx hb dX9_bestWork_12 rfl (lv_at hl 2 rfl) ?_
  refine ca_i (isC := []) (isR := [0]) (wr := [(a0, .inr (14, [v0, v1, v2, v3, v4, v5, v6]))]) (rn_S (isC := []) (wc := []) (As := [.int (1000 * x0), .int x1]) (rest := []) (n := 2) hx hb hml hown hts hE hS hP hD hA hl.1 (k671_X9_dividedUp l D cy g (1000 * x0) x1 H.size h7) rfl rfl ax_456 rfl rfl ax_457 ⟨Nat.le_of_ble_eq_true rfl, Nat.le_of_ble_eq_true rfl⟩ rfl rfl (Nat.le_of_ble_eq_true rfl) dX9_bestWork_13 ⟨(Nat.le_of_ble_eq_true rfl), (Nat.le_of_ble_eq_true rfl)⟩) hP hD hS hA rfl rfl rfl (by decide) (fun ad13 H locs hP hD hS => ?_)
  have hP : va_P D vwCl [(a0, .inr (14, [v0, v1, v2, v3, v4, v5, v6]))] H := hP
  have hD : va_D A [(a0, .inr (14, [v0, v1, v2, v3, v4, v5, v6]))] := hD
  refine lv_iload_n hx hb dX9_bestWork_16 rfl (lv_at hl 3 rfl) ?_
  refine lv_imul hx hb dX9_bestWork_17 ?_
  refine lv_sipush (v := 1000) hx hb dX9_bestWork_18 (by decide) ?_
  refine ca_i (isC := []) (isR := [0]) (wr := [(a0, .inr (14, [v0, v1, v2, v3, v4, v5, v6]))]) (rn_S (isC := []) (wc := []) (As := [.int ((dU (1000 * x0) x1) * x2), .int 1000]) (rest := []) (n := 2) hx hb hml hown hts hE hS hP hD hA hl.1 (k703_X9_dividedUp l D cy g ((dU (1000 * x0) x1) * x2) H.size ) rfl rfl ax_456 rfl rfl ax_457 ⟨Nat.le_of_ble_eq_true rfl, Nat.le_of_ble_eq_true rfl⟩ rfl rfl (Nat.le_of_ble_eq_true rfl) dX9_bestWork_21 ⟨(Nat.le_of_ble_eq_true rfl), (Nat.le_of_ble_eq_true rfl)⟩) hP hD hS hA rfl rfl rfl (by decide) (fun ad21 H locs hP hD hS => ?_)
  have hP : va_P D vwCl [(a0, .inr (14, [v0, v1, v2, v3, v4, v5, v6]))] H := hP
  have hD : va_D A [(a0, .inr (14, [v0, v1, v2, v3, v4, v5, v6]))] := hD
  refine lv_istore (lv' := [(4, .int (dU ((dU (1000 * x0) x1) * x2) 1000)), (0, .ref a0), (1, .int x0), (2, .int x1), (3, .int x2)]) hx hb dX9_bestWork_24 hl (Nat.le_of_ble_eq_true rfl) rfl (fun ls hl => ?_)
  refine lv_iload hx hb dX9_bestWork_26 (lv_at hl 0 rfl) ?_
  refine lv_iload_n hx hb dX9_bestWork_28 rfl (lv_at hl 2 rfl) ?_
  refine lv_icmp_le (tgt := 43) hx hb dX9_bestWork_29 (by decide) (fun _ => ?_) (fun z => absurd (fa_of_nlt h8) z)
  refine lv_iload_n hx hb dX9_bestWork_43 rfl (lv_at hl 2 rfl) ?_
  refine lv_iload hx hb dX9_bestWork_44 (lv_at hl 0 rfl) ?_
  refine lv_isub hx hb dX9_bestWork_46 ?_
  exact en_z hx hb hr hlk hP hD hS rfl (fun _ => 0) (is := [0]) rfl rfl (Nat.le_of_ble_eq_true rfl) (Nat.le_of_ble_eq_true rfl) dX9_bestWork_47
set_option maxHeartbeats 4000000 in
set_option maxRecDepth 100000 in
theorem k708_L_bestWork (l : Launch) (D : va_G) (cy : Nat → ClassId) (g : Nat → Nat) (x0 : Int32) (x1 : Int32) (x2 : Int32) (a0 : Nat) (a1 : Nat) (v0 : Value) (v1 : Value) (v2 : Value) (v3 : Value) (v4 : Value) (v5 : Value) (v6 : Value) (f0 : Nat → Int64) (sz : Nat) (h0 : ¬ x0 < 1) (h1 : ¬ (100000 : Int32) < x0) (h2 : ¬ x1 < 50) (h3 : ¬ (2000 : Int32) < x1) (h4 : ¬ x2 < 50) (h5 : ¬ (2000 : Int32) < x2) (h6 : x2 < x1) (h7 : ¬ x1 < 1) (h8 : ¬ x0 < (dU ((dU (1000 * x0) x1) * x2) 1000)) : Met l yL_bestWork [.codeWith yL_bestWork cL_bestWork 6 (some .int) [(0, 12, 15, 13), (0, 12, 19, 45)]] ({ frames := 3, cells := 0, slots := 0, locals := 69 }) (PC D cy g [(a0, .inr (14, [v0, v1, v2, v3, v4, v5, v6])), (a1, .inl (cy 2, 1, .inr (.inl f0)))] sz [.ref a0, .int x0, .int x1, .int x2, .ref a1]) (QI D 0 (fun ad => [(a1, .inl (cy 2, 1, .inr (.inl (vp_updL f0 (0 : Int32).toNatClampNeg ((x0 - (dU ((dU (1000 * x0) x1) * x2) 1000)).toInt64)))))]) (va_A [(a0, .inr (14, [v0, v1, v2, v3, v4, v5, v6])), (a1, .inl (cy 2, 1, .inr (.inl f0)))] sz)) 0 0 (va_A [(a0, .inr (14, [v0, v1, v2, v3, v4, v5, v6])), (a1, .inl (cy 2, 1, .inr (.inl f0)))] sz) := by
  refine sh_I (by decide) (Nat.le_of_ble_eq_true rfl) ?_
  intro p e s m args below meth c A ls hx hb hr hml hown hlk hnm hsz hP hD hA hE hts hS hl htb
  have hown : s.vm.findClass RL = some m.cls := hown
  have hl : lv_has ls 6 [(0, .ref a0), (1, .int x0), (2, .int x1), (3, .int x2), (4, .ref a1)] := hl
  refine lv_aload hx hb dL_bestWork_0 (lv_at hl 4 rfl) ?_
  refine lv_iconst (v := 0) hx hb dL_bestWork_2 (by decide) ?_
  refine lv_aload_n hx hb dL_bestWork_3 rfl (lv_at hl 0 rfl) ?_
  refine lv_iload_n hx hb dL_bestWork_4 rfl (lv_at hl 1 rfl) ?_
  refine lv_iload_n hx hb dL_bestWork_5 rfl (lv_at hl 2 rfl) ?_
  refine lv_iload_n hx hb dL_bestWork_6 rfl (lv_at hl 3 rfl) ?_
  refine ca_i (isC := [0]) (isR := [1]) (wr := [(a1, .inl (cy 2, 1, .inr (.inl f0)))]) (rn_V (ci := 14) (q0 := 0) (isC := [0]) (wc := [(a0, .inr (14, [v0, v1, v2, v3, v4, v5, v6]))]) (As := [.int x0, .int x1, .int x2]) (rest := [.int 0, .ref a1]) (n := 3) hx hb hml hown hts hE hS hP hD hA hl.1 (k707_X9_bestWork l D cy g x0 x1 x2 a0 (v0) (v1) (v2) (v3) (v4) (v5) (v6) s.heap.size h0 h1 h2 h3 h4 h5 h6 h7 h8) rfl rfl rfl rfl rfl ax_462 rfl rfl ax_463 ⟨Nat.le_of_ble_eq_true rfl, Nat.le_of_ble_eq_true rfl⟩ rfl rfl (Nat.le_of_ble_eq_true rfl) dL_bestWork_7 ⟨(Nat.le_of_ble_eq_true rfl), (Nat.le_of_ble_eq_true rfl)⟩) hP hD hS hA rfl rfl rfl (by decide) (fun ad7 H locs hP hD hS => ?_)
  have hP : va_P D vwCl [(a1, .inl (cy 2, 1, .inr (.inl f0))), (a0, .inr (14, [v0, v1, v2, v3, v4, v5, v6]))] H := hP
  have hD : va_D A [(a1, .inl (cy 2, 1, .inr (.inl f0))), (a0, .inr (14, [v0, v1, v2, v3, v4, v5, v6]))] := hD
  refine lv_i2l (v := (x0 - (dU ((dU (1000 * x0) x1) * x2) 1000)).toInt64) hx hb dL_bestWork_10 rfl ?_
  refine va_last hx hb hE.1 hP hD hS 0 2 rfl rfl (by unfold vp_in; decide) dL_bestWork_11 (fun H locs hP hD hS => ?_)
  have hP : va_P D vwCl [(a1, .inl (cy 2, 1, .inr (.inl (vp_updL f0 (0 : Int32).toNatClampNeg ((x0 - (dU ((dU (1000 * x0) x1) * x2) 1000)).toInt64))))), (a0, .inr (14, [v0, v1, v2, v3, v4, v5, v6]))] H := hP
  have hD : va_D A [(a1, .inl (cy 2, 1, .inr (.inl (vp_updL f0 (0 : Int32).toNatClampNeg ((x0 - (dU ((dU (1000 * x0) x1) * x2) 1000)).toInt64))))), (a0, .inr (14, [v0, v1, v2, v3, v4, v5, v6]))] := hD
  refine lv_goto (tgt := 23) hx hb dL_bestWork_12 (by decide) ?_
  refine lv_iconst (v := 0) hx hb dL_bestWork_23 (by decide) ?_
  exact en_z hx hb hr hlk hP hD hS rfl (fun _ => 0) (is := [0]) rfl rfl (Nat.le_of_ble_eq_true rfl) (Nat.le_of_ble_eq_true rfl) dL_bestWork_24
set_option maxHeartbeats 4000000 in
set_option maxRecDepth 100000 in
theorem k709_X10_bestWork (l : Launch) (D : va_G) (cy : Nat → ClassId) (g : Nat → Nat) (x0 : Int32) (x1 : Int32) (x2 : Int32) (a0 : Nat) (v0 : Value) (v1 : Value) (v2 : Value) (v3 : Value) (v4 : Value) (v5 : Value) (v6 : Value) (v7 : Value) (v8 : Value) (v9 : Value) (v10 : Value) (v11 : Value) (v12 : Value) (v13 : Value) (v14 : Value) (v15 : Value) (v16 : Value) (v17 : Value) (v18 : Value) (v19 : Value) (v20 : Value) (v21 : Value) (v22 : Value) (v23 : Value) (v24 : Value) (v25 : Value) (v26 : Value) (v27 : Value) (sz : Nat) (h0 : ¬ x0 < 1) (h1 : ¬ (100000 : Int32) < x0) (h2 : ¬ x1 < 50) (h3 : ¬ (2000 : Int32) < x1) (h4 : ¬ x2 < 50) (h5 : ¬ (2000 : Int32) < x2) (h6 : x2 < x1) (h7 : ¬ x1 = 0) (h8 : ¬ x2 = 0) (h9 : ¬ x0 < (dU ((dU (1000 * x0) x1) * x2) 1000)) : Met l yX10_bestWork [.code yX10_bestWork cX10_bestWork 5 (some .int)] ({ frames := 2, cells := 0, slots := 0, locals := 48 }) (PC D cy g [(a0, .inr (15, [v0, v1, v2, v3, v4, v5, v6, v7, v8, v9, v10, v11, v12, v13, v14, v15, v16, v17, v18, v19, v20, v21, v22, v23, v24, v25, v26, v27]))] sz [.ref a0, .int x0, .int x1, .int x2]) (QI D (x0 - (dU ((dU (1000 * x0) x1) * x2) 1000)) (fun ad => [(a0, .inr (15, [.int 0, v1, v2, v3, v4, v5, v6, v7, v8, v9, v10, v11, v12, v13, v14, v15, v16, v17, v18, v19, v20, v21, v22, v23, v24, v25, v26, v27]))]) (va_A [(a0, .inr (15, [v0, v1, v2, v3, v4, v5, v6, v7, v8, v9, v10, v11, v12, v13, v14, v15, v16, v17, v18, v19, v20, v21, v22, v23, v24, v25, v26, v27]))] sz)) 0 0 (va_A [(a0, .inr (15, [v0, v1, v2, v3, v4, v5, v6, v7, v8, v9, v10, v11, v12, v13, v14, v15, v16, v17, v18, v19, v20, v21, v22, v23, v24, v25, v26, v27]))] sz) := by
  refine st_I (by decide) (Nat.le_of_ble_eq_true rfl) ?_
  intro p e s m args below meth c A ls hx hb hr hml hown hlk hnm hsz hP hD hA hE hts hS hl
  have hown : s.vm.findClass RX10 = some m.cls := hown
  have hl : lv_has ls 5 [(0, .ref a0), (1, .int x0), (2, .int x1), (3, .int x2)] := hl
  refine lv_aload_n hx hb dX10_bestWork_0 rfl (lv_at hl 0 rfl) ?_
  refine ca_v (isC := [0]) (isR := []) (wr := []) (rn_V (ci := 15) (q0 := 0) (isC := [0]) (wc := [(a0, .inr (15, [v0, v1, v2, v3, v4, v5, v6, v7, v8, v9, v10, v11, v12, v13, v14, v15, v16, v17, v18, v19, v20, v21, v22, v23, v24, v25, v26, v27]))]) (As := []) (rest := []) (n := 0) hx hb hml hown hts hE hS hP hD hA hl.1 (k20_X10_begins l D cy g a0 (v0) (v1) (v2) (v3) (v4) (v5) (v6) (v7) (v8) (v9) (v10) (v11) (v12) (v13) (v14) (v15) (v16) (v17) (v18) (v19) (v20) (v21) (v22) (v23) (v24) (v25) (v26) (v27) s.heap.size ) rfl rfl rfl rfl rfl ax_37 rfl rfl ax_38 ⟨Nat.le_of_ble_eq_true rfl, Nat.le_of_ble_eq_true rfl⟩ rfl rfl (Nat.le_of_ble_eq_true rfl) dX10_bestWork_1 ⟨(Nat.le_of_ble_eq_true rfl), (Nat.le_of_ble_eq_true rfl)⟩) hP hD hS hA rfl rfl rfl (by decide) (fun ad1 H locs hP hD hS => ?_)
  have hP : va_P D vwCl [(a0, .inr (15, [.int 0, v1, v2, v3, v4, v5, v6, v7, v8, v9, v10, v11, v12, v13, v14, v15, v16, v17, v18, v19, v20, v21, v22, v23, v24, v25, v26, v27]))] H := hP
  have hD : va_D A [(a0, .inr (15, [.int 0, v1, v2, v3, v4, v5, v6, v7, v8, v9, v10, v11, v12, v13, v14, v15, v16, v17, v18, v19, v20, v21, v22, v23, v24, v25, v26, v27]))] := hD
  refine lv_aload_n hx hb dX10_bestWork_4 rfl (lv_at hl 0 rfl) ?_
  refine lv_iload_n hx hb dX10_bestWork_5 rfl (lv_at hl 1 rfl) ?_
  refine lv_iload_n hx hb dX10_bestWork_6 rfl (lv_at hl 2 rfl) ?_
  refine lv_iload_n hx hb dX10_bestWork_7 rfl (lv_at hl 3 rfl) ?_
  refine ca_i (isC := [0]) (isR := []) (wr := []) (rn_V (ci := 15) (q0 := 0) (isC := [0]) (wc := [(a0, .inr (15, [.int 0, v1, v2, v3, v4, v5, v6, v7, v8, v9, v10, v11, v12, v13, v14, v15, v16, v17, v18, v19, v20, v21, v22, v23, v24, v25, v26, v27]))]) (As := [.int x0, .int x1, .int x2]) (rest := []) (n := 3) hx hb hml hown hts hE hS hP hD hA hl.1 (k668_X10_noClaim l D cy g x0 x1 x2 a0 (v1) (v2) (v3) (v4) (v5) (v6) (v7) (v8) (v9) (v10) (v11) (v12) (v13) (v14) (v15) (v16) (v17) (v18) (v19) (v20) (v21) (v22) (v23) (v24) (v25) (v26) (v27) H.size h0 h1 h2 h3 h4 h5 h6) rfl rfl rfl rfl rfl ax_452 rfl rfl ax_453 ⟨Nat.le_of_ble_eq_true rfl, Nat.le_of_ble_eq_true rfl⟩ rfl rfl (Nat.le_of_ble_eq_true rfl) dX10_bestWork_8 ⟨(Nat.le_of_ble_eq_true rfl), (Nat.le_of_ble_eq_true rfl)⟩) hP hD hS hA rfl rfl rfl (by decide) (fun ad8 H locs hP hD hS => ?_)
  have hP : va_P D vwCl [(a0, .inr (15, [.int 0, v1, v2, v3, v4, v5, v6, v7, v8, v9, v10, v11, v12, v13, v14, v15, v16, v17, v18, v19, v20, v21, v22, v23, v24, v25, v26, v27]))] H := hP
  have hD : va_D A [(a0, .inr (15, [.int 0, v1, v2, v3, v4, v5, v6, v7, v8, v9, v10, v11, v12, v13, v14, v15, v16, v17, v18, v19, v20, v21, v22, v23, v24, v25, v26, v27]))] := hD
  refine lv_if_eq (tgt := 16) hx hb dX10_bestWork_11 (by decide) (fun _ => ?_) (fun z => absurd (by decide) z)
  refine lv_iload_n hx hb dX10_bestWork_16 rfl (lv_at hl 1 rfl) ?_
  refine lv_istore (lv' := [(4, .int x0), (0, .ref a0), (1, .int x0), (2, .int x1), (3, .int x2)]) hx hb dX10_bestWork_17 hl (Nat.le_of_ble_eq_true rfl) rfl (fun ls hl => ?_)
  obtain ⟨hT1, hT2, hG1⟩ := bw_rng h0 h1 h2 h3 h4 h5 h6
  have hG := h9
  rw [fa_lt] at hG
  have loop : ∀ (n : Nat) (i : Int32), (i.toInt = x0.toInt - (dU ((dU (1000 * x0) x1) * x2) 1000).toInt + (n : Int) ∧ i.toInt ≤ x0.toInt) → ∀ (H : Heap) (locs : List Loc) (ls : Array Slot), va_P D vwCl [(a0, .inr (15, [.int 0, v1, v2, v3, v4, v5, v6, v7, v8, v9, v10, v11, v12, v13, v14, v15, v16, v17, v18, v19, v20, v21, v22, v23, v24, v25, v26, v27]))] H → va_D A [(a0, .inr (15, [.int 0, v1, v2, v3, v4, v5, v6, v7, v8, v9, v10, v11, v12, v13, v14, v15, v16, v17, v18, v19, v20, v21, v22, v23, v24, v25, v26, v27]))] → va_S A s.heap H locs → lv_has ls 5 [(4, .int i), (0, .ref a0), (1, .int x0), (2, .int x1), (3, .int x2)] → W p l e ({ frames := 2, cells := 0, slots := 0, locals := 48 }) s m args below meth c H locs 0 0 (MQ below (QI D (x0 - (dU ((dU (1000 * x0) x1) * x2) 1000)) (fun ad => [(a0, .inr (15, [.int 0, v1, v2, v3, v4, v5, v6, v7, v8, v9, v10, v11, v12, v13, v14, v15, v16, v17, v18, v19, v20, v21, v22, v23, v24, v25, v26, v27]))]) A) args s 0 0 A) (F0 m 19 ls []) := by
    intro n
    induction n with
    | zero =>
      intro i hi H locs ls hP hD hS hl
      obtain ⟨hi1, hi2⟩ := hi
      have hst := sub_i (a := x0) (b := (dU ((dU (1000 * x0) x1) * x2) 1000)) (by omega) (by omega) (by omega) (by omega)
      obtain rfl : i = x0 - (dU ((dU (1000 * x0) x1) * x2) 1000) := (fa_eq _ _).mpr (by rw [hst]; omega)
      have hbw := bw_at (i := (x0 - (dU ((dU (1000 * x0) x1) * x2) 1000))) h0 h1 h2 h3 h4 h5 h6
      obtain ⟨hc0, hc1, hc2, hc3⟩ := hbw.2 (by omega) (by omega) (by omega)
      refine lv_iload hx hb dX10_bestWork_19 (lv_at hl 0 rfl) ?_
      refine lv_if_lt (tgt := 43) hx hb dX10_bestWork_21 (by decide) (fun z => absurd z hc0) (fun _ => ?_)
      refine lv_iload_n hx hb dX10_bestWork_24 rfl (lv_at hl 2 rfl) ?_
      refine lv_iload hx hb dX10_bestWork_25 (lv_at hl 0 rfl) ?_
      refine lv_isub hx hb dX10_bestWork_27 ?_
      refine lv_iload_n hx hb dX10_bestWork_28 rfl (lv_at hl 4 rfl) ?_
      refine lv_iload_n hx hb dX10_bestWork_29 rfl (lv_at hl 2 rfl) ?_
      refine lv_iload_n hx hb dX10_bestWork_30 rfl (lv_at hl 3 rfl) ?_
      refine ca_i (isC := []) (isR := [0]) (wr := [(a0, .inr (15, [.int 0, v1, v2, v3, v4, v5, v6, v7, v8, v9, v10, v11, v12, v13, v14, v15, v16, v17, v18, v19, v20, v21, v22, v23, v24, v25, v26, v27]))]) (rn_S (isC := []) (wc := []) (As := [.int (x0 - (x0 - (dU ((dU (1000 * x0) x1) * x2) 1000))), .int x2, .int x0, .int x1]) (rest := []) (n := 4) hx hb hml hown hts hE hS hP hD hA hl.1 (k675_X10_disorder l D cy g (x0 - (x0 - (dU ((dU (1000 * x0) x1) * x2) 1000))) x2 x0 x1 H.size h7 h8 hc2 hc3 h4 h5 h0 h1 h2 h3) rfl rfl ax_460 rfl rfl ax_461 ⟨Nat.le_of_ble_eq_true rfl, Nat.le_of_ble_eq_true rfl⟩ rfl rfl (Nat.le_of_ble_eq_true rfl) dX10_bestWork_31 ⟨(Nat.le_of_ble_eq_true rfl), (Nat.le_of_ble_eq_true rfl)⟩) hP hD hS hA rfl rfl rfl (by decide) (fun ad31_3 H locs hP hD hS => ?_)
      have hP : va_P D vwCl [(a0, .inr (15, [.int 0, v1, v2, v3, v4, v5, v6, v7, v8, v9, v10, v11, v12, v13, v14, v15, v16, v17, v18, v19, v20, v21, v22, v23, v24, v25, v26, v27]))] H := hP
      have hD : va_D A [(a0, .inr (15, [.int 0, v1, v2, v3, v4, v5, v6, v7, v8, v9, v10, v11, v12, v13, v14, v15, v16, v17, v18, v19, v20, v21, v22, v23, v24, v25, v26, v27]))] := hD
      refine lv_if_ge (tgt := 43) hx hb dX10_bestWork_34 (by decide) (fun _ => ?_) (fun z => absurd (fa_of_nlt hc1) z)
      refine lv_aload_n hx hb dX10_bestWork_43 rfl (lv_at hl 1 rfl) ?_
      refine lv_iload hx hb dX10_bestWork_44 (lv_at hl 0 rfl) ?_
      refine lv_if_ge (tgt := 53) hx hb dX10_bestWork_46 (by decide) (fun _ => ?_) (fun z => absurd (fa_of_nlt hc0) z)
      refine lv_iconst (v := 0) hx hb dX10_bestWork_53 (by decide) ?_
      refine lv_iconst (v := 2) hx hb dX10_bestWork_54 (by decide) ?_
      refine ca_i (isC := [0]) (isR := []) (wr := []) (rn_V (ci := 15) (q0 := 0) (isC := [0]) (wc := [(a0, .inr (15, [.int 0, v1, v2, v3, v4, v5, v6, v7, v8, v9, v10, v11, v12, v13, v14, v15, v16, v17, v18, v19, v20, v21, v22, v23, v24, v25, v26, v27]))]) (As := [.int 0, .int 2]) (rest := []) (n := 2) hx hb hml hown hts hE hS hP hD hA hl.1 (k45_X10_fails l D cy g a0 (v1) (v2) (v3) (v4) (v5) (v6) (v7) (v8) (v9) (v10) (v11) (v12) (v13) (v14) (v15) (v16) (v17) (v18) (v19) (v20) (v21) (v22) (v23) (v24) (v25) (v26) (v27) H.size ) rfl rfl rfl rfl rfl ax_41 rfl rfl ax_42 ⟨Nat.le_of_ble_eq_true rfl, Nat.le_of_ble_eq_true rfl⟩ rfl rfl (Nat.le_of_ble_eq_true rfl) dX10_bestWork_55 ⟨(Nat.le_of_ble_eq_true rfl), (Nat.le_of_ble_eq_true rfl)⟩) hP hD hS hA rfl rfl rfl (by decide) (fun ad55 H locs hP hD hS => ?_)
      have hP : va_P D vwCl [(a0, .inr (15, [.int 0, v1, v2, v3, v4, v5, v6, v7, v8, v9, v10, v11, v12, v13, v14, v15, v16, v17, v18, v19, v20, v21, v22, v23, v24, v25, v26, v27]))] H := hP
      have hD : va_D A [(a0, .inr (15, [.int 0, v1, v2, v3, v4, v5, v6, v7, v8, v9, v10, v11, v12, v13, v14, v15, v16, v17, v18, v19, v20, v21, v22, v23, v24, v25, v26, v27]))] := hD
      refine lv_if_eq (tgt := 65) hx hb dX10_bestWork_58 (by decide) (fun _ => ?_) (fun z => absurd (by decide) z)
      refine lv_iload hx hb dX10_bestWork_65 (lv_at hl 0 rfl) ?_
      exact en_z hx hb hr hlk hP hD hS rfl (fun _ => 0) (is := [0]) rfl rfl (Nat.le_of_ble_eq_true rfl) (Nat.le_of_ble_eq_true rfl) dX10_bestWork_67
    | succ n ih =>
      intro i hi H locs ls hP hD hS hl
      obtain ⟨hi1, hi2⟩ := hi
      have hbw := bw_at (i := i) h0 h1 h2 h3 h4 h5 h6
      obtain ⟨hc0, hc1, hc2, hc3⟩ := hbw.1 (by omega) (by omega) (by omega)
      refine lv_iload hx hb dX10_bestWork_19 (lv_at hl 0 rfl) ?_
      refine lv_if_lt (tgt := 43) hx hb dX10_bestWork_21 (by decide) (fun z => absurd z hc0) (fun _ => ?_)
      refine lv_iload_n hx hb dX10_bestWork_24 rfl (lv_at hl 2 rfl) ?_
      refine lv_iload hx hb dX10_bestWork_25 (lv_at hl 0 rfl) ?_
      refine lv_isub hx hb dX10_bestWork_27 ?_
      refine lv_iload_n hx hb dX10_bestWork_28 rfl (lv_at hl 4 rfl) ?_
      refine lv_iload_n hx hb dX10_bestWork_29 rfl (lv_at hl 2 rfl) ?_
      refine lv_iload_n hx hb dX10_bestWork_30 rfl (lv_at hl 3 rfl) ?_
      refine ca_i (isC := []) (isR := [0]) (wr := [(a0, .inr (15, [.int 0, v1, v2, v3, v4, v5, v6, v7, v8, v9, v10, v11, v12, v13, v14, v15, v16, v17, v18, v19, v20, v21, v22, v23, v24, v25, v26, v27]))]) (rn_S (isC := []) (wc := []) (As := [.int (x0 - i), .int x2, .int x0, .int x1]) (rest := []) (n := 4) hx hb hml hown hts hE hS hP hD hA hl.1 (k675_X10_disorder l D cy g (x0 - i) x2 x0 x1 H.size h7 h8 hc2 hc3 h4 h5 h0 h1 h2 h3) rfl rfl ax_460 rfl rfl ax_461 ⟨Nat.le_of_ble_eq_true rfl, Nat.le_of_ble_eq_true rfl⟩ rfl rfl (Nat.le_of_ble_eq_true rfl) dX10_bestWork_31 ⟨(Nat.le_of_ble_eq_true rfl), (Nat.le_of_ble_eq_true rfl)⟩) hP hD hS hA rfl rfl rfl (by decide) (fun ad31 H locs hP hD hS => ?_)
      have hP : va_P D vwCl [(a0, .inr (15, [.int 0, v1, v2, v3, v4, v5, v6, v7, v8, v9, v10, v11, v12, v13, v14, v15, v16, v17, v18, v19, v20, v21, v22, v23, v24, v25, v26, v27]))] H := hP
      have hD : va_D A [(a0, .inr (15, [.int 0, v1, v2, v3, v4, v5, v6, v7, v8, v9, v10, v11, v12, v13, v14, v15, v16, v17, v18, v19, v20, v21, v22, v23, v24, v25, v26, v27]))] := hD
      refine lv_if_ge (tgt := 43) hx hb dX10_bestWork_34 (by decide) (fun z => absurd z (fa_of_lt hc1).2.1) (fun _ => ?_)
      refine lv_iinc (v := (i + (-1))) (lv' := [(4, .int (i + (-1))), (0, .ref a0), (1, .int x0), (2, .int x1), (3, .int x2)]) hx hb dX10_bestWork_37 hl (k := 0) rfl rfl (Nat.le_of_ble_eq_true rfl) rfl (fun ls hl => ?_)
      refine lv_goto (tgt := 19) hx hb dX10_bestWork_40 (by decide) ?_
      exact ih _ ⟨by rw [dec_i (by omega) (by omega)]; omega, by rw [dec_i (by omega) (by omega)]; omega⟩ H locs ls hP hD hS (lv_sub hl [0, 1, 2, 3, 4] rfl)
  exact loop (dU ((dU (1000 * x0) x1) * x2) 1000).toInt.toNat x0 ⟨by omega, by omega⟩  _ _ _ hP hD hS (lv_sub hl [0, 1, 2, 3, 4] rfl)
set_option maxHeartbeats 4000000 in
set_option maxRecDepth 100000 in
theorem k710_X9_bestWork (l : Launch) (hst : l.stackTraces = false) (D : va_G) (cy : Nat → ClassId) (g : Nat → Nat) (x0 : Int32) (x1 : Int32) (x2 : Int32) (a0 : Nat) (v0 : Value) (v1 : Value) (v2 : Value) (v3 : Value) (v4 : Value) (v5 : Value) (v6 : Value) (sz : Nat) (h0 : ¬ x0 < 1) (h1 : ¬ (100000 : Int32) < x0) (h2 : ¬ x1 < 50) (h3 : ¬ (2000 : Int32) < x1) (h4 : ¬ x2 < 50) (h5 : ¬ (2000 : Int32) < x2) (h6 : ¬ x2 < x1) : vx_Met l yX9_bestWork [.code yX9_bestWork cX9_bestWork 5 (some .int)] ({ frames := 7, cells := 1, slots := 6, locals := 105 }) (PC D cy g [(a0, .inr (14, [v0, v1, v2, v3, v4, v5, v6]))] sz [.ref a0, .int x0, .int x1, .int x2]) QN (XE "java/lang/IllegalArgumentException" (va_A [(a0, .inr (14, [v0, v1, v2, v3, v4, v5, v6]))] sz)) 1 6 (va_A [(a0, .inr (14, [v0, v1, v2, v3, v4, v5, v6]))] sz) := by
  refine st_X (by decide) (Nat.le_of_ble_eq_true rfl) ?_
  intro p e s m args below meth c A ls hx hb hr hml hown hlk hnm hsz hP hD hA hE hts hS hl hout
  have hown : s.vm.findClass RX9 = some m.cls := hown
  have hl : lv_has ls 5 [(0, .ref a0), (1, .int x0), (2, .int x1), (3, .int x2)] := hl
  refine lv_aload_n hx hb dX9_bestWork_0 rfl (lv_at hl 0 rfl) ?_
  refine lv_iload_n hx hb dX9_bestWork_1 rfl (lv_at hl 1 rfl) ?_
  refine lv_iload_n hx hb dX9_bestWork_2 rfl (lv_at hl 2 rfl) ?_
  refine lv_iload_n hx hb dX9_bestWork_3 rfl (lv_at hl 3 rfl) ?_
  exact cx_out (isC := []) (rx_V (ci := 14) (q0 := 0) (isC := []) (wc := []) (As := [.int x0, .int x1, .int x2]) (rest := []) (n := 3) hx hb hml hown hts hE hS hP hD hA hl.1 (k680_X9_requireClaim l hst D cy g x0 x1 x2 a0 s.heap.size h0 h1 h2 h3 h4 h5 h6) rfl rfl rfl rfl rfl ax_444 rfl rfl ax_445 ⟨Nat.le_of_ble_eq_true rfl, Nat.le_of_ble_eq_true rfl⟩ rfl rfl (Nat.le_of_ble_eq_true rfl) dX9_bestWork_4 ⟨(Nat.le_of_ble_eq_true rfl), (Nat.le_of_ble_eq_true rfl)⟩) hD hS hA rfl hout hlk (Nat.le_of_ble_eq_true rfl) (Nat.le_of_ble_eq_true rfl)
set_option maxHeartbeats 4000000 in
set_option maxRecDepth 100000 in
theorem k711_L_bestWork (l : Launch) (hst : l.stackTraces = false) (D : va_G) (cy : Nat → ClassId) (g : Nat → Nat) (x0 : Int32) (x1 : Int32) (x2 : Int32) (a0 : Nat) (b0 : Nat) (v0 : Value) (v1 : Value) (v2 : Value) (v3 : Value) (v4 : Value) (v5 : Value) (v6 : Value) (sz : Nat) (h0 : ¬ x0 < 1) (h1 : ¬ (100000 : Int32) < x0) (h2 : ¬ x1 < 50) (h3 : ¬ (2000 : Int32) < x1) (h4 : ¬ x2 < 50) (h5 : ¬ (2000 : Int32) < x2) (h6 : ¬ x2 < x1) : Met l yL_bestWork [.codeWith yL_bestWork cL_bestWork 6 (some .int) [(0, 12, 15, 13), (0, 12, 19, 45)]] ({ frames := 8, cells := 1, slots := 6, locals := 129 }) (PC D cy g [(a0, .inr (14, [v0, v1, v2, v3, v4, v5, v6]))] sz [.ref a0, .int x0, .int x1, .int x2, .ref b0]) (QI D 1 (fun ad => []) (va_A [(a0, .inr (14, [v0, v1, v2, v3, v4, v5, v6]))] sz)) 1 6 (va_A [(a0, .inr (14, [v0, v1, v2, v3, v4, v5, v6]))] sz) := by
  refine sh_I (by decide) (Nat.le_of_ble_eq_true rfl) ?_
  intro p e s m args below meth c A ls hx hb hr hml hown hlk hnm hsz hP hD hA hE hts hS hl htb
  have hown : s.vm.findClass RL = some m.cls := hown
  have hl : lv_has ls 6 [(0, .ref a0), (1, .int x0), (2, .int x1), (3, .int x2), (4, .ref b0)] := hl
  refine lv_aload hx hb dL_bestWork_0 (lv_at hl 4 rfl) ?_
  refine lv_iconst (v := 0) hx hb dL_bestWork_2 (by decide) ?_
  refine lv_aload_n hx hb dL_bestWork_3 rfl (lv_at hl 0 rfl) ?_
  refine lv_iload_n hx hb dL_bestWork_4 rfl (lv_at hl 1 rfl) ?_
  refine lv_iload_n hx hb dL_bestWork_5 rfl (lv_at hl 2 rfl) ?_
  refine lv_iload_n hx hb dL_bestWork_6 rfl (lv_at hl 3 rfl) ?_
  refine cx_catch (isC := [0]) (isR := []) (wr := []) (hp := []) (z := (0, 12, 15, 13)) (hq := [(0, 12, 19, 45)]) (name := "java/lang/IllegalArgumentException") (own := RL) (rx_V (ci := 14) (q0 := 0) (isC := [0]) (wc := [(a0, .inr (14, [v0, v1, v2, v3, v4, v5, v6]))]) (As := [.int x0, .int x1, .int x2]) (rest := [.int 0, .ref b0]) (n := 3) hx hb hml hown hts hE hS hP hD hA hl.1 (k710_X9_bestWork l hst D cy g x0 x1 x2 a0 (v0) (v1) (v2) (v3) (v4) (v5) (v6) s.heap.size h0 h1 h2 h3 h4 h5 h6) rfl rfl rfl rfl rfl ax_462 rfl rfl ax_463 ⟨Nat.le_of_ble_eq_true rfl, Nat.le_of_ble_eq_true rfl⟩ rfl rfl (Nat.le_of_ble_eq_true rfl) dL_bestWork_7 ⟨(Nat.le_of_ble_eq_true rfl), (Nat.le_of_ble_eq_true rfl)⟩) hP hD hS hA hown hts hE htb rfl rfl rfl rfl (by decide) (fun z hz => by cases hz) (by decide) (by decide) tw_302 tw_303 (fun qx H locs hP hD hS => ?_)
  have hP : va_P D vwCl [] H := hP
  have hD : va_D A [] := hD
  refine lv_astore (lv' := [(5, .ref qx), (0, .ref a0), (1, .int x0), (2, .int x1), (3, .int x2), (4, .ref b0)]) hx hb dL_bestWork_15 hl (Nat.le_of_ble_eq_true rfl) rfl (fun ls hl => ?_)
  refine lv_iconst (v := 1) hx hb dL_bestWork_17 (by decide) ?_
  exact en_z hx hb hr hlk hP hD hS rfl (fun _ => 0) (is := []) rfl rfl (Nat.le_of_ble_eq_true rfl) (Nat.le_of_ble_eq_true rfl) dL_bestWork_18
set_option maxHeartbeats 4000000 in
set_option maxRecDepth 100000 in
theorem k712_X10_bestWork (l : Launch) (D : va_G) (cy : Nat → ClassId) (g : Nat → Nat) (x0 : Int32) (x1 : Int32) (x2 : Int32) (a0 : Nat) (v0 : Value) (v1 : Value) (v2 : Value) (v3 : Value) (v4 : Value) (v5 : Value) (v6 : Value) (v7 : Value) (v8 : Value) (v9 : Value) (v10 : Value) (v11 : Value) (v12 : Value) (v13 : Value) (v14 : Value) (v15 : Value) (v16 : Value) (v17 : Value) (v18 : Value) (v19 : Value) (v20 : Value) (v21 : Value) (v22 : Value) (v23 : Value) (v24 : Value) (v25 : Value) (v26 : Value) (v27 : Value) (sz : Nat) (h0 : ¬ x0 < 1) (h1 : ¬ (100000 : Int32) < x0) (h2 : ¬ x1 < 50) (h3 : ¬ (2000 : Int32) < x1) (h4 : ¬ x2 < 50) (h5 : ¬ (2000 : Int32) < x2) (h6 : ¬ x2 < x1) : Met l yX10_bestWork [.code yX10_bestWork cX10_bestWork 5 (some .int)] ({ frames := 2, cells := 0, slots := 0, locals := 48 }) (PC D cy g [(a0, .inr (15, [v0, v1, v2, v3, v4, v5, v6, v7, v8, v9, v10, v11, v12, v13, v14, v15, v16, v17, v18, v19, v20, v21, v22, v23, v24, v25, v26, v27]))] sz [.ref a0, .int x0, .int x1, .int x2]) (QI D (-1) (fun ad => [(a0, .inr (15, [.int 1, v1, v2, v3, v4, v5, v6, v7, v8, v9, v10, v11, v12, v13, v14, v15, v16, v17, v18, v19, v20, v21, v22, v23, v24, v25, v26, v27]))]) (va_A [(a0, .inr (15, [v0, v1, v2, v3, v4, v5, v6, v7, v8, v9, v10, v11, v12, v13, v14, v15, v16, v17, v18, v19, v20, v21, v22, v23, v24, v25, v26, v27]))] sz)) 0 0 (va_A [(a0, .inr (15, [v0, v1, v2, v3, v4, v5, v6, v7, v8, v9, v10, v11, v12, v13, v14, v15, v16, v17, v18, v19, v20, v21, v22, v23, v24, v25, v26, v27]))] sz) := by
  refine st_I (by decide) (Nat.le_of_ble_eq_true rfl) ?_
  intro p e s m args below meth c A ls hx hb hr hml hown hlk hnm hsz hP hD hA hE hts hS hl
  have hown : s.vm.findClass RX10 = some m.cls := hown
  have hl : lv_has ls 5 [(0, .ref a0), (1, .int x0), (2, .int x1), (3, .int x2)] := hl
  refine lv_aload_n hx hb dX10_bestWork_0 rfl (lv_at hl 0 rfl) ?_
  refine ca_v (isC := [0]) (isR := []) (wr := []) (rn_V (ci := 15) (q0 := 0) (isC := [0]) (wc := [(a0, .inr (15, [v0, v1, v2, v3, v4, v5, v6, v7, v8, v9, v10, v11, v12, v13, v14, v15, v16, v17, v18, v19, v20, v21, v22, v23, v24, v25, v26, v27]))]) (As := []) (rest := []) (n := 0) hx hb hml hown hts hE hS hP hD hA hl.1 (k20_X10_begins l D cy g a0 (v0) (v1) (v2) (v3) (v4) (v5) (v6) (v7) (v8) (v9) (v10) (v11) (v12) (v13) (v14) (v15) (v16) (v17) (v18) (v19) (v20) (v21) (v22) (v23) (v24) (v25) (v26) (v27) s.heap.size ) rfl rfl rfl rfl rfl ax_37 rfl rfl ax_38 ⟨Nat.le_of_ble_eq_true rfl, Nat.le_of_ble_eq_true rfl⟩ rfl rfl (Nat.le_of_ble_eq_true rfl) dX10_bestWork_1 ⟨(Nat.le_of_ble_eq_true rfl), (Nat.le_of_ble_eq_true rfl)⟩) hP hD hS hA rfl rfl rfl (by decide) (fun ad1 H locs hP hD hS => ?_)
  have hP : va_P D vwCl [(a0, .inr (15, [.int 0, v1, v2, v3, v4, v5, v6, v7, v8, v9, v10, v11, v12, v13, v14, v15, v16, v17, v18, v19, v20, v21, v22, v23, v24, v25, v26, v27]))] H := hP
  have hD : va_D A [(a0, .inr (15, [.int 0, v1, v2, v3, v4, v5, v6, v7, v8, v9, v10, v11, v12, v13, v14, v15, v16, v17, v18, v19, v20, v21, v22, v23, v24, v25, v26, v27]))] := hD
  refine lv_aload_n hx hb dX10_bestWork_4 rfl (lv_at hl 0 rfl) ?_
  refine lv_iload_n hx hb dX10_bestWork_5 rfl (lv_at hl 1 rfl) ?_
  refine lv_iload_n hx hb dX10_bestWork_6 rfl (lv_at hl 2 rfl) ?_
  refine lv_iload_n hx hb dX10_bestWork_7 rfl (lv_at hl 3 rfl) ?_
  refine ca_i (isC := [0]) (isR := []) (wr := []) (rn_V (ci := 15) (q0 := 0) (isC := [0]) (wc := [(a0, .inr (15, [.int 0, v1, v2, v3, v4, v5, v6, v7, v8, v9, v10, v11, v12, v13, v14, v15, v16, v17, v18, v19, v20, v21, v22, v23, v24, v25, v26, v27]))]) (As := [.int x0, .int x1, .int x2]) (rest := []) (n := 3) hx hb hml hown hts hE hS hP hD hA hl.1 (k683_X10_noClaim l D cy g x0 x1 x2 a0 (v1) (v2) (v3) (v4) (v5) (v6) (v7) (v8) (v9) (v10) (v11) (v12) (v13) (v14) (v15) (v16) (v17) (v18) (v19) (v20) (v21) (v22) (v23) (v24) (v25) (v26) (v27) H.size h0 h1 h2 h3 h4 h5 h6) rfl rfl rfl rfl rfl ax_452 rfl rfl ax_453 ⟨Nat.le_of_ble_eq_true rfl, Nat.le_of_ble_eq_true rfl⟩ rfl rfl (Nat.le_of_ble_eq_true rfl) dX10_bestWork_8 ⟨(Nat.le_of_ble_eq_true rfl), (Nat.le_of_ble_eq_true rfl)⟩) hP hD hS hA rfl rfl rfl (by decide) (fun ad8 H locs hP hD hS => ?_)
  have hP : va_P D vwCl [(a0, .inr (15, [.int 1, v1, v2, v3, v4, v5, v6, v7, v8, v9, v10, v11, v12, v13, v14, v15, v16, v17, v18, v19, v20, v21, v22, v23, v24, v25, v26, v27]))] H := hP
  have hD : va_D A [(a0, .inr (15, [.int 1, v1, v2, v3, v4, v5, v6, v7, v8, v9, v10, v11, v12, v13, v14, v15, v16, v17, v18, v19, v20, v21, v22, v23, v24, v25, v26, v27]))] := hD
  refine lv_if_eq (tgt := 16) hx hb dX10_bestWork_11 (by decide) (fun z => absurd z (by decide)) (fun _ => ?_)
  refine lv_iconst (v := (-1)) hx hb dX10_bestWork_14 (by decide) ?_
  exact en_z hx hb hr hlk hP hD hS rfl (fun _ => 0) (is := [0]) rfl rfl (Nat.le_of_ble_eq_true rfl) (Nat.le_of_ble_eq_true rfl) dX10_bestWork_15
set_option maxHeartbeats 4000000 in
set_option maxRecDepth 100000 in
theorem k713_X9_checksum (l : Launch) (D : va_G) (cy : Nat → ClassId) (g : Nat → Nat) (a0 : Nat) (a1 : Nat) (a2 : Nat) (a3 : Nat) (a4 : Nat) (a5 : Nat) (v0 : Value) (v1 : Value) (v2 : Value) (v3 : Value) (v4 : Value) (v5 : Value) (v6 : Value) (v7 : Value) (v8 : Value) (v9 : Value) (v10 : Value) (v11 : Value) (v12 : Value) (v13 : Value) (v14 : Value) (v15 : Value) (v16 : Value) (v17 : Value) (v18 : Value) (v19 : Value) (v20 : Value) (v21 : Value) (v22 : Value) (v23 : Value) (v24 : Value) (v25 : Value) (v26 : Value) (v27 : Value) (v28 : Value) (v29 : Value) (v30 : Value) (v31 : Value) (v32 : Value) (v33 : Value) (v34 : Value) (sz : Nat)  : Met l yX9_checksum [.code yX9_checksum cX9_checksum 4 (some .long)] ({ frames := 1, cells := 0, slots := 0, locals := 20 }) (PC D cy g [(a0, .inr (14, [.ref a1, v0, v1, .ref a3, v2, .ref a5, .ref a2])), (a1, .inr (5, [v3, v4, .int 0, v5, v6, v7, v8, v9])), (a2, .inr (11, [.long 0, .int 0, v10, v11, v12])), (a3, .inr (6, [v13, v14, v15, v16, v17, v18, .ref a4, v19, v20, v21, v22, v23, v24])), (a4, .inr (13, [.long 900, v25, .int 1])), (a5, .inr (7, [v26, v27, v28, v29, v30, .int 1000, v31, v32, v33, v34]))] sz [.ref a0]) (QL D 6493547 (fun ad => []) (va_A [(a0, .inr (14, [.ref a1, v0, v1, .ref a3, v2, .ref a5, .ref a2])), (a1, .inr (5, [v3, v4, .int 0, v5, v6, v7, v8, v9])), (a2, .inr (11, [.long 0, .int 0, v10, v11, v12])), (a3, .inr (6, [v13, v14, v15, v16, v17, v18, .ref a4, v19, v20, v21, v22, v23, v24])), (a4, .inr (13, [.long 900, v25, .int 1])), (a5, .inr (7, [v26, v27, v28, v29, v30, .int 1000, v31, v32, v33, v34]))] sz)) 0 0 (va_A [(a0, .inr (14, [.ref a1, v0, v1, .ref a3, v2, .ref a5, .ref a2])), (a1, .inr (5, [v3, v4, .int 0, v5, v6, v7, v8, v9])), (a2, .inr (11, [.long 0, .int 0, v10, v11, v12])), (a3, .inr (6, [v13, v14, v15, v16, v17, v18, .ref a4, v19, v20, v21, v22, v23, v24])), (a4, .inr (13, [.long 900, v25, .int 1])), (a5, .inr (7, [v26, v27, v28, v29, v30, .int 1000, v31, v32, v33, v34]))] sz) := by
  refine st_L (by decide) (Nat.le_of_ble_eq_true rfl) ?_
  intro p e s m args below meth c A ls hx hb hr hml hown hlk hnm hsz hP hD hA hE hts hS hl
  have hown : s.vm.findClass RX9 = some m.cls := hown
  have hl : lv_has ls 4 [(0, .ref a0)] := hl
  refine lv_ldc2 (v := 7) hx hb hown (hts _ tw_1231) dX9_checksum_0 ?_
  refine lv_lstore_n (lv' := [(1, .long 7), (0, .ref a0)]) hx hb dX9_checksum_3 rfl hl (Nat.le_of_ble_eq_true rfl) rfl (fun ls hl => ?_)
  refine lv_iconst (v := 0) hx hb dX9_checksum_4 (by decide) ?_
  refine lv_istore_n (lv' := [(3, .int 0), (1, .long 7), (0, .ref a0)]) hx hb dX9_checksum_5 rfl hl (Nat.le_of_ble_eq_true rfl) rfl (fun ls hl => ?_)
  refine lv_iload_n hx hb dX9_checksum_6 rfl (lv_at hl 0 rfl) ?_
  refine lv_aload_n hx hb dX9_checksum_7 rfl (lv_at hl 2 rfl) ?_
  refine va_get (D := D) (ci := 14) (v := .ref a1) (C := RX9) (T := TX9) (N := 7) hx hb hts ax_16 hown hE.1 hP 0 rfl rfl 0 (by decide) (hts _ tw_179) (fun _ h9 => h9) rfl dX9_checksum_8 ?_
  refine va_getN (D := D) (ci := 5) (v := .int 0) (C := RX0) (T := TX0) (N := 8) hx hb hts ax_1 hown hE.1 hP 1 rfl rfl 2 (by decide) (hts _ tw_1232) (fun _ h9 => h9) rfl dX9_checksum_11 ?_
  refine lv_icmp_ge (tgt := 41) hx hb dX9_checksum_14 (by decide) (fun _ => ?_) (fun z => absurd (by decide) z)
  refine lv_ldc2 (v := 31) hx hb hown (hts _ tw_1233) dX9_checksum_41 ?_
  refine lv_lload_n hx hb dX9_checksum_44 rfl (lv_at hl 1 rfl) ?_
  refine lv_lmul hx hb dX9_checksum_45 ?_
  refine tp_l 217 (by decide) ?_
  refine lv_aload_n hx hb dX9_checksum_46 rfl (lv_at hl 2 rfl) ?_
  refine va_get (D := D) (ci := 14) (v := .ref a2) (C := RX9) (T := TX9) (N := 7) hx hb hts ax_16 hown hE.1 hP 0 rfl rfl 6 (by decide) (hts _ tw_220) (fun _ h9 => h9) rfl dX9_checksum_47 ?_
  refine va_getN (D := D) (ci := 11) (v := .long 0) (C := RX6) (T := TX6) (N := 5) hx hb hts ax_14 hown hE.1 hP 2 rfl rfl 0 (by decide) (hts _ tw_462) (fun _ h9 => h9) rfl dX9_checksum_50 ?_
  refine lv_ladd hx hb dX9_checksum_53 ?_
  refine tp_l 217 (by decide) ?_
  refine lv_lstore_n (lv' := [(1, .long 217), (3, .int 0), (0, .ref a0)]) hx hb dX9_checksum_54 rfl hl (Nat.le_of_ble_eq_true rfl) rfl (fun ls hl => ?_)
  refine lv_ldc2 (v := 31) hx hb hown (hts _ tw_1233) dX9_checksum_55 ?_
  refine lv_lload_n hx hb dX9_checksum_58 rfl (lv_at hl 0 rfl) ?_
  refine lv_lmul hx hb dX9_checksum_59 ?_
  refine tp_l 6727 (by decide) ?_
  refine lv_aload_n hx hb dX9_checksum_60 rfl (lv_at hl 2 rfl) ?_
  refine va_get (D := D) (ci := 14) (v := .ref a2) (C := RX9) (T := TX9) (N := 7) hx hb hts ax_16 hown hE.1 hP 0 rfl rfl 6 (by decide) (hts _ tw_220) (fun _ h9 => h9) rfl dX9_checksum_61 ?_
  refine va_getN (D := D) (ci := 11) (v := .int 0) (C := RX6) (T := TX6) (N := 5) hx hb hts ax_14 hown hE.1 hP 2 rfl rfl 1 (by decide) (hts _ tw_472) (fun _ h9 => h9) rfl dX9_checksum_64 ?_
  refine lv_i2l (v := 0) hx hb dX9_checksum_67 (by decide) ?_
  refine lv_ladd hx hb dX9_checksum_68 ?_
  refine tp_l 6727 (by decide) ?_
  refine lv_lstore_n (lv' := [(1, .long 6727), (3, .int 0), (0, .ref a0)]) hx hb dX9_checksum_69 rfl hl (Nat.le_of_ble_eq_true rfl) rfl (fun ls hl => ?_)
  refine lv_ldc2 (v := 31) hx hb hown (hts _ tw_1233) dX9_checksum_70 ?_
  refine lv_lload_n hx hb dX9_checksum_73 rfl (lv_at hl 0 rfl) ?_
  refine lv_lmul hx hb dX9_checksum_74 ?_
  refine tp_l 208537 (by decide) ?_
  refine lv_aload_n hx hb dX9_checksum_75 rfl (lv_at hl 2 rfl) ?_
  refine va_get (D := D) (ci := 14) (v := .ref a3) (C := RX9) (T := TX9) (N := 7) hx hb hts ax_16 hown hE.1 hP 0 rfl rfl 3 (by decide) (hts _ tw_199) (fun _ h9 => h9) rfl dX9_checksum_76 ?_
  refine va_getN (D := D) (ci := 6) (v := .ref a4) (C := RX1) (T := TX1) (N := 13) hx hb hts ax_7 hown hE.1 hP 3 rfl rfl 6 (by decide) (hts _ tw_221) (fun _ h9 => h9) rfl dX9_checksum_79 ?_
  refine ca_l (isC := [4]) (isR := [0, 1, 2, 3, 5]) (wr := [(a0, .inr (14, [.ref a1, v0, v1, .ref a3, v2, .ref a5, .ref a2])), (a1, .inr (5, [v3, v4, .int 0, v5, v6, v7, v8, v9])), (a2, .inr (11, [.long 0, .int 0, v10, v11, v12])), (a3, .inr (6, [v13, v14, v15, v16, v17, v18, .ref a4, v19, v20, v21, v22, v23, v24])), (a5, .inr (7, [v26, v27, v28, v29, v30, .int 1000, v31, v32, v33, v34]))]) (rn_V (ci := 13) (q0 := 4) (isC := [4]) (wc := [(a4, .inr (13, [.long 900, v25, .int 1]))]) (As := []) (rest := [.long 208537]) (n := 0) hx hb hml hown hts hE hS hP hD hA hl.1 (k11_X8_low l D cy g a4 (v25) s.heap.size ) rfl rfl rfl rfl rfl ax_23 rfl rfl ax_24 ⟨Nat.le_of_ble_eq_true rfl, Nat.le_of_ble_eq_true rfl⟩ rfl rfl (Nat.le_of_ble_eq_true rfl) dX9_checksum_82 ⟨(Nat.le_of_ble_eq_true rfl), (Nat.le_of_ble_eq_true rfl)⟩) hP hD hS hA rfl rfl rfl (by decide) (fun ad82 H locs hP hD hS => ?_)
  have hP : va_P D vwCl [(a0, .inr (14, [.ref a1, v0, v1, .ref a3, v2, .ref a5, .ref a2])), (a1, .inr (5, [v3, v4, .int 0, v5, v6, v7, v8, v9])), (a2, .inr (11, [.long 0, .int 0, v10, v11, v12])), (a3, .inr (6, [v13, v14, v15, v16, v17, v18, .ref a4, v19, v20, v21, v22, v23, v24])), (a5, .inr (7, [v26, v27, v28, v29, v30, .int 1000, v31, v32, v33, v34])), (a4, .inr (13, [.long 900, v25, .int 1]))] H := hP
  have hD : va_D A [(a0, .inr (14, [.ref a1, v0, v1, .ref a3, v2, .ref a5, .ref a2])), (a1, .inr (5, [v3, v4, .int 0, v5, v6, v7, v8, v9])), (a2, .inr (11, [.long 0, .int 0, v10, v11, v12])), (a3, .inr (6, [v13, v14, v15, v16, v17, v18, .ref a4, v19, v20, v21, v22, v23, v24])), (a5, .inr (7, [v26, v27, v28, v29, v30, .int 1000, v31, v32, v33, v34])), (a4, .inr (13, [.long 900, v25, .int 1]))] := hD
  refine lv_ladd hx hb dX9_checksum_85 ?_
  refine tp_l 209437 (by decide) ?_
  refine lv_lstore_n (lv' := [(1, .long 209437), (3, .int 0), (0, .ref a0)]) hx hb dX9_checksum_86 rfl hl (Nat.le_of_ble_eq_true rfl) rfl (fun ls hl => ?_)
  refine lv_ldc2 (v := 31) hx hb hown (hts _ tw_1233) dX9_checksum_87 ?_
  refine lv_lload_n hx hb dX9_checksum_90 rfl (lv_at hl 0 rfl) ?_
  refine lv_lmul hx hb dX9_checksum_91 ?_
  refine tp_l 6492547 (by decide) ?_
  refine lv_aload_n hx hb dX9_checksum_92 rfl (lv_at hl 2 rfl) ?_
  refine va_get (D := D) (ci := 14) (v := .ref a5) (C := RX9) (T := TX9) (N := 7) hx hb hts ax_16 hown hE.1 hP 0 rfl rfl 5 (by decide) (hts _ tw_213) (fun _ h9 => h9) rfl dX9_checksum_93 ?_
  refine va_getN (D := D) (ci := 7) (v := .int 1000) (C := RX2) (T := TX2) (N := 10) hx hb hts ax_13 hown hE.1 hP 4 rfl rfl 5 (by decide) (hts _ tw_1133) (fun _ h9 => h9) rfl dX9_checksum_96 ?_
  refine lv_i2l (v := 1000) hx hb dX9_checksum_99 (by decide) ?_
  refine lv_ladd hx hb dX9_checksum_100 ?_
  refine tp_l 6493547 (by decide) ?_
  exact en_l hx hb hr hlk hP hD hS (fun _ => 0) (is := []) rfl rfl (Nat.le_of_ble_eq_true rfl) (Nat.le_of_ble_eq_true rfl) dX9_checksum_101
set_option maxHeartbeats 4000000 in
set_option maxRecDepth 100000 in
theorem k714_X10_checksum (l : Launch) (D : va_G) (cy : Nat → ClassId) (g : Nat → Nat) (a0 : Nat) (a1 : Nat) (v0 : Value) (v1 : Value) (v2 : Value) (v3 : Value) (v4 : Value) (v5 : Value) (v6 : Value) (v7 : Value) (v8 : Value) (v9 : Value) (v10 : Value) (v11 : Value) (v12 : Value) (v13 : Value) (v14 : Value) (v15 : Value) (v16 : Value) (v17 : Value) (v18 : Value) (v19 : Value) (v20 : Value) (v21 : Value) (v22 : Value) (v23 : Value) (sz : Nat)  : Met l yX10_checksum [.code yX10_checksum cX10_checksum 5 (some .long)] ({ frames := 3, cells := 1, slots := 4, locals := 53 }) (PC D cy g [(a0, .inr (15, [v0, .ref a1, .int 0, .int 0, v1, v2, v3, v4, v5, v6, v7, .int 900, v8, v9, v10, v11, v12, v13, .int 1000, v14, v15, v16, v17, v18, v19, v20, v21, v22])), (a1, .inr (4, [.int 0, v23, .int 0]))] sz [.ref a0]) (QL D 6493547 (fun ad => [(a0, .inr (15, [.int 0, .ref a1, .int 0, .int 0, v1, v2, v3, v4, v5, v6, v7, .int 900, v8, v9, v10, v11, v12, v13, .int 1000, v14, v15, v16, v17, v18, v19, v20, v21, v22]))]) (va_A [(a0, .inr (15, [v0, .ref a1, .int 0, .int 0, v1, v2, v3, v4, v5, v6, v7, .int 900, v8, v9, v10, v11, v12, v13, .int 1000, v14, v15, v16, v17, v18, v19, v20, v21, v22])), (a1, .inr (4, [.int 0, v23, .int 0]))] sz)) 1 4 (va_A [(a0, .inr (15, [v0, .ref a1, .int 0, .int 0, v1, v2, v3, v4, v5, v6, v7, .int 900, v8, v9, v10, v11, v12, v13, .int 1000, v14, v15, v16, v17, v18, v19, v20, v21, v22])), (a1, .inr (4, [.int 0, v23, .int 0]))] sz) := by
  refine st_L (by decide) (Nat.le_of_ble_eq_true rfl) ?_
  intro p e s m args below meth c A ls hx hb hr hml hown hlk hnm hsz hP hD hA hE hts hS hl
  have hown : s.vm.findClass RX10 = some m.cls := hown
  have hl : lv_has ls 5 [(0, .ref a0)] := hl
  refine lv_aload_n hx hb dX10_checksum_0 rfl (lv_at hl 0 rfl) ?_
  refine ca_v (isC := [0]) (isR := [1]) (wr := [(a1, .inr (4, [.int 0, v23, .int 0]))]) (rn_V (ci := 15) (q0 := 0) (isC := [0]) (wc := [(a0, .inr (15, [v0, .ref a1, .int 0, .int 0, v1, v2, v3, v4, v5, v6, v7, .int 900, v8, v9, v10, v11, v12, v13, .int 1000, v14, v15, v16, v17, v18, v19, v20, v21, v22]))]) (As := []) (rest := []) (n := 0) hx hb hml hown hts hE hS hP hD hA hl.1 (k20_X10_begins l D cy g a0 (v0) (.ref a1) (.int 0) (.int 0) (v1) (v2) (v3) (v4) (v5) (v6) (v7) (.int 900) (v8) (v9) (v10) (v11) (v12) (v13) (.int 1000) (v14) (v15) (v16) (v17) (v18) (v19) (v20) (v21) (v22) s.heap.size ) rfl rfl rfl rfl rfl ax_37 rfl rfl ax_38 ⟨Nat.le_of_ble_eq_true rfl, Nat.le_of_ble_eq_true rfl⟩ rfl rfl (Nat.le_of_ble_eq_true rfl) dX10_checksum_1 ⟨(Nat.le_of_ble_eq_true rfl), (Nat.le_of_ble_eq_true rfl)⟩) hP hD hS hA rfl rfl rfl (by decide) (fun ad1 H locs hP hD hS => ?_)
  have hP : va_P D vwCl [(a1, .inr (4, [.int 0, v23, .int 0])), (a0, .inr (15, [.int 0, .ref a1, .int 0, .int 0, v1, v2, v3, v4, v5, v6, v7, .int 900, v8, v9, v10, v11, v12, v13, .int 1000, v14, v15, v16, v17, v18, v19, v20, v21, v22]))] H := hP
  have hD : va_D A [(a1, .inr (4, [.int 0, v23, .int 0])), (a0, .inr (15, [.int 0, .ref a1, .int 0, .int 0, v1, v2, v3, v4, v5, v6, v7, .int 900, v8, v9, v10, v11, v12, v13, .int 1000, v14, v15, v16, v17, v18, v19, v20, v21, v22]))] := hD
  refine lv_ldc2 (v := 7) hx hb hown (hts _ tw_1238) dX10_checksum_4 ?_
  refine lv_lstore_n (lv' := [(1, .long 7), (0, .ref a0)]) hx hb dX10_checksum_7 rfl hl (Nat.le_of_ble_eq_true rfl) rfl (fun ls hl => ?_)
  refine lv_aload_n hx hb dX10_checksum_8 rfl (lv_at hl 1 rfl) ?_
  refine va_get (D := D) (ci := 15) (v := .ref a1) (C := RX10) (T := TX10) (N := 28) hx hb hts ax_29 hown hE.1 hP 1 rfl rfl 1 (by decide) (hts _ tw_277) (fun _ h9 => h9) rfl dX10_checksum_9 ?_
  refine ca_Fr (isC := [0]) (isR := [1]) (wr := [(a0, .inr (15, [.int 0, .ref a1, .int 0, .int 0, v1, v2, v3, v4, v5, v6, v7, .int 900, v8, v9, v10, v11, v12, v13, .int 1000, v14, v15, v16, v17, v18, v19, v20, v21, v22]))]) (rn_F (ci := 4) (q0 := 0) (isC := [0]) (wc := [(a1, .inr (4, [.int 0, v23, .int 0]))]) (As := []) (rest := []) (n := 0) hx hb hml hown hts hE hS hP hD hA hl.1 (k547_Jx4a65c_iterator_32c93 l D cy g a1 (v23) (.int 0) H.size ) rfl rfl rfl rfl rfl ax_379 tw_1032 tw_1033 tw_1034 tw_1035 tw_371 rfl rfl ax_380 ⟨Nat.le_of_ble_eq_true rfl, Nat.le_of_ble_eq_true rfl⟩ rfl rfl (Nat.le_of_ble_eq_true rfl) dX10_checksum_12 ⟨(Nat.le_of_ble_eq_true rfl), (Nat.le_of_ble_eq_true rfl)⟩) hP hD hS hA rfl rfl rfl (by decide) (fun ad12 H locs hP hD hS => ?_)
  have hP : va_P D vwCl [(a0, .inr (15, [.int 0, .ref a1, .int 0, .int 0, v1, v2, v3, v4, v5, v6, v7, .int 900, v8, v9, v10, v11, v12, v13, .int 1000, v14, v15, v16, v17, v18, v19, v20, v21, v22])), (a1, .inr (4, [.int 0, v23, .int 0])), ((ad12 0), .inr (3, [.int 0, .int (-1), .int 0, .ref a1]))] H := hP
  have hD : va_D A [(a0, .inr (15, [.int 0, .ref a1, .int 0, .int 0, v1, v2, v3, v4, v5, v6, v7, .int 900, v8, v9, v10, v11, v12, v13, .int 1000, v14, v15, v16, v17, v18, v19, v20, v21, v22])), (a1, .inr (4, [.int 0, v23, .int 0])), ((ad12 0), .inr (3, [.int 0, .int (-1), .int 0, .ref a1]))] := hD
  refine lv_astore_n (lv' := [(3, .ref (ad12 0)), (1, .long 7), (0, .ref a0)]) hx hb dX10_checksum_17 rfl hl (Nat.le_of_ble_eq_true rfl) rfl (fun ls hl => ?_)
  refine lv_aload_n hx hb dX10_checksum_18 rfl (lv_at hl 0 rfl) ?_
  refine ca_Fi (isC := [2, 1]) (isR := [0]) (wr := [(a0, .inr (15, [.int 0, .ref a1, .int 0, .int 0, v1, v2, v3, v4, v5, v6, v7, .int 900, v8, v9, v10, v11, v12, v13, .int 1000, v14, v15, v16, v17, v18, v19, v20, v21, v22]))]) (rn_F (ci := 3) (q0 := 2) (isC := [2, 1]) (wc := [((ad12 0), .inr (3, [.int 0, .int (-1), .int 0, .ref a1])), (a1, .inr (4, [.int 0, v23, .int 0]))]) (As := []) (rest := []) (n := 0) hx hb hml hown hts hE hS hP hD hA hl.1 (k548_Jx35411_hasNext_aae02 l D cy g (ad12 0) a1 (.int (-1)) (.int 0) (.int 0) (v23) H.size ) rfl rfl rfl rfl rfl ax_381 tw_1040 tw_1041 tw_1042 tw_1043 tw_1044 rfl rfl ax_382 ⟨Nat.le_of_ble_eq_true rfl, Nat.le_of_ble_eq_true rfl⟩ rfl rfl (Nat.le_of_ble_eq_true rfl) dX10_checksum_19 ⟨(Nat.le_of_ble_eq_true rfl), (Nat.le_of_ble_eq_true rfl)⟩) hP hD hS hA rfl rfl rfl (by decide) (fun ad19 H locs hP hD hS => ?_)
  have hP : va_P D vwCl [(a0, .inr (15, [.int 0, .ref a1, .int 0, .int 0, v1, v2, v3, v4, v5, v6, v7, .int 900, v8, v9, v10, v11, v12, v13, .int 1000, v14, v15, v16, v17, v18, v19, v20, v21, v22])), ((ad12 0), .inr (3, [.int 0, .int (-1), .int 0, .ref a1])), (a1, .inr (4, [.int 0, v23, .int 0]))] H := hP
  have hD : va_D A [(a0, .inr (15, [.int 0, .ref a1, .int 0, .int 0, v1, v2, v3, v4, v5, v6, v7, .int 900, v8, v9, v10, v11, v12, v13, .int 1000, v14, v15, v16, v17, v18, v19, v20, v21, v22])), ((ad12 0), .inr (3, [.int 0, .int (-1), .int 0, .ref a1])), (a1, .inr (4, [.int 0, v23, .int 0]))] := hD
  refine lv_if_eq (tgt := 53) hx hb dX10_checksum_24 (by decide) (fun _ => ?_) (fun z => absurd (by decide) z)
  refine lv_ldc2 (v := 31) hx hb hown (hts _ tw_1239) dX10_checksum_53 ?_
  refine lv_lload_n hx hb dX10_checksum_56 rfl (lv_at hl 1 rfl) ?_
  refine lv_lmul hx hb dX10_checksum_57 ?_
  refine tp_l 217 (by decide) ?_
  refine lv_aload_n hx hb dX10_checksum_58 rfl (lv_at hl 2 rfl) ?_
  refine va_get (D := D) (ci := 15) (v := .int 0) (C := RX10) (T := TX10) (N := 28) hx hb hts ax_29 hown hE.1 hP 0 rfl rfl 2 (by decide) (hts _ tw_467) (fun _ h9 => h9) rfl dX10_checksum_59 ?_
  refine lv_i2l (v := 0) hx hb dX10_checksum_62 (by decide) ?_
  refine lv_ladd hx hb dX10_checksum_63 ?_
  refine tp_l 217 (by decide) ?_
  refine lv_lstore_n (lv' := [(1, .long 217), (3, .ref (ad12 0)), (0, .ref a0)]) hx hb dX10_checksum_64 rfl hl (Nat.le_of_ble_eq_true rfl) rfl (fun ls hl => ?_)
  refine lv_ldc2 (v := 31) hx hb hown (hts _ tw_1239) dX10_checksum_65 ?_
  refine lv_lload_n hx hb dX10_checksum_68 rfl (lv_at hl 0 rfl) ?_
  refine lv_lmul hx hb dX10_checksum_69 ?_
  refine tp_l 6727 (by decide) ?_
  refine lv_aload_n hx hb dX10_checksum_70 rfl (lv_at hl 2 rfl) ?_
  refine va_get (D := D) (ci := 15) (v := .int 0) (C := RX10) (T := TX10) (N := 28) hx hb hts ax_29 hown hE.1 hP 0 rfl rfl 3 (by decide) (hts _ tw_477) (fun _ h9 => h9) rfl dX10_checksum_71 ?_
  refine lv_i2l (v := 0) hx hb dX10_checksum_74 (by decide) ?_
  refine lv_ladd hx hb dX10_checksum_75 ?_
  refine tp_l 6727 (by decide) ?_
  refine lv_lstore_n (lv' := [(1, .long 6727), (3, .ref (ad12 0)), (0, .ref a0)]) hx hb dX10_checksum_76 rfl hl (Nat.le_of_ble_eq_true rfl) rfl (fun ls hl => ?_)
  refine lv_ldc2 (v := 31) hx hb hown (hts _ tw_1239) dX10_checksum_77 ?_
  refine lv_lload_n hx hb dX10_checksum_80 rfl (lv_at hl 0 rfl) ?_
  refine lv_lmul hx hb dX10_checksum_81 ?_
  refine tp_l 208537 (by decide) ?_
  refine lv_aload_n hx hb dX10_checksum_82 rfl (lv_at hl 2 rfl) ?_
  refine va_get (D := D) (ci := 15) (v := .int 900) (C := RX10) (T := TX10) (N := 28) hx hb hts ax_29 hown hE.1 hP 0 rfl rfl 11 (by decide) (hts _ tw_282) (fun _ h9 => h9) rfl dX10_checksum_83 ?_
  refine lv_i2l (v := 900) hx hb dX10_checksum_86 (by decide) ?_
  refine lv_ladd hx hb dX10_checksum_87 ?_
  refine tp_l 209437 (by decide) ?_
  refine lv_lstore_n (lv' := [(1, .long 209437), (3, .ref (ad12 0)), (0, .ref a0)]) hx hb dX10_checksum_88 rfl hl (Nat.le_of_ble_eq_true rfl) rfl (fun ls hl => ?_)
  refine lv_ldc2 (v := 31) hx hb hown (hts _ tw_1239) dX10_checksum_89 ?_
  refine lv_lload_n hx hb dX10_checksum_92 rfl (lv_at hl 0 rfl) ?_
  refine lv_lmul hx hb dX10_checksum_93 ?_
  refine tp_l 6492547 (by decide) ?_
  refine lv_aload_n hx hb dX10_checksum_94 rfl (lv_at hl 2 rfl) ?_
  refine va_get (D := D) (ci := 15) (v := .int 1000) (C := RX10) (T := TX10) (N := 28) hx hb hts ax_29 hown hE.1 hP 0 rfl rfl 18 (by decide) (hts _ tw_286) (fun _ h9 => h9) rfl dX10_checksum_95 ?_
  refine lv_i2l (v := 1000) hx hb dX10_checksum_98 (by decide) ?_
  refine lv_ladd hx hb dX10_checksum_99 ?_
  refine tp_l 6493547 (by decide) ?_
  exact en_l hx hb hr hlk hP hD hS (fun _ => 0) (is := [0]) rfl rfl (Nat.le_of_ble_eq_true rfl) (Nat.le_of_ble_eq_true rfl) dX10_checksum_100
set_option maxHeartbeats 4000000 in
set_option maxRecDepth 100000 in
theorem k715_X9_makingShare (l : Launch) (hst : l.stackTraces = false) (D : va_G) (cy : Nat → ClassId) (g : Nat → Nat) (a0 : Nat) (a1 : Nat) (v0 : Value) (v1 : Value) (v2 : Value) (v3 : Value) (v4 : Value) (v5 : Value) (v6 : Value) (v7 : Value) (v8 : Value) (v9 : Value) (sz : Nat)  : vx_Met l yX9_makingShare [.code yX9_makingShare cX9_makingShare 1 (some .float)] ({ frames := 6, cells := 1, slots := 6, locals := 82 }) (PC D cy g [(a0, .inr (14, [v0, v1, v2, v3, v4, v5, .ref a1])), (a1, .inr (11, [v6, v7, .int 0, v8, v9]))] sz [.ref a0]) QN (XE "java/lang/ArithmeticException" (va_A [(a0, .inr (14, [v0, v1, v2, v3, v4, v5, .ref a1])), (a1, .inr (11, [v6, v7, .int 0, v8, v9]))] sz)) 1 6 (va_A [(a0, .inr (14, [v0, v1, v2, v3, v4, v5, .ref a1])), (a1, .inr (11, [v6, v7, .int 0, v8, v9]))] sz) := by
  refine st_X (by decide) (Nat.le_of_ble_eq_true rfl) ?_
  intro p e s m args below meth c A ls hx hb hr hml hown hlk hnm hsz hP hD hA hE hts hS hl hout
  have hown : s.vm.findClass RX9 = some m.cls := hown
  have hl : lv_has ls 1 [(0, .ref a0)] := hl
  refine lv_aload_n hx hb dX9_makingShare_0 rfl (lv_at hl 0 rfl) ?_
  refine va_get (D := D) (ci := 14) (v := .ref a1) (C := RX9) (T := TX9) (N := 7) hx hb hts ax_16 hown hE.1 hP 0 rfl rfl 6 (by decide) (hts _ tw_220) (fun _ h9 => h9) rfl dX9_makingShare_1 ?_
  refine va_getN (D := D) (ci := 11) (v := .int 0) (C := RX6) (T := TX6) (N := 5) hx hb hts ax_14 hown hE.1 hP 1 rfl rfl 2 (by decide) (hts _ tw_1244) (fun _ h9 => h9) rfl dX9_makingShare_4 ?_
  refine lv_if_ne (tgt := 21) hx hb dX9_makingShare_7 (by decide) (fun z => absurd (by decide) z) (fun _ => ?_)
  exact th_SW (text := "there were no heats, engines and pumps") hx hb hst hown hts hE hS (hl.1.trans hml.symm) hout hlk (by decide +kernel) tw_1245 tw_1246 ax_472 (by decide +kernel) dX9_makingShare_10 dX9_makingShare_13 dX9_makingShare_14 dX9_makingShare_17 dX9_makingShare_20 ⟨Nat.le_of_ble_eq_true rfl, Nat.le_of_ble_eq_true rfl, Nat.le_of_ble_eq_true rfl, Nat.le_of_ble_eq_true rfl⟩ (Nat.le_of_ble_eq_true rfl) (Nat.le_of_ble_eq_true rfl)
set_option maxHeartbeats 4000000 in
set_option maxRecDepth 100000 in
theorem k716_L_makingShare (l : Launch) (hst : l.stackTraces = false) (D : va_G) (cy : Nat → ClassId) (g : Nat → Nat) (a0 : Nat) (a1 : Nat) (b0 : Nat) (v0 : Value) (v1 : Value) (v2 : Value) (v3 : Value) (v4 : Value) (v5 : Value) (v6 : Value) (v7 : Value) (v8 : Value) (v9 : Value) (sz : Nat)  : Met l yL_makingShare [.codeWith yL_makingShare cL_makingShare 3 (some .int) [(0, 8, 11, 140)]] ({ frames := 7, cells := 1, slots := 6, locals := 102 }) (PC D cy g [(a0, .inr (14, [v0, v1, v2, v3, v4, v5, .ref a1])), (a1, .inr (11, [v6, v7, .int 0, v8, v9]))] sz [.ref a0, .ref b0]) (QI D 1 (fun ad => []) (va_A [(a0, .inr (14, [v0, v1, v2, v3, v4, v5, .ref a1])), (a1, .inr (11, [v6, v7, .int 0, v8, v9]))] sz)) 1 6 (va_A [(a0, .inr (14, [v0, v1, v2, v3, v4, v5, .ref a1])), (a1, .inr (11, [v6, v7, .int 0, v8, v9]))] sz) := by
  refine sh_I (by decide) (Nat.le_of_ble_eq_true rfl) ?_
  intro p e s m args below meth c A ls hx hb hr hml hown hlk hnm hsz hP hD hA hE hts hS hl htb
  have hown : s.vm.findClass RL = some m.cls := hown
  have hl : lv_has ls 3 [(0, .ref a0), (1, .ref b0)] := hl
  refine lv_aload_n hx hb dL_makingShare_0 rfl (lv_at hl 1 rfl) ?_
  refine lv_iconst (v := 0) hx hb dL_makingShare_1 (by decide) ?_
  refine lv_aload_n hx hb dL_makingShare_2 rfl (lv_at hl 0 rfl) ?_
  refine cx_catch (isC := [0, 1]) (isR := []) (wr := []) (hp := []) (z := (0, 8, 11, 140)) (hq := []) (name := "java/lang/ArithmeticException") (own := RL) (rx_V (ci := 14) (q0 := 0) (isC := [0, 1]) (wc := [(a0, .inr (14, [v0, v1, v2, v3, v4, v5, .ref a1])), (a1, .inr (11, [v6, v7, .int 0, v8, v9]))]) (As := []) (rest := [.int 0, .ref b0]) (n := 0) hx hb hml hown hts hE hS hP hD hA hl.1 (k715_X9_makingShare l hst D cy g a0 a1 (v0) (v1) (v2) (v3) (v4) (v5) (v6) (v7) (v8) (v9) s.heap.size ) rfl rfl rfl rfl rfl ax_473 rfl rfl ax_474 ⟨Nat.le_of_ble_eq_true rfl, Nat.le_of_ble_eq_true rfl⟩ rfl rfl (Nat.le_of_ble_eq_true rfl) dL_makingShare_3 ⟨(Nat.le_of_ble_eq_true rfl), (Nat.le_of_ble_eq_true rfl)⟩) hP hD hS hA hown hts hE htb rfl rfl rfl rfl (by decide) (fun z hz => by cases hz) (by decide) (by decide) tw_1251 tw_1252 (fun qx H locs hP hD hS => ?_)
  have hP : va_P D vwCl [] H := hP
  have hD : va_D A [] := hD
  refine lv_astore_n (lv' := [(2, .ref qx), (0, .ref a0), (1, .ref b0)]) hx hb dL_makingShare_11 rfl hl (Nat.le_of_ble_eq_true rfl) rfl (fun ls hl => ?_)
  refine lv_iconst (v := 1) hx hb dL_makingShare_12 (by decide) ?_
  exact en_z hx hb hr hlk hP hD hS rfl (fun _ => 0) (is := []) rfl rfl (Nat.le_of_ble_eq_true rfl) (Nat.le_of_ble_eq_true rfl) dL_makingShare_13
set_option maxHeartbeats 4000000 in
set_option maxRecDepth 100000 in
theorem k717_X10_makingShare (l : Launch) (D : va_G) (cy : Nat → ClassId) (g : Nat → Nat) (a0 : Nat) (v0 : Value) (v1 : Value) (v2 : Value) (v3 : Value) (v4 : Value) (v5 : Value) (v6 : Value) (v7 : Value) (v8 : Value) (v9 : Value) (v10 : Value) (v11 : Value) (v12 : Value) (v13 : Value) (v14 : Value) (v15 : Value) (v16 : Value) (v17 : Value) (v18 : Value) (v19 : Value) (v20 : Value) (v21 : Value) (v22 : Value) (v23 : Value) (v24 : Value) (v25 : Value) (v26 : Value) (sz : Nat)  : Met l yX10_makingShare [.code yX10_makingShare cX10_makingShare 1 (some .float)] ({ frames := 1, cells := 0, slots := 0, locals := 22 }) (PC D cy g [(a0, .inr (15, [v0, v1, v2, v3, .int 0, v4, v5, v6, v7, v8, v9, v10, v11, v12, v13, v14, v15, v16, v17, v18, v19, v20, v21, v22, v23, v24, v25, v26]))] sz [.ref a0]) (QF D FP.fconst0 (fun ad => [(a0, .inr (15, [.int 1, v1, v2, v3, .int 0, v4, v5, v6, v7, v8, v9, v10, v11, v12, v13, v14, v15, v16, v17, v18, v19, v20, v21, v22, v23, v24, v25, v26]))]) (va_A [(a0, .inr (15, [v0, v1, v2, v3, .int 0, v4, v5, v6, v7, v8, v9, v10, v11, v12, v13, v14, v15, v16, v17, v18, v19, v20, v21, v22, v23, v24, v25, v26]))] sz)) 0 0 (va_A [(a0, .inr (15, [v0, v1, v2, v3, .int 0, v4, v5, v6, v7, v8, v9, v10, v11, v12, v13, v14, v15, v16, v17, v18, v19, v20, v21, v22, v23, v24, v25, v26]))] sz) := by
  refine st_F (by decide) (Nat.le_of_ble_eq_true rfl) ?_
  intro p e s m args below meth c A ls hx hb hr hml hown hlk hnm hsz hP hD hA hE hts hS hl
  have hown : s.vm.findClass RX10 = some m.cls := hown
  have hl : lv_has ls 1 [(0, .ref a0)] := hl
  refine lv_aload_n hx hb dX10_makingShare_0 rfl (lv_at hl 0 rfl) ?_
  refine ca_v (isC := [0]) (isR := []) (wr := []) (rn_V (ci := 15) (q0 := 0) (isC := [0]) (wc := [(a0, .inr (15, [v0, v1, v2, v3, .int 0, v4, v5, v6, v7, v8, v9, v10, v11, v12, v13, v14, v15, v16, v17, v18, v19, v20, v21, v22, v23, v24, v25, v26]))]) (As := []) (rest := []) (n := 0) hx hb hml hown hts hE hS hP hD hA hl.1 (k20_X10_begins l D cy g a0 (v0) (v1) (v2) (v3) (.int 0) (v4) (v5) (v6) (v7) (v8) (v9) (v10) (v11) (v12) (v13) (v14) (v15) (v16) (v17) (v18) (v19) (v20) (v21) (v22) (v23) (v24) (v25) (v26) s.heap.size ) rfl rfl rfl rfl rfl ax_37 rfl rfl ax_38 ⟨Nat.le_of_ble_eq_true rfl, Nat.le_of_ble_eq_true rfl⟩ rfl rfl (Nat.le_of_ble_eq_true rfl) dX10_makingShare_1 ⟨(Nat.le_of_ble_eq_true rfl), (Nat.le_of_ble_eq_true rfl)⟩) hP hD hS hA rfl rfl rfl (by decide) (fun ad1 H locs hP hD hS => ?_)
  have hP : va_P D vwCl [(a0, .inr (15, [.int 0, v1, v2, v3, .int 0, v4, v5, v6, v7, v8, v9, v10, v11, v12, v13, v14, v15, v16, v17, v18, v19, v20, v21, v22, v23, v24, v25, v26]))] H := hP
  have hD : va_D A [(a0, .inr (15, [.int 0, v1, v2, v3, .int 0, v4, v5, v6, v7, v8, v9, v10, v11, v12, v13, v14, v15, v16, v17, v18, v19, v20, v21, v22, v23, v24, v25, v26]))] := hD
  refine lv_aload_n hx hb dX10_makingShare_4 rfl (lv_at hl 0 rfl) ?_
  refine lv_aload_n hx hb dX10_makingShare_5 rfl (lv_at hl 0 rfl) ?_
  refine va_get (D := D) (ci := 15) (v := .int 0) (C := RX10) (T := TX10) (N := 28) hx hb hts ax_29 hown hE.1 hP 0 rfl rfl 4 (by decide) (hts _ tw_1256) (fun _ h9 => h9) rfl dX10_makingShare_6 ?_
  refine lv_if_ne (tgt := 16) hx hb dX10_makingShare_9 (by decide) (fun z => absurd (by decide) z) (fun _ => ?_)
  refine lv_iconst (v := 1) hx hb dX10_makingShare_12 (by decide) ?_
  refine lv_goto (tgt := 17) hx hb dX10_makingShare_13 (by decide) ?_
  refine lv_iconst (v := 1) hx hb dX10_makingShare_17 (by decide) ?_
  refine ca_i (isC := [0]) (isR := []) (wr := []) (rn_V (ci := 15) (q0 := 0) (isC := [0]) (wc := [(a0, .inr (15, [.int 0, v1, v2, v3, .int 0, v4, v5, v6, v7, v8, v9, v10, v11, v12, v13, v14, v15, v16, v17, v18, v19, v20, v21, v22, v23, v24, v25, v26]))]) (As := [.int 1, .int 1]) (rest := []) (n := 2) hx hb hml hown hts hE hS hP hD hA hl.1 (k22_X10_fails l D cy g a0 (v1) (v2) (v3) (.int 0) (v4) (v5) (v6) (v7) (v8) (v9) (v10) (v11) (v12) (v13) (v14) (v15) (v16) (v17) (v18) (v19) (v20) (v21) (v22) (v23) (v24) (v25) (v26) H.size ) rfl rfl rfl rfl rfl ax_41 rfl rfl ax_42 ⟨Nat.le_of_ble_eq_true rfl, Nat.le_of_ble_eq_true rfl⟩ rfl rfl (Nat.le_of_ble_eq_true rfl) dX10_makingShare_18 ⟨(Nat.le_of_ble_eq_true rfl), (Nat.le_of_ble_eq_true rfl)⟩) hP hD hS hA rfl rfl rfl (by decide) (fun ad18 H locs hP hD hS => ?_)
  have hP : va_P D vwCl [(a0, .inr (15, [.int 1, v1, v2, v3, .int 0, v4, v5, v6, v7, v8, v9, v10, v11, v12, v13, v14, v15, v16, v17, v18, v19, v20, v21, v22, v23, v24, v25, v26]))] H := hP
  have hD : va_D A [(a0, .inr (15, [.int 1, v1, v2, v3, .int 0, v4, v5, v6, v7, v8, v9, v10, v11, v12, v13, v14, v15, v16, v17, v18, v19, v20, v21, v22, v23, v24, v25, v26]))] := hD
  refine lv_if_eq (tgt := 28) hx hb dX10_makingShare_21 (by decide) (fun z => absurd z (by decide)) (fun _ => ?_)
  refine lv_fconst0 hx hb dX10_makingShare_24 ?_
  refine lv_goto (tgt := 39) hx hb dX10_makingShare_25 (by decide) ?_
  exact en_f hx hb hr hlk hP hD hS (fun _ => 0) (is := [0]) rfl rfl (Nat.le_of_ble_eq_true rfl) (Nat.le_of_ble_eq_true rfl) dX10_makingShare_39
set_option maxHeartbeats 4000000 in
set_option maxRecDepth 100000 in
theorem k718_X9_meanTemperature (l : Launch) (hst : l.stackTraces = false) (D : va_G) (cy : Nat → ClassId) (g : Nat → Nat) (a0 : Nat) (a1 : Nat) (v0 : Value) (v1 : Value) (v2 : Value) (v3 : Value) (v4 : Value) (v5 : Value) (v6 : Value) (v7 : Value) (v8 : Value) (v9 : Value) (v10 : Value) (v11 : Value) (v12 : Value) (sz : Nat)  : vx_Met l yX9_meanTemperature [.code yX9_meanTemperature cX9_meanTemperature 1 (some .double)] ({ frames := 6, cells := 1, slots := 6, locals := 82 }) (PC D cy g [(a0, .inr (14, [.ref a1, v0, v1, v2, v3, v4, v5])), (a1, .inr (5, [v6, v7, .int 0, v8, v9, v10, v11, v12]))] sz [.ref a0]) QN (XE "java/lang/ArithmeticException" (va_A [(a0, .inr (14, [.ref a1, v0, v1, v2, v3, v4, v5])), (a1, .inr (5, [v6, v7, .int 0, v8, v9, v10, v11, v12]))] sz)) 1 6 (va_A [(a0, .inr (14, [.ref a1, v0, v1, v2, v3, v4, v5])), (a1, .inr (5, [v6, v7, .int 0, v8, v9, v10, v11, v12]))] sz) := by
  refine st_X (by decide) (Nat.le_of_ble_eq_true rfl) ?_
  intro p e s m args below meth c A ls hx hb hr hml hown hlk hnm hsz hP hD hA hE hts hS hl hout
  have hown : s.vm.findClass RX9 = some m.cls := hown
  have hl : lv_has ls 1 [(0, .ref a0)] := hl
  refine lv_aload_n hx hb dX9_meanTemperature_0 rfl (lv_at hl 0 rfl) ?_
  refine va_get (D := D) (ci := 14) (v := .ref a1) (C := RX9) (T := TX9) (N := 7) hx hb hts ax_16 hown hE.1 hP 0 rfl rfl 0 (by decide) (hts _ tw_179) (fun _ h9 => h9) rfl dX9_meanTemperature_1 ?_
  refine va_getN (D := D) (ci := 5) (v := .int 0) (C := RX0) (T := TX0) (N := 8) hx hb hts ax_1 hown hE.1 hP 1 rfl rfl 2 (by decide) (hts _ tw_1232) (fun _ h9 => h9) rfl dX9_meanTemperature_4 ?_
  refine lv_if_ne (tgt := 21) hx hb dX9_meanTemperature_7 (by decide) (fun z => absurd (by decide) z) (fun _ => ?_)
  exact th_SW (text := "there are no bodies") hx hb hst hown hts hE hS (hl.1.trans hml.symm) hout hlk (by decide +kernel) tw_1245 tw_1246 ax_472 (by decide +kernel) dX9_meanTemperature_10 dX9_meanTemperature_13 dX9_meanTemperature_14 dX9_meanTemperature_17 dX9_meanTemperature_20 ⟨Nat.le_of_ble_eq_true rfl, Nat.le_of_ble_eq_true rfl, Nat.le_of_ble_eq_true rfl, Nat.le_of_ble_eq_true rfl⟩ (Nat.le_of_ble_eq_true rfl) (Nat.le_of_ble_eq_true rfl)
set_option maxHeartbeats 4000000 in
set_option maxRecDepth 100000 in
theorem k719_L_meanTemperature (l : Launch) (hst : l.stackTraces = false) (D : va_G) (cy : Nat → ClassId) (g : Nat → Nat) (a0 : Nat) (a1 : Nat) (b0 : Nat) (v0 : Value) (v1 : Value) (v2 : Value) (v3 : Value) (v4 : Value) (v5 : Value) (v6 : Value) (v7 : Value) (v8 : Value) (v9 : Value) (v10 : Value) (v11 : Value) (v12 : Value) (sz : Nat)  : Met l yL_meanTemperature [.codeWith yL_meanTemperature cL_meanTemperature 3 (some .int) [(0, 7, 10, 140)]] ({ frames := 7, cells := 1, slots := 6, locals := 102 }) (PC D cy g [(a0, .inr (14, [.ref a1, v0, v1, v2, v3, v4, v5])), (a1, .inr (5, [v6, v7, .int 0, v8, v9, v10, v11, v12]))] sz [.ref a0, .ref b0]) (QI D 1 (fun ad => []) (va_A [(a0, .inr (14, [.ref a1, v0, v1, v2, v3, v4, v5])), (a1, .inr (5, [v6, v7, .int 0, v8, v9, v10, v11, v12]))] sz)) 1 6 (va_A [(a0, .inr (14, [.ref a1, v0, v1, v2, v3, v4, v5])), (a1, .inr (5, [v6, v7, .int 0, v8, v9, v10, v11, v12]))] sz) := by
  refine sh_I (by decide) (Nat.le_of_ble_eq_true rfl) ?_
  intro p e s m args below meth c A ls hx hb hr hml hown hlk hnm hsz hP hD hA hE hts hS hl htb
  have hown : s.vm.findClass RL = some m.cls := hown
  have hl : lv_has ls 3 [(0, .ref a0), (1, .ref b0)] := hl
  refine lv_aload_n hx hb dL_meanTemperature_0 rfl (lv_at hl 1 rfl) ?_
  refine lv_iconst (v := 0) hx hb dL_meanTemperature_1 (by decide) ?_
  refine lv_aload_n hx hb dL_meanTemperature_2 rfl (lv_at hl 0 rfl) ?_
  refine cx_catch (isC := [0, 1]) (isR := []) (wr := []) (hp := []) (z := (0, 7, 10, 140)) (hq := []) (name := "java/lang/ArithmeticException") (own := RL) (rx_V (ci := 14) (q0 := 0) (isC := [0, 1]) (wc := [(a0, .inr (14, [.ref a1, v0, v1, v2, v3, v4, v5])), (a1, .inr (5, [v6, v7, .int 0, v8, v9, v10, v11, v12]))]) (As := []) (rest := [.int 0, .ref b0]) (n := 0) hx hb hml hown hts hE hS hP hD hA hl.1 (k718_X9_meanTemperature l hst D cy g a0 a1 (v0) (v1) (v2) (v3) (v4) (v5) (v6) (v7) (v8) (v9) (v10) (v11) (v12) s.heap.size ) rfl rfl rfl rfl rfl ax_479 rfl rfl ax_480 ⟨Nat.le_of_ble_eq_true rfl, Nat.le_of_ble_eq_true rfl⟩ rfl rfl (Nat.le_of_ble_eq_true rfl) dL_meanTemperature_3 ⟨(Nat.le_of_ble_eq_true rfl), (Nat.le_of_ble_eq_true rfl)⟩) hP hD hS hA hown hts hE htb rfl rfl rfl rfl (by decide) (fun z hz => by cases hz) (by decide) (by decide) tw_1251 tw_1252 (fun qx H locs hP hD hS => ?_)
  have hP : va_P D vwCl [] H := hP
  have hD : va_D A [] := hD
  refine lv_astore_n (lv' := [(2, .ref qx), (0, .ref a0), (1, .ref b0)]) hx hb dL_meanTemperature_10 rfl hl (Nat.le_of_ble_eq_true rfl) rfl (fun ls hl => ?_)
  refine lv_iconst (v := 1) hx hb dL_meanTemperature_11 (by decide) ?_
  exact en_z hx hb hr hlk hP hD hS rfl (fun _ => 0) (is := []) rfl rfl (Nat.le_of_ble_eq_true rfl) (Nat.le_of_ble_eq_true rfl) dL_meanTemperature_12

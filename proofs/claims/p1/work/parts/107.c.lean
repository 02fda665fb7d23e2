set_option maxHeartbeats 4000000 in
set_option maxRecDepth 100000 in
theorem k420_X1_append (l : Launch) (D : va_G) (cy : Nat → ClassId) (g : Nat → Nat) (x0 : Int32) (x1 : Int32) (a0 : Nat) (a1 : Nat) (a2 : Nat) (a3 : Nat) (v0 : Value) (v1 : Value) (v2 : Value) (v3 : Value) (v4 : Value) (v5 : Value) (v6 : Value) (v7 : Value) (v8 : Value) (f0 : Nat → Int32) (f1 : Nat → Int32) (f2 : Nat → Int32) (sz : Nat)  : Met l yX1_append [.code yX1_append cX1_append 4 (some .int)] ({ frames := 1, cells := 0, slots := 0, locals := 20 }) (PC D cy g [(a0, .inr (6, [.ref a1, .ref a2, .ref a3, .int 0, v0, v1, v2, v3, v4, v5, v6, v7, v8])), (a1, .inl (cy 0, 8, .inl f0)), (a2, .inl (cy 1, 8, .inl f1)), (a3, .inl (cy 1, 8, .inl f2))] sz [.ref a0, .int 97, .int x0, .int x1]) (QI D 1 (fun ad => [(a0, .inr (6, [.ref a1, .ref a2, .ref a3, .int 1, v0, v1, v2, v3, v4, v5, v6, v7, v8])), (a1, .inl (cy 0, 8, .inl (upd f0 (0 : Int32).toNatClampNeg (vp_nar .char 97)))), (a2, .inl (cy 1, 8, .inl (upd f1 (0 : Int32).toNatClampNeg x0))), (a3, .inl (cy 1, 8, .inl (upd f2 (0 : Int32).toNatClampNeg (-1))))]) (va_A [(a0, .inr (6, [.ref a1, .ref a2, .ref a3, .int 0, v0, v1, v2, v3, v4, v5, v6, v7, v8])), (a1, .inl (cy 0, 8, .inl f0)), (a2, .inl (cy 1, 8, .inl f1)), (a3, .inl (cy 1, 8, .inl f2))] sz)) 0 0 (va_A [(a0, .inr (6, [.ref a1, .ref a2, .ref a3, .int 0, v0, v1, v2, v3, v4, v5, v6, v7, v8])), (a1, .inl (cy 0, 8, .inl f0)), (a2, .inl (cy 1, 8, .inl f1)), (a3, .inl (cy 1, 8, .inl f2))] sz) := by
  refine st_I (by decide) (Nat.le_of_ble_eq_true rfl) ?_
  intro p e s m args below meth c A ls hx hb hr hml hown hlk hnm hsz hP hD hA hE hts hS hl
  have hown : s.vm.findClass RX1 = some m.cls := hown
  have hl : lv_has ls 4 [(0, .ref a0), (1, .int 97), (2, .int x0), (3, .int x1)] := hl
  refine lv_aload_n hx hb dX1_append_0 rfl (lv_at hl 0 rfl) ?_
  refine ca_i (isC := [0]) (isR := [1, 2, 3]) (wr := [(a1, .inl (cy 0, 8, .inl f0)), (a2, .inl (cy 1, 8, .inl f1)), (a3, .inl (cy 1, 8, .inl f2))]) (rn_V (ci := 6) (q0 := 0) (isC := [0]) (wc := [(a0, .inr (6, [.ref a1, .ref a2, .ref a3, .int 0, v0, v1, v2, v3, v4, v5, v6, v7, v8]))]) (As := []) (rest := []) (n := 0) hx hb hml hown hts hE hS hP hD hA hl.1 (k419_X1_isFull l D cy g a0 (.ref a1) (.ref a2) (.ref a3) (v0) (v1) (v2) (v3) (v4) (v5) (v6) (v7) (v8) s.heap.size ) rfl rfl rfl rfl rfl ax_287 rfl rfl ax_288 ⟨Nat.le_of_ble_eq_true rfl, Nat.le_of_ble_eq_true rfl⟩ rfl rfl (Nat.le_of_ble_eq_true rfl) dX1_append_1 ⟨(Nat.le_of_ble_eq_true rfl), (Nat.le_of_ble_eq_true rfl)⟩) hP hD hS hA rfl rfl rfl (by decide) (fun ad1 H locs hP hD hS => ?_)
  have hP : va_P D vwCl [(a1, .inl (cy 0, 8, .inl f0)), (a2, .inl (cy 1, 8, .inl f1)), (a3, .inl (cy 1, 8, .inl f2)), (a0, .inr (6, [.ref a1, .ref a2, .ref a3, .int 0, v0, v1, v2, v3, v4, v5, v6, v7, v8]))] H := hP
  have hD : va_D A [(a1, .inl (cy 0, 8, .inl f0)), (a2, .inl (cy 1, 8, .inl f1)), (a3, .inl (cy 1, 8, .inl f2)), (a0, .inr (6, [.ref a1, .ref a2, .ref a3, .int 0, v0, v1, v2, v3, v4, v5, v6, v7, v8]))] := hD
  refine lv_if_ne (tgt := 58) hx hb dX1_append_4 (by decide) (fun z => absurd (by decide) z) (fun _ => ?_)
  refine lv_aload_n hx hb dX1_append_7 rfl (lv_at hl 0 rfl) ?_
  refine va_get (D := D) (ci := 6) (v := .ref a1) (C := RX1) (T := TX1) (N := 13) hx hb hts ax_7 hown hE.1 hP 3 rfl rfl 0 (by decide) (hts _ tw_107) (fun _ h9 => h9) rfl dX1_append_8 ?_
  refine lv_aload_n hx hb dX1_append_11 rfl (lv_at hl 0 rfl) ?_
  refine va_get (D := D) (ci := 6) (v := .int 0) (C := RX1) (T := TX1) (N := 13) hx hb hts ax_7 hown hE.1 hP 3 rfl rfl 3 (by decide) (hts _ tw_110) (fun _ h9 => h9) rfl dX1_append_12 ?_
  refine lv_iload_n hx hb dX1_append_15 rfl (lv_at hl 1 rfl) ?_
  refine va_cast hx hb hE.1 hP hD hS 0 0 rfl rfl (by unfold vp_in; decide) dX1_append_16 (fun H locs hP hD hS => ?_)
  have hP : va_P D vwCl [(a1, .inl (cy 0, 8, .inl (upd f0 (0 : Int32).toNatClampNeg (vp_nar .char 97)))), (a2, .inl (cy 1, 8, .inl f1)), (a3, .inl (cy 1, 8, .inl f2)), (a0, .inr (6, [.ref a1, .ref a2, .ref a3, .int 0, v0, v1, v2, v3, v4, v5, v6, v7, v8]))] H := hP
  have hD : va_D A [(a1, .inl (cy 0, 8, .inl (upd f0 (0 : Int32).toNatClampNeg (vp_nar .char 97)))), (a2, .inl (cy 1, 8, .inl f1)), (a3, .inl (cy 1, 8, .inl f2)), (a0, .inr (6, [.ref a1, .ref a2, .ref a3, .int 0, v0, v1, v2, v3, v4, v5, v6, v7, v8]))] := hD
  refine lv_aload_n hx hb dX1_append_17 rfl (lv_at hl 0 rfl) ?_
  refine va_get (D := D) (ci := 6) (v := .ref a2) (C := RX1) (T := TX1) (N := 13) hx hb hts ax_7 hown hE.1 hP 3 rfl rfl 1 (by decide) (hts _ tw_108) (fun _ h9 => h9) rfl dX1_append_18 ?_
  refine lv_aload_n hx hb dX1_append_21 rfl (lv_at hl 0 rfl) ?_
  refine va_get (D := D) (ci := 6) (v := .int 0) (C := RX1) (T := TX1) (N := 13) hx hb hts ax_7 hown hE.1 hP 3 rfl rfl 3 (by decide) (hts _ tw_110) (fun _ h9 => h9) rfl dX1_append_22 ?_
  refine lv_iload_n hx hb dX1_append_25 rfl (lv_at hl 2 rfl) ?_
  refine va_iast hx hb hE.1 hP hD hS 1 1 rfl rfl (by unfold vp_in; decide) dX1_append_26 (fun H locs hP hD hS => ?_)
  have hP : va_P D vwCl [(a1, .inl (cy 0, 8, .inl (upd f0 (0 : Int32).toNatClampNeg (vp_nar .char 97)))), (a2, .inl (cy 1, 8, .inl (upd f1 (0 : Int32).toNatClampNeg x0))), (a3, .inl (cy 1, 8, .inl f2)), (a0, .inr (6, [.ref a1, .ref a2, .ref a3, .int 0, v0, v1, v2, v3, v4, v5, v6, v7, v8]))] H := hP
  have hD : va_D A [(a1, .inl (cy 0, 8, .inl (upd f0 (0 : Int32).toNatClampNeg (vp_nar .char 97)))), (a2, .inl (cy 1, 8, .inl (upd f1 (0 : Int32).toNatClampNeg x0))), (a3, .inl (cy 1, 8, .inl f2)), (a0, .inr (6, [.ref a1, .ref a2, .ref a3, .int 0, v0, v1, v2, v3, v4, v5, v6, v7, v8]))] := hD
  refine lv_aload_n hx hb dX1_append_27 rfl (lv_at hl 0 rfl) ?_
  refine va_get (D := D) (ci := 6) (v := .ref a3) (C := RX1) (T := TX1) (N := 13) hx hb hts ax_7 hown hE.1 hP 3 rfl rfl 2 (by decide) (hts _ tw_109) (fun _ h9 => h9) rfl dX1_append_28 ?_
  refine lv_aload_n hx hb dX1_append_31 rfl (lv_at hl 0 rfl) ?_
  refine va_get (D := D) (ci := 6) (v := .int 0) (C := RX1) (T := TX1) (N := 13) hx hb hts ax_7 hown hE.1 hP 3 rfl rfl 3 (by decide) (hts _ tw_110) (fun _ h9 => h9) rfl dX1_append_32 ?_
  refine lv_iload_n hx hb dX1_append_35 rfl (lv_at hl 1 rfl) ?_
  refine ca_i (isC := []) (isR := [0, 1, 2, 3]) (wr := [(a1, .inl (cy 0, 8, .inl (upd f0 (0 : Int32).toNatClampNeg (vp_nar .char 97)))), (a2, .inl (cy 1, 8, .inl (upd f1 (0 : Int32).toNatClampNeg x0))), (a3, .inl (cy 1, 8, .inl f2)), (a0, .inr (6, [.ref a1, .ref a2, .ref a3, .int 0, v0, v1, v2, v3, v4, v5, v6, v7, v8]))]) (rn_S (isC := []) (wc := []) (As := [.int 97]) (rest := [.int 0, .ref a3]) (n := 1) hx hb hml hown hts hE hS hP hD hA hl.1 (k418_X1_needsBody l D cy g  H.size ) rfl rfl ax_289 rfl rfl ax_280 ⟨Nat.le_of_ble_eq_true rfl, Nat.le_of_ble_eq_true rfl⟩ rfl rfl (Nat.le_of_ble_eq_true rfl) dX1_append_36 ⟨(Nat.le_of_ble_eq_true rfl), (Nat.le_of_ble_eq_true rfl)⟩) hP hD hS hA rfl rfl rfl (by decide) (fun ad36 H locs hP hD hS => ?_)
  have hP : va_P D vwCl [(a1, .inl (cy 0, 8, .inl (upd f0 (0 : Int32).toNatClampNeg (vp_nar .char 97)))), (a2, .inl (cy 1, 8, .inl (upd f1 (0 : Int32).toNatClampNeg x0))), (a3, .inl (cy 1, 8, .inl f2)), (a0, .inr (6, [.ref a1, .ref a2, .ref a3, .int 0, v0, v1, v2, v3, v4, v5, v6, v7, v8]))] H := hP
  have hD : va_D A [(a1, .inl (cy 0, 8, .inl (upd f0 (0 : Int32).toNatClampNeg (vp_nar .char 97)))), (a2, .inl (cy 1, 8, .inl (upd f1 (0 : Int32).toNatClampNeg x0))), (a3, .inl (cy 1, 8, .inl f2)), (a0, .inr (6, [.ref a1, .ref a2, .ref a3, .int 0, v0, v1, v2, v3, v4, v5, v6, v7, v8]))] := hD
  refine lv_if_eq (tgt := 46) hx hb dX1_append_39 (by decide) (fun _ => ?_) (fun z => absurd (by decide) z)
  refine lv_iconst (v := (-1)) hx hb dX1_append_46 (by decide) ?_
  refine va_iast hx hb hE.1 hP hD hS 2 1 rfl rfl (by unfold vp_in; decide) dX1_append_47 (fun H locs hP hD hS => ?_)
  have hP : va_P D vwCl [(a1, .inl (cy 0, 8, .inl (upd f0 (0 : Int32).toNatClampNeg (vp_nar .char 97)))), (a2, .inl (cy 1, 8, .inl (upd f1 (0 : Int32).toNatClampNeg x0))), (a3, .inl (cy 1, 8, .inl (upd f2 (0 : Int32).toNatClampNeg (-1)))), (a0, .inr (6, [.ref a1, .ref a2, .ref a3, .int 0, v0, v1, v2, v3, v4, v5, v6, v7, v8]))] H := hP
  have hD : va_D A [(a1, .inl (cy 0, 8, .inl (upd f0 (0 : Int32).toNatClampNeg (vp_nar .char 97)))), (a2, .inl (cy 1, 8, .inl (upd f1 (0 : Int32).toNatClampNeg x0))), (a3, .inl (cy 1, 8, .inl (upd f2 (0 : Int32).toNatClampNeg (-1)))), (a0, .inr (6, [.ref a1, .ref a2, .ref a3, .int 0, v0, v1, v2, v3, v4, v5, v6, v7, v8]))] := hD
  refine lv_aload_n hx hb dX1_append_48 rfl (lv_at hl 0 rfl) ?_
  refine lv_dup hx hb dX1_append_49 rfl ?_
  refine va_get (D := D) (ci := 6) (v := .int 0) (C := RX1) (T := TX1) (N := 13) hx hb hts ax_7 hown hE.1 hP 3 rfl rfl 3 (by decide) (hts _ tw_110) (fun _ h9 => h9) rfl dX1_append_50 ?_
  refine lv_iconst (v := 1) hx hb dX1_append_53 (by decide) ?_
  refine lv_iadd hx hb dX1_append_54 ?_
  refine tp_i 1 (by decide) ?_
  refine va_put (D := D) (ci := 6) (v := .int 1) (ty := .int) (C := RX1) (T := TX1) (N := 13) hx hb hts ax_7 tyX1 tyX1_ok nmX1 hown hE.1 hP hD hS 3 rfl rfl 3 (by decide) (hts _ tw_110) (fun _ h9 => h9) rfl (by decide +kernel) rfl rfl (Nat.le_of_ble_eq_true rfl) dX1_append_55 (fun H locs hP hD hS => ?_)
  have hP : va_P D vwCl [(a1, .inl (cy 0, 8, .inl (upd f0 (0 : Int32).toNatClampNeg (vp_nar .char 97)))), (a2, .inl (cy 1, 8, .inl (upd f1 (0 : Int32).toNatClampNeg x0))), (a3, .inl (cy 1, 8, .inl (upd f2 (0 : Int32).toNatClampNeg (-1)))), (a0, .inr (6, [.ref a1, .ref a2, .ref a3, .int 1, v0, v1, v2, v3, v4, v5, v6, v7, v8]))] H := hP
  have hD : va_D A [(a1, .inl (cy 0, 8, .inl (upd f0 (0 : Int32).toNatClampNeg (vp_nar .char 97)))), (a2, .inl (cy 1, 8, .inl (upd f1 (0 : Int32).toNatClampNeg x0))), (a3, .inl (cy 1, 8, .inl (upd f2 (0 : Int32).toNatClampNeg (-1)))), (a0, .inr (6, [.ref a1, .ref a2, .ref a3, .int 1, v0, v1, v2, v3, v4, v5, v6, v7, v8]))] := hD
  refine lv_aload_n hx hb dX1_append_58 rfl (lv_at hl 0 rfl) ?_
  refine va_get (D := D) (ci := 6) (v := .int 1) (C := RX1) (T := TX1) (N := 13) hx hb hts ax_7 hown hE.1 hP 3 rfl rfl 3 (by decide) (hts _ tw_110) (fun _ h9 => h9) rfl dX1_append_59 ?_
  exact en_z hx hb hr hlk hP hD hS rfl (fun _ => 0) (is := [3, 0, 1, 2]) rfl rfl (Nat.le_of_ble_eq_true rfl) (Nat.le_of_ble_eq_true rfl) dX1_append_62
set_option maxHeartbeats 4000000 in
set_option maxRecDepth 100000 in
theorem k421_X9_addStroke (l : Launch) (D : va_G) (cy : Nat → ClassId) (g : Nat → Nat) (x0 : Int32) (x1 : Int32) (a0 : Nat) (a1 : Nat) (a2 : Nat) (a3 : Nat) (a4 : Nat) (v0 : Value) (v1 : Value) (v2 : Value) (v3 : Value) (v4 : Value) (v5 : Value) (v6 : Value) (v7 : Value) (v8 : Value) (v9 : Value) (v10 : Value) (v11 : Value) (v12 : Value) (v13 : Value) (v14 : Value) (f0 : Nat → Int32) (f1 : Nat → Int32) (f2 : Nat → Int32) (sz : Nat) (h0 : ¬ x0 < 1) (h1 : ¬ (100 : Int32) < x0) : Met l yX9_addStroke [.code yX9_addStroke cX9_addStroke 4 (some .int)] ({ frames := 2, cells := 0, slots := 0, locals := 43 }) (PC D cy g [(a0, .inr (14, [v0, v1, v2, .ref a1, v3, v4, v5])), (a1, .inr (6, [.ref a2, .ref a3, .ref a4, .int 0, v6, v7, v8, v9, v10, v11, v12, v13, v14])), (a2, .inl (cy 0, 8, .inl f0)), (a3, .inl (cy 1, 8, .inl f1)), (a4, .inl (cy 1, 8, .inl f2))] sz [.ref a0, .int 97, .int x0, .int x1]) (QI D 1 (fun ad => [(a0, .inr (14, [v0, v1, v2, .ref a1, v3, v4, v5])), (a1, .inr (6, [.ref a2, .ref a3, .ref a4, .int 1, v6, v7, v8, v9, v10, v11, v12, v13, v14])), (a2, .inl (cy 0, 8, .inl (upd f0 (0 : Int32).toNatClampNeg (vp_nar .char 97)))), (a3, .inl (cy 1, 8, .inl (upd f1 (0 : Int32).toNatClampNeg x0))), (a4, .inl (cy 1, 8, .inl (upd f2 (0 : Int32).toNatClampNeg (-1))))]) (va_A [(a0, .inr (14, [v0, v1, v2, .ref a1, v3, v4, v5])), (a1, .inr (6, [.ref a2, .ref a3, .ref a4, .int 0, v6, v7, v8, v9, v10, v11, v12, v13, v14])), (a2, .inl (cy 0, 8, .inl f0)), (a3, .inl (cy 1, 8, .inl f1)), (a4, .inl (cy 1, 8, .inl f2))] sz)) 0 0 (va_A [(a0, .inr (14, [v0, v1, v2, .ref a1, v3, v4, v5])), (a1, .inr (6, [.ref a2, .ref a3, .ref a4, .int 0, v6, v7, v8, v9, v10, v11, v12, v13, v14])), (a2, .inl (cy 0, 8, .inl f0)), (a3, .inl (cy 1, 8, .inl f1)), (a4, .inl (cy 1, 8, .inl f2))] sz) := by
  refine st_I (by decide) (Nat.le_of_ble_eq_true rfl) ?_
  intro p e s m args below meth c A ls hx hb hr hml hown hlk hnm hsz hP hD hA hE hts hS hl
  have hown : s.vm.findClass RX9 = some m.cls := hown
  have hl : lv_has ls 4 [(0, .ref a0), (1, .int 97), (2, .int x0), (3, .int x1)] := hl
  refine lv_iload_n hx hb dX9_addStroke_0 rfl (lv_at hl 1 rfl) ?_
  refine lv_iload_n hx hb dX9_addStroke_1 rfl (lv_at hl 2 rfl) ?_
  refine ca_i (isC := []) (isR := [0, 1, 2, 3, 4]) (wr := [(a0, .inr (14, [v0, v1, v2, .ref a1, v3, v4, v5])), (a1, .inr (6, [.ref a2, .ref a3, .ref a4, .int 0, v6, v7, v8, v9, v10, v11, v12, v13, v14])), (a2, .inl (cy 0, 8, .inl f0)), (a3, .inl (cy 1, 8, .inl f1)), (a4, .inl (cy 1, 8, .inl f2))]) (rn_S (isC := []) (wc := []) (As := [.int 97, .int x0]) (rest := []) (n := 2) hx hb hml hown hts hE hS hP hD hA hl.1 (k417_X1_isStroke l D cy g x0 s.heap.size h0 h1) rfl rfl ax_277 rfl rfl ax_278 ⟨Nat.le_of_ble_eq_true rfl, Nat.le_of_ble_eq_true rfl⟩ rfl rfl (Nat.le_of_ble_eq_true rfl) dX9_addStroke_2 ⟨(Nat.le_of_ble_eq_true rfl), (Nat.le_of_ble_eq_true rfl)⟩) hP hD hS hA rfl rfl rfl (by decide) (fun ad2 H locs hP hD hS => ?_)
  have hP : va_P D vwCl [(a0, .inr (14, [v0, v1, v2, .ref a1, v3, v4, v5])), (a1, .inr (6, [.ref a2, .ref a3, .ref a4, .int 0, v6, v7, v8, v9, v10, v11, v12, v13, v14])), (a2, .inl (cy 0, 8, .inl f0)), (a3, .inl (cy 1, 8, .inl f1)), (a4, .inl (cy 1, 8, .inl f2))] H := hP
  have hD : va_D A [(a0, .inr (14, [v0, v1, v2, .ref a1, v3, v4, v5])), (a1, .inr (6, [.ref a2, .ref a3, .ref a4, .int 0, v6, v7, v8, v9, v10, v11, v12, v13, v14])), (a2, .inl (cy 0, 8, .inl f0)), (a3, .inl (cy 1, 8, .inl f1)), (a4, .inl (cy 1, 8, .inl f2))] := hD
  refine lv_if_ne (tgt := 18) hx hb dX9_addStroke_5 (by decide) (fun _ => ?_) (fun z => absurd z (by decide))
  refine lv_iload_n hx hb dX9_addStroke_18 rfl (lv_at hl 1 rfl) ?_
  refine ca_i (isC := []) (isR := [0, 1, 2, 3, 4]) (wr := [(a0, .inr (14, [v0, v1, v2, .ref a1, v3, v4, v5])), (a1, .inr (6, [.ref a2, .ref a3, .ref a4, .int 0, v6, v7, v8, v9, v10, v11, v12, v13, v14])), (a2, .inl (cy 0, 8, .inl f0)), (a3, .inl (cy 1, 8, .inl f1)), (a4, .inl (cy 1, 8, .inl f2))]) (rn_S (isC := []) (wc := []) (As := [.int 97]) (rest := []) (n := 1) hx hb hml hown hts hE hS hP hD hA hl.1 (k418_X1_needsBody l D cy g  H.size ) rfl rfl ax_279 rfl rfl ax_280 ⟨Nat.le_of_ble_eq_true rfl, Nat.le_of_ble_eq_true rfl⟩ rfl rfl (Nat.le_of_ble_eq_true rfl) dX9_addStroke_19 ⟨(Nat.le_of_ble_eq_true rfl), (Nat.le_of_ble_eq_true rfl)⟩) hP hD hS hA rfl rfl rfl (by decide) (fun ad19 H locs hP hD hS => ?_)
  have hP : va_P D vwCl [(a0, .inr (14, [v0, v1, v2, .ref a1, v3, v4, v5])), (a1, .inr (6, [.ref a2, .ref a3, .ref a4, .int 0, v6, v7, v8, v9, v10, v11, v12, v13, v14])), (a2, .inl (cy 0, 8, .inl f0)), (a3, .inl (cy 1, 8, .inl f1)), (a4, .inl (cy 1, 8, .inl f2))] H := hP
  have hD : va_D A [(a0, .inr (14, [v0, v1, v2, .ref a1, v3, v4, v5])), (a1, .inr (6, [.ref a2, .ref a3, .ref a4, .int 0, v6, v7, v8, v9, v10, v11, v12, v13, v14])), (a2, .inl (cy 0, 8, .inl f0)), (a3, .inl (cy 1, 8, .inl f1)), (a4, .inl (cy 1, 8, .inl f2))] := hD
  refine lv_if_eq (tgt := 30) hx hb dX9_addStroke_22 (by decide) (fun _ => ?_) (fun z => absurd (by decide) z)
  refine lv_aload_n hx hb dX9_addStroke_30 rfl (lv_at hl 0 rfl) ?_
  refine va_get (D := D) (ci := 14) (v := .ref a1) (C := RX9) (T := TX9) (N := 7) hx hb hts ax_16 hown hE.1 hP 0 rfl rfl 3 (by decide) (hts _ tw_199) (fun _ h9 => h9) rfl dX9_addStroke_31 ?_
  refine ca_i (isC := [1]) (isR := [0, 2, 3, 4]) (wr := [(a0, .inr (14, [v0, v1, v2, .ref a1, v3, v4, v5])), (a2, .inl (cy 0, 8, .inl f0)), (a3, .inl (cy 1, 8, .inl f1)), (a4, .inl (cy 1, 8, .inl f2))]) (rn_V (ci := 6) (q0 := 1) (isC := [1]) (wc := [(a1, .inr (6, [.ref a2, .ref a3, .ref a4, .int 0, v6, v7, v8, v9, v10, v11, v12, v13, v14]))]) (As := []) (rest := []) (n := 0) hx hb hml hown hts hE hS hP hD hA hl.1 (k419_X1_isFull l D cy g a1 (.ref a2) (.ref a3) (.ref a4) (v6) (v7) (v8) (v9) (v10) (v11) (v12) (v13) (v14) H.size ) rfl rfl rfl rfl rfl ax_290 rfl rfl ax_288 ⟨Nat.le_of_ble_eq_true rfl, Nat.le_of_ble_eq_true rfl⟩ rfl rfl (Nat.le_of_ble_eq_true rfl) dX9_addStroke_34 ⟨(Nat.le_of_ble_eq_true rfl), (Nat.le_of_ble_eq_true rfl)⟩) hP hD hS hA rfl rfl rfl (by decide) (fun ad34 H locs hP hD hS => ?_)
  have hP : va_P D vwCl [(a0, .inr (14, [v0, v1, v2, .ref a1, v3, v4, v5])), (a2, .inl (cy 0, 8, .inl f0)), (a3, .inl (cy 1, 8, .inl f1)), (a4, .inl (cy 1, 8, .inl f2)), (a1, .inr (6, [.ref a2, .ref a3, .ref a4, .int 0, v6, v7, v8, v9, v10, v11, v12, v13, v14]))] H := hP
  have hD : va_D A [(a0, .inr (14, [v0, v1, v2, .ref a1, v3, v4, v5])), (a2, .inl (cy 0, 8, .inl f0)), (a3, .inl (cy 1, 8, .inl f1)), (a4, .inl (cy 1, 8, .inl f2)), (a1, .inr (6, [.ref a2, .ref a3, .ref a4, .int 0, v6, v7, v8, v9, v10, v11, v12, v13, v14]))] := hD
  refine lv_if_eq (tgt := 51) hx hb dX9_addStroke_37 (by decide) (fun _ => ?_) (fun z => absurd (by decide) z)
  refine lv_aload_n hx hb dX9_addStroke_51 rfl (lv_at hl 0 rfl) ?_
  refine va_get (D := D) (ci := 14) (v := .ref a1) (C := RX9) (T := TX9) (N := 7) hx hb hts ax_16 hown hE.1 hP 0 rfl rfl 3 (by decide) (hts _ tw_199) (fun _ h9 => h9) rfl dX9_addStroke_52 ?_
  refine lv_iload_n hx hb dX9_addStroke_55 rfl (lv_at hl 1 rfl) ?_
  refine lv_iload_n hx hb dX9_addStroke_56 rfl (lv_at hl 2 rfl) ?_
  refine lv_iload_n hx hb dX9_addStroke_57 rfl (lv_at hl 3 rfl) ?_
  refine ca_i (isC := [4, 1, 2, 3]) (isR := [0]) (wr := [(a0, .inr (14, [v0, v1, v2, .ref a1, v3, v4, v5]))]) (rn_V (ci := 6) (q0 := 4) (isC := [4, 1, 2, 3]) (wc := [(a1, .inr (6, [.ref a2, .ref a3, .ref a4, .int 0, v6, v7, v8, v9, v10, v11, v12, v13, v14])), (a2, .inl (cy 0, 8, .inl f0)), (a3, .inl (cy 1, 8, .inl f1)), (a4, .inl (cy 1, 8, .inl f2))]) (As := [.int 97, .int x0, .int x1]) (rest := []) (n := 3) hx hb hml hown hts hE hS hP hD hA hl.1 (k420_X1_append l D cy g x0 x1 a1 a2 a3 a4 (v6) (v7) (v8) (v9) (v10) (v11) (v12) (v13) (v14) f0 f1 f2 H.size ) rfl rfl rfl rfl rfl ax_291 rfl rfl ax_292 ⟨Nat.le_of_ble_eq_true rfl, Nat.le_of_ble_eq_true rfl⟩ rfl rfl (Nat.le_of_ble_eq_true rfl) dX9_addStroke_58 ⟨(Nat.le_of_ble_eq_true rfl), (Nat.le_of_ble_eq_true rfl)⟩) hP hD hS hA rfl rfl rfl (by decide) (fun ad58 H locs hP hD hS => ?_)
  have hP : va_P D vwCl [(a0, .inr (14, [v0, v1, v2, .ref a1, v3, v4, v5])), (a1, .inr (6, [.ref a2, .ref a3, .ref a4, .int 1, v6, v7, v8, v9, v10, v11, v12, v13, v14])), (a2, .inl (cy 0, 8, .inl (upd f0 (0 : Int32).toNatClampNeg (vp_nar .char 97)))), (a3, .inl (cy 1, 8, .inl (upd f1 (0 : Int32).toNatClampNeg x0))), (a4, .inl (cy 1, 8, .inl (upd f2 (0 : Int32).toNatClampNeg (-1))))] H := hP
  have hD : va_D A [(a0, .inr (14, [v0, v1, v2, .ref a1, v3, v4, v5])), (a1, .inr (6, [.ref a2, .ref a3, .ref a4, .int 1, v6, v7, v8, v9, v10, v11, v12, v13, v14])), (a2, .inl (cy 0, 8, .inl (upd f0 (0 : Int32).toNatClampNeg (vp_nar .char 97)))), (a3, .inl (cy 1, 8, .inl (upd f1 (0 : Int32).toNatClampNeg x0))), (a4, .inl (cy 1, 8, .inl (upd f2 (0 : Int32).toNatClampNeg (-1))))] := hD
  exact en_z hx hb hr hlk hP hD hS rfl (fun _ => 0) (is := [0, 1, 2, 3, 4]) rfl rfl (Nat.le_of_ble_eq_true rfl) (Nat.le_of_ble_eq_true rfl) dX9_addStroke_61
set_option maxHeartbeats 4000000 in
set_option maxRecDepth 100000 in
theorem k422_L_addStroke (l : Launch) (D : va_G) (cy : Nat → ClassId) (g : Nat → Nat) (x0 : Int32) (x1 : Int32) (a0 : Nat) (a1 : Nat) (a2 : Nat) (a3 : Nat) (a4 : Nat) (a5 : Nat) (v0 : Value) (v1 : Value) (v2 : Value) (v3 : Value) (v4 : Value) (v5 : Value) (v6 : Value) (v7 : Value) (v8 : Value) (v9 : Value) (v10 : Value) (v11 : Value) (v12 : Value) (v13 : Value) (v14 : Value) (f0 : Nat → Int32) (f1 : Nat → Int32) (f2 : Nat → Int32) (f3 : Nat → Int64) (sz : Nat) (h0 : ¬ x0 < 1) (h1 : ¬ (100 : Int32) < x0) : Met l yL_addStroke [.codeWith yL_addStroke cL_addStroke 6 (some .int) [(0, 12, 15, 13), (0, 12, 19, 21), (0, 12, 23, 15)]] ({ frames := 3, cells := 0, slots := 0, locals := 66 }) (PC D cy g [(a0, .inr (14, [v0, v1, v2, .ref a1, v3, v4, v5])), (a1, .inr (6, [.ref a2, .ref a3, .ref a4, .int 0, v6, v7, v8, v9, v10, v11, v12, v13, v14])), (a2, .inl (cy 0, 8, .inl f0)), (a3, .inl (cy 1, 8, .inl f1)), (a4, .inl (cy 1, 8, .inl f2)), (a5, .inl (cy 2, 1, .inr (.inl f3)))] sz [.ref a0, .int 97, .int x0, .int x1, .ref a5]) (QI D 0 (fun ad => [(a5, .inl (cy 2, 1, .inr (.inl (vp_updL f3 (0 : Int32).toNatClampNeg 1))))]) (va_A [(a0, .inr (14, [v0, v1, v2, .ref a1, v3, v4, v5])), (a1, .inr (6, [.ref a2, .ref a3, .ref a4, .int 0, v6, v7, v8, v9, v10, v11, v12, v13, v14])), (a2, .inl (cy 0, 8, .inl f0)), (a3, .inl (cy 1, 8, .inl f1)), (a4, .inl (cy 1, 8, .inl f2)), (a5, .inl (cy 2, 1, .inr (.inl f3)))] sz)) 0 0 (va_A [(a0, .inr (14, [v0, v1, v2, .ref a1, v3, v4, v5])), (a1, .inr (6, [.ref a2, .ref a3, .ref a4, .int 0, v6, v7, v8, v9, v10, v11, v12, v13, v14])), (a2, .inl (cy 0, 8, .inl f0)), (a3, .inl (cy 1, 8, .inl f1)), (a4, .inl (cy 1, 8, .inl f2)), (a5, .inl (cy 2, 1, .inr (.inl f3)))] sz) := by
  refine sh_I (by decide) (Nat.le_of_ble_eq_true rfl) ?_
  intro p e s m args below meth c A ls hx hb hr hml hown hlk hnm hsz hP hD hA hE hts hS hl htb
  have hown : s.vm.findClass RL = some m.cls := hown
  have hl : lv_has ls 6 [(0, .ref a0), (1, .int 97), (2, .int x0), (3, .int x1), (4, .ref a5)] := hl
  refine lv_aload hx hb dL_addStroke_0 (lv_at hl 4 rfl) ?_
  refine lv_iconst (v := 0) hx hb dL_addStroke_2 (by decide) ?_
  refine lv_aload_n hx hb dL_addStroke_3 rfl (lv_at hl 0 rfl) ?_
  refine lv_iload_n hx hb dL_addStroke_4 rfl (lv_at hl 1 rfl) ?_
  refine lv_iload_n hx hb dL_addStroke_5 rfl (lv_at hl 2 rfl) ?_
  refine lv_iload_n hx hb dL_addStroke_6 rfl (lv_at hl 3 rfl) ?_
  refine ca_i (isC := [0, 1, 2, 3, 4]) (isR := [5]) (wr := [(a5, .inl (cy 2, 1, .inr (.inl f3)))]) (rn_V (ci := 14) (q0 := 0) (isC := [0, 1, 2, 3, 4]) (wc := [(a0, .inr (14, [v0, v1, v2, .ref a1, v3, v4, v5])), (a1, .inr (6, [.ref a2, .ref a3, .ref a4, .int 0, v6, v7, v8, v9, v10, v11, v12, v13, v14])), (a2, .inl (cy 0, 8, .inl f0)), (a3, .inl (cy 1, 8, .inl f1)), (a4, .inl (cy 1, 8, .inl f2))]) (As := [.int 97, .int x0, .int x1]) (rest := [.int 0, .ref a5]) (n := 3) hx hb hml hown hts hE hS hP hD hA hl.1 (k421_X9_addStroke l D cy g x0 x1 a0 a1 a2 a3 a4 (v0) (v1) (v2) (v3) (v4) (v5) (v6) (v7) (v8) (v9) (v10) (v11) (v12) (v13) (v14) f0 f1 f2 s.heap.size h0 h1) rfl rfl rfl rfl rfl ax_281 rfl rfl ax_282 ⟨Nat.le_of_ble_eq_true rfl, Nat.le_of_ble_eq_true rfl⟩ rfl rfl (Nat.le_of_ble_eq_true rfl) dL_addStroke_7 ⟨(Nat.le_of_ble_eq_true rfl), (Nat.le_of_ble_eq_true rfl)⟩) hP hD hS hA rfl rfl rfl (by decide) (fun ad7 H locs hP hD hS => ?_)
  have hP : va_P D vwCl [(a5, .inl (cy 2, 1, .inr (.inl f3))), (a0, .inr (14, [v0, v1, v2, .ref a1, v3, v4, v5])), (a1, .inr (6, [.ref a2, .ref a3, .ref a4, .int 1, v6, v7, v8, v9, v10, v11, v12, v13, v14])), (a2, .inl (cy 0, 8, .inl (upd f0 (0 : Int32).toNatClampNeg (vp_nar .char 97)))), (a3, .inl (cy 1, 8, .inl (upd f1 (0 : Int32).toNatClampNeg x0))), (a4, .inl (cy 1, 8, .inl (upd f2 (0 : Int32).toNatClampNeg (-1))))] H := hP
  have hD : va_D A [(a5, .inl (cy 2, 1, .inr (.inl f3))), (a0, .inr (14, [v0, v1, v2, .ref a1, v3, v4, v5])), (a1, .inr (6, [.ref a2, .ref a3, .ref a4, .int 1, v6, v7, v8, v9, v10, v11, v12, v13, v14])), (a2, .inl (cy 0, 8, .inl (upd f0 (0 : Int32).toNatClampNeg (vp_nar .char 97)))), (a3, .inl (cy 1, 8, .inl (upd f1 (0 : Int32).toNatClampNeg x0))), (a4, .inl (cy 1, 8, .inl (upd f2 (0 : Int32).toNatClampNeg (-1))))] := hD
  refine lv_i2l (v := 1) hx hb dL_addStroke_10 (by decide) ?_
  refine va_last hx hb hE.1 hP hD hS 0 2 rfl rfl (by unfold vp_in; decide) dL_addStroke_11 (fun H locs hP hD hS => ?_)
  have hP : va_P D vwCl [(a5, .inl (cy 2, 1, .inr (.inl (vp_updL f3 (0 : Int32).toNatClampNeg 1)))), (a0, .inr (14, [v0, v1, v2, .ref a1, v3, v4, v5])), (a1, .inr (6, [.ref a2, .ref a3, .ref a4, .int 1, v6, v7, v8, v9, v10, v11, v12, v13, v14])), (a2, .inl (cy 0, 8, .inl (upd f0 (0 : Int32).toNatClampNeg (vp_nar .char 97)))), (a3, .inl (cy 1, 8, .inl (upd f1 (0 : Int32).toNatClampNeg x0))), (a4, .inl (cy 1, 8, .inl (upd f2 (0 : Int32).toNatClampNeg (-1))))] H := hP
  have hD : va_D A [(a5, .inl (cy 2, 1, .inr (.inl (vp_updL f3 (0 : Int32).toNatClampNeg 1)))), (a0, .inr (14, [v0, v1, v2, .ref a1, v3, v4, v5])), (a1, .inr (6, [.ref a2, .ref a3, .ref a4, .int 1, v6, v7, v8, v9, v10, v11, v12, v13, v14])), (a2, .inl (cy 0, 8, .inl (upd f0 (0 : Int32).toNatClampNeg (vp_nar .char 97)))), (a3, .inl (cy 1, 8, .inl (upd f1 (0 : Int32).toNatClampNeg x0))), (a4, .inl (cy 1, 8, .inl (upd f2 (0 : Int32).toNatClampNeg (-1))))] := hD
  refine lv_goto (tgt := 27) hx hb dL_addStroke_12 (by decide) ?_
  refine lv_iconst (v := 0) hx hb dL_addStroke_27 (by decide) ?_
  exact en_z hx hb hr hlk hP hD hS rfl (fun _ => 0) (is := [0]) rfl rfl (Nat.le_of_ble_eq_true rfl) (Nat.le_of_ble_eq_true rfl) dL_addStroke_28
set_option maxHeartbeats 4000000 in
set_option maxRecDepth 100000 in
theorem k423_X10_addStroke (l : Launch) (D : va_G) (cy : Nat → ClassId) (g : Nat → Nat) (x0 : Int32) (x1 : Int32) (a0 : Nat) (a1 : Nat) (v0 : Value) (v1 : Value) (v2 : Value) (v3 : Value) (v4 : Value) (v5 : Value) (v6 : Value) (v7 : Value) (v8 : Value) (v9 : Value) (v10 : Value) (v11 : Value) (v12 : Value) (v13 : Value) (v14 : Value) (v15 : Value) (v16 : Value) (v17 : Value) (v18 : Value) (v19 : Value) (v20 : Value) (v21 : Value) (v22 : Value) (v23 : Value) (v24 : Value) (v25 : Value) (v26 : Value) (sz : Nat) (h0 : ¬ x0 < 1) (h1 : ¬ (100 : Int32) < x0) : Met l yX10_addStroke [.code yX10_addStroke cX10_addStroke 4 (some .int)] ({ frames := 5, cells := 2, slots := 13, locals := 101 }) (PC D cy g [(a0, .inr (15, [v0, v1, v2, v3, v4, v5, v6, v7, v8, v9, v10, v11, .ref a1, v12, v13, v14, v15, v16, v17, v18, v19, v20, v21, v22, v23, v24, v25, v26])), (a1, .inr (4, [.int 0, .ref (g 0), .int 0]))] sz [.ref a0, .int 97, .int x0, .int x1]) (QI D 1 (fun ad => [(a0, .inr (15, [.int 0, v1, v2, v3, v4, v5, v6, v7, v8, v9, v10, v11, .ref a1, v12, v13, v14, v15, v16, v17, v18, v19, v20, v21, v22, v23, v24, v25, v26]))]) (va_A [(a0, .inr (15, [v0, v1, v2, v3, v4, v5, v6, v7, v8, v9, v10, v11, .ref a1, v12, v13, v14, v15, v16, v17, v18, v19, v20, v21, v22, v23, v24, v25, v26])), (a1, .inr (4, [.int 0, .ref (g 0), .int 0]))] sz)) 2 13 (va_A [(a0, .inr (15, [v0, v1, v2, v3, v4, v5, v6, v7, v8, v9, v10, v11, .ref a1, v12, v13, v14, v15, v16, v17, v18, v19, v20, v21, v22, v23, v24, v25, v26])), (a1, .inr (4, [.int 0, .ref (g 0), .int 0]))] sz) := by
  refine st_I (by decide) (Nat.le_of_ble_eq_true rfl) ?_
  intro p e s m args below meth c A ls hx hb hr hml hown hlk hnm hsz hP hD hA hE hts hS hl
  have hown : s.vm.findClass RX10 = some m.cls := hown
  have hl : lv_has ls 4 [(0, .ref a0), (1, .int 97), (2, .int x0), (3, .int x1)] := hl
  refine lv_aload_n hx hb dX10_addStroke_0 rfl (lv_at hl 0 rfl) ?_
  refine ca_v (isC := [0]) (isR := [1]) (wr := [(a1, .inr (4, [.int 0, .ref (g 0), .int 0]))]) (rn_V (ci := 15) (q0 := 0) (isC := [0]) (wc := [(a0, .inr (15, [v0, v1, v2, v3, v4, v5, v6, v7, v8, v9, v10, v11, .ref a1, v12, v13, v14, v15, v16, v17, v18, v19, v20, v21, v22, v23, v24, v25, v26]))]) (As := []) (rest := []) (n := 0) hx hb hml hown hts hE hS hP hD hA hl.1 (k20_X10_begins l D cy g a0 (v0) (v1) (v2) (v3) (v4) (v5) (v6) (v7) (v8) (v9) (v10) (v11) (.ref a1) (v12) (v13) (v14) (v15) (v16) (v17) (v18) (v19) (v20) (v21) (v22) (v23) (v24) (v25) (v26) s.heap.size ) rfl rfl rfl rfl rfl ax_37 rfl rfl ax_38 ⟨Nat.le_of_ble_eq_true rfl, Nat.le_of_ble_eq_true rfl⟩ rfl rfl (Nat.le_of_ble_eq_true rfl) dX10_addStroke_1 ⟨(Nat.le_of_ble_eq_true rfl), (Nat.le_of_ble_eq_true rfl)⟩) hP hD hS hA rfl rfl rfl (by decide) (fun ad1 H locs hP hD hS => ?_)
  have hP : va_P D vwCl [(a1, .inr (4, [.int 0, .ref (g 0), .int 0])), (a0, .inr (15, [.int 0, v1, v2, v3, v4, v5, v6, v7, v8, v9, v10, v11, .ref a1, v12, v13, v14, v15, v16, v17, v18, v19, v20, v21, v22, v23, v24, v25, v26]))] H := hP
  have hD : va_D A [(a1, .inr (4, [.int 0, .ref (g 0), .int 0])), (a0, .inr (15, [.int 0, v1, v2, v3, v4, v5, v6, v7, v8, v9, v10, v11, .ref a1, v12, v13, v14, v15, v16, v17, v18, v19, v20, v21, v22, v23, v24, v25, v26]))] := hD
  refine lv_aload_n hx hb dX10_addStroke_4 rfl (lv_at hl 0 rfl) ?_
  refine va_ldcS (tx := "aiv") (q := (g (1 + 1))) hx hb hown hE.2.2.1.2.2 dX10_addStroke_5 ?_
  refine lv_iload_n hx hb dX10_addStroke_7 rfl (lv_at hl 1 rfl) ?_
  refine ca_i (isC := []) (isR := [0, 1]) (wr := [(a1, .inr (4, [.int 0, .ref (g 0), .int 0])), (a0, .inr (15, [.int 0, v1, v2, v3, v4, v5, v6, v7, v8, v9, v10, v11, .ref a1, v12, v13, v14, v15, v16, v17, v18, v19, v20, v21, v22, v23, v24, v25, v26]))]) (rn_VS (i := 1) (isC := []) (wc := []) (As := [.int 97]) (rest := [.ref a0]) (n := 1) hx hb hml hown hts hE hS hP hD hA hl.1 (k411_J0_indexOf_0f7a4 l D cy g  H.size ) rfl rfl (by decide) rfl ax_200 rfl rfl ax_201 ⟨Nat.le_of_ble_eq_true rfl, Nat.le_of_ble_eq_true rfl⟩ rfl rfl (Nat.le_of_ble_eq_true rfl) dX10_addStroke_8 ⟨(Nat.le_of_ble_eq_true rfl), (Nat.le_of_ble_eq_true rfl)⟩) hP hD hS hA rfl rfl rfl (by decide) (fun ad8 H locs hP hD hS => ?_)
  have hP : va_P D vwCl [(a1, .inr (4, [.int 0, .ref (g 0), .int 0])), (a0, .inr (15, [.int 0, v1, v2, v3, v4, v5, v6, v7, v8, v9, v10, v11, .ref a1, v12, v13, v14, v15, v16, v17, v18, v19, v20, v21, v22, v23, v24, v25, v26]))] H := hP
  have hD : va_D A [(a1, .inr (4, [.int 0, .ref (g 0), .int 0])), (a0, .inr (15, [.int 0, v1, v2, v3, v4, v5, v6, v7, v8, v9, v10, v11, .ref a1, v12, v13, v14, v15, v16, v17, v18, v19, v20, v21, v22, v23, v24, v25, v26]))] := hD
  refine lv_if_lt (tgt := 32) hx hb dX10_addStroke_11 (by decide) (fun z => absurd z (by decide)) (fun _ => ?_)
  refine lv_iload_n hx hb dX10_addStroke_14 rfl (lv_at hl 1 rfl) ?_
  refine lv_bipush (v := 118) hx hb dX10_addStroke_15 (by decide) ?_
  refine lv_icmp_eq (tgt := 36) hx hb dX10_addStroke_17 (by decide) (fun z => absurd z (by decide)) (fun _ => ?_)
  refine lv_iload_n hx hb dX10_addStroke_20 rfl (lv_at hl 2 rfl) ?_
  refine lv_i2l (v := x0.toInt64) hx hb dX10_addStroke_21 rfl ?_
  refine lv_lconst (v := 1) hx hb dX10_addStroke_22 (by decide) ?_
  refine lv_ldc2 (v := 100) hx hb hown (hts _ tw_681) dX10_addStroke_23 ?_
  refine ca_i (isC := []) (isR := [0, 1]) (wr := [(a1, .inr (4, [.int 0, .ref (g 0), .int 0])), (a0, .inr (15, [.int 0, v1, v2, v3, v4, v5, v6, v7, v8, v9, v10, v11, .ref a1, v12, v13, v14, v15, v16, v17, v18, v19, v20, v21, v22, v23, v24, v25, v26]))]) (rn_S (isC := []) (wc := []) (As := [.long x0.toInt64, .long 1, .long 100]) (rest := [.ref a0]) (n := 3) hx hb hml hown hts hE hS hP hD hA hl.1 (k33_X10_in l D cy g x0.toInt64 1 100 H.size (wl_nlt rfl (by decide) h0) (wl_nlt (by decide) rfl h1)) rfl rfl ax_39 rfl rfl ax_40 ⟨Nat.le_of_ble_eq_true rfl, Nat.le_of_ble_eq_true rfl⟩ rfl rfl (Nat.le_of_ble_eq_true rfl) dX10_addStroke_26 ⟨(Nat.le_of_ble_eq_true rfl), (Nat.le_of_ble_eq_true rfl)⟩) hP hD hS hA rfl rfl rfl (by decide) (fun ad26 H locs hP hD hS => ?_)
  have hP : va_P D vwCl [(a1, .inr (4, [.int 0, .ref (g 0), .int 0])), (a0, .inr (15, [.int 0, v1, v2, v3, v4, v5, v6, v7, v8, v9, v10, v11, .ref a1, v12, v13, v14, v15, v16, v17, v18, v19, v20, v21, v22, v23, v24, v25, v26]))] H := hP
  have hD : va_D A [(a1, .inr (4, [.int 0, .ref (g 0), .int 0])), (a0, .inr (15, [.int 0, v1, v2, v3, v4, v5, v6, v7, v8, v9, v10, v11, .ref a1, v12, v13, v14, v15, v16, v17, v18, v19, v20, v21, v22, v23, v24, v25, v26]))] := hD
  refine lv_if_ne (tgt := 36) hx hb dX10_addStroke_29 (by decide) (fun _ => ?_) (fun z => absurd z (by decide))
  refine lv_iconst (v := 0) hx hb dX10_addStroke_36 (by decide) ?_
  refine lv_iconst (v := 1) hx hb dX10_addStroke_37 (by decide) ?_
  refine ca_i (isC := [1]) (isR := [0]) (wr := [(a1, .inr (4, [.int 0, .ref (g 0), .int 0]))]) (rn_V (ci := 15) (q0 := 1) (isC := [1]) (wc := [(a0, .inr (15, [.int 0, v1, v2, v3, v4, v5, v6, v7, v8, v9, v10, v11, .ref a1, v12, v13, v14, v15, v16, v17, v18, v19, v20, v21, v22, v23, v24, v25, v26]))]) (As := [.int 0, .int 1]) (rest := []) (n := 2) hx hb hml hown hts hE hS hP hD hA hl.1 (k43_X10_fails l D cy g a0 (v1) (v2) (v3) (v4) (v5) (v6) (v7) (v8) (v9) (v10) (v11) (.ref a1) (v12) (v13) (v14) (v15) (v16) (v17) (v18) (v19) (v20) (v21) (v22) (v23) (v24) (v25) (v26) H.size ) rfl rfl rfl rfl rfl ax_41 rfl rfl ax_42 ⟨Nat.le_of_ble_eq_true rfl, Nat.le_of_ble_eq_true rfl⟩ rfl rfl (Nat.le_of_ble_eq_true rfl) dX10_addStroke_38 ⟨(Nat.le_of_ble_eq_true rfl), (Nat.le_of_ble_eq_true rfl)⟩) hP hD hS hA rfl rfl rfl (by decide) (fun ad38 H locs hP hD hS => ?_)
  have hP : va_P D vwCl [(a1, .inr (4, [.int 0, .ref (g 0), .int 0])), (a0, .inr (15, [.int 0, v1, v2, v3, v4, v5, v6, v7, v8, v9, v10, v11, .ref a1, v12, v13, v14, v15, v16, v17, v18, v19, v20, v21, v22, v23, v24, v25, v26]))] H := hP
  have hD : va_D A [(a1, .inr (4, [.int 0, .ref (g 0), .int 0])), (a0, .inr (15, [.int 0, v1, v2, v3, v4, v5, v6, v7, v8, v9, v10, v11, .ref a1, v12, v13, v14, v15, v16, v17, v18, v19, v20, v21, v22, v23, v24, v25, v26]))] := hD
  refine lv_if_ne (tgt := 101) hx hb dX10_addStroke_41 (by decide) (fun z => absurd (by decide) z) (fun _ => ?_)
  refine lv_aload_n hx hb dX10_addStroke_44 rfl (lv_at hl 0 rfl) ?_
  refine lv_iload_n hx hb dX10_addStroke_45 rfl (lv_at hl 1 rfl) ?_
  refine lv_bipush (v := 97) hx hb dX10_addStroke_46 (by decide) ?_
  refine lv_icmp_eq (tgt := 66) hx hb dX10_addStroke_48 (by decide) (fun _ => ?_) (fun z => absurd (by decide) z)
  refine lv_iconst (v := 0) hx hb dX10_addStroke_66 (by decide) ?_
  refine lv_iconst (v := 2) hx hb dX10_addStroke_67 (by decide) ?_
  refine ca_i (isC := [1]) (isR := [0]) (wr := [(a1, .inr (4, [.int 0, .ref (g 0), .int 0]))]) (rn_V (ci := 15) (q0 := 1) (isC := [1]) (wc := [(a0, .inr (15, [.int 0, v1, v2, v3, v4, v5, v6, v7, v8, v9, v10, v11, .ref a1, v12, v13, v14, v15, v16, v17, v18, v19, v20, v21, v22, v23, v24, v25, v26]))]) (As := [.int 0, .int 2]) (rest := []) (n := 2) hx hb hml hown hts hE hS hP hD hA hl.1 (k45_X10_fails l D cy g a0 (v1) (v2) (v3) (v4) (v5) (v6) (v7) (v8) (v9) (v10) (v11) (.ref a1) (v12) (v13) (v14) (v15) (v16) (v17) (v18) (v19) (v20) (v21) (v22) (v23) (v24) (v25) (v26) H.size ) rfl rfl rfl rfl rfl ax_41 rfl rfl ax_42 ⟨Nat.le_of_ble_eq_true rfl, Nat.le_of_ble_eq_true rfl⟩ rfl rfl (Nat.le_of_ble_eq_true rfl) dX10_addStroke_68 ⟨(Nat.le_of_ble_eq_true rfl), (Nat.le_of_ble_eq_true rfl)⟩) hP hD hS hA rfl rfl rfl (by decide) (fun ad68 H locs hP hD hS => ?_)
  have hP : va_P D vwCl [(a1, .inr (4, [.int 0, .ref (g 0), .int 0])), (a0, .inr (15, [.int 0, v1, v2, v3, v4, v5, v6, v7, v8, v9, v10, v11, .ref a1, v12, v13, v14, v15, v16, v17, v18, v19, v20, v21, v22, v23, v24, v25, v26]))] H := hP
  have hD : va_D A [(a1, .inr (4, [.int 0, .ref (g 0), .int 0])), (a0, .inr (15, [.int 0, v1, v2, v3, v4, v5, v6, v7, v8, v9, v10, v11, .ref a1, v12, v13, v14, v15, v16, v17, v18, v19, v20, v21, v22, v23, v24, v25, v26]))] := hD
  refine lv_if_ne (tgt := 101) hx hb dX10_addStroke_71 (by decide) (fun z => absurd (by decide) z) (fun _ => ?_)
  refine lv_aload_n hx hb dX10_addStroke_74 rfl (lv_at hl 0 rfl) ?_
  refine lv_aload_n hx hb dX10_addStroke_75 rfl (lv_at hl 0 rfl) ?_
  refine va_get (D := D) (ci := 15) (v := .ref a1) (C := RX10) (T := TX10) (N := 28) hx hb hts ax_29 hown hE.1 hP 1 rfl rfl 12 (by decide) (hts _ tw_283) (fun _ h9 => h9) rfl dX10_addStroke_76 ?_
  refine ca_Fi (isC := [0]) (isR := [1]) (wr := [(a0, .inr (15, [.int 0, v1, v2, v3, v4, v5, v6, v7, v8, v9, v10, v11, .ref a1, v12, v13, v14, v15, v16, v17, v18, v19, v20, v21, v22, v23, v24, v25, v26]))]) (rn_F (ci := 4) (q0 := 0) (isC := [0]) (wc := [(a1, .inr (4, [.int 0, .ref (g 0), .int 0]))]) (As := []) (rest := [.ref a0]) (n := 0) hx hb hml hown hts hE hS hP hD hA hl.1 (k44_Jx4a65c_size_8abf5 l D cy g a1 (.int 0) (.ref (g 0)) H.size ) rfl rfl rfl rfl rfl ax_59 tw_367 tw_368 tw_369 tw_370 tw_371 rfl rfl ax_60 ⟨Nat.le_of_ble_eq_true rfl, Nat.le_of_ble_eq_true rfl⟩ rfl rfl (Nat.le_of_ble_eq_true rfl) dX10_addStroke_79 ⟨(Nat.le_of_ble_eq_true rfl), (Nat.le_of_ble_eq_true rfl)⟩) hP hD hS hA rfl rfl rfl (by decide) (fun ad79 H locs hP hD hS => ?_)
  have hP : va_P D vwCl [(a0, .inr (15, [.int 0, v1, v2, v3, v4, v5, v6, v7, v8, v9, v10, v11, .ref a1, v12, v13, v14, v15, v16, v17, v18, v19, v20, v21, v22, v23, v24, v25, v26])), (a1, .inr (4, [.int 0, .ref (g 0), .int 0]))] H := hP
  have hD : va_D A [(a0, .inr (15, [.int 0, v1, v2, v3, v4, v5, v6, v7, v8, v9, v10, v11, .ref a1, v12, v13, v14, v15, v16, v17, v18, v19, v20, v21, v22, v23, v24, v25, v26])), (a1, .inr (4, [.int 0, .ref (g 0), .int 0]))] := hD
  refine lv_bipush (v := 8) hx hb dX10_addStroke_84 (by decide) ?_
  refine lv_icmp_ne (tgt := 93) hx hb dX10_addStroke_86 (by decide) (fun _ => ?_) (fun z => absurd z (by decide))
  refine lv_iconst (v := 0) hx hb dX10_addStroke_93 (by decide) ?_
  refine lv_iconst (v := 3) hx hb dX10_addStroke_94 (by decide) ?_
  refine ca_i (isC := [0]) (isR := [1]) (wr := [(a1, .inr (4, [.int 0, .ref (g 0), .int 0]))]) (rn_V (ci := 15) (q0 := 0) (isC := [0]) (wc := [(a0, .inr (15, [.int 0, v1, v2, v3, v4, v5, v6, v7, v8, v9, v10, v11, .ref a1, v12, v13, v14, v15, v16, v17, v18, v19, v20, v21, v22, v23, v24, v25, v26]))]) (As := [.int 0, .int 3]) (rest := []) (n := 2) hx hb hml hown hts hE hS hP hD hA hl.1 (k140_X10_fails l D cy g a0 (v1) (v2) (v3) (v4) (v5) (v6) (v7) (v8) (v9) (v10) (v11) (.ref a1) (v12) (v13) (v14) (v15) (v16) (v17) (v18) (v19) (v20) (v21) (v22) (v23) (v24) (v25) (v26) H.size ) rfl rfl rfl rfl rfl ax_41 rfl rfl ax_42 ⟨Nat.le_of_ble_eq_true rfl, Nat.le_of_ble_eq_true rfl⟩ rfl rfl (Nat.le_of_ble_eq_true rfl) dX10_addStroke_95 ⟨(Nat.le_of_ble_eq_true rfl), (Nat.le_of_ble_eq_true rfl)⟩) hP hD hS hA rfl rfl rfl (by decide) (fun ad95 H locs hP hD hS => ?_)
  have hP : va_P D vwCl [(a1, .inr (4, [.int 0, .ref (g 0), .int 0])), (a0, .inr (15, [.int 0, v1, v2, v3, v4, v5, v6, v7, v8, v9, v10, v11, .ref a1, v12, v13, v14, v15, v16, v17, v18, v19, v20, v21, v22, v23, v24, v25, v26]))] H := hP
  have hD : va_D A [(a1, .inr (4, [.int 0, .ref (g 0), .int 0])), (a0, .inr (15, [.int 0, v1, v2, v3, v4, v5, v6, v7, v8, v9, v10, v11, .ref a1, v12, v13, v14, v15, v16, v17, v18, v19, v20, v21, v22, v23, v24, v25, v26]))] := hD
  refine lv_if_eq (tgt := 103) hx hb dX10_addStroke_98 (by decide) (fun _ => ?_) (fun z => absurd (by decide) z)
  refine lv_aload_n hx hb dX10_addStroke_103 rfl (lv_at hl 0 rfl) ?_
  refine va_get (D := D) (ci := 15) (v := .ref a1) (C := RX10) (T := TX10) (N := 28) hx hb hts ax_29 hown hE.1 hP 1 rfl rfl 12 (by decide) (hts _ tw_283) (fun _ h9 => h9) rfl dX10_addStroke_104 ?_
  refine lv_iconst (v := 3) hx hb dX10_addStroke_107 (by decide) ?_
  refine nw_p (atype := .int) (ty := .int) (cA := cy 1) (a0 := (3, .inl (fun _ => 0))) (N' := 3) 1 hx hb rfl hts tw_11 hE rfl hP hD hS hA (fun _ => rfl) (by decide) (by decide) (by decide) (Nat.le_of_ble_eq_true rfl) (Nat.le_of_ble_eq_true rfl) dX10_addStroke_108 (fun q1 H hP hD hS => ?_)
  have hP : va_P D vwCl [(a1, .inr (4, [.int 0, .ref (g 0), .int 0])), (a0, .inr (15, [.int 0, v1, v2, v3, v4, v5, v6, v7, v8, v9, v10, v11, .ref a1, v12, v13, v14, v15, v16, v17, v18, v19, v20, v21, v22, v23, v24, v25, v26])), (q1, .inl (cy 1, 3, .inl (fun _ => 0)))] H := hP
  have hD : va_D A [(a1, .inr (4, [.int 0, .ref (g 0), .int 0])), (a0, .inr (15, [.int 0, v1, v2, v3, v4, v5, v6, v7, v8, v9, v10, v11, .ref a1, v12, v13, v14, v15, v16, v17, v18, v19, v20, v21, v22, v23, v24, v25, v26])), (q1, .inl (cy 1, 3, .inl (fun _ => 0)))] := hD
  refine lv_dup hx hb dX10_addStroke_110 rfl ?_
  refine lv_iconst (v := 0) hx hb dX10_addStroke_111 (by decide) ?_
  refine lv_iload_n hx hb dX10_addStroke_112 rfl (lv_at hl 1 rfl) ?_
  refine va_iast hx hb hE.1 hP hD hS 2 1 rfl rfl (by unfold vp_in; decide) dX10_addStroke_113 (fun H locs hP hD hS => ?_)
  have hP : va_P D vwCl [(a1, .inr (4, [.int 0, .ref (g 0), .int 0])), (a0, .inr (15, [.int 0, v1, v2, v3, v4, v5, v6, v7, v8, v9, v10, v11, .ref a1, v12, v13, v14, v15, v16, v17, v18, v19, v20, v21, v22, v23, v24, v25, v26])), (q1, .inl (cy 1, 3, .inl (upd (fun _ => 0) (0 : Int32).toNatClampNeg 97)))] H := hP
  have hD : va_D A [(a1, .inr (4, [.int 0, .ref (g 0), .int 0])), (a0, .inr (15, [.int 0, v1, v2, v3, v4, v5, v6, v7, v8, v9, v10, v11, .ref a1, v12, v13, v14, v15, v16, v17, v18, v19, v20, v21, v22, v23, v24, v25, v26])), (q1, .inl (cy 1, 3, .inl (upd (fun _ => 0) (0 : Int32).toNatClampNeg 97)))] := hD
  refine lv_dup hx hb dX10_addStroke_114 rfl ?_
  refine lv_iconst (v := 1) hx hb dX10_addStroke_115 (by decide) ?_
  refine lv_iload_n hx hb dX10_addStroke_116 rfl (lv_at hl 2 rfl) ?_
  refine va_iast hx hb hE.1 hP hD hS 2 1 rfl rfl (by unfold vp_in; decide) dX10_addStroke_117 (fun H locs hP hD hS => ?_)
  have hP : va_P D vwCl [(a1, .inr (4, [.int 0, .ref (g 0), .int 0])), (a0, .inr (15, [.int 0, v1, v2, v3, v4, v5, v6, v7, v8, v9, v10, v11, .ref a1, v12, v13, v14, v15, v16, v17, v18, v19, v20, v21, v22, v23, v24, v25, v26])), (q1, .inl (cy 1, 3, .inl (upd (upd (fun _ => 0) (0 : Int32).toNatClampNeg 97) (1 : Int32).toNatClampNeg x0)))] H := hP
  have hD : va_D A [(a1, .inr (4, [.int 0, .ref (g 0), .int 0])), (a0, .inr (15, [.int 0, v1, v2, v3, v4, v5, v6, v7, v8, v9, v10, v11, .ref a1, v12, v13, v14, v15, v16, v17, v18, v19, v20, v21, v22, v23, v24, v25, v26])), (q1, .inl (cy 1, 3, .inl (upd (upd (fun _ => 0) (0 : Int32).toNatClampNeg 97) (1 : Int32).toNatClampNeg x0)))] := hD
  refine lv_dup hx hb dX10_addStroke_118 rfl ?_
  refine lv_iconst (v := 2) hx hb dX10_addStroke_119 (by decide) ?_
  refine lv_iload_n hx hb dX10_addStroke_120 rfl (lv_at hl 3 rfl) ?_
  refine va_iast hx hb hE.1 hP hD hS 2 1 rfl rfl (by unfold vp_in; decide) dX10_addStroke_121 (fun H locs hP hD hS => ?_)
  have hP : va_P D vwCl [(a1, .inr (4, [.int 0, .ref (g 0), .int 0])), (a0, .inr (15, [.int 0, v1, v2, v3, v4, v5, v6, v7, v8, v9, v10, v11, .ref a1, v12, v13, v14, v15, v16, v17, v18, v19, v20, v21, v22, v23, v24, v25, v26])), (q1, .inl (cy 1, 3, .inl (upd (upd (upd (fun _ => 0) (0 : Int32).toNatClampNeg 97) (1 : Int32).toNatClampNeg x0) (2 : Int32).toNatClampNeg x1)))] H := hP
  have hD : va_D A [(a1, .inr (4, [.int 0, .ref (g 0), .int 0])), (a0, .inr (15, [.int 0, v1, v2, v3, v4, v5, v6, v7, v8, v9, v10, v11, .ref a1, v12, v13, v14, v15, v16, v17, v18, v19, v20, v21, v22, v23, v24, v25, v26])), (q1, .inl (cy 1, 3, .inl (upd (upd (upd (fun _ => 0) (0 : Int32).toNatClampNeg 97) (1 : Int32).toNatClampNeg x0) (2 : Int32).toNatClampNeg x1)))] := hD
  refine ca_Fi (isC := [0, 2]) (isR := [1]) (wr := [(a0, .inr (15, [.int 0, v1, v2, v3, v4, v5, v6, v7, v8, v9, v10, v11, .ref a1, v12, v13, v14, v15, v16, v17, v18, v19, v20, v21, v22, v23, v24, v25, v26]))]) (rn_F (ci := 4) (q0 := 0) (isC := [0, 2]) (wc := [(a1, .inr (4, [.int 0, .ref (g 0), .int 0])), (q1, .inl (cy 1, 3, .inl (upd (upd (upd (fun _ => 0) (0 : Int32).toNatClampNeg 97) (1 : Int32).toNatClampNeg x0) (2 : Int32).toNatClampNeg x1)))]) (As := [.ref q1]) (rest := []) (n := 1) hx hb hml hown hts hE hS hP hD hA hl.1 (k222_Jx4a65c_add_9ea2d l D cy g a1 q1 (upd (upd (upd (fun _ => 0) (0 : Int32).toNatClampNeg 97) (1 : Int32).toNatClampNeg x0) (2 : Int32).toNatClampNeg x1) H.size ) rfl rfl rfl rfl rfl ax_61 tw_376 tw_377 tw_378 tw_379 tw_371 rfl rfl ax_62 ⟨Nat.le_of_ble_eq_true rfl, Nat.le_of_ble_eq_true rfl⟩ rfl rfl (Nat.le_of_ble_eq_true rfl) dX10_addStroke_122 ⟨(Nat.le_of_ble_eq_true rfl), (Nat.le_of_ble_eq_true rfl)⟩) hP hD hS hA rfl rfl rfl (by decide) (fun ad122 H locs hP hD hS => ?_)
  have hP : va_P D vwCl [(a0, .inr (15, [.int 0, v1, v2, v3, v4, v5, v6, v7, v8, v9, v10, v11, .ref a1, v12, v13, v14, v15, v16, v17, v18, v19, v20, v21, v22, v23, v24, v25, v26])), (a1, .inr (4, [.int 1, .ref (ad122 0), .int 1])), (q1, .inl (cy 1, 3, .inl (upd (upd (upd (fun _ => 0) (0 : Int32).toNatClampNeg 97) (1 : Int32).toNatClampNeg x0) (2 : Int32).toNatClampNeg x1))), ((ad122 0), .inl (cy 5, 10, .inr (.inr (.inr (.inr (va_up (fun _ => none) (0 : Int32).toNatClampNeg (some q1)))))))] H := hP
  have hD : va_D A [(a0, .inr (15, [.int 0, v1, v2, v3, v4, v5, v6, v7, v8, v9, v10, v11, .ref a1, v12, v13, v14, v15, v16, v17, v18, v19, v20, v21, v22, v23, v24, v25, v26])), (a1, .inr (4, [.int 1, .ref (ad122 0), .int 1])), (q1, .inl (cy 1, 3, .inl (upd (upd (upd (fun _ => 0) (0 : Int32).toNatClampNeg 97) (1 : Int32).toNatClampNeg x0) (2 : Int32).toNatClampNeg x1))), ((ad122 0), .inl (cy 5, 10, .inr (.inr (.inr (.inr (va_up (fun _ => none) (0 : Int32).toNatClampNeg (some q1)))))))] := hD
  refine lv_pop hx hb dX10_addStroke_127 rfl ?_
  refine lv_aload_n hx hb dX10_addStroke_128 rfl (lv_at hl 0 rfl) ?_
  refine va_get (D := D) (ci := 15) (v := .ref a1) (C := RX10) (T := TX10) (N := 28) hx hb hts ax_29 hown hE.1 hP 0 rfl rfl 12 (by decide) (hts _ tw_283) (fun _ h9 => h9) rfl dX10_addStroke_129 ?_
  refine ca_Fi (isC := [1]) (isR := [0, 2, 3]) (wr := [(a0, .inr (15, [.int 0, v1, v2, v3, v4, v5, v6, v7, v8, v9, v10, v11, .ref a1, v12, v13, v14, v15, v16, v17, v18, v19, v20, v21, v22, v23, v24, v25, v26])), (q1, .inl (cy 1, 3, .inl (upd (upd (upd (fun _ => 0) (0 : Int32).toNatClampNeg 97) (1 : Int32).toNatClampNeg x0) (2 : Int32).toNatClampNeg x1))), ((ad122 0), .inl (cy 5, 10, .inr (.inr (.inr (.inr (va_up (fun _ => none) (0 : Int32).toNatClampNeg (some q1)))))))]) (rn_F (ci := 4) (q0 := 1) (isC := [1]) (wc := [(a1, .inr (4, [.int 1, .ref (ad122 0), .int 1]))]) (As := []) (rest := []) (n := 0) hx hb hml hown hts hE hS hP hD hA hl.1 (k50_Jx4a65c_size_8abf5 l D cy g a1 (.int 1) (.ref (ad122 0)) H.size ) rfl rfl rfl rfl rfl ax_59 tw_367 tw_368 tw_369 tw_370 tw_371 rfl rfl ax_60 ⟨Nat.le_of_ble_eq_true rfl, Nat.le_of_ble_eq_true rfl⟩ rfl rfl (Nat.le_of_ble_eq_true rfl) dX10_addStroke_132 ⟨(Nat.le_of_ble_eq_true rfl), (Nat.le_of_ble_eq_true rfl)⟩) hP hD hS hA rfl rfl rfl (by decide) (fun ad132 H locs hP hD hS => ?_)
  have hP : va_P D vwCl [(a0, .inr (15, [.int 0, v1, v2, v3, v4, v5, v6, v7, v8, v9, v10, v11, .ref a1, v12, v13, v14, v15, v16, v17, v18, v19, v20, v21, v22, v23, v24, v25, v26])), (q1, .inl (cy 1, 3, .inl (upd (upd (upd (fun _ => 0) (0 : Int32).toNatClampNeg 97) (1 : Int32).toNatClampNeg x0) (2 : Int32).toNatClampNeg x1))), ((ad122 0), .inl (cy 5, 10, .inr (.inr (.inr (.inr (va_up (fun _ => none) (0 : Int32).toNatClampNeg (some q1))))))), (a1, .inr (4, [.int 1, .ref (ad122 0), .int 1]))] H := hP
  have hD : va_D A [(a0, .inr (15, [.int 0, v1, v2, v3, v4, v5, v6, v7, v8, v9, v10, v11, .ref a1, v12, v13, v14, v15, v16, v17, v18, v19, v20, v21, v22, v23, v24, v25, v26])), (q1, .inl (cy 1, 3, .inl (upd (upd (upd (fun _ => 0) (0 : Int32).toNatClampNeg 97) (1 : Int32).toNatClampNeg x0) (2 : Int32).toNatClampNeg x1))), ((ad122 0), .inl (cy 5, 10, .inr (.inr (.inr (.inr (va_up (fun _ => none) (0 : Int32).toNatClampNeg (some q1))))))), (a1, .inr (4, [.int 1, .ref (ad122 0), .int 1]))] := hD
  exact en_z hx hb hr hlk hP hD hS rfl (fun _ => 0) (is := [0]) rfl rfl (Nat.le_of_ble_eq_true rfl) (Nat.le_of_ble_eq_true rfl) dX10_addStroke_137
set_option maxHeartbeats 4000000 in
set_option maxRecDepth 100000 in
theorem k424_X1_isStroke (l : Launch) (D : va_G) (cy : Nat → ClassId) (g : Nat → Nat) (x0 : Int32) (sz : Nat) (h0 : x0 < 1) : Met l yX1_isStroke [.code yX1_isStroke cX1_isStroke 2 (some .boolean)] ({ frames := 1, cells := 0, slots := 0, locals := 22 }) (PC D cy g [] sz [.int 105, .int x0]) (QI D 0 (fun ad => []) (va_A [] sz)) 0 0 (va_A [] sz) := by
  refine st_I (by decide) (Nat.le_of_ble_eq_true rfl) ?_
  intro p e s m args below meth c A ls hx hb hr hml hown hlk hnm hsz hP hD hA hE hts hS hl
  have hown : s.vm.findClass RX1 = some m.cls := hown
  have hl : lv_has ls 2 [(0, .int 105), (1, .int x0)] := hl
  refine lv_iload_n hx hb dX1_isStroke_0 rfl (lv_at hl 0 rfl) ?_
  refine lv_bipush (v := 118) hx hb dX1_isStroke_1 (by decide) ?_
  refine lv_icmp_eq (tgt := 28) hx hb dX1_isStroke_3 (by decide) (fun z => absurd z (by decide)) (fun _ => ?_)
  refine lv_iload_n hx hb dX1_isStroke_6 rfl (lv_at hl 0 rfl) ?_
  refine lv_bipush (v := 97) hx hb dX1_isStroke_7 (by decide) ?_
  refine lv_icmp_eq (tgt := 18) hx hb dX1_isStroke_9 (by decide) (fun z => absurd z (by decide)) (fun _ => ?_)
  refine lv_iload_n hx hb dX1_isStroke_12 rfl (lv_at hl 0 rfl) ?_
  refine lv_bipush (v := 105) hx hb dX1_isStroke_13 (by decide) ?_
  refine lv_icmp_ne (tgt := 32) hx hb dX1_isStroke_15 (by decide) (fun z => absurd (by decide) z) (fun _ => ?_)
  refine lv_iload_n hx hb dX1_isStroke_18 rfl (lv_at hl 1 rfl) ?_
  refine lv_iconst (v := 1) hx hb dX1_isStroke_19 (by decide) ?_
  refine lv_bipush (v := 100) hx hb dX1_isStroke_20 (by decide) ?_
  refine ca_i (isC := []) (isR := []) (wr := []) (rn_SN (isC := []) (wc := []) (As := [.int x0, .int 1, .int 100]) (rest := []) (n := 3) hx hb hml hown hts hE hS hP hD hA hl.1 (k17_X9_isOutside l D cy g x0 1 100 s.heap.size h0) rfl rfl tw_835 tw_293 tw_294 tw_295 rfl rfl ax_31 ⟨Nat.le_of_ble_eq_true rfl, Nat.le_of_ble_eq_true rfl⟩ rfl rfl (Nat.le_of_ble_eq_true rfl) dX1_isStroke_22 ⟨(Nat.le_of_ble_eq_true rfl), (Nat.le_of_ble_eq_true rfl)⟩) hP hD hS hA rfl rfl rfl (by decide) (fun ad22 H locs hP hD hS => ?_)
  have hP : va_P D vwCl [] H := hP
  have hD : va_D A [] := hD
  refine lv_if_ne (tgt := 32) hx hb dX1_isStroke_25 (by decide) (fun _ => ?_) (fun z => absurd z (by decide))
  refine lv_iconst (v := 0) hx hb dX1_isStroke_32 (by decide) ?_
  exact en_z hx hb hr hlk hP hD hS rfl (fun _ => 0) (is := []) rfl rfl (Nat.le_of_ble_eq_true rfl) (Nat.le_of_ble_eq_true rfl) dX1_isStroke_33
set_option maxHeartbeats 4000000 in
set_option maxRecDepth 100000 in
theorem k425_X9_addStroke (l : Launch) (hst : l.stackTraces = false) (D : va_G) (cy : Nat → ClassId) (g : Nat → Nat) (x0 : Int32) (x1 : Int32) (b0 : Nat) (sz : Nat) (h0 : x0 < 1) : vx_Met l yX9_addStroke [.code yX9_addStroke cX9_addStroke 4 (some .int)] ({ frames := 6, cells := 1, slots := 6, locals := 82 }) (PC D cy g [] sz [.ref b0, .int 105, .int x0, .int x1]) QN (XE "java/lang/IllegalArgumentException" (va_A [] sz)) 1 6 (va_A [] sz) := by
  refine st_X (by decide) (Nat.le_of_ble_eq_true rfl) ?_
  intro p e s m args below meth c A ls hx hb hr hml hown hlk hnm hsz hP hD hA hE hts hS hl hout
  have hown : s.vm.findClass RX9 = some m.cls := hown
  have hl : lv_has ls 4 [(0, .ref b0), (1, .int 105), (2, .int x0), (3, .int x1)] := hl
  refine lv_iload_n hx hb dX9_addStroke_0 rfl (lv_at hl 1 rfl) ?_
  refine lv_iload_n hx hb dX9_addStroke_1 rfl (lv_at hl 2 rfl) ?_
  refine ca_i (isC := []) (isR := []) (wr := []) (rn_S (isC := []) (wc := []) (As := [.int 105, .int x0]) (rest := []) (n := 2) hx hb hml hown hts hE hS hP hD hA hl.1 (k424_X1_isStroke l D cy g x0 s.heap.size h0) rfl rfl ax_277 rfl rfl ax_278 ⟨Nat.le_of_ble_eq_true rfl, Nat.le_of_ble_eq_true rfl⟩ rfl rfl (Nat.le_of_ble_eq_true rfl) dX9_addStroke_2 ⟨(Nat.le_of_ble_eq_true rfl), (Nat.le_of_ble_eq_true rfl)⟩) hP hD hS hA rfl rfl rfl (by decide) (fun ad2 H locs hP hD hS => ?_)
  have hP : va_P D vwCl [] H := hP
  have hD : va_D A [] := hD
  refine lv_if_ne (tgt := 18) hx hb dX9_addStroke_5 (by decide) (fun z => absurd (by decide) z) (fun _ => ?_)
  exact th_S (text := "there is no such stroke") hx hb hst hown hts hE hS (hl.1.trans hml.symm) hout hlk (by decide +kernel) tw_296 tw_297 ax_32 (by decide +kernel) dX9_addStroke_8 dX9_addStroke_11 dX9_addStroke_12 dX9_addStroke_14 dX9_addStroke_17 ⟨Nat.le_of_ble_eq_true rfl, Nat.le_of_ble_eq_true rfl, Nat.le_of_ble_eq_true rfl, Nat.le_of_ble_eq_true rfl⟩ (Nat.le_of_ble_eq_true rfl) (Nat.le_of_ble_eq_true rfl)
set_option maxHeartbeats 4000000 in
set_option maxRecDepth 100000 in
theorem k426_L_addStroke (l : Launch) (hst : l.stackTraces = false) (D : va_G) (cy : Nat → ClassId) (g : Nat → Nat) (x0 : Int32) (x1 : Int32) (a0 : Nat) (b0 : Nat) (v0 : Value) (v1 : Value) (v2 : Value) (v3 : Value) (v4 : Value) (v5 : Value) (v6 : Value) (sz : Nat) (h0 : x0 < 1) : Met l yL_addStroke [.codeWith yL_addStroke cL_addStroke 6 (some .int) [(0, 12, 15, 13), (0, 12, 19, 21), (0, 12, 23, 15)]] ({ frames := 7, cells := 1, slots := 6, locals := 105 }) (PC D cy g [(a0, .inr (14, [v0, v1, v2, v3, v4, v5, v6]))] sz [.ref a0, .int 105, .int x0, .int x1, .ref b0]) (QI D 1 (fun ad => []) (va_A [(a0, .inr (14, [v0, v1, v2, v3, v4, v5, v6]))] sz)) 1 6 (va_A [(a0, .inr (14, [v0, v1, v2, v3, v4, v5, v6]))] sz) := by
  refine sh_I (by decide) (Nat.le_of_ble_eq_true rfl) ?_
  intro p e s m args below meth c A ls hx hb hr hml hown hlk hnm hsz hP hD hA hE hts hS hl htb
  have hown : s.vm.findClass RL = some m.cls := hown
  have hl : lv_has ls 6 [(0, .ref a0), (1, .int 105), (2, .int x0), (3, .int x1), (4, .ref b0)] := hl
  refine lv_aload hx hb dL_addStroke_0 (lv_at hl 4 rfl) ?_
  refine lv_iconst (v := 0) hx hb dL_addStroke_2 (by decide) ?_
  refine lv_aload_n hx hb dL_addStroke_3 rfl (lv_at hl 0 rfl) ?_
  refine lv_iload_n hx hb dL_addStroke_4 rfl (lv_at hl 1 rfl) ?_
  refine lv_iload_n hx hb dL_addStroke_5 rfl (lv_at hl 2 rfl) ?_
  refine lv_iload_n hx hb dL_addStroke_6 rfl (lv_at hl 3 rfl) ?_
  refine cx_catch (isC := []) (isR := [0]) (wr := [(a0, .inr (14, [v0, v1, v2, v3, v4, v5, v6]))]) (hp := []) (z := (0, 12, 15, 13)) (hq := [(0, 12, 19, 21), (0, 12, 23, 15)]) (name := "java/lang/IllegalArgumentException") (own := RL) (rx_V (ci := 14) (q0 := 0) (isC := []) (wc := []) (As := [.int 105, .int x0, .int x1]) (rest := [.int 0, .ref b0]) (n := 3) hx hb hml hown hts hE hS hP hD hA hl.1 (k425_X9_addStroke l hst D cy g x0 x1 a0 s.heap.size h0) rfl rfl rfl rfl rfl ax_281 rfl rfl ax_282 ⟨Nat.le_of_ble_eq_true rfl, Nat.le_of_ble_eq_true rfl⟩ rfl rfl (Nat.le_of_ble_eq_true rfl) dL_addStroke_7 ⟨(Nat.le_of_ble_eq_true rfl), (Nat.le_of_ble_eq_true rfl)⟩) hP hD hS hA hown hts hE htb rfl rfl rfl rfl (by decide) (fun z hz => by cases hz) (by decide) (by decide) tw_302 tw_303 (fun qx H locs hP hD hS => ?_)
  have hP : va_P D vwCl [(a0, .inr (14, [v0, v1, v2, v3, v4, v5, v6]))] H := hP
  have hD : va_D A [(a0, .inr (14, [v0, v1, v2, v3, v4, v5, v6]))] := hD
  refine lv_astore (lv' := [(5, .ref qx), (0, .ref a0), (1, .int 105), (2, .int x0), (3, .int x1), (4, .ref b0)]) hx hb dL_addStroke_15 hl (Nat.le_of_ble_eq_true rfl) rfl (fun ls hl => ?_)
  refine lv_iconst (v := 1) hx hb dL_addStroke_17 (by decide) ?_
  exact en_z hx hb hr hlk hP hD hS rfl (fun _ => 0) (is := []) rfl rfl (Nat.le_of_ble_eq_true rfl) (Nat.le_of_ble_eq_true rfl) dL_addStroke_18
set_option maxHeartbeats 4000000 in
set_option maxRecDepth 100000 in
theorem k427_J1_canEncode_9a6ad (l : Launch) (D : va_G) (cy : Nat → ClassId) (g : Nat → Nat)  (sz : Nat)  : Met l yJ1_canEncode_9a6ad [.code yJ1_canEncode_9a6ad cJ1_canEncode_9a6ad 1 (some .boolean)] ({ frames := 0, cells := 0, slots := 0, locals := 0 }) (PC D cy g [] sz [.int 105]) (QI D 1 (fun ad => []) (va_A [] sz)) 0 0 (va_A [] sz) := by
  refine st_I (by decide) (Nat.le_of_ble_eq_true rfl) ?_
  intro p e s m args below meth c A ls hx hb hr hml hown hlk hnm hsz hP hD hA hE hts hS hl
  have hown : s.vm.findClass RJ1 = some m.cls := hown
  have hl : lv_has ls 1 [(0, .int 105)] := hl
  refine lv_iload_n hx hb dJ1_canEncode_9a6ad_0 rfl (lv_at hl 0 rfl) ?_
  refine lv_if_lt (tgt := 15) hx hb dJ1_canEncode_9a6ad_1 (by decide) (fun z => absurd z (by decide)) (fun _ => ?_)
  refine lv_iload_n hx hb dJ1_canEncode_9a6ad_4 rfl (lv_at hl 0 rfl) ?_
  refine lv_sipush (v := 255) hx hb dJ1_canEncode_9a6ad_5 (by decide) ?_
  refine lv_icmp_gt (tgt := 15) hx hb dJ1_canEncode_9a6ad_8 (by decide) (fun z => absurd z (by decide)) (fun _ => ?_)
  refine lv_iconst (v := 1) hx hb dJ1_canEncode_9a6ad_11 (by decide) ?_
  refine lv_goto (tgt := 16) hx hb dJ1_canEncode_9a6ad_12 (by decide) ?_
  exact en_z hx hb hr hlk hP hD hS rfl (fun _ => 0) (is := []) rfl rfl (Nat.le_of_ble_eq_true rfl) (Nat.le_of_ble_eq_true rfl) dJ1_canEncode_9a6ad_16
set_option maxHeartbeats 4000000 in
set_option maxRecDepth 100000 in
theorem k428_J1_indexOfChar_4cfef (l : Launch) (D : va_G) (cy : Nat → ClassId) (g : Nat → Nat)  (sz : Nat)  : Met l yJ1_indexOfChar_4cfef [.code yJ1_indexOfChar_4cfef cJ1_indexOfChar_4cfef 6 (some .int)] ({ frames := 0, cells := 0, slots := 0, locals := 0 }) (PC D cy g [] sz [.ref (g (1 + 3)), .int 105, .int 0, .int 3]) (QI D 1 (fun ad => []) (va_A [] sz)) 0 0 (va_A [] sz) := by
  refine st_I (by decide) (Nat.le_of_ble_eq_true rfl) ?_
  intro p e s m args below meth c A ls hx hb hr hml hown hlk hnm hsz hP hD hA hE hts hS hl
  have hown : s.vm.findClass RJ1 = some m.cls := hown
  have hl : lv_has ls 6 [(0, .ref (g (1 + 3))), (1, .int 105), (2, .int 0), (3, .int 3)] := hl
  refine lv_iload_n hx hb dJ1_indexOfChar_4cfef_0 rfl (lv_at hl 1 rfl) ?_
  refine lv_i2b (v := 105) hx hb dJ1_indexOfChar_4cfef_1 (by decide) ?_
  refine lv_istore (lv' := [(4, .int 105), (0, .ref (g (1 + 3))), (1, .int 105), (2, .int 0), (3, .int 3)]) hx hb dJ1_indexOfChar_4cfef_2 hl (Nat.le_of_ble_eq_true rfl) rfl (fun ls hl => ?_)
  refine lv_iload_n hx hb dJ1_indexOfChar_4cfef_4 rfl (lv_at hl 3 rfl) ?_
  refine lv_istore (lv' := [(5, .int 0), (4, .int 105), (0, .ref (g (1 + 3))), (1, .int 105), (2, .int 0), (3, .int 3)]) hx hb dJ1_indexOfChar_4cfef_5 hl (Nat.le_of_ble_eq_true rfl) rfl (fun ls hl => ?_)
  refine lv_iload hx hb dJ1_indexOfChar_4cfef_7 (lv_at hl 0 rfl) ?_
  refine lv_iload_n hx hb dJ1_indexOfChar_4cfef_9 rfl (lv_at hl 5 rfl) ?_
  refine lv_icmp_ge (tgt := 31) hx hb dJ1_indexOfChar_4cfef_10 (by decide) (fun z => absurd z (by decide)) (fun _ => ?_)
  refine lv_aload_n hx hb dJ1_indexOfChar_4cfef_13 rfl (lv_at hl 2 rfl) ?_
  refine lv_iload hx hb dJ1_indexOfChar_4cfef_14 (lv_at hl 0 rfl) ?_
  refine va_tb (v := .int 97) hx hb (hE.2.2.2.2.2.2.2.2.2.2.1 1 (by decide)).2.2.2 hS (by unfold vp_in; decide) rfl dJ1_indexOfChar_4cfef_16 ?_
  refine lv_iload hx hb dJ1_indexOfChar_4cfef_17 (lv_at hl 1 rfl) ?_
  refine lv_icmp_ne (tgt := 25) hx hb dJ1_indexOfChar_4cfef_19 (by decide) (fun _ => ?_) (fun z => absurd z (by decide))
  refine lv_iinc (v := 1) (lv' := [(5, .int 1), (4, .int 105), (0, .ref (g (1 + 3))), (1, .int 105), (2, .int 0), (3, .int 3)]) hx hb dJ1_indexOfChar_4cfef_25 hl (k := 0) rfl (by decide) (Nat.le_of_ble_eq_true rfl) rfl (fun ls hl => ?_)
  refine lv_goto (tgt := 7) hx hb dJ1_indexOfChar_4cfef_28 (by decide) ?_
  refine lv_iload hx hb dJ1_indexOfChar_4cfef_7 (lv_at hl 0 rfl) ?_
  refine lv_iload_n hx hb dJ1_indexOfChar_4cfef_9 rfl (lv_at hl 5 rfl) ?_
  refine lv_icmp_ge (tgt := 31) hx hb dJ1_indexOfChar_4cfef_10 (by decide) (fun z => absurd z (by decide)) (fun _ => ?_)
  refine lv_aload_n hx hb dJ1_indexOfChar_4cfef_13 rfl (lv_at hl 2 rfl) ?_
  refine lv_iload hx hb dJ1_indexOfChar_4cfef_14 (lv_at hl 0 rfl) ?_
  refine va_tb (v := .int 105) hx hb (hE.2.2.2.2.2.2.2.2.2.2.1 1 (by decide)).2.2.2 hS (by unfold vp_in; decide) rfl dJ1_indexOfChar_4cfef_16 ?_
  refine lv_iload hx hb dJ1_indexOfChar_4cfef_17 (lv_at hl 1 rfl) ?_
  refine lv_icmp_ne (tgt := 25) hx hb dJ1_indexOfChar_4cfef_19 (by decide) (fun z => absurd (by decide) z) (fun _ => ?_)
  refine lv_iload hx hb dJ1_indexOfChar_4cfef_22 (lv_at hl 0 rfl) ?_
  exact en_z hx hb hr hlk hP hD hS rfl (fun _ => 0) (is := []) rfl rfl (Nat.le_of_ble_eq_true rfl) (Nat.le_of_ble_eq_true rfl) dJ1_indexOfChar_4cfef_24
set_option maxHeartbeats 4000000 in
set_option maxRecDepth 100000 in
theorem k429_J1_indexOf_4cfef (l : Launch) (D : va_G) (cy : Nat → ClassId) (g : Nat → Nat)  (sz : Nat)  : Met l yJ1_indexOf_4cfef [.code yJ1_indexOf_4cfef cJ1_indexOf_4cfef 4 (some .int)] ({ frames := 1, cells := 0, slots := 0, locals := 25 }) (PC D cy g [] sz [.ref (g (1 + 3)), .int 105, .int 0, .int 3]) (QI D 1 (fun ad => []) (va_A [] sz)) 0 0 (va_A [] sz) := by
  refine st_I (by decide) (Nat.le_of_ble_eq_true rfl) ?_
  intro p e s m args below meth c A ls hx hb hr hml hown hlk hnm hsz hP hD hA hE hts hS hl
  have hown : s.vm.findClass RJ1 = some m.cls := hown
  have hl : lv_has ls 4 [(0, .ref (g (1 + 3))), (1, .int 105), (2, .int 0), (3, .int 3)] := hl
  refine lv_iload_n hx hb dJ1_indexOf_4cfef_0 rfl (lv_at hl 1 rfl) ?_
  refine ca_i (isC := []) (isR := []) (wr := []) (rn_S (isC := []) (wc := []) (As := [.int 105]) (rest := []) (n := 1) hx hb hml hown hts hE hS hP hD hA hl.1 (k427_J1_canEncode_9a6ad l D cy g  s.heap.size ) rfl rfl ax_188 rfl rfl ax_189 ⟨Nat.le_of_ble_eq_true rfl, Nat.le_of_ble_eq_true rfl⟩ rfl rfl (Nat.le_of_ble_eq_true rfl) dJ1_indexOf_4cfef_1 ⟨(Nat.le_of_ble_eq_true rfl), (Nat.le_of_ble_eq_true rfl)⟩) hP hD hS hA rfl rfl rfl (by decide) (fun ad1 H locs hP hD hS => ?_)
  have hP : va_P D vwCl [] H := hP
  have hD : va_D A [] := hD
  refine lv_if_ne (tgt := 9) hx hb dJ1_indexOf_4cfef_4 (by decide) (fun _ => ?_) (fun z => absurd z (by decide))
  refine lv_iload_n hx hb dJ1_indexOf_4cfef_9 rfl (lv_at hl 2 rfl) ?_
  refine lv_iconst (v := 0) hx hb dJ1_indexOf_4cfef_10 (by decide) ?_
  refine va_mmax hx hb (hml.trans hl.1.symm) hown (hts _ tw_642) (hts _ tw_344) (hts _ tw_345) (hts _ tw_346) (Nat.le_of_ble_eq_true rfl) (Nat.le_of_ble_eq_true rfl) (Nat.le_of_ble_eq_true rfl) (Nat.le_of_ble_eq_true rfl) dJ1_indexOf_4cfef_11 ?_
  refine tp_i 0 (by decide) ?_
  refine lv_istore_n (lv' := [(2, .int 0), (0, .ref (g (1 + 3))), (1, .int 105), (3, .int 3)]) hx hb dJ1_indexOf_4cfef_14 rfl hl (Nat.le_of_ble_eq_true rfl) rfl (fun ls hl => ?_)
  refine lv_iload_n hx hb dJ1_indexOf_4cfef_15 rfl (lv_at hl 3 rfl) ?_
  refine lv_aload_n hx hb dJ1_indexOf_4cfef_16 rfl (lv_at hl 1 rfl) ?_
  refine va_tlen (v := 3) hx hb (hE.2.2.2.2.2.2.2.2.2.2.1 1 (by decide)).2.2.2 hS (by decide) dJ1_indexOf_4cfef_17 ?_
  refine va_mmin hx hb (hml.trans hl.1.symm) hown (hts _ tw_643) (hts _ tw_644) (hts _ tw_345) (hts _ tw_645) (Nat.le_of_ble_eq_true rfl) (Nat.le_of_ble_eq_true rfl) (Nat.le_of_ble_eq_true rfl) (Nat.le_of_ble_eq_true rfl) dJ1_indexOf_4cfef_18 ?_
  refine tp_i 3 (by decide) ?_
  refine lv_istore_n (lv' := [(3, .int 3), (2, .int 0), (0, .ref (g (1 + 3))), (1, .int 105)]) hx hb dJ1_indexOf_4cfef_21 rfl hl (Nat.le_of_ble_eq_true rfl) rfl (fun ls hl => ?_)
  refine lv_iload_n hx hb dJ1_indexOf_4cfef_22 rfl (lv_at hl 1 rfl) ?_
  refine lv_iload_n hx hb dJ1_indexOf_4cfef_23 rfl (lv_at hl 0 rfl) ?_
  refine lv_icmp_lt (tgt := 29) hx hb dJ1_indexOf_4cfef_24 (by decide) (fun _ => ?_) (fun z => absurd (by decide) z)
  refine lv_aload_n hx hb dJ1_indexOf_4cfef_29 rfl (lv_at hl 2 rfl) ?_
  refine lv_iload_n hx hb dJ1_indexOf_4cfef_30 rfl (lv_at hl 3 rfl) ?_
  refine lv_iload_n hx hb dJ1_indexOf_4cfef_31 rfl (lv_at hl 1 rfl) ?_
  refine lv_iload_n hx hb dJ1_indexOf_4cfef_32 rfl (lv_at hl 0 rfl) ?_
  refine ca_i (isC := []) (isR := []) (wr := []) (rn_S (isC := []) (wc := []) (As := [.ref (g (1 + 3)), .int 105, .int 0, .int 3]) (rest := []) (n := 4) hx hb hml hown hts hE hS hP hD hA hl.1 (k428_J1_indexOfChar_4cfef l D cy g  H.size ) rfl rfl ax_190 rfl rfl ax_191 ⟨Nat.le_of_ble_eq_true rfl, Nat.le_of_ble_eq_true rfl⟩ rfl rfl (Nat.le_of_ble_eq_true rfl) dJ1_indexOf_4cfef_33 ⟨(Nat.le_of_ble_eq_true rfl), (Nat.le_of_ble_eq_true rfl)⟩) hP hD hS hA rfl rfl rfl (by decide) (fun ad33 H locs hP hD hS => ?_)
  have hP : va_P D vwCl [] H := hP
  have hD : va_D A [] := hD
  exact en_z hx hb hr hlk hP hD hS rfl (fun _ => 0) (is := []) rfl rfl (Nat.le_of_ble_eq_true rfl) (Nat.le_of_ble_eq_true rfl) dJ1_indexOf_4cfef_36
set_option maxHeartbeats 4000000 in
set_option maxRecDepth 100000 in
theorem k430_J0_indexOf_7cf53 (l : Launch) (D : va_G) (cy : Nat → ClassId) (g : Nat → Nat)  (sz : Nat)  : Met l yJ0_indexOf_7cf53 [.code yJ0_indexOf_7cf53 cJ0_indexOf_7cf53 3 (some .int)] ({ frames := 2, cells := 0, slots := 0, locals := 48 }) (PC D cy g [] sz [.ref (g (1 + 1)), .int 105, .int 0]) (QI D 1 (fun ad => []) (va_A [] sz)) 0 0 (va_A [] sz) := by
  refine st_I (by decide) (Nat.le_of_ble_eq_true rfl) ?_
  intro p e s m args below meth c A ls hx hb hr hml hown hlk hnm hsz hP hD hA hE hts hS hl
  have hown : s.vm.findClass RJ0 = some m.cls := hown
  have hl : lv_has ls 3 [(0, .ref (g (1 + 1))), (1, .int 105), (2, .int 0)] := hl
  refine lv_aload_n hx hb dJ0_indexOf_7cf53_0 rfl (lv_at hl 0 rfl) ?_
  refine ca_i (isC := []) (isR := []) (wr := []) (rn_VS (i := 1) (isC := []) (wc := []) (As := []) (rest := []) (n := 0) hx hb hml hown hts hE hS hP hD hA hl.1 (k393_J0_isLatin1_aae02 l D cy g  s.heap.size ) rfl rfl (by decide) rfl ax_192 rfl rfl ax_193 ⟨Nat.le_of_ble_eq_true rfl, Nat.le_of_ble_eq_true rfl⟩ rfl rfl (Nat.le_of_ble_eq_true rfl) dJ0_indexOf_7cf53_1 ⟨(Nat.le_of_ble_eq_true rfl), (Nat.le_of_ble_eq_true rfl)⟩) hP hD hS hA rfl rfl rfl (by decide) (fun ad1 H locs hP hD hS => ?_)
  have hP : va_P D vwCl [] H := hP
  have hD : va_D A [] := hD
  refine lv_if_eq (tgt := 23) hx hb dJ0_indexOf_7cf53_4 (by decide) (fun z => absurd z (by decide)) (fun _ => ?_)
  refine lv_aload_n hx hb dJ0_indexOf_7cf53_7 rfl (lv_at hl 0 rfl) ?_
  refine vk_getf (v := .ref (g (1 + 3))) hx hb (hE.2.2.2.2.2.2.2.2.2.2.1 1 (by decide)).2.2.1 hS hown (hts _ tw_632) (fun _ h9 => h9) dJ0_indexOf_7cf53_8 ?_
  refine lv_iload_n hx hb dJ0_indexOf_7cf53_11 rfl (lv_at hl 1 rfl) ?_
  refine lv_iload_n hx hb dJ0_indexOf_7cf53_12 rfl (lv_at hl 2 rfl) ?_
  refine lv_aload_n hx hb dJ0_indexOf_7cf53_13 rfl (lv_at hl 0 rfl) ?_
  refine ca_i (isC := []) (isR := []) (wr := []) (rn_VS (i := 1) (isC := []) (wc := []) (As := []) (rest := [.int 0, .int 105, .ref (g (1 + 3))]) (n := 0) hx hb hml hown hts hE hS hP hD hA hl.1 (k395_J0_length_8abf5 l D cy g  H.size ) rfl rfl (by decide) rfl ax_194 rfl rfl ax_195 ⟨Nat.le_of_ble_eq_true rfl, Nat.le_of_ble_eq_true rfl⟩ rfl rfl (Nat.le_of_ble_eq_true rfl) dJ0_indexOf_7cf53_14 ⟨(Nat.le_of_ble_eq_true rfl), (Nat.le_of_ble_eq_true rfl)⟩) hP hD hS hA rfl rfl rfl (by decide) (fun ad14 H locs hP hD hS => ?_)
  have hP : va_P D vwCl [] H := hP
  have hD : va_D A [] := hD
  refine ca_i (isC := []) (isR := []) (wr := []) (rn_S (isC := []) (wc := []) (As := [.ref (g (1 + 3)), .int 105, .int 0, .int 3]) (rest := []) (n := 4) hx hb hml hown hts hE hS hP hD hA hl.1 (k429_J1_indexOf_4cfef l D cy g  H.size ) rfl rfl ax_196 rfl rfl ax_197 ⟨Nat.le_of_ble_eq_true rfl, Nat.le_of_ble_eq_true rfl⟩ rfl rfl (Nat.le_of_ble_eq_true rfl) dJ0_indexOf_7cf53_17 ⟨(Nat.le_of_ble_eq_true rfl), (Nat.le_of_ble_eq_true rfl)⟩) hP hD hS hA rfl rfl rfl (by decide) (fun ad17 H locs hP hD hS => ?_)
  have hP : va_P D vwCl [] H := hP
  have hD : va_D A [] := hD
  refine lv_goto (tgt := 36) hx hb dJ0_indexOf_7cf53_20 (by decide) ?_
  exact en_z hx hb hr hlk hP hD hS rfl (fun _ => 0) (is := []) rfl rfl (Nat.le_of_ble_eq_true rfl) (Nat.le_of_ble_eq_true rfl) dJ0_indexOf_7cf53_36
set_option maxHeartbeats 4000000 in
set_option maxRecDepth 100000 in
theorem k431_J0_indexOf_0f7a4 (l : Launch) (D : va_G) (cy : Nat → ClassId) (g : Nat → Nat)  (sz : Nat)  : Met l yJ0_indexOf_0f7a4 [.code yJ0_indexOf_0f7a4 cJ0_indexOf_0f7a4 2 (some .int)] ({ frames := 3, cells := 0, slots := 0, locals := 70 }) (PC D cy g [] sz [.ref (g (1 + 1)), .int 105]) (QI D 1 (fun ad => []) (va_A [] sz)) 0 0 (va_A [] sz) := by
  refine st_I (by decide) (Nat.le_of_ble_eq_true rfl) ?_
  intro p e s m args below meth c A ls hx hb hr hml hown hlk hnm hsz hP hD hA hE hts hS hl
  have hown : s.vm.findClass RJ0 = some m.cls := hown
  have hl : lv_has ls 2 [(0, .ref (g (1 + 1))), (1, .int 105)] := hl
  refine lv_aload_n hx hb dJ0_indexOf_0f7a4_0 rfl (lv_at hl 0 rfl) ?_
  refine lv_iload_n hx hb dJ0_indexOf_0f7a4_1 rfl (lv_at hl 1 rfl) ?_
  refine lv_iconst (v := 0) hx hb dJ0_indexOf_0f7a4_2 (by decide) ?_
  refine ca_i (isC := []) (isR := []) (wr := []) (rn_VS (i := 1) (isC := []) (wc := []) (As := [.int 105, .int 0]) (rest := []) (n := 2) hx hb hml hown hts hE hS hP hD hA hl.1 (k430_J0_indexOf_7cf53 l D cy g  s.heap.size ) rfl rfl (by decide) rfl ax_198 rfl rfl ax_199 ⟨Nat.le_of_ble_eq_true rfl, Nat.le_of_ble_eq_true rfl⟩ rfl rfl (Nat.le_of_ble_eq_true rfl) dJ0_indexOf_0f7a4_3 ⟨(Nat.le_of_ble_eq_true rfl), (Nat.le_of_ble_eq_true rfl)⟩) hP hD hS hA rfl rfl rfl (by decide) (fun ad3 H locs hP hD hS => ?_)
  have hP : va_P D vwCl [] H := hP
  have hD : va_D A [] := hD
  exact en_z hx hb hr hlk hP hD hS rfl (fun _ => 0) (is := []) rfl rfl (Nat.le_of_ble_eq_true rfl) (Nat.le_of_ble_eq_true rfl) dJ0_indexOf_0f7a4_6
set_option maxHeartbeats 4000000 in
set_option maxRecDepth 100000 in
theorem k432_X10_addStroke (l : Launch) (D : va_G) (cy : Nat → ClassId) (g : Nat → Nat) (x0 : Int32) (x1 : Int32) (a0 : Nat) (v0 : Value) (v1 : Value) (v2 : Value) (v3 : Value) (v4 : Value) (v5 : Value) (v6 : Value) (v7 : Value) (v8 : Value) (v9 : Value) (v10 : Value) (v11 : Value) (v12 : Value) (v13 : Value) (v14 : Value) (v15 : Value) (v16 : Value) (v17 : Value) (v18 : Value) (v19 : Value) (v20 : Value) (v21 : Value) (v22 : Value) (v23 : Value) (v24 : Value) (v25 : Value) (v26 : Value) (v27 : Value) (sz : Nat) (h0 : x0 < 1) : Met l yX10_addStroke [.code yX10_addStroke cX10_addStroke 4 (some .int)] ({ frames := 4, cells := 0, slots := 0, locals := 91 }) (PC D cy g [(a0, .inr (15, [v0, v1, v2, v3, v4, v5, v6, v7, v8, v9, v10, v11, v12, v13, v14, v15, v16, v17, v18, v19, v20, v21, v22, v23, v24, v25, v26, v27]))] sz [.ref a0, .int 105, .int x0, .int x1]) (QI D (-1) (fun ad => [(a0, .inr (15, [.int 1, v1, v2, v3, v4, v5, v6, v7, v8, v9, v10, v11, v12, v13, v14, v15, v16, v17, v18, v19, v20, v21, v22, v23, v24, v25, v26, v27]))]) (va_A [(a0, .inr (15, [v0, v1, v2, v3, v4, v5, v6, v7, v8, v9, v10, v11, v12, v13, v14, v15, v16, v17, v18, v19, v20, v21, v22, v23, v24, v25, v26, v27]))] sz)) 0 0 (va_A [(a0, .inr (15, [v0, v1, v2, v3, v4, v5, v6, v7, v8, v9, v10, v11, v12, v13, v14, v15, v16, v17, v18, v19, v20, v21, v22, v23, v24, v25, v26, v27]))] sz) := by
  refine st_I (by decide) (Nat.le_of_ble_eq_true rfl) ?_
  intro p e s m args below meth c A ls hx hb hr hml hown hlk hnm hsz hP hD hA hE hts hS hl
  have hown : s.vm.findClass RX10 = some m.cls := hown
  have hl : lv_has ls 4 [(0, .ref a0), (1, .int 105), (2, .int x0), (3, .int x1)] := hl
  refine lv_aload_n hx hb dX10_addStroke_0 rfl (lv_at hl 0 rfl) ?_
  refine ca_v (isC := [0]) (isR := []) (wr := []) (rn_V (ci := 15) (q0 := 0) (isC := [0]) (wc := [(a0, .inr (15, [v0, v1, v2, v3, v4, v5, v6, v7, v8, v9, v10, v11, v12, v13, v14, v15, v16, v17, v18, v19, v20, v21, v22, v23, v24, v25, v26, v27]))]) (As := []) (rest := []) (n := 0) hx hb hml hown hts hE hS hP hD hA hl.1 (k20_X10_begins l D cy g a0 (v0) (v1) (v2) (v3) (v4) (v5) (v6) (v7) (v8) (v9) (v10) (v11) (v12) (v13) (v14) (v15) (v16) (v17) (v18) (v19) (v20) (v21) (v22) (v23) (v24) (v25) (v26) (v27) s.heap.size ) rfl rfl rfl rfl rfl ax_37 rfl rfl ax_38 ⟨Nat.le_of_ble_eq_true rfl, Nat.le_of_ble_eq_true rfl⟩ rfl rfl (Nat.le_of_ble_eq_true rfl) dX10_addStroke_1 ⟨(Nat.le_of_ble_eq_true rfl), (Nat.le_of_ble_eq_true rfl)⟩) hP hD hS hA rfl rfl rfl (by decide) (fun ad1 H locs hP hD hS => ?_)
  have hP : va_P D vwCl [(a0, .inr (15, [.int 0, v1, v2, v3, v4, v5, v6, v7, v8, v9, v10, v11, v12, v13, v14, v15, v16, v17, v18, v19, v20, v21, v22, v23, v24, v25, v26, v27]))] H := hP
  have hD : va_D A [(a0, .inr (15, [.int 0, v1, v2, v3, v4, v5, v6, v7, v8, v9, v10, v11, v12, v13, v14, v15, v16, v17, v18, v19, v20, v21, v22, v23, v24, v25, v26, v27]))] := hD
  refine lv_aload_n hx hb dX10_addStroke_4 rfl (lv_at hl 0 rfl) ?_
  refine va_ldcS (tx := "aiv") (q := (g (1 + 1))) hx hb hown hE.2.2.1.2.2 dX10_addStroke_5 ?_
  refine lv_iload_n hx hb dX10_addStroke_7 rfl (lv_at hl 1 rfl) ?_
  refine ca_i (isC := []) (isR := [0]) (wr := [(a0, .inr (15, [.int 0, v1, v2, v3, v4, v5, v6, v7, v8, v9, v10, v11, v12, v13, v14, v15, v16, v17, v18, v19, v20, v21, v22, v23, v24, v25, v26, v27]))]) (rn_VS (i := 1) (isC := []) (wc := []) (As := [.int 105]) (rest := [.ref a0]) (n := 1) hx hb hml hown hts hE hS hP hD hA hl.1 (k431_J0_indexOf_0f7a4 l D cy g  H.size ) rfl rfl (by decide) rfl ax_200 rfl rfl ax_201 ⟨Nat.le_of_ble_eq_true rfl, Nat.le_of_ble_eq_true rfl⟩ rfl rfl (Nat.le_of_ble_eq_true rfl) dX10_addStroke_8 ⟨(Nat.le_of_ble_eq_true rfl), (Nat.le_of_ble_eq_true rfl)⟩) hP hD hS hA rfl rfl rfl (by decide) (fun ad8 H locs hP hD hS => ?_)
  have hP : va_P D vwCl [(a0, .inr (15, [.int 0, v1, v2, v3, v4, v5, v6, v7, v8, v9, v10, v11, v12, v13, v14, v15, v16, v17, v18, v19, v20, v21, v22, v23, v24, v25, v26, v27]))] H := hP
  have hD : va_D A [(a0, .inr (15, [.int 0, v1, v2, v3, v4, v5, v6, v7, v8, v9, v10, v11, v12, v13, v14, v15, v16, v17, v18, v19, v20, v21, v22, v23, v24, v25, v26, v27]))] := hD
  refine lv_if_lt (tgt := 32) hx hb dX10_addStroke_11 (by decide) (fun z => absurd z (by decide)) (fun _ => ?_)
  refine lv_iload_n hx hb dX10_addStroke_14 rfl (lv_at hl 1 rfl) ?_
  refine lv_bipush (v := 118) hx hb dX10_addStroke_15 (by decide) ?_
  refine lv_icmp_eq (tgt := 36) hx hb dX10_addStroke_17 (by decide) (fun z => absurd z (by decide)) (fun _ => ?_)
  refine lv_iload_n hx hb dX10_addStroke_20 rfl (lv_at hl 2 rfl) ?_
  refine lv_i2l (v := x0.toInt64) hx hb dX10_addStroke_21 rfl ?_
  refine lv_lconst (v := 1) hx hb dX10_addStroke_22 (by decide) ?_
  refine lv_ldc2 (v := 100) hx hb hown (hts _ tw_681) dX10_addStroke_23 ?_
  refine ca_i (isC := []) (isR := [0]) (wr := [(a0, .inr (15, [.int 0, v1, v2, v3, v4, v5, v6, v7, v8, v9, v10, v11, v12, v13, v14, v15, v16, v17, v18, v19, v20, v21, v22, v23, v24, v25, v26, v27]))]) (rn_S (isC := []) (wc := []) (As := [.long x0.toInt64, .long 1, .long 100]) (rest := [.ref a0]) (n := 3) hx hb hml hown hts hE hS hP hD hA hl.1 (k21_X10_in l D cy g x0.toInt64 1 100 H.size (wl_lt rfl (by decide) h0)) rfl rfl ax_39 rfl rfl ax_40 ⟨Nat.le_of_ble_eq_true rfl, Nat.le_of_ble_eq_true rfl⟩ rfl rfl (Nat.le_of_ble_eq_true rfl) dX10_addStroke_26 ⟨(Nat.le_of_ble_eq_true rfl), (Nat.le_of_ble_eq_true rfl)⟩) hP hD hS hA rfl rfl rfl (by decide) (fun ad26 H locs hP hD hS => ?_)
  have hP : va_P D vwCl [(a0, .inr (15, [.int 0, v1, v2, v3, v4, v5, v6, v7, v8, v9, v10, v11, v12, v13, v14, v15, v16, v17, v18, v19, v20, v21, v22, v23, v24, v25, v26, v27]))] H := hP
  have hD : va_D A [(a0, .inr (15, [.int 0, v1, v2, v3, v4, v5, v6, v7, v8, v9, v10, v11, v12, v13, v14, v15, v16, v17, v18, v19, v20, v21, v22, v23, v24, v25, v26, v27]))] := hD
  refine lv_if_ne (tgt := 36) hx hb dX10_addStroke_29 (by decide) (fun z => absurd (by decide) z) (fun _ => ?_)
  refine lv_iconst (v := 1) hx hb dX10_addStroke_32 (by decide) ?_
  refine lv_goto (tgt := 37) hx hb dX10_addStroke_33 (by decide) ?_
  refine lv_iconst (v := 1) hx hb dX10_addStroke_37 (by decide) ?_
  refine ca_i (isC := [0]) (isR := []) (wr := []) (rn_V (ci := 15) (q0 := 0) (isC := [0]) (wc := [(a0, .inr (15, [.int 0, v1, v2, v3, v4, v5, v6, v7, v8, v9, v10, v11, v12, v13, v14, v15, v16, v17, v18, v19, v20, v21, v22, v23, v24, v25, v26, v27]))]) (As := [.int 1, .int 1]) (rest := []) (n := 2) hx hb hml hown hts hE hS hP hD hA hl.1 (k22_X10_fails l D cy g a0 (v1) (v2) (v3) (v4) (v5) (v6) (v7) (v8) (v9) (v10) (v11) (v12) (v13) (v14) (v15) (v16) (v17) (v18) (v19) (v20) (v21) (v22) (v23) (v24) (v25) (v26) (v27) H.size ) rfl rfl rfl rfl rfl ax_41 rfl rfl ax_42 ⟨Nat.le_of_ble_eq_true rfl, Nat.le_of_ble_eq_true rfl⟩ rfl rfl (Nat.le_of_ble_eq_true rfl) dX10_addStroke_38 ⟨(Nat.le_of_ble_eq_true rfl), (Nat.le_of_ble_eq_true rfl)⟩) hP hD hS hA rfl rfl rfl (by decide) (fun ad38 H locs hP hD hS => ?_)
  have hP : va_P D vwCl [(a0, .inr (15, [.int 1, v1, v2, v3, v4, v5, v6, v7, v8, v9, v10, v11, v12, v13, v14, v15, v16, v17, v18, v19, v20, v21, v22, v23, v24, v25, v26, v27]))] H := hP
  have hD : va_D A [(a0, .inr (15, [.int 1, v1, v2, v3, v4, v5, v6, v7, v8, v9, v10, v11, v12, v13, v14, v15, v16, v17, v18, v19, v20, v21, v22, v23, v24, v25, v26, v27]))] := hD
  refine lv_if_ne (tgt := 101) hx hb dX10_addStroke_41 (by decide) (fun _ => ?_) (fun z => absurd z (by decide))
  refine lv_iconst (v := (-1)) hx hb dX10_addStroke_101 (by decide) ?_
  exact en_z hx hb hr hlk hP hD hS rfl (fun _ => 0) (is := [0]) rfl rfl (Nat.le_of_ble_eq_true rfl) (Nat.le_of_ble_eq_true rfl) dX10_addStroke_102
set_option maxHeartbeats 4000000 in
set_option maxRecDepth 100000 in
theorem k433_X1_isStroke (l : Launch) (D : va_G) (cy : Nat → ClassId) (g : Nat → Nat) (x0 : Int32) (sz : Nat) (h0 : ¬ x0 < 1) (h1 : (100 : Int32) < x0) : Met l yX1_isStroke [.code yX1_isStroke cX1_isStroke 2 (some .boolean)] ({ frames := 1, cells := 0, slots := 0, locals := 22 }) (PC D cy g [] sz [.int 105, .int x0]) (QI D 0 (fun ad => []) (va_A [] sz)) 0 0 (va_A [] sz) := by
  refine st_I (by decide) (Nat.le_of_ble_eq_true rfl) ?_
  intro p e s m args below meth c A ls hx hb hr hml hown hlk hnm hsz hP hD hA hE hts hS hl
  have hown : s.vm.findClass RX1 = some m.cls := hown
  have hl : lv_has ls 2 [(0, .int 105), (1, .int x0)] := hl
  refine lv_iload_n hx hb dX1_isStroke_0 rfl (lv_at hl 0 rfl) ?_
  refine lv_bipush (v := 118) hx hb dX1_isStroke_1 (by decide) ?_
  refine lv_icmp_eq (tgt := 28) hx hb dX1_isStroke_3 (by decide) (fun z => absurd z (by decide)) (fun _ => ?_)
  refine lv_iload_n hx hb dX1_isStroke_6 rfl (lv_at hl 0 rfl) ?_
  refine lv_bipush (v := 97) hx hb dX1_isStroke_7 (by decide) ?_
  refine lv_icmp_eq (tgt := 18) hx hb dX1_isStroke_9 (by decide) (fun z => absurd z (by decide)) (fun _ => ?_)
  refine lv_iload_n hx hb dX1_isStroke_12 rfl (lv_at hl 0 rfl) ?_
  refine lv_bipush (v := 105) hx hb dX1_isStroke_13 (by decide) ?_
  refine lv_icmp_ne (tgt := 32) hx hb dX1_isStroke_15 (by decide) (fun z => absurd (by decide) z) (fun _ => ?_)
  refine lv_iload_n hx hb dX1_isStroke_18 rfl (lv_at hl 1 rfl) ?_
  refine lv_iconst (v := 1) hx hb dX1_isStroke_19 (by decide) ?_
  refine lv_bipush (v := 100) hx hb dX1_isStroke_20 (by decide) ?_
  refine ca_i (isC := []) (isR := []) (wr := []) (rn_SN (isC := []) (wc := []) (As := [.int x0, .int 1, .int 100]) (rest := []) (n := 3) hx hb hml hown hts hE hS hP hD hA hl.1 (k25_X9_isOutside l D cy g x0 1 100 s.heap.size h0 h1) rfl rfl tw_835 tw_293 tw_294 tw_295 rfl rfl ax_31 ⟨Nat.le_of_ble_eq_true rfl, Nat.le_of_ble_eq_true rfl⟩ rfl rfl (Nat.le_of_ble_eq_true rfl) dX1_isStroke_22 ⟨(Nat.le_of_ble_eq_true rfl), (Nat.le_of_ble_eq_true rfl)⟩) hP hD hS hA rfl rfl rfl (by decide) (fun ad22 H locs hP hD hS => ?_)
  have hP : va_P D vwCl [] H := hP
  have hD : va_D A [] := hD
  refine lv_if_ne (tgt := 32) hx hb dX1_isStroke_25 (by decide) (fun _ => ?_) (fun z => absurd z (by decide))
  refine lv_iconst (v := 0) hx hb dX1_isStroke_32 (by decide) ?_
  exact en_z hx hb hr hlk hP hD hS rfl (fun _ => 0) (is := []) rfl rfl (Nat.le_of_ble_eq_true rfl) (Nat.le_of_ble_eq_true rfl) dX1_isStroke_33
set_option maxHeartbeats 4000000 in
set_option maxRecDepth 100000 in
theorem k434_X9_addStroke (l : Launch) (hst : l.stackTraces = false) (D : va_G) (cy : Nat → ClassId) (g : Nat → Nat) (x0 : Int32) (x1 : Int32) (b0 : Nat) (sz : Nat) (h0 : ¬ x0 < 1) (h1 : (100 : Int32) < x0) : vx_Met l yX9_addStroke [.code yX9_addStroke cX9_addStroke 4 (some .int)] ({ frames := 6, cells := 1, slots := 6, locals := 82 }) (PC D cy g [] sz [.ref b0, .int 105, .int x0, .int x1]) QN (XE "java/lang/IllegalArgumentException" (va_A [] sz)) 1 6 (va_A [] sz) := by
  refine st_X (by decide) (Nat.le_of_ble_eq_true rfl) ?_
  intro p e s m args below meth c A ls hx hb hr hml hown hlk hnm hsz hP hD hA hE hts hS hl hout
  have hown : s.vm.findClass RX9 = some m.cls := hown
  have hl : lv_has ls 4 [(0, .ref b0), (1, .int 105), (2, .int x0), (3, .int x1)] := hl
  refine lv_iload_n hx hb dX9_addStroke_0 rfl (lv_at hl 1 rfl) ?_
  refine lv_iload_n hx hb dX9_addStroke_1 rfl (lv_at hl 2 rfl) ?_
  refine ca_i (isC := []) (isR := []) (wr := []) (rn_S (isC := []) (wc := []) (As := [.int 105, .int x0]) (rest := []) (n := 2) hx hb hml hown hts hE hS hP hD hA hl.1 (k433_X1_isStroke l D cy g x0 s.heap.size h0 h1) rfl rfl ax_277 rfl rfl ax_278 ⟨Nat.le_of_ble_eq_true rfl, Nat.le_of_ble_eq_true rfl⟩ rfl rfl (Nat.le_of_ble_eq_true rfl) dX9_addStroke_2 ⟨(Nat.le_of_ble_eq_true rfl), (Nat.le_of_ble_eq_true rfl)⟩) hP hD hS hA rfl rfl rfl (by decide) (fun ad2 H locs hP hD hS => ?_)
  have hP : va_P D vwCl [] H := hP
  have hD : va_D A [] := hD
  refine lv_if_ne (tgt := 18) hx hb dX9_addStroke_5 (by decide) (fun z => absurd (by decide) z) (fun _ => ?_)
  exact th_S (text := "there is no such stroke") hx hb hst hown hts hE hS (hl.1.trans hml.symm) hout hlk (by decide +kernel) tw_296 tw_297 ax_32 (by decide +kernel) dX9_addStroke_8 dX9_addStroke_11 dX9_addStroke_12 dX9_addStroke_14 dX9_addStroke_17 ⟨Nat.le_of_ble_eq_true rfl, Nat.le_of_ble_eq_true rfl, Nat.le_of_ble_eq_true rfl, Nat.le_of_ble_eq_true rfl⟩ (Nat.le_of_ble_eq_true rfl) (Nat.le_of_ble_eq_true rfl)
set_option maxHeartbeats 4000000 in
set_option maxRecDepth 100000 in
theorem k435_L_addStroke (l : Launch) (hst : l.stackTraces = false) (D : va_G) (cy : Nat → ClassId) (g : Nat → Nat) (x0 : Int32) (x1 : Int32) (a0 : Nat) (b0 : Nat) (v0 : Value) (v1 : Value) (v2 : Value) (v3 : Value) (v4 : Value) (v5 : Value) (v6 : Value) (sz : Nat) (h0 : ¬ x0 < 1) (h1 : (100 : Int32) < x0) : Met l yL_addStroke [.codeWith yL_addStroke cL_addStroke 6 (some .int) [(0, 12, 15, 13), (0, 12, 19, 21), (0, 12, 23, 15)]] ({ frames := 7, cells := 1, slots := 6, locals := 105 }) (PC D cy g [(a0, .inr (14, [v0, v1, v2, v3, v4, v5, v6]))] sz [.ref a0, .int 105, .int x0, .int x1, .ref b0]) (QI D 1 (fun ad => []) (va_A [(a0, .inr (14, [v0, v1, v2, v3, v4, v5, v6]))] sz)) 1 6 (va_A [(a0, .inr (14, [v0, v1, v2, v3, v4, v5, v6]))] sz) := by
  refine sh_I (by decide) (Nat.le_of_ble_eq_true rfl) ?_
  intro p e s m args below meth c A ls hx hb hr hml hown hlk hnm hsz hP hD hA hE hts hS hl htb
  have hown : s.vm.findClass RL = some m.cls := hown
  have hl : lv_has ls 6 [(0, .ref a0), (1, .int 105), (2, .int x0), (3, .int x1), (4, .ref b0)] := hl
  refine lv_aload hx hb dL_addStroke_0 (lv_at hl 4 rfl) ?_
  refine lv_iconst (v := 0) hx hb dL_addStroke_2 (by decide) ?_
  refine lv_aload_n hx hb dL_addStroke_3 rfl (lv_at hl 0 rfl) ?_
  refine lv_iload_n hx hb dL_addStroke_4 rfl (lv_at hl 1 rfl) ?_
  refine lv_iload_n hx hb dL_addStroke_5 rfl (lv_at hl 2 rfl) ?_
  refine lv_iload_n hx hb dL_addStroke_6 rfl (lv_at hl 3 rfl) ?_
  refine cx_catch (isC := []) (isR := [0]) (wr := [(a0, .inr (14, [v0, v1, v2, v3, v4, v5, v6]))]) (hp := []) (z := (0, 12, 15, 13)) (hq := [(0, 12, 19, 21), (0, 12, 23, 15)]) (name := "java/lang/IllegalArgumentException") (own := RL) (rx_V (ci := 14) (q0 := 0) (isC := []) (wc := []) (As := [.int 105, .int x0, .int x1]) (rest := [.int 0, .ref b0]) (n := 3) hx hb hml hown hts hE hS hP hD hA hl.1 (k434_X9_addStroke l hst D cy g x0 x1 a0 s.heap.size h0 h1) rfl rfl rfl rfl rfl ax_281 rfl rfl ax_282 ⟨Nat.le_of_ble_eq_true rfl, Nat.le_of_ble_eq_true rfl⟩ rfl rfl (Nat.le_of_ble_eq_true rfl) dL_addStroke_7 ⟨(Nat.le_of_ble_eq_true rfl), (Nat.le_of_ble_eq_true rfl)⟩) hP hD hS hA hown hts hE htb rfl rfl rfl rfl (by decide) (fun z hz => by cases hz) (by decide) (by decide) tw_302 tw_303 (fun qx H locs hP hD hS => ?_)
  have hP : va_P D vwCl [(a0, .inr (14, [v0, v1, v2, v3, v4, v5, v6]))] H := hP
  have hD : va_D A [(a0, .inr (14, [v0, v1, v2, v3, v4, v5, v6]))] := hD
  refine lv_astore (lv' := [(5, .ref qx), (0, .ref a0), (1, .int 105), (2, .int x0), (3, .int x1), (4, .ref b0)]) hx hb dL_addStroke_15 hl (Nat.le_of_ble_eq_true rfl) rfl (fun ls hl => ?_)
  refine lv_iconst (v := 1) hx hb dL_addStroke_17 (by decide) ?_
  exact en_z hx hb hr hlk hP hD hS rfl (fun _ => 0) (is := []) rfl rfl (Nat.le_of_ble_eq_true rfl) (Nat.le_of_ble_eq_true rfl) dL_addStroke_18
set_option maxHeartbeats 4000000 in
set_option maxRecDepth 100000 in
theorem k436_X10_addStroke (l : Launch) (D : va_G) (cy : Nat → ClassId) (g : Nat → Nat) (x0 : Int32) (x1 : Int32) (a0 : Nat) (v0 : Value) (v1 : Value) (v2 : Value) (v3 : Value) (v4 : Value) (v5 : Value) (v6 : Value) (v7 : Value) (v8 : Value) (v9 : Value) (v10 : Value) (v11 : Value) (v12 : Value) (v13 : Value) (v14 : Value) (v15 : Value) (v16 : Value) (v17 : Value) (v18 : Value) (v19 : Value) (v20 : Value) (v21 : Value) (v22 : Value) (v23 : Value) (v24 : Value) (v25 : Value) (v26 : Value) (v27 : Value) (sz : Nat) (h0 : ¬ x0 < 1) (h1 : (100 : Int32) < x0) : Met l yX10_addStroke [.code yX10_addStroke cX10_addStroke 4 (some .int)] ({ frames := 4, cells := 0, slots := 0, locals := 91 }) (PC D cy g [(a0, .inr (15, [v0, v1, v2, v3, v4, v5, v6, v7, v8, v9, v10, v11, v12, v13, v14, v15, v16, v17, v18, v19, v20, v21, v22, v23, v24, v25, v26, v27]))] sz [.ref a0, .int 105, .int x0, .int x1]) (QI D (-1) (fun ad => [(a0, .inr (15, [.int 1, v1, v2, v3, v4, v5, v6, v7, v8, v9, v10, v11, v12, v13, v14, v15, v16, v17, v18, v19, v20, v21, v22, v23, v24, v25, v26, v27]))]) (va_A [(a0, .inr (15, [v0, v1, v2, v3, v4, v5, v6, v7, v8, v9, v10, v11, v12, v13, v14, v15, v16, v17, v18, v19, v20, v21, v22, v23, v24, v25, v26, v27]))] sz)) 0 0 (va_A [(a0, .inr (15, [v0, v1, v2, v3, v4, v5, v6, v7, v8, v9, v10, v11, v12, v13, v14, v15, v16, v17, v18, v19, v20, v21, v22, v23, v24, v25, v26, v27]))] sz) := by
  refine st_I (by decide) (Nat.le_of_ble_eq_true rfl) ?_
  intro p e s m args below meth c A ls hx hb hr hml hown hlk hnm hsz hP hD hA hE hts hS hl
  have hown : s.vm.findClass RX10 = some m.cls := hown
  have hl : lv_has ls 4 [(0, .ref a0), (1, .int 105), (2, .int x0), (3, .int x1)] := hl
  refine lv_aload_n hx hb dX10_addStroke_0 rfl (lv_at hl 0 rfl) ?_
  refine ca_v (isC := [0]) (isR := []) (wr := []) (rn_V (ci := 15) (q0 := 0) (isC := [0]) (wc := [(a0, .inr (15, [v0, v1, v2, v3, v4, v5, v6, v7, v8, v9, v10, v11, v12, v13, v14, v15, v16, v17, v18, v19, v20, v21, v22, v23, v24, v25, v26, v27]))]) (As := []) (rest := []) (n := 0) hx hb hml hown hts hE hS hP hD hA hl.1 (k20_X10_begins l D cy g a0 (v0) (v1) (v2) (v3) (v4) (v5) (v6) (v7) (v8) (v9) (v10) (v11) (v12) (v13) (v14) (v15) (v16) (v17) (v18) (v19) (v20) (v21) (v22) (v23) (v24) (v25) (v26) (v27) s.heap.size ) rfl rfl rfl rfl rfl ax_37 rfl rfl ax_38 ⟨Nat.le_of_ble_eq_true rfl, Nat.le_of_ble_eq_true rfl⟩ rfl rfl (Nat.le_of_ble_eq_true rfl) dX10_addStroke_1 ⟨(Nat.le_of_ble_eq_true rfl), (Nat.le_of_ble_eq_true rfl)⟩) hP hD hS hA rfl rfl rfl (by decide) (fun ad1 H locs hP hD hS => ?_)
  have hP : va_P D vwCl [(a0, .inr (15, [.int 0, v1, v2, v3, v4, v5, v6, v7, v8, v9, v10, v11, v12, v13, v14, v15, v16, v17, v18, v19, v20, v21, v22, v23, v24, v25, v26, v27]))] H := hP
  have hD : va_D A [(a0, .inr (15, [.int 0, v1, v2, v3, v4, v5, v6, v7, v8, v9, v10, v11, v12, v13, v14, v15, v16, v17, v18, v19, v20, v21, v22, v23, v24, v25, v26, v27]))] := hD
  refine lv_aload_n hx hb dX10_addStroke_4 rfl (lv_at hl 0 rfl) ?_
  refine va_ldcS (tx := "aiv") (q := (g (1 + 1))) hx hb hown hE.2.2.1.2.2 dX10_addStroke_5 ?_
  refine lv_iload_n hx hb dX10_addStroke_7 rfl (lv_at hl 1 rfl) ?_
  refine ca_i (isC := []) (isR := [0]) (wr := [(a0, .inr (15, [.int 0, v1, v2, v3, v4, v5, v6, v7, v8, v9, v10, v11, v12, v13, v14, v15, v16, v17, v18, v19, v20, v21, v22, v23, v24, v25, v26, v27]))]) (rn_VS (i := 1) (isC := []) (wc := []) (As := [.int 105]) (rest := [.ref a0]) (n := 1) hx hb hml hown hts hE hS hP hD hA hl.1 (k431_J0_indexOf_0f7a4 l D cy g  H.size ) rfl rfl (by decide) rfl ax_200 rfl rfl ax_201 ⟨Nat.le_of_ble_eq_true rfl, Nat.le_of_ble_eq_true rfl⟩ rfl rfl (Nat.le_of_ble_eq_true rfl) dX10_addStroke_8 ⟨(Nat.le_of_ble_eq_true rfl), (Nat.le_of_ble_eq_true rfl)⟩) hP hD hS hA rfl rfl rfl (by decide) (fun ad8 H locs hP hD hS => ?_)
  have hP : va_P D vwCl [(a0, .inr (15, [.int 0, v1, v2, v3, v4, v5, v6, v7, v8, v9, v10, v11, v12, v13, v14, v15, v16, v17, v18, v19, v20, v21, v22, v23, v24, v25, v26, v27]))] H := hP
  have hD : va_D A [(a0, .inr (15, [.int 0, v1, v2, v3, v4, v5, v6, v7, v8, v9, v10, v11, v12, v13, v14, v15, v16, v17, v18, v19, v20, v21, v22, v23, v24, v25, v26, v27]))] := hD
  refine lv_if_lt (tgt := 32) hx hb dX10_addStroke_11 (by decide) (fun z => absurd z (by decide)) (fun _ => ?_)
  refine lv_iload_n hx hb dX10_addStroke_14 rfl (lv_at hl 1 rfl) ?_
  refine lv_bipush (v := 118) hx hb dX10_addStroke_15 (by decide) ?_
  refine lv_icmp_eq (tgt := 36) hx hb dX10_addStroke_17 (by decide) (fun z => absurd z (by decide)) (fun _ => ?_)
  refine lv_iload_n hx hb dX10_addStroke_20 rfl (lv_at hl 2 rfl) ?_
  refine lv_i2l (v := x0.toInt64) hx hb dX10_addStroke_21 rfl ?_
  refine lv_lconst (v := 1) hx hb dX10_addStroke_22 (by decide) ?_
  refine lv_ldc2 (v := 100) hx hb hown (hts _ tw_681) dX10_addStroke_23 ?_
  refine ca_i (isC := []) (isR := [0]) (wr := [(a0, .inr (15, [.int 0, v1, v2, v3, v4, v5, v6, v7, v8, v9, v10, v11, v12, v13, v14, v15, v16, v17, v18, v19, v20, v21, v22, v23, v24, v25, v26, v27]))]) (rn_S (isC := []) (wc := []) (As := [.long x0.toInt64, .long 1, .long 100]) (rest := [.ref a0]) (n := 3) hx hb hml hown hts hE hS hP hD hA hl.1 (k28_X10_in l D cy g x0.toInt64 1 100 H.size (wl_nlt rfl (by decide) h0) (wl_lt (by decide) rfl h1)) rfl rfl ax_39 rfl rfl ax_40 ⟨Nat.le_of_ble_eq_true rfl, Nat.le_of_ble_eq_true rfl⟩ rfl rfl (Nat.le_of_ble_eq_true rfl) dX10_addStroke_26 ⟨(Nat.le_of_ble_eq_true rfl), (Nat.le_of_ble_eq_true rfl)⟩) hP hD hS hA rfl rfl rfl (by decide) (fun ad26 H locs hP hD hS => ?_)
  have hP : va_P D vwCl [(a0, .inr (15, [.int 0, v1, v2, v3, v4, v5, v6, v7, v8, v9, v10, v11, v12, v13, v14, v15, v16, v17, v18, v19, v20, v21, v22, v23, v24, v25, v26, v27]))] H := hP
  have hD : va_D A [(a0, .inr (15, [.int 0, v1, v2, v3, v4, v5, v6, v7, v8, v9, v10, v11, v12, v13, v14, v15, v16, v17, v18, v19, v20, v21, v22, v23, v24, v25, v26, v27]))] := hD
  refine lv_if_ne (tgt := 36) hx hb dX10_addStroke_29 (by decide) (fun z => absurd (by decide) z) (fun _ => ?_)
  refine lv_iconst (v := 1) hx hb dX10_addStroke_32 (by decide) ?_
  refine lv_goto (tgt := 37) hx hb dX10_addStroke_33 (by decide) ?_
  refine lv_iconst (v := 1) hx hb dX10_addStroke_37 (by decide) ?_
  refine ca_i (isC := [0]) (isR := []) (wr := []) (rn_V (ci := 15) (q0 := 0) (isC := [0]) (wc := [(a0, .inr (15, [.int 0, v1, v2, v3, v4, v5, v6, v7, v8, v9, v10, v11, v12, v13, v14, v15, v16, v17, v18, v19, v20, v21, v22, v23, v24, v25, v26, v27]))]) (As := [.int 1, .int 1]) (rest := []) (n := 2) hx hb hml hown hts hE hS hP hD hA hl.1 (k22_X10_fails l D cy g a0 (v1) (v2) (v3) (v4) (v5) (v6) (v7) (v8) (v9) (v10) (v11) (v12) (v13) (v14) (v15) (v16) (v17) (v18) (v19) (v20) (v21) (v22) (v23) (v24) (v25) (v26) (v27) H.size ) rfl rfl rfl rfl rfl ax_41 rfl rfl ax_42 ⟨Nat.le_of_ble_eq_true rfl, Nat.le_of_ble_eq_true rfl⟩ rfl rfl (Nat.le_of_ble_eq_true rfl) dX10_addStroke_38 ⟨(Nat.le_of_ble_eq_true rfl), (Nat.le_of_ble_eq_true rfl)⟩) hP hD hS hA rfl rfl rfl (by decide) (fun ad38 H locs hP hD hS => ?_)
  have hP : va_P D vwCl [(a0, .inr (15, [.int 1, v1, v2, v3, v4, v5, v6, v7, v8, v9, v10, v11, v12, v13, v14, v15, v16, v17, v18, v19, v20, v21, v22, v23, v24, v25, v26, v27]))] H := hP
  have hD : va_D A [(a0, .inr (15, [.int 1, v1, v2, v3, v4, v5, v6, v7, v8, v9, v10, v11, v12, v13, v14, v15, v16, v17, v18, v19, v20, v21, v22, v23, v24, v25, v26, v27]))] := hD
  refine lv_if_ne (tgt := 101) hx hb dX10_addStroke_41 (by decide) (fun _ => ?_) (fun z => absurd z (by decide))
  refine lv_iconst (v := (-1)) hx hb dX10_addStroke_101 (by decide) ?_
  exact en_z hx hb hr hlk hP hD hS rfl (fun _ => 0) (is := [0]) rfl rfl (Nat.le_of_ble_eq_true rfl) (Nat.le_of_ble_eq_true rfl) dX10_addStroke_102
set_option maxHeartbeats 4000000 in
set_option maxRecDepth 100000 in
theorem k437_X1_isStroke (l : Launch) (D : va_G) (cy : Nat → ClassId) (g : Nat → Nat) (x0 : Int32) (sz : Nat) (h0 : ¬ x0 < 1) (h1 : ¬ (100 : Int32) < x0) : Met l yX1_isStroke [.code yX1_isStroke cX1_isStroke 2 (some .boolean)] ({ frames := 1, cells := 0, slots := 0, locals := 22 }) (PC D cy g [] sz [.int 105, .int x0]) (QI D 1 (fun ad => []) (va_A [] sz)) 0 0 (va_A [] sz) := by
  refine st_I (by decide) (Nat.le_of_ble_eq_true rfl) ?_
  intro p e s m args below meth c A ls hx hb hr hml hown hlk hnm hsz hP hD hA hE hts hS hl
  have hown : s.vm.findClass RX1 = some m.cls := hown
  have hl : lv_has ls 2 [(0, .int 105), (1, .int x0)] := hl
  refine lv_iload_n hx hb dX1_isStroke_0 rfl (lv_at hl 0 rfl) ?_
  refine lv_bipush (v := 118) hx hb dX1_isStroke_1 (by decide) ?_
  refine lv_icmp_eq (tgt := 28) hx hb dX1_isStroke_3 (by decide) (fun z => absurd z (by decide)) (fun _ => ?_)
  refine lv_iload_n hx hb dX1_isStroke_6 rfl (lv_at hl 0 rfl) ?_
  refine lv_bipush (v := 97) hx hb dX1_isStroke_7 (by decide) ?_
  refine lv_icmp_eq (tgt := 18) hx hb dX1_isStroke_9 (by decide) (fun z => absurd z (by decide)) (fun _ => ?_)
  refine lv_iload_n hx hb dX1_isStroke_12 rfl (lv_at hl 0 rfl) ?_
  refine lv_bipush (v := 105) hx hb dX1_isStroke_13 (by decide) ?_
  refine lv_icmp_ne (tgt := 32) hx hb dX1_isStroke_15 (by decide) (fun z => absurd (by decide) z) (fun _ => ?_)
  refine lv_iload_n hx hb dX1_isStroke_18 rfl (lv_at hl 1 rfl) ?_
  refine lv_iconst (v := 1) hx hb dX1_isStroke_19 (by decide) ?_
  refine lv_bipush (v := 100) hx hb dX1_isStroke_20 (by decide) ?_
  refine ca_i (isC := []) (isR := []) (wr := []) (rn_SN (isC := []) (wc := []) (As := [.int x0, .int 1, .int 100]) (rest := []) (n := 3) hx hb hml hown hts hE hS hP hD hA hl.1 (k30_X9_isOutside l D cy g x0 1 100 s.heap.size h0 h1) rfl rfl tw_835 tw_293 tw_294 tw_295 rfl rfl ax_31 ⟨Nat.le_of_ble_eq_true rfl, Nat.le_of_ble_eq_true rfl⟩ rfl rfl (Nat.le_of_ble_eq_true rfl) dX1_isStroke_22 ⟨(Nat.le_of_ble_eq_true rfl), (Nat.le_of_ble_eq_true rfl)⟩) hP hD hS hA rfl rfl rfl (by decide) (fun ad22 H locs hP hD hS => ?_)
  have hP : va_P D vwCl [] H := hP
  have hD : va_D A [] := hD
  refine lv_if_ne (tgt := 32) hx hb dX1_isStroke_25 (by decide) (fun z => absurd (by decide) z) (fun _ => ?_)
  refine lv_iconst (v := 1) hx hb dX1_isStroke_28 (by decide) ?_
  refine lv_goto (tgt := 33) hx hb dX1_isStroke_29 (by decide) ?_
  exact en_z hx hb hr hlk hP hD hS rfl (fun _ => 0) (is := []) rfl rfl (Nat.le_of_ble_eq_true rfl) (Nat.le_of_ble_eq_true rfl) dX1_isStroke_33
set_option maxHeartbeats 4000000 in
set_option maxRecDepth 100000 in
theorem k438_X1_needsBody (l : Launch) (D : va_G) (cy : Nat → ClassId) (g : Nat → Nat)  (sz : Nat)  : Met l yX1_needsBody [.code yX1_needsBody cX1_needsBody 1 (some .boolean)] ({ frames := 0, cells := 0, slots := 0, locals := 0 }) (PC D cy g [] sz [.int 105]) (QI D 1 (fun ad => []) (va_A [] sz)) 0 0 (va_A [] sz) := by
  refine st_I (by decide) (Nat.le_of_ble_eq_true rfl) ?_
  intro p e s m args below meth c A ls hx hb hr hml hown hlk hnm hsz hP hD hA hE hts hS hl
  have hown : s.vm.findClass RX1 = some m.cls := hown
  have hl : lv_has ls 1 [(0, .int 105)] := hl
  refine lv_iload_n hx hb dX1_needsBody_0 rfl (lv_at hl 0 rfl) ?_
  refine lv_bipush (v := 97) hx hb dX1_needsBody_1 (by decide) ?_
  refine lv_icmp_eq (tgt := 10) hx hb dX1_needsBody_3 (by decide) (fun z => absurd z (by decide)) (fun _ => ?_)
  refine lv_iconst (v := 1) hx hb dX1_needsBody_6 (by decide) ?_
  refine lv_goto (tgt := 11) hx hb dX1_needsBody_7 (by decide) ?_
  exact en_z hx hb hr hlk hP hD hS rfl (fun _ => 0) (is := []) rfl rfl (Nat.le_of_ble_eq_true rfl) (Nat.le_of_ble_eq_true rfl) dX1_needsBody_11
set_option maxHeartbeats 4000000 in
set_option maxRecDepth 100000 in
theorem k439_X9_addStroke (l : Launch) (hst : l.stackTraces = false) (D : va_G) (cy : Nat → ClassId) (g : Nat → Nat) (x0 : Int32) (x1 : Int32) (a0 : Nat) (a1 : Nat) (v0 : Value) (v1 : Value) (v2 : Value) (v3 : Value) (v4 : Value) (v5 : Value) (v6 : Value) (v7 : Value) (v8 : Value) (v9 : Value) (v10 : Value) (v11 : Value) (v12 : Value) (v13 : Value) (sz : Nat) (h0 : ¬ x0 < 1) (h1 : ¬ (100 : Int32) < x0) (h2 : x1 < 0) : vx_Met l yX9_addStroke [.code yX9_addStroke cX9_addStroke 4 (some .int)] ({ frames := 7, cells := 1, slots := 6, locals := 103 }) (PC D cy g [(a0, .inr (14, [.ref a1, v0, v1, v2, v3, v4, v5])), (a1, .inr (5, [v6, v7, v8, v9, v10, v11, v12, v13]))] sz [.ref a0, .int 105, .int x0, .int x1]) QN (XE "java/lang/IndexOutOfBoundsException" (va_A [(a0, .inr (14, [.ref a1, v0, v1, v2, v3, v4, v5])), (a1, .inr (5, [v6, v7, v8, v9, v10, v11, v12, v13]))] sz)) 1 6 (va_A [(a0, .inr (14, [.ref a1, v0, v1, v2, v3, v4, v5])), (a1, .inr (5, [v6, v7, v8, v9, v10, v11, v12, v13]))] sz) := by
  refine st_X (by decide) (Nat.le_of_ble_eq_true rfl) ?_
  intro p e s m args below meth c A ls hx hb hr hml hown hlk hnm hsz hP hD hA hE hts hS hl hout
  have hown : s.vm.findClass RX9 = some m.cls := hown
  have hl : lv_has ls 4 [(0, .ref a0), (1, .int 105), (2, .int x0), (3, .int x1)] := hl
  refine lv_iload_n hx hb dX9_addStroke_0 rfl (lv_at hl 1 rfl) ?_
  refine lv_iload_n hx hb dX9_addStroke_1 rfl (lv_at hl 2 rfl) ?_
  refine ca_i (isC := []) (isR := [0, 1]) (wr := [(a0, .inr (14, [.ref a1, v0, v1, v2, v3, v4, v5])), (a1, .inr (5, [v6, v7, v8, v9, v10, v11, v12, v13]))]) (rn_S (isC := []) (wc := []) (As := [.int 105, .int x0]) (rest := []) (n := 2) hx hb hml hown hts hE hS hP hD hA hl.1 (k437_X1_isStroke l D cy g x0 s.heap.size h0 h1) rfl rfl ax_277 rfl rfl ax_278 ⟨Nat.le_of_ble_eq_true rfl, Nat.le_of_ble_eq_true rfl⟩ rfl rfl (Nat.le_of_ble_eq_true rfl) dX9_addStroke_2 ⟨(Nat.le_of_ble_eq_true rfl), (Nat.le_of_ble_eq_true rfl)⟩) hP hD hS hA rfl rfl rfl (by decide) (fun ad2 H locs hP hD hS => ?_)
  have hP : va_P D vwCl [(a0, .inr (14, [.ref a1, v0, v1, v2, v3, v4, v5])), (a1, .inr (5, [v6, v7, v8, v9, v10, v11, v12, v13]))] H := hP
  have hD : va_D A [(a0, .inr (14, [.ref a1, v0, v1, v2, v3, v4, v5])), (a1, .inr (5, [v6, v7, v8, v9, v10, v11, v12, v13]))] := hD
  refine lv_if_ne (tgt := 18) hx hb dX9_addStroke_5 (by decide) (fun _ => ?_) (fun z => absurd z (by decide))
  refine lv_iload_n hx hb dX9_addStroke_18 rfl (lv_at hl 1 rfl) ?_
  refine ca_i (isC := []) (isR := [0, 1]) (wr := [(a0, .inr (14, [.ref a1, v0, v1, v2, v3, v4, v5])), (a1, .inr (5, [v6, v7, v8, v9, v10, v11, v12, v13]))]) (rn_S (isC := []) (wc := []) (As := [.int 105]) (rest := []) (n := 1) hx hb hml hown hts hE hS hP hD hA hl.1 (k438_X1_needsBody l D cy g  H.size ) rfl rfl ax_279 rfl rfl ax_280 ⟨Nat.le_of_ble_eq_true rfl, Nat.le_of_ble_eq_true rfl⟩ rfl rfl (Nat.le_of_ble_eq_true rfl) dX9_addStroke_19 ⟨(Nat.le_of_ble_eq_true rfl), (Nat.le_of_ble_eq_true rfl)⟩) hP hD hS hA rfl rfl rfl (by decide) (fun ad19 H locs hP hD hS => ?_)
  have hP : va_P D vwCl [(a0, .inr (14, [.ref a1, v0, v1, v2, v3, v4, v5])), (a1, .inr (5, [v6, v7, v8, v9, v10, v11, v12, v13]))] H := hP
  have hD : va_D A [(a0, .inr (14, [.ref a1, v0, v1, v2, v3, v4, v5])), (a1, .inr (5, [v6, v7, v8, v9, v10, v11, v12, v13]))] := hD
  refine lv_if_eq (tgt := 30) hx hb dX9_addStroke_22 (by decide) (fun z => absurd z (by decide)) (fun _ => ?_)
  refine lv_aload_n hx hb dX9_addStroke_25 rfl (lv_at hl 0 rfl) ?_
  refine lv_iload_n hx hb dX9_addStroke_26 rfl (lv_at hl 3 rfl) ?_
  exact cx_out (isC := [0, 1]) (rx_V (ci := 14) (q0 := 0) (isC := [0, 1]) (wc := [(a0, .inr (14, [.ref a1, v0, v1, v2, v3, v4, v5])), (a1, .inr (5, [v6, v7, v8, v9, v10, v11, v12, v13]))]) (As := [.int x1]) (rest := []) (n := 1) hx hb hml hown hts hE hS hP hD hA hl.1 (k67_X9_requireBody l hst D cy g x1 a0 a1 (v0) (v1) (v2) (v3) (v4) (v5) (v6) (v7) (v8) (v9) (v10) (v11) (v12) (v13) H.size h2) rfl rfl rfl rfl rfl ax_68 rfl rfl ax_69 ⟨Nat.le_of_ble_eq_true rfl, Nat.le_of_ble_eq_true rfl⟩ rfl rfl (Nat.le_of_ble_eq_true rfl) dX9_addStroke_27 ⟨(Nat.le_of_ble_eq_true rfl), (Nat.le_of_ble_eq_true rfl)⟩) hD hS hA rfl hout hlk (Nat.le_of_ble_eq_true rfl) (Nat.le_of_ble_eq_true rfl)
set_option maxHeartbeats 4000000 in
set_option maxRecDepth 100000 in
theorem k440_L_addStroke (l : Launch) (hst : l.stackTraces = false) (D : va_G) (cy : Nat → ClassId) (g : Nat → Nat) (x0 : Int32) (x1 : Int32) (a0 : Nat) (a1 : Nat) (b0 : Nat) (v0 : Value) (v1 : Value) (v2 : Value) (v3 : Value) (v4 : Value) (v5 : Value) (v6 : Value) (v7 : Value) (v8 : Value) (v9 : Value) (v10 : Value) (v11 : Value) (v12 : Value) (v13 : Value) (sz : Nat) (h0 : ¬ x0 < 1) (h1 : ¬ (100 : Int32) < x0) (h2 : x1 < 0) : Met l yL_addStroke [.codeWith yL_addStroke cL_addStroke 6 (some .int) [(0, 12, 15, 13), (0, 12, 19, 21), (0, 12, 23, 15)]] ({ frames := 8, cells := 1, slots := 6, locals := 126 }) (PC D cy g [(a0, .inr (14, [.ref a1, v0, v1, v2, v3, v4, v5])), (a1, .inr (5, [v6, v7, v8, v9, v10, v11, v12, v13]))] sz [.ref a0, .int 105, .int x0, .int x1, .ref b0]) (QI D 2 (fun ad => []) (va_A [(a0, .inr (14, [.ref a1, v0, v1, v2, v3, v4, v5])), (a1, .inr (5, [v6, v7, v8, v9, v10, v11, v12, v13]))] sz)) 1 6 (va_A [(a0, .inr (14, [.ref a1, v0, v1, v2, v3, v4, v5])), (a1, .inr (5, [v6, v7, v8, v9, v10, v11, v12, v13]))] sz) := by
  refine sh_I (by decide) (Nat.le_of_ble_eq_true rfl) ?_
  intro p e s m args below meth c A ls hx hb hr hml hown hlk hnm hsz hP hD hA hE hts hS hl htb
  have hown : s.vm.findClass RL = some m.cls := hown
  have hl : lv_has ls 6 [(0, .ref a0), (1, .int 105), (2, .int x0), (3, .int x1), (4, .ref b0)] := hl
  refine lv_aload hx hb dL_addStroke_0 (lv_at hl 4 rfl) ?_
  refine lv_iconst (v := 0) hx hb dL_addStroke_2 (by decide) ?_
  refine lv_aload_n hx hb dL_addStroke_3 rfl (lv_at hl 0 rfl) ?_
  refine lv_iload_n hx hb dL_addStroke_4 rfl (lv_at hl 1 rfl) ?_
  refine lv_iload_n hx hb dL_addStroke_5 rfl (lv_at hl 2 rfl) ?_
  refine lv_iload_n hx hb dL_addStroke_6 rfl (lv_at hl 3 rfl) ?_
  refine cx_catch (isC := [0, 1]) (isR := []) (wr := []) (hp := [(0, 12, 15, 13)]) (z := (0, 12, 19, 21)) (hq := [(0, 12, 23, 15)]) (name := "java/lang/IndexOutOfBoundsException") (own := RL) (rx_V (ci := 14) (q0 := 0) (isC := [0, 1]) (wc := [(a0, .inr (14, [.ref a1, v0, v1, v2, v3, v4, v5])), (a1, .inr (5, [v6, v7, v8, v9, v10, v11, v12, v13]))]) (As := [.int 105, .int x0, .int x1]) (rest := [.int 0, .ref b0]) (n := 3) hx hb hml hown hts hE hS hP hD hA hl.1 (k439_X9_addStroke l hst D cy g x0 x1 a0 a1 (v0) (v1) (v2) (v3) (v4) (v5) (v6) (v7) (v8) (v9) (v10) (v11) (v12) (v13) s.heap.size h0 h1 h2) rfl rfl rfl rfl rfl ax_281 rfl rfl ax_282 ⟨Nat.le_of_ble_eq_true rfl, Nat.le_of_ble_eq_true rfl⟩ rfl rfl (Nat.le_of_ble_eq_true rfl) dL_addStroke_7 ⟨(Nat.le_of_ble_eq_true rfl), (Nat.le_of_ble_eq_true rfl)⟩) hP hD hS hA hown hts hE htb rfl rfl rfl rfl (by decide) (fun z hz => by rcases List.mem_singleton.mp hz with rfl; exact ⟨by decide, "java/lang/IllegalArgumentException", tw_302, by decide +kernel⟩) (by decide) (by decide) tw_398 tw_399 (fun qx H locs hP hD hS => ?_)
  have hP : va_P D vwCl [] H := hP
  have hD : va_D A [] := hD
  refine lv_astore (lv' := [(5, .ref qx), (0, .ref a0), (1, .int 105), (2, .int x0), (3, .int x1), (4, .ref b0)]) hx hb dL_addStroke_19 hl (Nat.le_of_ble_eq_true rfl) rfl (fun ls hl => ?_)
  refine lv_iconst (v := 2) hx hb dL_addStroke_21 (by decide) ?_
  exact en_z hx hb hr hlk hP hD hS rfl (fun _ => 0) (is := []) rfl rfl (Nat.le_of_ble_eq_true rfl) (Nat.le_of_ble_eq_true rfl) dL_addStroke_22
set_option maxHeartbeats 4000000 in
set_option maxRecDepth 100000 in
theorem k441_X10_addStroke (l : Launch) (D : va_G) (cy : Nat → ClassId) (g : Nat → Nat) (x0 : Int32) (x1 : Int32) (a0 : Nat) (a1 : Nat) (v0 : Value) (v1 : Value) (v2 : Value) (v3 : Value) (v4 : Value) (v5 : Value) (v6 : Value) (v7 : Value) (v8 : Value) (v9 : Value) (v10 : Value) (v11 : Value) (v12 : Value) (v13 : Value) (v14 : Value) (v15 : Value) (v16 : Value) (v17 : Value) (v18 : Value) (v19 : Value) (v20 : Value) (v21 : Value) (v22 : Value) (v23 : Value) (v24 : Value) (v25 : Value) (v26 : Value) (v27 : Value) (v28 : Value) (sz : Nat) (h0 : ¬ x0 < 1) (h1 : ¬ (100 : Int32) < x0) (h2 : x1 < 0) : Met l yX10_addStroke [.code yX10_addStroke cX10_addStroke 4 (some .int)] ({ frames := 4, cells := 0, slots := 0, locals := 91 }) (PC D cy g [(a0, .inr (15, [v0, .ref a1, v1, v2, v3, v4, v5, v6, v7, v8, v9, v10, v11, v12, v13, v14, v15, v16, v17, v18, v19, v20, v21, v22, v23, v24, v25, v26])), (a1, .inr (4, [v27, v28, .int 0]))] sz [.ref a0, .int 105, .int x0, .int x1]) (QI D (-1) (fun ad => [(a0, .inr (15, [.int 2, .ref a1, v1, v2, v3, v4, v5, v6, v7, v8, v9, v10, v11, v12, v13, v14, v15, v16, v17, v18, v19, v20, v21, v22, v23, v24, v25, v26]))]) (va_A [(a0, .inr (15, [v0, .ref a1, v1, v2, v3, v4, v5, v6, v7, v8, v9, v10, v11, v12, v13, v14, v15, v16, v17, v18, v19, v20, v21, v22, v23, v24, v25, v26])), (a1, .inr (4, [v27, v28, .int 0]))] sz)) 0 0 (va_A [(a0, .inr (15, [v0, .ref a1, v1, v2, v3, v4, v5, v6, v7, v8, v9, v10, v11, v12, v13, v14, v15, v16, v17, v18, v19, v20, v21, v22, v23, v24, v25, v26])), (a1, .inr (4, [v27, v28, .int 0]))] sz) := by
  refine st_I (by decide) (Nat.le_of_ble_eq_true rfl) ?_
  intro p e s m args below meth c A ls hx hb hr hml hown hlk hnm hsz hP hD hA hE hts hS hl
  have hown : s.vm.findClass RX10 = some m.cls := hown
  have hl : lv_has ls 4 [(0, .ref a0), (1, .int 105), (2, .int x0), (3, .int x1)] := hl
  refine lv_aload_n hx hb dX10_addStroke_0 rfl (lv_at hl 0 rfl) ?_
  refine ca_v (isC := [0]) (isR := [1]) (wr := [(a1, .inr (4, [v27, v28, .int 0]))]) (rn_V (ci := 15) (q0 := 0) (isC := [0]) (wc := [(a0, .inr (15, [v0, .ref a1, v1, v2, v3, v4, v5, v6, v7, v8, v9, v10, v11, v12, v13, v14, v15, v16, v17, v18, v19, v20, v21, v22, v23, v24, v25, v26]))]) (As := []) (rest := []) (n := 0) hx hb hml hown hts hE hS hP hD hA hl.1 (k20_X10_begins l D cy g a0 (v0) (.ref a1) (v1) (v2) (v3) (v4) (v5) (v6) (v7) (v8) (v9) (v10) (v11) (v12) (v13) (v14) (v15) (v16) (v17) (v18) (v19) (v20) (v21) (v22) (v23) (v24) (v25) (v26) s.heap.size ) rfl rfl rfl rfl rfl ax_37 rfl rfl ax_38 ⟨Nat.le_of_ble_eq_true rfl, Nat.le_of_ble_eq_true rfl⟩ rfl rfl (Nat.le_of_ble_eq_true rfl) dX10_addStroke_1 ⟨(Nat.le_of_ble_eq_true rfl), (Nat.le_of_ble_eq_true rfl)⟩) hP hD hS hA rfl rfl rfl (by decide) (fun ad1 H locs hP hD hS => ?_)
  have hP : va_P D vwCl [(a1, .inr (4, [v27, v28, .int 0])), (a0, .inr (15, [.int 0, .ref a1, v1, v2, v3, v4, v5, v6, v7, v8, v9, v10, v11, v12, v13, v14, v15, v16, v17, v18, v19, v20, v21, v22, v23, v24, v25, v26]))] H := hP
  have hD : va_D A [(a1, .inr (4, [v27, v28, .int 0])), (a0, .inr (15, [.int 0, .ref a1, v1, v2, v3, v4, v5, v6, v7, v8, v9, v10, v11, v12, v13, v14, v15, v16, v17, v18, v19, v20, v21, v22, v23, v24, v25, v26]))] := hD
  refine lv_aload_n hx hb dX10_addStroke_4 rfl (lv_at hl 0 rfl) ?_
  refine va_ldcS (tx := "aiv") (q := (g (1 + 1))) hx hb hown hE.2.2.1.2.2 dX10_addStroke_5 ?_
  refine lv_iload_n hx hb dX10_addStroke_7 rfl (lv_at hl 1 rfl) ?_
  refine ca_i (isC := []) (isR := [0, 1]) (wr := [(a1, .inr (4, [v27, v28, .int 0])), (a0, .inr (15, [.int 0, .ref a1, v1, v2, v3, v4, v5, v6, v7, v8, v9, v10, v11, v12, v13, v14, v15, v16, v17, v18, v19, v20, v21, v22, v23, v24, v25, v26]))]) (rn_VS (i := 1) (isC := []) (wc := []) (As := [.int 105]) (rest := [.ref a0]) (n := 1) hx hb hml hown hts hE hS hP hD hA hl.1 (k431_J0_indexOf_0f7a4 l D cy g  H.size ) rfl rfl (by decide) rfl ax_200 rfl rfl ax_201 ⟨Nat.le_of_ble_eq_true rfl, Nat.le_of_ble_eq_true rfl⟩ rfl rfl (Nat.le_of_ble_eq_true rfl) dX10_addStroke_8 ⟨(Nat.le_of_ble_eq_true rfl), (Nat.le_of_ble_eq_true rfl)⟩) hP hD hS hA rfl rfl rfl (by decide) (fun ad8 H locs hP hD hS => ?_)
  have hP : va_P D vwCl [(a1, .inr (4, [v27, v28, .int 0])), (a0, .inr (15, [.int 0, .ref a1, v1, v2, v3, v4, v5, v6, v7, v8, v9, v10, v11, v12, v13, v14, v15, v16, v17, v18, v19, v20, v21, v22, v23, v24, v25, v26]))] H := hP
  have hD : va_D A [(a1, .inr (4, [v27, v28, .int 0])), (a0, .inr (15, [.int 0, .ref a1, v1, v2, v3, v4, v5, v6, v7, v8, v9, v10, v11, v12, v13, v14, v15, v16, v17, v18, v19, v20, v21, v22, v23, v24, v25, v26]))] := hD
  refine lv_if_lt (tgt := 32) hx hb dX10_addStroke_11 (by decide) (fun z => absurd z (by decide)) (fun _ => ?_)
  refine lv_iload_n hx hb dX10_addStroke_14 rfl (lv_at hl 1 rfl) ?_
  refine lv_bipush (v := 118) hx hb dX10_addStroke_15 (by decide) ?_
  refine lv_icmp_eq (tgt := 36) hx hb dX10_addStroke_17 (by decide) (fun z => absurd z (by decide)) (fun _ => ?_)
  refine lv_iload_n hx hb dX10_addStroke_20 rfl (lv_at hl 2 rfl) ?_
  refine lv_i2l (v := x0.toInt64) hx hb dX10_addStroke_21 rfl ?_
  refine lv_lconst (v := 1) hx hb dX10_addStroke_22 (by decide) ?_
  refine lv_ldc2 (v := 100) hx hb hown (hts _ tw_681) dX10_addStroke_23 ?_
  refine ca_i (isC := []) (isR := [0, 1]) (wr := [(a1, .inr (4, [v27, v28, .int 0])), (a0, .inr (15, [.int 0, .ref a1, v1, v2, v3, v4, v5, v6, v7, v8, v9, v10, v11, v12, v13, v14, v15, v16, v17, v18, v19, v20, v21, v22, v23, v24, v25, v26]))]) (rn_S (isC := []) (wc := []) (As := [.long x0.toInt64, .long 1, .long 100]) (rest := [.ref a0]) (n := 3) hx hb hml hown hts hE hS hP hD hA hl.1 (k33_X10_in l D cy g x0.toInt64 1 100 H.size (wl_nlt rfl (by decide) h0) (wl_nlt (by decide) rfl h1)) rfl rfl ax_39 rfl rfl ax_40 ⟨Nat.le_of_ble_eq_true rfl, Nat.le_of_ble_eq_true rfl⟩ rfl rfl (Nat.le_of_ble_eq_true rfl) dX10_addStroke_26 ⟨(Nat.le_of_ble_eq_true rfl), (Nat.le_of_ble_eq_true rfl)⟩) hP hD hS hA rfl rfl rfl (by decide) (fun ad26 H locs hP hD hS => ?_)
  have hP : va_P D vwCl [(a1, .inr (4, [v27, v28, .int 0])), (a0, .inr (15, [.int 0, .ref a1, v1, v2, v3, v4, v5, v6, v7, v8, v9, v10, v11, v12, v13, v14, v15, v16, v17, v18, v19, v20, v21, v22, v23, v24, v25, v26]))] H := hP
  have hD : va_D A [(a1, .inr (4, [v27, v28, .int 0])), (a0, .inr (15, [.int 0, .ref a1, v1, v2, v3, v4, v5, v6, v7, v8, v9, v10, v11, v12, v13, v14, v15, v16, v17, v18, v19, v20, v21, v22, v23, v24, v25, v26]))] := hD
  refine lv_if_ne (tgt := 36) hx hb dX10_addStroke_29 (by decide) (fun _ => ?_) (fun z => absurd z (by decide))
  refine lv_iconst (v := 0) hx hb dX10_addStroke_36 (by decide) ?_
  refine lv_iconst (v := 1) hx hb dX10_addStroke_37 (by decide) ?_
  refine ca_i (isC := [1]) (isR := [0]) (wr := [(a1, .inr (4, [v27, v28, .int 0]))]) (rn_V (ci := 15) (q0 := 1) (isC := [1]) (wc := [(a0, .inr (15, [.int 0, .ref a1, v1, v2, v3, v4, v5, v6, v7, v8, v9, v10, v11, v12, v13, v14, v15, v16, v17, v18, v19, v20, v21, v22, v23, v24, v25, v26]))]) (As := [.int 0, .int 1]) (rest := []) (n := 2) hx hb hml hown hts hE hS hP hD hA hl.1 (k43_X10_fails l D cy g a0 (.ref a1) (v1) (v2) (v3) (v4) (v5) (v6) (v7) (v8) (v9) (v10) (v11) (v12) (v13) (v14) (v15) (v16) (v17) (v18) (v19) (v20) (v21) (v22) (v23) (v24) (v25) (v26) H.size ) rfl rfl rfl rfl rfl ax_41 rfl rfl ax_42 ⟨Nat.le_of_ble_eq_true rfl, Nat.le_of_ble_eq_true rfl⟩ rfl rfl (Nat.le_of_ble_eq_true rfl) dX10_addStroke_38 ⟨(Nat.le_of_ble_eq_true rfl), (Nat.le_of_ble_eq_true rfl)⟩) hP hD hS hA rfl rfl rfl (by decide) (fun ad38 H locs hP hD hS => ?_)
  have hP : va_P D vwCl [(a1, .inr (4, [v27, v28, .int 0])), (a0, .inr (15, [.int 0, .ref a1, v1, v2, v3, v4, v5, v6, v7, v8, v9, v10, v11, v12, v13, v14, v15, v16, v17, v18, v19, v20, v21, v22, v23, v24, v25, v26]))] H := hP
  have hD : va_D A [(a1, .inr (4, [v27, v28, .int 0])), (a0, .inr (15, [.int 0, .ref a1, v1, v2, v3, v4, v5, v6, v7, v8, v9, v10, v11, v12, v13, v14, v15, v16, v17, v18, v19, v20, v21, v22, v23, v24, v25, v26]))] := hD
  refine lv_if_ne (tgt := 101) hx hb dX10_addStroke_41 (by decide) (fun z => absurd (by decide) z) (fun _ => ?_)
  refine lv_aload_n hx hb dX10_addStroke_44 rfl (lv_at hl 0 rfl) ?_
  refine lv_iload_n hx hb dX10_addStroke_45 rfl (lv_at hl 1 rfl) ?_
  refine lv_bipush (v := 97) hx hb dX10_addStroke_46 (by decide) ?_
  refine lv_icmp_eq (tgt := 66) hx hb dX10_addStroke_48 (by decide) (fun z => absurd z (by decide)) (fun _ => ?_)
  refine lv_aload_n hx hb dX10_addStroke_51 rfl (lv_at hl 0 rfl) ?_
  refine va_get (D := D) (ci := 15) (v := .ref a1) (C := RX10) (T := TX10) (N := 28) hx hb hts ax_29 hown hE.1 hP 1 rfl rfl 1 (by decide) (hts _ tw_277) (fun _ h9 => h9) rfl dX10_addStroke_52 ?_
  refine lv_iload_n hx hb dX10_addStroke_55 rfl (lv_at hl 3 rfl) ?_
  refine ca_i (isC := [0]) (isR := [1]) (wr := [(a0, .inr (15, [.int 0, .ref a1, v1, v2, v3, v4, v5, v6, v7, v8, v9, v10, v11, v12, v13, v14, v15, v16, v17, v18, v19, v20, v21, v22, v23, v24, v25, v26]))]) (rn_S (isC := [0]) (wc := [(a1, .inr (4, [v27, v28, .int 0]))]) (As := [.ref a1, .int x1]) (rest := [.ref a0]) (n := 2) hx hb hml hown hts hE hS hP hD hA hl.1 (k70_X10_isOf l D cy g x1 a1 (v27) (v28) H.size h2) rfl rfl ax_74 rfl rfl ax_75 ⟨Nat.le_of_ble_eq_true rfl, Nat.le_of_ble_eq_true rfl⟩ rfl rfl (Nat.le_of_ble_eq_true rfl) dX10_addStroke_56 ⟨(Nat.le_of_ble_eq_true rfl), (Nat.le_of_ble_eq_true rfl)⟩) hP hD hS hA rfl rfl rfl (by decide) (fun ad56 H locs hP hD hS => ?_)
  have hP : va_P D vwCl [(a0, .inr (15, [.int 0, .ref a1, v1, v2, v3, v4, v5, v6, v7, v8, v9, v10, v11, v12, v13, v14, v15, v16, v17, v18, v19, v20, v21, v22, v23, v24, v25, v26])), (a1, .inr (4, [v27, v28, .int 0]))] H := hP
  have hD : va_D A [(a0, .inr (15, [.int 0, .ref a1, v1, v2, v3, v4, v5, v6, v7, v8, v9, v10, v11, v12, v13, v14, v15, v16, v17, v18, v19, v20, v21, v22, v23, v24, v25, v26])), (a1, .inr (4, [v27, v28, .int 0]))] := hD
  refine lv_if_ne (tgt := 66) hx hb dX10_addStroke_59 (by decide) (fun z => absurd (by decide) z) (fun _ => ?_)
  refine lv_iconst (v := 1) hx hb dX10_addStroke_62 (by decide) ?_
  refine lv_goto (tgt := 67) hx hb dX10_addStroke_63 (by decide) ?_
  refine lv_iconst (v := 2) hx hb dX10_addStroke_67 (by decide) ?_
  refine ca_i (isC := [0]) (isR := [1]) (wr := [(a1, .inr (4, [v27, v28, .int 0]))]) (rn_V (ci := 15) (q0 := 0) (isC := [0]) (wc := [(a0, .inr (15, [.int 0, .ref a1, v1, v2, v3, v4, v5, v6, v7, v8, v9, v10, v11, v12, v13, v14, v15, v16, v17, v18, v19, v20, v21, v22, v23, v24, v25, v26]))]) (As := [.int 1, .int 2]) (rest := []) (n := 2) hx hb hml hown hts hE hS hP hD hA hl.1 (k146_X10_fails l D cy g a0 (.ref a1) (v1) (v2) (v3) (v4) (v5) (v6) (v7) (v8) (v9) (v10) (v11) (v12) (v13) (v14) (v15) (v16) (v17) (v18) (v19) (v20) (v21) (v22) (v23) (v24) (v25) (v26) H.size ) rfl rfl rfl rfl rfl ax_41 rfl rfl ax_42 ⟨Nat.le_of_ble_eq_true rfl, Nat.le_of_ble_eq_true rfl⟩ rfl rfl (Nat.le_of_ble_eq_true rfl) dX10_addStroke_68 ⟨(Nat.le_of_ble_eq_true rfl), (Nat.le_of_ble_eq_true rfl)⟩) hP hD hS hA rfl rfl rfl (by decide) (fun ad68 H locs hP hD hS => ?_)
  have hP : va_P D vwCl [(a1, .inr (4, [v27, v28, .int 0])), (a0, .inr (15, [.int 2, .ref a1, v1, v2, v3, v4, v5, v6, v7, v8, v9, v10, v11, v12, v13, v14, v15, v16, v17, v18, v19, v20, v21, v22, v23, v24, v25, v26]))] H := hP
  have hD : va_D A [(a1, .inr (4, [v27, v28, .int 0])), (a0, .inr (15, [.int 2, .ref a1, v1, v2, v3, v4, v5, v6, v7, v8, v9, v10, v11, v12, v13, v14, v15, v16, v17, v18, v19, v20, v21, v22, v23, v24, v25, v26]))] := hD
  refine lv_if_ne (tgt := 101) hx hb dX10_addStroke_71 (by decide) (fun _ => ?_) (fun z => absurd z (by decide))
  refine lv_iconst (v := (-1)) hx hb dX10_addStroke_101 (by decide) ?_
  exact en_z hx hb hr hlk hP hD hS rfl (fun _ => 0) (is := [1]) rfl rfl (Nat.le_of_ble_eq_true rfl) (Nat.le_of_ble_eq_true rfl) dX10_addStroke_102
set_option maxHeartbeats 4000000 in
set_option maxRecDepth 100000 in
theorem k442_X9_addStroke (l : Launch) (hst : l.stackTraces = false) (D : va_G) (cy : Nat → ClassId) (g : Nat → Nat) (x0 : Int32) (x1 : Int32) (a0 : Nat) (a1 : Nat) (v0 : Value) (v1 : Value) (v2 : Value) (v3 : Value) (v4 : Value) (v5 : Value) (v6 : Value) (v7 : Value) (v8 : Value) (v9 : Value) (v10 : Value) (v11 : Value) (v12 : Value) (sz : Nat) (h0 : ¬ x0 < 1) (h1 : ¬ (100 : Int32) < x0) (h2 : ¬ x1 < 0) : vx_Met l yX9_addStroke [.code yX9_addStroke cX9_addStroke 4 (some .int)] ({ frames := 7, cells := 1, slots := 6, locals := 103 }) (PC D cy g [(a0, .inr (14, [.ref a1, v0, v1, v2, v3, v4, v5])), (a1, .inr (5, [v6, v7, .int 0, v8, v9, v10, v11, v12]))] sz [.ref a0, .int 105, .int x0, .int x1]) QN (XE "java/lang/IndexOutOfBoundsException" (va_A [(a0, .inr (14, [.ref a1, v0, v1, v2, v3, v4, v5])), (a1, .inr (5, [v6, v7, .int 0, v8, v9, v10, v11, v12]))] sz)) 1 6 (va_A [(a0, .inr (14, [.ref a1, v0, v1, v2, v3, v4, v5])), (a1, .inr (5, [v6, v7, .int 0, v8, v9, v10, v11, v12]))] sz) := by
  refine st_X (by decide) (Nat.le_of_ble_eq_true rfl) ?_
  intro p e s m args below meth c A ls hx hb hr hml hown hlk hnm hsz hP hD hA hE hts hS hl hout
  have hown : s.vm.findClass RX9 = some m.cls := hown
  have hl : lv_has ls 4 [(0, .ref a0), (1, .int 105), (2, .int x0), (3, .int x1)] := hl
  refine lv_iload_n hx hb dX9_addStroke_0 rfl (lv_at hl 1 rfl) ?_
  refine lv_iload_n hx hb dX9_addStroke_1 rfl (lv_at hl 2 rfl) ?_
  refine ca_i (isC := []) (isR := [0, 1]) (wr := [(a0, .inr (14, [.ref a1, v0, v1, v2, v3, v4, v5])), (a1, .inr (5, [v6, v7, .int 0, v8, v9, v10, v11, v12]))]) (rn_S (isC := []) (wc := []) (As := [.int 105, .int x0]) (rest := []) (n := 2) hx hb hml hown hts hE hS hP hD hA hl.1 (k437_X1_isStroke l D cy g x0 s.heap.size h0 h1) rfl rfl ax_277 rfl rfl ax_278 ⟨Nat.le_of_ble_eq_true rfl, Nat.le_of_ble_eq_true rfl⟩ rfl rfl (Nat.le_of_ble_eq_true rfl) dX9_addStroke_2 ⟨(Nat.le_of_ble_eq_true rfl), (Nat.le_of_ble_eq_true rfl)⟩) hP hD hS hA rfl rfl rfl (by decide) (fun ad2 H locs hP hD hS => ?_)
  have hP : va_P D vwCl [(a0, .inr (14, [.ref a1, v0, v1, v2, v3, v4, v5])), (a1, .inr (5, [v6, v7, .int 0, v8, v9, v10, v11, v12]))] H := hP
  have hD : va_D A [(a0, .inr (14, [.ref a1, v0, v1, v2, v3, v4, v5])), (a1, .inr (5, [v6, v7, .int 0, v8, v9, v10, v11, v12]))] := hD
  refine lv_if_ne (tgt := 18) hx hb dX9_addStroke_5 (by decide) (fun _ => ?_) (fun z => absurd z (by decide))
  refine lv_iload_n hx hb dX9_addStroke_18 rfl (lv_at hl 1 rfl) ?_
  refine ca_i (isC := []) (isR := [0, 1]) (wr := [(a0, .inr (14, [.ref a1, v0, v1, v2, v3, v4, v5])), (a1, .inr (5, [v6, v7, .int 0, v8, v9, v10, v11, v12]))]) (rn_S (isC := []) (wc := []) (As := [.int 105]) (rest := []) (n := 1) hx hb hml hown hts hE hS hP hD hA hl.1 (k438_X1_needsBody l D cy g  H.size ) rfl rfl ax_279 rfl rfl ax_280 ⟨Nat.le_of_ble_eq_true rfl, Nat.le_of_ble_eq_true rfl⟩ rfl rfl (Nat.le_of_ble_eq_true rfl) dX9_addStroke_19 ⟨(Nat.le_of_ble_eq_true rfl), (Nat.le_of_ble_eq_true rfl)⟩) hP hD hS hA rfl rfl rfl (by decide) (fun ad19 H locs hP hD hS => ?_)
  have hP : va_P D vwCl [(a0, .inr (14, [.ref a1, v0, v1, v2, v3, v4, v5])), (a1, .inr (5, [v6, v7, .int 0, v8, v9, v10, v11, v12]))] H := hP
  have hD : va_D A [(a0, .inr (14, [.ref a1, v0, v1, v2, v3, v4, v5])), (a1, .inr (5, [v6, v7, .int 0, v8, v9, v10, v11, v12]))] := hD
  refine lv_if_eq (tgt := 30) hx hb dX9_addStroke_22 (by decide) (fun z => absurd z (by decide)) (fun _ => ?_)
  refine lv_aload_n hx hb dX9_addStroke_25 rfl (lv_at hl 0 rfl) ?_
  refine lv_iload_n hx hb dX9_addStroke_26 rfl (lv_at hl 3 rfl) ?_
  exact cx_out (isC := [0, 1]) (rx_V (ci := 14) (q0 := 0) (isC := [0, 1]) (wc := [(a0, .inr (14, [.ref a1, v0, v1, v2, v3, v4, v5])), (a1, .inr (5, [v6, v7, .int 0, v8, v9, v10, v11, v12]))]) (As := [.int x1]) (rest := []) (n := 1) hx hb hml hown hts hE hS hP hD hA hl.1 (k74_X9_requireBody l hst D cy g x1 a0 a1 (v0) (v1) (v2) (v3) (v4) (v5) (v6) (v7) (v8) (v9) (v10) (v11) (v12) H.size h2) rfl rfl rfl rfl rfl ax_68 rfl rfl ax_69 ⟨Nat.le_of_ble_eq_true rfl, Nat.le_of_ble_eq_true rfl⟩ rfl rfl (Nat.le_of_ble_eq_true rfl) dX9_addStroke_27 ⟨(Nat.le_of_ble_eq_true rfl), (Nat.le_of_ble_eq_true rfl)⟩) hD hS hA rfl hout hlk (Nat.le_of_ble_eq_true rfl) (Nat.le_of_ble_eq_true rfl)
set_option maxHeartbeats 4000000 in
set_option maxRecDepth 100000 in
theorem k443_L_addStroke (l : Launch) (hst : l.stackTraces = false) (D : va_G) (cy : Nat → ClassId) (g : Nat → Nat) (x0 : Int32) (x1 : Int32) (a0 : Nat) (a1 : Nat) (b0 : Nat) (v0 : Value) (v1 : Value) (v2 : Value) (v3 : Value) (v4 : Value) (v5 : Value) (v6 : Value) (v7 : Value) (v8 : Value) (v9 : Value) (v10 : Value) (v11 : Value) (v12 : Value) (sz : Nat) (h0 : ¬ x0 < 1) (h1 : ¬ (100 : Int32) < x0) (h2 : ¬ x1 < 0) : Met l yL_addStroke [.codeWith yL_addStroke cL_addStroke 6 (some .int) [(0, 12, 15, 13), (0, 12, 19, 21), (0, 12, 23, 15)]] ({ frames := 8, cells := 1, slots := 6, locals := 126 }) (PC D cy g [(a0, .inr (14, [.ref a1, v0, v1, v2, v3, v4, v5])), (a1, .inr (5, [v6, v7, .int 0, v8, v9, v10, v11, v12]))] sz [.ref a0, .int 105, .int x0, .int x1, .ref b0]) (QI D 2 (fun ad => []) (va_A [(a0, .inr (14, [.ref a1, v0, v1, v2, v3, v4, v5])), (a1, .inr (5, [v6, v7, .int 0, v8, v9, v10, v11, v12]))] sz)) 1 6 (va_A [(a0, .inr (14, [.ref a1, v0, v1, v2, v3, v4, v5])), (a1, .inr (5, [v6, v7, .int 0, v8, v9, v10, v11, v12]))] sz) := by
  refine sh_I (by decide) (Nat.le_of_ble_eq_true rfl) ?_
  intro p e s m args below meth c A ls hx hb hr hml hown hlk hnm hsz hP hD hA hE hts hS hl htb
  have hown : s.vm.findClass RL = some m.cls := hown
  have hl : lv_has ls 6 [(0, .ref a0), (1, .int 105), (2, .int x0), (3, .int x1), (4, .ref b0)] := hl
  refine lv_aload hx hb dL_addStroke_0 (lv_at hl 4 rfl) ?_
  refine lv_iconst (v := 0) hx hb dL_addStroke_2 (by decide) ?_
  refine lv_aload_n hx hb dL_addStroke_3 rfl (lv_at hl 0 rfl) ?_
  refine lv_iload_n hx hb dL_addStroke_4 rfl (lv_at hl 1 rfl) ?_
  refine lv_iload_n hx hb dL_addStroke_5 rfl (lv_at hl 2 rfl) ?_
  refine lv_iload_n hx hb dL_addStroke_6 rfl (lv_at hl 3 rfl) ?_
  refine cx_catch (isC := [0, 1]) (isR := []) (wr := []) (hp := [(0, 12, 15, 13)]) (z := (0, 12, 19, 21)) (hq := [(0, 12, 23, 15)]) (name := "java/lang/IndexOutOfBoundsException") (own := RL) (rx_V (ci := 14) (q0 := 0) (isC := [0, 1]) (wc := [(a0, .inr (14, [.ref a1, v0, v1, v2, v3, v4, v5])), (a1, .inr (5, [v6, v7, .int 0, v8, v9, v10, v11, v12]))]) (As := [.int 105, .int x0, .int x1]) (rest := [.int 0, .ref b0]) (n := 3) hx hb hml hown hts hE hS hP hD hA hl.1 (k442_X9_addStroke l hst D cy g x0 x1 a0 a1 (v0) (v1) (v2) (v3) (v4) (v5) (v6) (v7) (v8) (v9) (v10) (v11) (v12) s.heap.size h0 h1 h2) rfl rfl rfl rfl rfl ax_281 rfl rfl ax_282 ⟨Nat.le_of_ble_eq_true rfl, Nat.le_of_ble_eq_true rfl⟩ rfl rfl (Nat.le_of_ble_eq_true rfl) dL_addStroke_7 ⟨(Nat.le_of_ble_eq_true rfl), (Nat.le_of_ble_eq_true rfl)⟩) hP hD hS hA hown hts hE htb rfl rfl rfl rfl (by decide) (fun z hz => by rcases List.mem_singleton.mp hz with rfl; exact ⟨by decide, "java/lang/IllegalArgumentException", tw_302, by decide +kernel⟩) (by decide) (by decide) tw_398 tw_399 (fun qx H locs hP hD hS => ?_)
  have hP : va_P D vwCl [] H := hP
  have hD : va_D A [] := hD
  refine lv_astore (lv' := [(5, .ref qx), (0, .ref a0), (1, .int 105), (2, .int x0), (3, .int x1), (4, .ref b0)]) hx hb dL_addStroke_19 hl (Nat.le_of_ble_eq_true rfl) rfl (fun ls hl => ?_)
  refine lv_iconst (v := 2) hx hb dL_addStroke_21 (by decide) ?_
  exact en_z hx hb hr hlk hP hD hS rfl (fun _ => 0) (is := []) rfl rfl (Nat.le_of_ble_eq_true rfl) (Nat.le_of_ble_eq_true rfl) dL_addStroke_22
set_option maxHeartbeats 4000000 in
set_option maxRecDepth 100000 in
theorem k444_X10_addStroke (l : Launch) (D : va_G) (cy : Nat → ClassId) (g : Nat → Nat) (x0 : Int32) (x1 : Int32) (a0 : Nat) (a1 : Nat) (v0 : Value) (v1 : Value) (v2 : Value) (v3 : Value) (v4 : Value) (v5 : Value) (v6 : Value) (v7 : Value) (v8 : Value) (v9 : Value) (v10 : Value) (v11 : Value) (v12 : Value) (v13 : Value) (v14 : Value) (v15 : Value) (v16 : Value) (v17 : Value) (v18 : Value) (v19 : Value) (v20 : Value) (v21 : Value) (v22 : Value) (v23 : Value) (v24 : Value) (v25 : Value) (v26 : Value) (v27 : Value) (v28 : Value) (sz : Nat) (h0 : ¬ x0 < 1) (h1 : ¬ (100 : Int32) < x0) (h2 : ¬ x1 < 0) (h3 : (-1 : Int32) < x1) : Met l yX10_addStroke [.code yX10_addStroke cX10_addStroke 4 (some .int)] ({ frames := 4, cells := 0, slots := 0, locals := 91 }) (PC D cy g [(a0, .inr (15, [v0, .ref a1, v1, v2, v3, v4, v5, v6, v7, v8, v9, v10, v11, v12, v13, v14, v15, v16, v17, v18, v19, v20, v21, v22, v23, v24, v25, v26])), (a1, .inr (4, [v27, v28, .int 0]))] sz [.ref a0, .int 105, .int x0, .int x1]) (QI D (-1) (fun ad => [(a0, .inr (15, [.int 2, .ref a1, v1, v2, v3, v4, v5, v6, v7, v8, v9, v10, v11, v12, v13, v14, v15, v16, v17, v18, v19, v20, v21, v22, v23, v24, v25, v26]))]) (va_A [(a0, .inr (15, [v0, .ref a1, v1, v2, v3, v4, v5, v6, v7, v8, v9, v10, v11, v12, v13, v14, v15, v16, v17, v18, v19, v20, v21, v22, v23, v24, v25, v26])), (a1, .inr (4, [v27, v28, .int 0]))] sz)) 0 0 (va_A [(a0, .inr (15, [v0, .ref a1, v1, v2, v3, v4, v5, v6, v7, v8, v9, v10, v11, v12, v13, v14, v15, v16, v17, v18, v19, v20, v21, v22, v23, v24, v25, v26])), (a1, .inr (4, [v27, v28, .int 0]))] sz) := by
  refine st_I (by decide) (Nat.le_of_ble_eq_true rfl) ?_
  intro p e s m args below meth c A ls hx hb hr hml hown hlk hnm hsz hP hD hA hE hts hS hl
  have hown : s.vm.findClass RX10 = some m.cls := hown
  have hl : lv_has ls 4 [(0, .ref a0), (1, .int 105), (2, .int x0), (3, .int x1)] := hl
  refine lv_aload_n hx hb dX10_addStroke_0 rfl (lv_at hl 0 rfl) ?_
  refine ca_v (isC := [0]) (isR := [1]) (wr := [(a1, .inr (4, [v27, v28, .int 0]))]) (rn_V (ci := 15) (q0 := 0) (isC := [0]) (wc := [(a0, .inr (15, [v0, .ref a1, v1, v2, v3, v4, v5, v6, v7, v8, v9, v10, v11, v12, v13, v14, v15, v16, v17, v18, v19, v20, v21, v22, v23, v24, v25, v26]))]) (As := []) (rest := []) (n := 0) hx hb hml hown hts hE hS hP hD hA hl.1 (k20_X10_begins l D cy g a0 (v0) (.ref a1) (v1) (v2) (v3) (v4) (v5) (v6) (v7) (v8) (v9) (v10) (v11) (v12) (v13) (v14) (v15) (v16) (v17) (v18) (v19) (v20) (v21) (v22) (v23) (v24) (v25) (v26) s.heap.size ) rfl rfl rfl rfl rfl ax_37 rfl rfl ax_38 ⟨Nat.le_of_ble_eq_true rfl, Nat.le_of_ble_eq_true rfl⟩ rfl rfl (Nat.le_of_ble_eq_true rfl) dX10_addStroke_1 ⟨(Nat.le_of_ble_eq_true rfl), (Nat.le_of_ble_eq_true rfl)⟩) hP hD hS hA rfl rfl rfl (by decide) (fun ad1 H locs hP hD hS => ?_)
  have hP : va_P D vwCl [(a1, .inr (4, [v27, v28, .int 0])), (a0, .inr (15, [.int 0, .ref a1, v1, v2, v3, v4, v5, v6, v7, v8, v9, v10, v11, v12, v13, v14, v15, v16, v17, v18, v19, v20, v21, v22, v23, v24, v25, v26]))] H := hP
  have hD : va_D A [(a1, .inr (4, [v27, v28, .int 0])), (a0, .inr (15, [.int 0, .ref a1, v1, v2, v3, v4, v5, v6, v7, v8, v9, v10, v11, v12, v13, v14, v15, v16, v17, v18, v19, v20, v21, v22, v23, v24, v25, v26]))] := hD
  refine lv_aload_n hx hb dX10_addStroke_4 rfl (lv_at hl 0 rfl) ?_
  refine va_ldcS (tx := "aiv") (q := (g (1 + 1))) hx hb hown hE.2.2.1.2.2 dX10_addStroke_5 ?_
  refine lv_iload_n hx hb dX10_addStroke_7 rfl (lv_at hl 1 rfl) ?_
  refine ca_i (isC := []) (isR := [0, 1]) (wr := [(a1, .inr (4, [v27, v28, .int 0])), (a0, .inr (15, [.int 0, .ref a1, v1, v2, v3, v4, v5, v6, v7, v8, v9, v10, v11, v12, v13, v14, v15, v16, v17, v18, v19, v20, v21, v22, v23, v24, v25, v26]))]) (rn_VS (i := 1) (isC := []) (wc := []) (As := [.int 105]) (rest := [.ref a0]) (n := 1) hx hb hml hown hts hE hS hP hD hA hl.1 (k431_J0_indexOf_0f7a4 l D cy g  H.size ) rfl rfl (by decide) rfl ax_200 rfl rfl ax_201 ⟨Nat.le_of_ble_eq_true rfl, Nat.le_of_ble_eq_true rfl⟩ rfl rfl (Nat.le_of_ble_eq_true rfl) dX10_addStroke_8 ⟨(Nat.le_of_ble_eq_true rfl), (Nat.le_of_ble_eq_true rfl)⟩) hP hD hS hA rfl rfl rfl (by decide) (fun ad8 H locs hP hD hS => ?_)
  have hP : va_P D vwCl [(a1, .inr (4, [v27, v28, .int 0])), (a0, .inr (15, [.int 0, .ref a1, v1, v2, v3, v4, v5, v6, v7, v8, v9, v10, v11, v12, v13, v14, v15, v16, v17, v18, v19, v20, v21, v22, v23, v24, v25, v26]))] H := hP
  have hD : va_D A [(a1, .inr (4, [v27, v28, .int 0])), (a0, .inr (15, [.int 0, .ref a1, v1, v2, v3, v4, v5, v6, v7, v8, v9, v10, v11, v12, v13, v14, v15, v16, v17, v18, v19, v20, v21, v22, v23, v24, v25, v26]))] := hD
  refine lv_if_lt (tgt := 32) hx hb dX10_addStroke_11 (by decide) (fun z => absurd z (by decide)) (fun _ => ?_)
  refine lv_iload_n hx hb dX10_addStroke_14 rfl (lv_at hl 1 rfl) ?_
  refine lv_bipush (v := 118) hx hb dX10_addStroke_15 (by decide) ?_
  refine lv_icmp_eq (tgt := 36) hx hb dX10_addStroke_17 (by decide) (fun z => absurd z (by decide)) (fun _ => ?_)
  refine lv_iload_n hx hb dX10_addStroke_20 rfl (lv_at hl 2 rfl) ?_
  refine lv_i2l (v := x0.toInt64) hx hb dX10_addStroke_21 rfl ?_
  refine lv_lconst (v := 1) hx hb dX10_addStroke_22 (by decide) ?_
  refine lv_ldc2 (v := 100) hx hb hown (hts _ tw_681) dX10_addStroke_23 ?_
  refine ca_i (isC := []) (isR := [0, 1]) (wr := [(a1, .inr (4, [v27, v28, .int 0])), (a0, .inr (15, [.int 0, .ref a1, v1, v2, v3, v4, v5, v6, v7, v8, v9, v10, v11, v12, v13, v14, v15, v16, v17, v18, v19, v20, v21, v22, v23, v24, v25, v26]))]) (rn_S (isC := []) (wc := []) (As := [.long x0.toInt64, .long 1, .long 100]) (rest := [.ref a0]) (n := 3) hx hb hml hown hts hE hS hP hD hA hl.1 (k33_X10_in l D cy g x0.toInt64 1 100 H.size (wl_nlt rfl (by decide) h0) (wl_nlt (by decide) rfl h1)) rfl rfl ax_39 rfl rfl ax_40 ⟨Nat.le_of_ble_eq_true rfl, Nat.le_of_ble_eq_true rfl⟩ rfl rfl (Nat.le_of_ble_eq_true rfl) dX10_addStroke_26 ⟨(Nat.le_of_ble_eq_true rfl), (Nat.le_of_ble_eq_true rfl)⟩) hP hD hS hA rfl rfl rfl (by decide) (fun ad26 H locs hP hD hS => ?_)
  have hP : va_P D vwCl [(a1, .inr (4, [v27, v28, .int 0])), (a0, .inr (15, [.int 0, .ref a1, v1, v2, v3, v4, v5, v6, v7, v8, v9, v10, v11, v12, v13, v14, v15, v16, v17, v18, v19, v20, v21, v22, v23, v24, v25, v26]))] H := hP
  have hD : va_D A [(a1, .inr (4, [v27, v28, .int 0])), (a0, .inr (15, [.int 0, .ref a1, v1, v2, v3, v4, v5, v6, v7, v8, v9, v10, v11, v12, v13, v14, v15, v16, v17, v18, v19, v20, v21, v22, v23, v24, v25, v26]))] := hD
  refine lv_if_ne (tgt := 36) hx hb dX10_addStroke_29 (by decide) (fun _ => ?_) (fun z => absurd z (by decide))
  refine lv_iconst (v := 0) hx hb dX10_addStroke_36 (by decide) ?_
  refine lv_iconst (v := 1) hx hb dX10_addStroke_37 (by decide) ?_
  refine ca_i (isC := [1]) (isR := [0]) (wr := [(a1, .inr (4, [v27, v28, .int 0]))]) (rn_V (ci := 15) (q0 := 1) (isC := [1]) (wc := [(a0, .inr (15, [.int 0, .ref a1, v1, v2, v3, v4, v5, v6, v7, v8, v9, v10, v11, v12, v13, v14, v15, v16, v17, v18, v19, v20, v21, v22, v23, v24, v25, v26]))]) (As := [.int 0, .int 1]) (rest := []) (n := 2) hx hb hml hown hts hE hS hP hD hA hl.1 (k43_X10_fails l D cy g a0 (.ref a1) (v1) (v2) (v3) (v4) (v5) (v6) (v7) (v8) (v9) (v10) (v11) (v12) (v13) (v14) (v15) (v16) (v17) (v18) (v19) (v20) (v21) (v22) (v23) (v24) (v25) (v26) H.size ) rfl rfl rfl rfl rfl ax_41 rfl rfl ax_42 ⟨Nat.le_of_ble_eq_true rfl, Nat.le_of_ble_eq_true rfl⟩ rfl rfl (Nat.le_of_ble_eq_true rfl) dX10_addStroke_38 ⟨(Nat.le_of_ble_eq_true rfl), (Nat.le_of_ble_eq_true rfl)⟩) hP hD hS hA rfl rfl rfl (by decide) (fun ad38 H locs hP hD hS => ?_)
  have hP : va_P D vwCl [(a1, .inr (4, [v27, v28, .int 0])), (a0, .inr (15, [.int 0, .ref a1, v1, v2, v3, v4, v5, v6, v7, v8, v9, v10, v11, v12, v13, v14, v15, v16, v17, v18, v19, v20, v21, v22, v23, v24, v25, v26]))] H := hP
  have hD : va_D A [(a1, .inr (4, [v27, v28, .int 0])), (a0, .inr (15, [.int 0, .ref a1, v1, v2, v3, v4, v5, v6, v7, v8, v9, v10, v11, v12, v13, v14, v15, v16, v17, v18, v19, v20, v21, v22, v23, v24, v25, v26]))] := hD
  refine lv_if_ne (tgt := 101) hx hb dX10_addStroke_41 (by decide) (fun z => absurd (by decide) z) (fun _ => ?_)
  refine lv_aload_n hx hb dX10_addStroke_44 rfl (lv_at hl 0 rfl) ?_
  refine lv_iload_n hx hb dX10_addStroke_45 rfl (lv_at hl 1 rfl) ?_
  refine lv_bipush (v := 97) hx hb dX10_addStroke_46 (by decide) ?_
  refine lv_icmp_eq (tgt := 66) hx hb dX10_addStroke_48 (by decide) (fun z => absurd z (by decide)) (fun _ => ?_)
  refine lv_aload_n hx hb dX10_addStroke_51 rfl (lv_at hl 0 rfl) ?_
  refine va_get (D := D) (ci := 15) (v := .ref a1) (C := RX10) (T := TX10) (N := 28) hx hb hts ax_29 hown hE.1 hP 1 rfl rfl 1 (by decide) (hts _ tw_277) (fun _ h9 => h9) rfl dX10_addStroke_52 ?_
  refine lv_iload_n hx hb dX10_addStroke_55 rfl (lv_at hl 3 rfl) ?_
  refine ca_i (isC := [0]) (isR := [1]) (wr := [(a0, .inr (15, [.int 0, .ref a1, v1, v2, v3, v4, v5, v6, v7, v8, v9, v10, v11, v12, v13, v14, v15, v16, v17, v18, v19, v20, v21, v22, v23, v24, v25, v26]))]) (rn_S (isC := [0]) (wc := [(a1, .inr (4, [v27, v28, .int 0]))]) (As := [.ref a1, .int x1]) (rest := [.ref a0]) (n := 2) hx hb hml hown hts hE hS hP hD hA hl.1 (k77_X10_isOf l D cy g x1 a1 (v27) (v28) H.size h2 h3) rfl rfl ax_74 rfl rfl ax_75 ⟨Nat.le_of_ble_eq_true rfl, Nat.le_of_ble_eq_true rfl⟩ rfl rfl (Nat.le_of_ble_eq_true rfl) dX10_addStroke_56 ⟨(Nat.le_of_ble_eq_true rfl), (Nat.le_of_ble_eq_true rfl)⟩) hP hD hS hA rfl rfl rfl (by decide) (fun ad56 H locs hP hD hS => ?_)
  have hP : va_P D vwCl [(a0, .inr (15, [.int 0, .ref a1, v1, v2, v3, v4, v5, v6, v7, v8, v9, v10, v11, v12, v13, v14, v15, v16, v17, v18, v19, v20, v21, v22, v23, v24, v25, v26])), (a1, .inr (4, [v27, v28, .int 0]))] H := hP
  have hD : va_D A [(a0, .inr (15, [.int 0, .ref a1, v1, v2, v3, v4, v5, v6, v7, v8, v9, v10, v11, v12, v13, v14, v15, v16, v17, v18, v19, v20, v21, v22, v23, v24, v25, v26])), (a1, .inr (4, [v27, v28, .int 0]))] := hD
  refine lv_if_ne (tgt := 66) hx hb dX10_addStroke_59 (by decide) (fun z => absurd (by decide) z) (fun _ => ?_)
  refine lv_iconst (v := 1) hx hb dX10_addStroke_62 (by decide) ?_
  refine lv_goto (tgt := 67) hx hb dX10_addStroke_63 (by decide) ?_
  refine lv_iconst (v := 2) hx hb dX10_addStroke_67 (by decide) ?_
  refine ca_i (isC := [0]) (isR := [1]) (wr := [(a1, .inr (4, [v27, v28, .int 0]))]) (rn_V (ci := 15) (q0 := 0) (isC := [0]) (wc := [(a0, .inr (15, [.int 0, .ref a1, v1, v2, v3, v4, v5, v6, v7, v8, v9, v10, v11, v12, v13, v14, v15, v16, v17, v18, v19, v20, v21, v22, v23, v24, v25, v26]))]) (As := [.int 1, .int 2]) (rest := []) (n := 2) hx hb hml hown hts hE hS hP hD hA hl.1 (k146_X10_fails l D cy g a0 (.ref a1) (v1) (v2) (v3) (v4) (v5) (v6) (v7) (v8) (v9) (v10) (v11) (v12) (v13) (v14) (v15) (v16) (v17) (v18) (v19) (v20) (v21) (v22) (v23) (v24) (v25) (v26) H.size ) rfl rfl rfl rfl rfl ax_41 rfl rfl ax_42 ⟨Nat.le_of_ble_eq_true rfl, Nat.le_of_ble_eq_true rfl⟩ rfl rfl (Nat.le_of_ble_eq_true rfl) dX10_addStroke_68 ⟨(Nat.le_of_ble_eq_true rfl), (Nat.le_of_ble_eq_true rfl)⟩) hP hD hS hA rfl rfl rfl (by decide) (fun ad68 H locs hP hD hS => ?_)
  have hP : va_P D vwCl [(a1, .inr (4, [v27, v28, .int 0])), (a0, .inr (15, [.int 2, .ref a1, v1, v2, v3, v4, v5, v6, v7, v8, v9, v10, v11, v12, v13, v14, v15, v16, v17, v18, v19, v20, v21, v22, v23, v24, v25, v26]))] H := hP
  have hD : va_D A [(a1, .inr (4, [v27, v28, .int 0])), (a0, .inr (15, [.int 2, .ref a1, v1, v2, v3, v4, v5, v6, v7, v8, v9, v10, v11, v12, v13, v14, v15, v16, v17, v18, v19, v20, v21, v22, v23, v24, v25, v26]))] := hD
  refine lv_if_ne (tgt := 101) hx hb dX10_addStroke_71 (by decide) (fun _ => ?_) (fun z => absurd z (by decide))
  refine lv_iconst (v := (-1)) hx hb dX10_addStroke_101 (by decide) ?_
  exact en_z hx hb hr hlk hP hD hS rfl (fun _ => 0) (is := [1]) rfl rfl (Nat.le_of_ble_eq_true rfl) (Nat.le_of_ble_eq_true rfl) dX10_addStroke_102
set_option maxHeartbeats 4000000 in
set_option maxRecDepth 100000 in
theorem k445_X1_isStroke (l : Launch) (D : va_G) (cy : Nat → ClassId) (g : Nat → Nat) (x0 : Int32) (x1 : Int32) (sz : Nat) (h0 : ¬ x0 = 118) (h1 : ¬ x0 = 97) (h2 : ¬ x0 = 105) : Met l yX1_isStroke [.code yX1_isStroke cX1_isStroke 2 (some .boolean)] ({ frames := 0, cells := 0, slots := 0, locals := 0 }) (PC D cy g [] sz [.int x0, .int x1]) (QI D 0 (fun ad => []) (va_A [] sz)) 0 0 (va_A [] sz) := by
  refine st_I (by decide) (Nat.le_of_ble_eq_true rfl) ?_
  intro p e s m args below meth c A ls hx hb hr hml hown hlk hnm hsz hP hD hA hE hts hS hl
  have hown : s.vm.findClass RX1 = some m.cls := hown
  have hl : lv_has ls 2 [(0, .int x0), (1, .int x1)] := hl
  refine lv_iload_n hx hb dX1_isStroke_0 rfl (lv_at hl 0 rfl) ?_
  refine lv_bipush (v := 118) hx hb dX1_isStroke_1 (by decide) ?_
  refine lv_icmp_eq (tgt := 28) hx hb dX1_isStroke_3 (by decide) (fun z => absurd z h0) (fun _ => ?_)
  refine lv_iload_n hx hb dX1_isStroke_6 rfl (lv_at hl 0 rfl) ?_
  refine lv_bipush (v := 97) hx hb dX1_isStroke_7 (by decide) ?_
  refine lv_icmp_eq (tgt := 18) hx hb dX1_isStroke_9 (by decide) (fun z => absurd z h1) (fun _ => ?_)
  refine lv_iload_n hx hb dX1_isStroke_12 rfl (lv_at hl 0 rfl) ?_
  refine lv_bipush (v := 105) hx hb dX1_isStroke_13 (by decide) ?_
  refine lv_icmp_ne (tgt := 32) hx hb dX1_isStroke_15 (by decide) (fun _ => ?_) (fun z => absurd z h2)
  refine lv_iconst (v := 0) hx hb dX1_isStroke_32 (by decide) ?_
  exact en_z hx hb hr hlk hP hD hS rfl (fun _ => 0) (is := []) rfl rfl (Nat.le_of_ble_eq_true rfl) (Nat.le_of_ble_eq_true rfl) dX1_isStroke_33
set_option maxHeartbeats 4000000 in
set_option maxRecDepth 100000 in
theorem k446_X9_addStroke (l : Launch) (hst : l.stackTraces = false) (D : va_G) (cy : Nat → ClassId) (g : Nat → Nat) (x0 : Int32) (x1 : Int32) (x2 : Int32) (b0 : Nat) (sz : Nat) (h0 : ¬ x0 = 118) (h1 : ¬ x0 = 97) (h2 : ¬ x0 = 105) : vx_Met l yX9_addStroke [.code yX9_addStroke cX9_addStroke 4 (some .int)] ({ frames := 6, cells := 1, slots := 6, locals := 82 }) (PC D cy g [] sz [.ref b0, .int x0, .int x1, .int x2]) QN (XE "java/lang/IllegalArgumentException" (va_A [] sz)) 1 6 (va_A [] sz) := by
  refine st_X (by decide) (Nat.le_of_ble_eq_true rfl) ?_
  intro p e s m args below meth c A ls hx hb hr hml hown hlk hnm hsz hP hD hA hE hts hS hl hout
  have hown : s.vm.findClass RX9 = some m.cls := hown
  have hl : lv_has ls 4 [(0, .ref b0), (1, .int x0), (2, .int x1), (3, .int x2)] := hl
  refine lv_iload_n hx hb dX9_addStroke_0 rfl (lv_at hl 1 rfl) ?_
  refine lv_iload_n hx hb dX9_addStroke_1 rfl (lv_at hl 2 rfl) ?_
  refine ca_i (isC := []) (isR := []) (wr := []) (rn_S (isC := []) (wc := []) (As := [.int x0, .int x1]) (rest := []) (n := 2) hx hb hml hown hts hE hS hP hD hA hl.1 (k445_X1_isStroke l D cy g x0 x1 s.heap.size h0 h1 h2) rfl rfl ax_277 rfl rfl ax_278 ⟨Nat.le_of_ble_eq_true rfl, Nat.le_of_ble_eq_true rfl⟩ rfl rfl (Nat.le_of_ble_eq_true rfl) dX9_addStroke_2 ⟨(Nat.le_of_ble_eq_true rfl), (Nat.le_of_ble_eq_true rfl)⟩) hP hD hS hA rfl rfl rfl (by decide) (fun ad2 H locs hP hD hS => ?_)
  have hP : va_P D vwCl [] H := hP
  have hD : va_D A [] := hD
  refine lv_if_ne (tgt := 18) hx hb dX9_addStroke_5 (by decide) (fun z => absurd (by decide) z) (fun _ => ?_)
  exact th_S (text := "there is no such stroke") hx hb hst hown hts hE hS (hl.1.trans hml.symm) hout hlk (by decide +kernel) tw_296 tw_297 ax_32 (by decide +kernel) dX9_addStroke_8 dX9_addStroke_11 dX9_addStroke_12 dX9_addStroke_14 dX9_addStroke_17 ⟨Nat.le_of_ble_eq_true rfl, Nat.le_of_ble_eq_true rfl, Nat.le_of_ble_eq_true rfl, Nat.le_of_ble_eq_true rfl⟩ (Nat.le_of_ble_eq_true rfl) (Nat.le_of_ble_eq_true rfl)
set_option maxHeartbeats 4000000 in
set_option maxRecDepth 100000 in
theorem k447_L_addStroke (l : Launch) (hst : l.stackTraces = false) (D : va_G) (cy : Nat → ClassId) (g : Nat → Nat) (x0 : Int32) (x1 : Int32) (x2 : Int32) (a0 : Nat) (b0 : Nat) (v0 : Value) (v1 : Value) (v2 : Value) (v3 : Value) (v4 : Value) (v5 : Value) (v6 : Value) (sz : Nat) (h0 : ¬ x0 = 118) (h1 : ¬ x0 = 97) (h2 : ¬ x0 = 105) : Met l yL_addStroke [.codeWith yL_addStroke cL_addStroke 6 (some .int) [(0, 12, 15, 13), (0, 12, 19, 21), (0, 12, 23, 15)]] ({ frames := 7, cells := 1, slots := 6, locals := 105 }) (PC D cy g [(a0, .inr (14, [v0, v1, v2, v3, v4, v5, v6]))] sz [.ref a0, .int x0, .int x1, .int x2, .ref b0]) (QI D 1 (fun ad => []) (va_A [(a0, .inr (14, [v0, v1, v2, v3, v4, v5, v6]))] sz)) 1 6 (va_A [(a0, .inr (14, [v0, v1, v2, v3, v4, v5, v6]))] sz) := by
  refine sh_I (by decide) (Nat.le_of_ble_eq_true rfl) ?_
  intro p e s m args below meth c A ls hx hb hr hml hown hlk hnm hsz hP hD hA hE hts hS hl htb
  have hown : s.vm.findClass RL = some m.cls := hown
  have hl : lv_has ls 6 [(0, .ref a0), (1, .int x0), (2, .int x1), (3, .int x2), (4, .ref b0)] := hl
  refine lv_aload hx hb dL_addStroke_0 (lv_at hl 4 rfl) ?_
  refine lv_iconst (v := 0) hx hb dL_addStroke_2 (by decide) ?_
  refine lv_aload_n hx hb dL_addStroke_3 rfl (lv_at hl 0 rfl) ?_
  refine lv_iload_n hx hb dL_addStroke_4 rfl (lv_at hl 1 rfl) ?_
  refine lv_iload_n hx hb dL_addStroke_5 rfl (lv_at hl 2 rfl) ?_
  refine lv_iload_n hx hb dL_addStroke_6 rfl (lv_at hl 3 rfl) ?_
  refine cx_catch (isC := []) (isR := [0]) (wr := [(a0, .inr (14, [v0, v1, v2, v3, v4, v5, v6]))]) (hp := []) (z := (0, 12, 15, 13)) (hq := [(0, 12, 19, 21), (0, 12, 23, 15)]) (name := "java/lang/IllegalArgumentException") (own := RL) (rx_V (ci := 14) (q0 := 0) (isC := []) (wc := []) (As := [.int x0, .int x1, .int x2]) (rest := [.int 0, .ref b0]) (n := 3) hx hb hml hown hts hE hS hP hD hA hl.1 (k446_X9_addStroke l hst D cy g x0 x1 x2 a0 s.heap.size h0 h1 h2) rfl rfl rfl rfl rfl ax_281 rfl rfl ax_282 ⟨Nat.le_of_ble_eq_true rfl, Nat.le_of_ble_eq_true rfl⟩ rfl rfl (Nat.le_of_ble_eq_true rfl) dL_addStroke_7 ⟨(Nat.le_of_ble_eq_true rfl), (Nat.le_of_ble_eq_true rfl)⟩) hP hD hS hA hown hts hE htb rfl rfl rfl rfl (by decide) (fun z hz => by cases hz) (by decide) (by decide) tw_302 tw_303 (fun qx H locs hP hD hS => ?_)
  have hP : va_P D vwCl [(a0, .inr (14, [v0, v1, v2, v3, v4, v5, v6]))] H := hP
  have hD : va_D A [(a0, .inr (14, [v0, v1, v2, v3, v4, v5, v6]))] := hD
  refine lv_astore (lv' := [(5, .ref qx), (0, .ref a0), (1, .int x0), (2, .int x1), (3, .int x2), (4, .ref b0)]) hx hb dL_addStroke_15 hl (Nat.le_of_ble_eq_true rfl) rfl (fun ls hl => ?_)
  refine lv_iconst (v := 1) hx hb dL_addStroke_17 (by decide) ?_
  exact en_z hx hb hr hlk hP hD hS rfl (fun _ => 0) (is := []) rfl rfl (Nat.le_of_ble_eq_true rfl) (Nat.le_of_ble_eq_true rfl) dL_addStroke_18
set_option maxHeartbeats 4000000 in
set_option maxRecDepth 100000 in
theorem k448_J1_indexOf_4cfef (l : Launch) (D : va_G) (cy : Nat → ClassId) (g : Nat → Nat) (x0 : Int32) (sz : Nat) (h0 : x0 < 0) : Met l yJ1_indexOf_4cfef [.code yJ1_indexOf_4cfef cJ1_indexOf_4cfef 4 (some .int)] ({ frames := 1, cells := 0, slots := 0, locals := 20 }) (PC D cy g [] sz [.ref (g (1 + 3)), .int x0, .int 0, .int 3]) (QI D (-1) (fun ad => []) (va_A [] sz)) 0 0 (va_A [] sz) := by
  refine st_I (by decide) (Nat.le_of_ble_eq_true rfl) ?_
  intro p e s m args below meth c A ls hx hb hr hml hown hlk hnm hsz hP hD hA hE hts hS hl
  have hown : s.vm.findClass RJ1 = some m.cls := hown
  have hl : lv_has ls 4 [(0, .ref (g (1 + 3))), (1, .int x0), (2, .int 0), (3, .int 3)] := hl
  refine lv_iload_n hx hb dJ1_indexOf_4cfef_0 rfl (lv_at hl 1 rfl) ?_
  refine ca_i (isC := []) (isR := []) (wr := []) (rn_S (isC := []) (wc := []) (As := [.int x0]) (rest := []) (n := 1) hx hb hml hown hts hE hS hP hD hA hl.1 (k299_J1_canEncode_9a6ad l D cy g x0 s.heap.size h0) rfl rfl ax_188 rfl rfl ax_189 ⟨Nat.le_of_ble_eq_true rfl, Nat.le_of_ble_eq_true rfl⟩ rfl rfl (Nat.le_of_ble_eq_true rfl) dJ1_indexOf_4cfef_1 ⟨(Nat.le_of_ble_eq_true rfl), (Nat.le_of_ble_eq_true rfl)⟩) hP hD hS hA rfl rfl rfl (by decide) (fun ad1 H locs hP hD hS => ?_)
  have hP : va_P D vwCl [] H := hP
  have hD : va_D A [] := hD
  refine lv_if_ne (tgt := 9) hx hb dJ1_indexOf_4cfef_4 (by decide) (fun z => absurd (by decide) z) (fun _ => ?_)
  refine lv_iconst (v := (-1)) hx hb dJ1_indexOf_4cfef_7 (by decide) ?_
  exact en_z hx hb hr hlk hP hD hS rfl (fun _ => 0) (is := []) rfl rfl (Nat.le_of_ble_eq_true rfl) (Nat.le_of_ble_eq_true rfl) dJ1_indexOf_4cfef_8
set_option maxHeartbeats 4000000 in
set_option maxRecDepth 100000 in
theorem k449_J0_indexOf_7cf53 (l : Launch) (D : va_G) (cy : Nat → ClassId) (g : Nat → Nat) (x0 : Int32) (sz : Nat) (h0 : x0 < 0) : Met l yJ0_indexOf_7cf53 [.code yJ0_indexOf_7cf53 cJ0_indexOf_7cf53 3 (some .int)] ({ frames := 2, cells := 0, slots := 0, locals := 43 }) (PC D cy g [] sz [.ref (g (1 + 1)), .int x0, .int 0]) (QI D (-1) (fun ad => []) (va_A [] sz)) 0 0 (va_A [] sz) := by
  refine st_I (by decide) (Nat.le_of_ble_eq_true rfl) ?_
  intro p e s m args below meth c A ls hx hb hr hml hown hlk hnm hsz hP hD hA hE hts hS hl
  have hown : s.vm.findClass RJ0 = some m.cls := hown
  have hl : lv_has ls 3 [(0, .ref (g (1 + 1))), (1, .int x0), (2, .int 0)] := hl
  refine lv_aload_n hx hb dJ0_indexOf_7cf53_0 rfl (lv_at hl 0 rfl) ?_
  refine ca_i (isC := []) (isR := []) (wr := []) (rn_VS (i := 1) (isC := []) (wc := []) (As := []) (rest := []) (n := 0) hx hb hml hown hts hE hS hP hD hA hl.1 (k393_J0_isLatin1_aae02 l D cy g  s.heap.size ) rfl rfl (by decide) rfl ax_192 rfl rfl ax_193 ⟨Nat.le_of_ble_eq_true rfl, Nat.le_of_ble_eq_true rfl⟩ rfl rfl (Nat.le_of_ble_eq_true rfl) dJ0_indexOf_7cf53_1 ⟨(Nat.le_of_ble_eq_true rfl), (Nat.le_of_ble_eq_true rfl)⟩) hP hD hS hA rfl rfl rfl (by decide) (fun ad1 H locs hP hD hS => ?_)
  have hP : va_P D vwCl [] H := hP
  have hD : va_D A [] := hD
  refine lv_if_eq (tgt := 23) hx hb dJ0_indexOf_7cf53_4 (by decide) (fun z => absurd z (by decide)) (fun _ => ?_)
  refine lv_aload_n hx hb dJ0_indexOf_7cf53_7 rfl (lv_at hl 0 rfl) ?_
  refine vk_getf (v := .ref (g (1 + 3))) hx hb (hE.2.2.2.2.2.2.2.2.2.2.1 1 (by decide)).2.2.1 hS hown (hts _ tw_632) (fun _ h9 => h9) dJ0_indexOf_7cf53_8 ?_
  refine lv_iload_n hx hb dJ0_indexOf_7cf53_11 rfl (lv_at hl 1 rfl) ?_
  refine lv_iload_n hx hb dJ0_indexOf_7cf53_12 rfl (lv_at hl 2 rfl) ?_
  refine lv_aload_n hx hb dJ0_indexOf_7cf53_13 rfl (lv_at hl 0 rfl) ?_
  refine ca_i (isC := []) (isR := []) (wr := []) (rn_VS (i := 1) (isC := []) (wc := []) (As := []) (rest := [.int 0, .int x0, .ref (g (1 + 3))]) (n := 0) hx hb hml hown hts hE hS hP hD hA hl.1 (k395_J0_length_8abf5 l D cy g  H.size ) rfl rfl (by decide) rfl ax_194 rfl rfl ax_195 ⟨Nat.le_of_ble_eq_true rfl, Nat.le_of_ble_eq_true rfl⟩ rfl rfl (Nat.le_of_ble_eq_true rfl) dJ0_indexOf_7cf53_14 ⟨(Nat.le_of_ble_eq_true rfl), (Nat.le_of_ble_eq_true rfl)⟩) hP hD hS hA rfl rfl rfl (by decide) (fun ad14 H locs hP hD hS => ?_)
  have hP : va_P D vwCl [] H := hP
  have hD : va_D A [] := hD
  refine ca_i (isC := []) (isR := []) (wr := []) (rn_S (isC := []) (wc := []) (As := [.ref (g (1 + 3)), .int x0, .int 0, .int 3]) (rest := []) (n := 4) hx hb hml hown hts hE hS hP hD hA hl.1 (k448_J1_indexOf_4cfef l D cy g x0 H.size h0) rfl rfl ax_196 rfl rfl ax_197 ⟨Nat.le_of_ble_eq_true rfl, Nat.le_of_ble_eq_true rfl⟩ rfl rfl (Nat.le_of_ble_eq_true rfl) dJ0_indexOf_7cf53_17 ⟨(Nat.le_of_ble_eq_true rfl), (Nat.le_of_ble_eq_true rfl)⟩) hP hD hS hA rfl rfl rfl (by decide) (fun ad17 H locs hP hD hS => ?_)
  have hP : va_P D vwCl [] H := hP
  have hD : va_D A [] := hD
  refine lv_goto (tgt := 36) hx hb dJ0_indexOf_7cf53_20 (by decide) ?_
  exact en_z hx hb hr hlk hP hD hS rfl (fun _ => 0) (is := []) rfl rfl (Nat.le_of_ble_eq_true rfl) (Nat.le_of_ble_eq_true rfl) dJ0_indexOf_7cf53_36
set_option maxHeartbeats 4000000 in
set_option maxRecDepth 100000 in
theorem k450_J0_indexOf_0f7a4 (l : Launch) (D : va_G) (cy : Nat → ClassId) (g : Nat → Nat) (x0 : Int32) (sz : Nat) (h0 : x0 < 0) : Met l yJ0_indexOf_0f7a4 [.code yJ0_indexOf_0f7a4 cJ0_indexOf_0f7a4 2 (some .int)] ({ frames := 3, cells := 0, slots := 0, locals := 65 }) (PC D cy g [] sz [.ref (g (1 + 1)), .int x0]) (QI D (-1) (fun ad => []) (va_A [] sz)) 0 0 (va_A [] sz) := by
  refine st_I (by decide) (Nat.le_of_ble_eq_true rfl) ?_
  intro p e s m args below meth c A ls hx hb hr hml hown hlk hnm hsz hP hD hA hE hts hS hl
  have hown : s.vm.findClass RJ0 = some m.cls := hown
  have hl : lv_has ls 2 [(0, .ref (g (1 + 1))), (1, .int x0)] := hl
  refine lv_aload_n hx hb dJ0_indexOf_0f7a4_0 rfl (lv_at hl 0 rfl) ?_
  refine lv_iload_n hx hb dJ0_indexOf_0f7a4_1 rfl (lv_at hl 1 rfl) ?_
  refine lv_iconst (v := 0) hx hb dJ0_indexOf_0f7a4_2 (by decide) ?_
  refine ca_i (isC := []) (isR := []) (wr := []) (rn_VS (i := 1) (isC := []) (wc := []) (As := [.int x0, .int 0]) (rest := []) (n := 2) hx hb hml hown hts hE hS hP hD hA hl.1 (k449_J0_indexOf_7cf53 l D cy g x0 s.heap.size h0) rfl rfl (by decide) rfl ax_198 rfl rfl ax_199 ⟨Nat.le_of_ble_eq_true rfl, Nat.le_of_ble_eq_true rfl⟩ rfl rfl (Nat.le_of_ble_eq_true rfl) dJ0_indexOf_0f7a4_3 ⟨(Nat.le_of_ble_eq_true rfl), (Nat.le_of_ble_eq_true rfl)⟩) hP hD hS hA rfl rfl rfl (by decide) (fun ad3 H locs hP hD hS => ?_)
  have hP : va_P D vwCl [] H := hP
  have hD : va_D A [] := hD
  exact en_z hx hb hr hlk hP hD hS rfl (fun _ => 0) (is := []) rfl rfl (Nat.le_of_ble_eq_true rfl) (Nat.le_of_ble_eq_true rfl) dJ0_indexOf_0f7a4_6
set_option maxHeartbeats 4000000 in
set_option maxRecDepth 100000 in
theorem k451_X10_addStroke (l : Launch) (D : va_G) (cy : Nat → ClassId) (g : Nat → Nat) (x0 : Int32) (x1 : Int32) (x2 : Int32) (a0 : Nat) (v0 : Value) (v1 : Value) (v2 : Value) (v3 : Value) (v4 : Value) (v5 : Value) (v6 : Value) (v7 : Value) (v8 : Value) (v9 : Value) (v10 : Value) (v11 : Value) (v12 : Value) (v13 : Value) (v14 : Value) (v15 : Value) (v16 : Value) (v17 : Value) (v18 : Value) (v19 : Value) (v20 : Value) (v21 : Value) (v22 : Value) (v23 : Value) (v24 : Value) (v25 : Value) (v26 : Value) (v27 : Value) (sz : Nat) (h0 : x0 < 0) : Met l yX10_addStroke [.code yX10_addStroke cX10_addStroke 4 (some .int)] ({ frames := 4, cells := 0, slots := 0, locals := 86 }) (PC D cy g [(a0, .inr (15, [v0, v1, v2, v3, v4, v5, v6, v7, v8, v9, v10, v11, v12, v13, v14, v15, v16, v17, v18, v19, v20, v21, v22, v23, v24, v25, v26, v27]))] sz [.ref a0, .int x0, .int x1, .int x2]) (QI D (-1) (fun ad => [(a0, .inr (15, [.int 1, v1, v2, v3, v4, v5, v6, v7, v8, v9, v10, v11, v12, v13, v14, v15, v16, v17, v18, v19, v20, v21, v22, v23, v24, v25, v26, v27]))]) (va_A [(a0, .inr (15, [v0, v1, v2, v3, v4, v5, v6, v7, v8, v9, v10, v11, v12, v13, v14, v15, v16, v17, v18, v19, v20, v21, v22, v23, v24, v25, v26, v27]))] sz)) 0 0 (va_A [(a0, .inr (15, [v0, v1, v2, v3, v4, v5, v6, v7, v8, v9, v10, v11, v12, v13, v14, v15, v16, v17, v18, v19, v20, v21, v22, v23, v24, v25, v26, v27]))] sz) := by
  refine st_I (by decide) (Nat.le_of_ble_eq_true rfl) ?_
  intro p e s m args below meth c A ls hx hb hr hml hown hlk hnm hsz hP hD hA hE hts hS hl
  have hown : s.vm.findClass RX10 = some m.cls := hown
  have hl : lv_has ls 4 [(0, .ref a0), (1, .int x0), (2, .int x1), (3, .int x2)] := hl
  refine lv_aload_n hx hb dX10_addStroke_0 rfl (lv_at hl 0 rfl) ?_
  refine ca_v (isC := [0]) (isR := []) (wr := []) (rn_V (ci := 15) (q0 := 0) (isC := [0]) (wc := [(a0, .inr (15, [v0, v1, v2, v3, v4, v5, v6, v7, v8, v9, v10, v11, v12, v13, v14, v15, v16, v17, v18, v19, v20, v21, v22, v23, v24, v25, v26, v27]))]) (As := []) (rest := []) (n := 0) hx hb hml hown hts hE hS hP hD hA hl.1 (k20_X10_begins l D cy g a0 (v0) (v1) (v2) (v3) (v4) (v5) (v6) (v7) (v8) (v9) (v10) (v11) (v12) (v13) (v14) (v15) (v16) (v17) (v18) (v19) (v20) (v21) (v22) (v23) (v24) (v25) (v26) (v27) s.heap.size ) rfl rfl rfl rfl rfl ax_37 rfl rfl ax_38 ⟨Nat.le_of_ble_eq_true rfl, Nat.le_of_ble_eq_true rfl⟩ rfl rfl (Nat.le_of_ble_eq_true rfl) dX10_addStroke_1 ⟨(Nat.le_of_ble_eq_true rfl), (Nat.le_of_ble_eq_true rfl)⟩) hP hD hS hA rfl rfl rfl (by decide) (fun ad1 H locs hP hD hS => ?_)
  have hP : va_P D vwCl [(a0, .inr (15, [.int 0, v1, v2, v3, v4, v5, v6, v7, v8, v9, v10, v11, v12, v13, v14, v15, v16, v17, v18, v19, v20, v21, v22, v23, v24, v25, v26, v27]))] H := hP
  have hD : va_D A [(a0, .inr (15, [.int 0, v1, v2, v3, v4, v5, v6, v7, v8, v9, v10, v11, v12, v13, v14, v15, v16, v17, v18, v19, v20, v21, v22, v23, v24, v25, v26, v27]))] := hD
  refine lv_aload_n hx hb dX10_addStroke_4 rfl (lv_at hl 0 rfl) ?_
  refine va_ldcS (tx := "aiv") (q := (g (1 + 1))) hx hb hown hE.2.2.1.2.2 dX10_addStroke_5 ?_
  refine lv_iload_n hx hb dX10_addStroke_7 rfl (lv_at hl 1 rfl) ?_
  refine ca_i (isC := []) (isR := [0]) (wr := [(a0, .inr (15, [.int 0, v1, v2, v3, v4, v5, v6, v7, v8, v9, v10, v11, v12, v13, v14, v15, v16, v17, v18, v19, v20, v21, v22, v23, v24, v25, v26, v27]))]) (rn_VS (i := 1) (isC := []) (wc := []) (As := [.int x0]) (rest := [.ref a0]) (n := 1) hx hb hml hown hts hE hS hP hD hA hl.1 (k450_J0_indexOf_0f7a4 l D cy g x0 H.size h0) rfl rfl (by decide) rfl ax_200 rfl rfl ax_201 ⟨Nat.le_of_ble_eq_true rfl, Nat.le_of_ble_eq_true rfl⟩ rfl rfl (Nat.le_of_ble_eq_true rfl) dX10_addStroke_8 ⟨(Nat.le_of_ble_eq_true rfl), (Nat.le_of_ble_eq_true rfl)⟩) hP hD hS hA rfl rfl rfl (by decide) (fun ad8 H locs hP hD hS => ?_)
  have hP : va_P D vwCl [(a0, .inr (15, [.int 0, v1, v2, v3, v4, v5, v6, v7, v8, v9, v10, v11, v12, v13, v14, v15, v16, v17, v18, v19, v20, v21, v22, v23, v24, v25, v26, v27]))] H := hP
  have hD : va_D A [(a0, .inr (15, [.int 0, v1, v2, v3, v4, v5, v6, v7, v8, v9, v10, v11, v12, v13, v14, v15, v16, v17, v18, v19, v20, v21, v22, v23, v24, v25, v26, v27]))] := hD
  refine lv_if_lt (tgt := 32) hx hb dX10_addStroke_11 (by decide) (fun _ => ?_) (fun z => absurd (by decide) z)
  refine lv_iconst (v := 1) hx hb dX10_addStroke_32 (by decide) ?_
  refine lv_goto (tgt := 37) hx hb dX10_addStroke_33 (by decide) ?_
  refine lv_iconst (v := 1) hx hb dX10_addStroke_37 (by decide) ?_
  refine ca_i (isC := [0]) (isR := []) (wr := []) (rn_V (ci := 15) (q0 := 0) (isC := [0]) (wc := [(a0, .inr (15, [.int 0, v1, v2, v3, v4, v5, v6, v7, v8, v9, v10, v11, v12, v13, v14, v15, v16, v17, v18, v19, v20, v21, v22, v23, v24, v25, v26, v27]))]) (As := [.int 1, .int 1]) (rest := []) (n := 2) hx hb hml hown hts hE hS hP hD hA hl.1 (k22_X10_fails l D cy g a0 (v1) (v2) (v3) (v4) (v5) (v6) (v7) (v8) (v9) (v10) (v11) (v12) (v13) (v14) (v15) (v16) (v17) (v18) (v19) (v20) (v21) (v22) (v23) (v24) (v25) (v26) (v27) H.size ) rfl rfl rfl rfl rfl ax_41 rfl rfl ax_42 ⟨Nat.le_of_ble_eq_true rfl, Nat.le_of_ble_eq_true rfl⟩ rfl rfl (Nat.le_of_ble_eq_true rfl) dX10_addStroke_38 ⟨(Nat.le_of_ble_eq_true rfl), (Nat.le_of_ble_eq_true rfl)⟩) hP hD hS hA rfl rfl rfl (by decide) (fun ad38 H locs hP hD hS => ?_)
  have hP : va_P D vwCl [(a0, .inr (15, [.int 1, v1, v2, v3, v4, v5, v6, v7, v8, v9, v10, v11, v12, v13, v14, v15, v16, v17, v18, v19, v20, v21, v22, v23, v24, v25, v26, v27]))] H := hP
  have hD : va_D A [(a0, .inr (15, [.int 1, v1, v2, v3, v4, v5, v6, v7, v8, v9, v10, v11, v12, v13, v14, v15, v16, v17, v18, v19, v20, v21, v22, v23, v24, v25, v26, v27]))] := hD
  refine lv_if_ne (tgt := 101) hx hb dX10_addStroke_41 (by decide) (fun _ => ?_) (fun z => absurd z (by decide))
  refine lv_iconst (v := (-1)) hx hb dX10_addStroke_101 (by decide) ?_
  exact en_z hx hb hr hlk hP hD hS rfl (fun _ => 0) (is := [0]) rfl rfl (Nat.le_of_ble_eq_true rfl) (Nat.le_of_ble_eq_true rfl) dX10_addStroke_102
set_option maxHeartbeats 4000000 in
set_option maxRecDepth 100000 in
theorem k452_J1_indexOf_4cfef (l : Launch) (D : va_G) (cy : Nat → ClassId) (g : Nat → Nat) (x0 : Int32) (sz : Nat) (h0 : ¬ x0 < 0) (h1 : (255 : Int32) < x0) : Met l yJ1_indexOf_4cfef [.code yJ1_indexOf_4cfef cJ1_indexOf_4cfef 4 (some .int)] ({ frames := 1, cells := 0, slots := 0, locals := 20 }) (PC D cy g [] sz [.ref (g (1 + 3)), .int x0, .int 0, .int 3]) (QI D (-1) (fun ad => []) (va_A [] sz)) 0 0 (va_A [] sz) := by
  refine st_I (by decide) (Nat.le_of_ble_eq_true rfl) ?_
  intro p e s m args below meth c A ls hx hb hr hml hown hlk hnm hsz hP hD hA hE hts hS hl
  have hown : s.vm.findClass RJ1 = some m.cls := hown
  have hl : lv_has ls 4 [(0, .ref (g (1 + 3))), (1, .int x0), (2, .int 0), (3, .int 3)] := hl
  refine lv_iload_n hx hb dJ1_indexOf_4cfef_0 rfl (lv_at hl 1 rfl) ?_
  refine ca_i (isC := []) (isR := []) (wr := []) (rn_S (isC := []) (wc := []) (As := [.int x0]) (rest := []) (n := 1) hx hb hml hown hts hE hS hP hD hA hl.1 (k304_J1_canEncode_9a6ad l D cy g x0 s.heap.size h0 h1) rfl rfl ax_188 rfl rfl ax_189 ⟨Nat.le_of_ble_eq_true rfl, Nat.le_of_ble_eq_true rfl⟩ rfl rfl (Nat.le_of_ble_eq_true rfl) dJ1_indexOf_4cfef_1 ⟨(Nat.le_of_ble_eq_true rfl), (Nat.le_of_ble_eq_true rfl)⟩) hP hD hS hA rfl rfl rfl (by decide) (fun ad1 H locs hP hD hS => ?_)
  have hP : va_P D vwCl [] H := hP
  have hD : va_D A [] := hD
  refine lv_if_ne (tgt := 9) hx hb dJ1_indexOf_4cfef_4 (by decide) (fun z => absurd (by decide) z) (fun _ => ?_)
  refine lv_iconst (v := (-1)) hx hb dJ1_indexOf_4cfef_7 (by decide) ?_
  exact en_z hx hb hr hlk hP hD hS rfl (fun _ => 0) (is := []) rfl rfl (Nat.le_of_ble_eq_true rfl) (Nat.le_of_ble_eq_true rfl) dJ1_indexOf_4cfef_8
set_option maxHeartbeats 4000000 in
set_option maxRecDepth 100000 in
theorem k453_J0_indexOf_7cf53 (l : Launch) (D : va_G) (cy : Nat → ClassId) (g : Nat → Nat) (x0 : Int32) (sz : Nat) (h0 : ¬ x0 < 0) (h1 : (255 : Int32) < x0) : Met l yJ0_indexOf_7cf53 [.code yJ0_indexOf_7cf53 cJ0_indexOf_7cf53 3 (some .int)] ({ frames := 2, cells := 0, slots := 0, locals := 43 }) (PC D cy g [] sz [.ref (g (1 + 1)), .int x0, .int 0]) (QI D (-1) (fun ad => []) (va_A [] sz)) 0 0 (va_A [] sz) := by
  refine st_I (by decide) (Nat.le_of_ble_eq_true rfl) ?_
  intro p e s m args below meth c A ls hx hb hr hml hown hlk hnm hsz hP hD hA hE hts hS hl
  have hown : s.vm.findClass RJ0 = some m.cls := hown
  have hl : lv_has ls 3 [(0, .ref (g (1 + 1))), (1, .int x0), (2, .int 0)] := hl
  refine lv_aload_n hx hb dJ0_indexOf_7cf53_0 rfl (lv_at hl 0 rfl) ?_
  refine ca_i (isC := []) (isR := []) (wr := []) (rn_VS (i := 1) (isC := []) (wc := []) (As := []) (rest := []) (n := 0) hx hb hml hown hts hE hS hP hD hA hl.1 (k393_J0_isLatin1_aae02 l D cy g  s.heap.size ) rfl rfl (by decide) rfl ax_192 rfl rfl ax_193 ⟨Nat.le_of_ble_eq_true rfl, Nat.le_of_ble_eq_true rfl⟩ rfl rfl (Nat.le_of_ble_eq_true rfl) dJ0_indexOf_7cf53_1 ⟨(Nat.le_of_ble_eq_true rfl), (Nat.le_of_ble_eq_true rfl)⟩) hP hD hS hA rfl rfl rfl (by decide) (fun ad1 H locs hP hD hS => ?_)
  have hP : va_P D vwCl [] H := hP
  have hD : va_D A [] := hD
  refine lv_if_eq (tgt := 23) hx hb dJ0_indexOf_7cf53_4 (by decide) (fun z => absurd z (by decide)) (fun _ => ?_)
  refine lv_aload_n hx hb dJ0_indexOf_7cf53_7 rfl (lv_at hl 0 rfl) ?_
  refine vk_getf (v := .ref (g (1 + 3))) hx hb (hE.2.2.2.2.2.2.2.2.2.2.1 1 (by decide)).2.2.1 hS hown (hts _ tw_632) (fun _ h9 => h9) dJ0_indexOf_7cf53_8 ?_
  refine lv_iload_n hx hb dJ0_indexOf_7cf53_11 rfl (lv_at hl 1 rfl) ?_
  refine lv_iload_n hx hb dJ0_indexOf_7cf53_12 rfl (lv_at hl 2 rfl) ?_
  refine lv_aload_n hx hb dJ0_indexOf_7cf53_13 rfl (lv_at hl 0 rfl) ?_
  refine ca_i (isC := []) (isR := []) (wr := []) (rn_VS (i := 1) (isC := []) (wc := []) (As := []) (rest := [.int 0, .int x0, .ref (g (1 + 3))]) (n := 0) hx hb hml hown hts hE hS hP hD hA hl.1 (k395_J0_length_8abf5 l D cy g  H.size ) rfl rfl (by decide) rfl ax_194 rfl rfl ax_195 ⟨Nat.le_of_ble_eq_true rfl, Nat.le_of_ble_eq_true rfl⟩ rfl rfl (Nat.le_of_ble_eq_true rfl) dJ0_indexOf_7cf53_14 ⟨(Nat.le_of_ble_eq_true rfl), (Nat.le_of_ble_eq_true rfl)⟩) hP hD hS hA rfl rfl rfl (by decide) (fun ad14 H locs hP hD hS => ?_)
  have hP : va_P D vwCl [] H := hP
  have hD : va_D A [] := hD
  refine ca_i (isC := []) (isR := []) (wr := []) (rn_S (isC := []) (wc := []) (As := [.ref (g (1 + 3)), .int x0, .int 0, .int 3]) (rest := []) (n := 4) hx hb hml hown hts hE hS hP hD hA hl.1 (k452_J1_indexOf_4cfef l D cy g x0 H.size h0 h1) rfl rfl ax_196 rfl rfl ax_197 ⟨Nat.le_of_ble_eq_true rfl, Nat.le_of_ble_eq_true rfl⟩ rfl rfl (Nat.le_of_ble_eq_true rfl) dJ0_indexOf_7cf53_17 ⟨(Nat.le_of_ble_eq_true rfl), (Nat.le_of_ble_eq_true rfl)⟩) hP hD hS hA rfl rfl rfl (by decide) (fun ad17 H locs hP hD hS => ?_)
  have hP : va_P D vwCl [] H := hP
  have hD : va_D A [] := hD
  refine lv_goto (tgt := 36) hx hb dJ0_indexOf_7cf53_20 (by decide) ?_
  exact en_z hx hb hr hlk hP hD hS rfl (fun _ => 0) (is := []) rfl rfl (Nat.le_of_ble_eq_true rfl) (Nat.le_of_ble_eq_true rfl) dJ0_indexOf_7cf53_36
set_option maxHeartbeats 4000000 in
set_option maxRecDepth 100000 in
theorem k454_J0_indexOf_0f7a4 (l : Launch) (D : va_G) (cy : Nat → ClassId) (g : Nat → Nat) (x0 : Int32) (sz : Nat) (h0 : ¬ x0 < 0) (h1 : (255 : Int32) < x0) : Met l yJ0_indexOf_0f7a4 [.code yJ0_indexOf_0f7a4 cJ0_indexOf_0f7a4 2 (some .int)] ({ frames := 3, cells := 0, slots := 0, locals := 65 }) (PC D cy g [] sz [.ref (g (1 + 1)), .int x0]) (QI D (-1) (fun ad => []) (va_A [] sz)) 0 0 (va_A [] sz) := by
  refine st_I (by decide) (Nat.le_of_ble_eq_true rfl) ?_
  intro p e s m args below meth c A ls hx hb hr hml hown hlk hnm hsz hP hD hA hE hts hS hl
  have hown : s.vm.findClass RJ0 = some m.cls := hown
  have hl : lv_has ls 2 [(0, .ref (g (1 + 1))), (1, .int x0)] := hl
  refine lv_aload_n hx hb dJ0_indexOf_0f7a4_0 rfl (lv_at hl 0 rfl) ?_
  refine lv_iload_n hx hb dJ0_indexOf_0f7a4_1 rfl (lv_at hl 1 rfl) ?_
  refine lv_iconst (v := 0) hx hb dJ0_indexOf_0f7a4_2 (by decide) ?_
  refine ca_i (isC := []) (isR := []) (wr := []) (rn_VS (i := 1) (isC := []) (wc := []) (As := [.int x0, .int 0]) (rest := []) (n := 2) hx hb hml hown hts hE hS hP hD hA hl.1 (k453_J0_indexOf_7cf53 l D cy g x0 s.heap.size h0 h1) rfl rfl (by decide) rfl ax_198 rfl rfl ax_199 ⟨Nat.le_of_ble_eq_true rfl, Nat.le_of_ble_eq_true rfl⟩ rfl rfl (Nat.le_of_ble_eq_true rfl) dJ0_indexOf_0f7a4_3 ⟨(Nat.le_of_ble_eq_true rfl), (Nat.le_of_ble_eq_true rfl)⟩) hP hD hS hA rfl rfl rfl (by decide) (fun ad3 H locs hP hD hS => ?_)
  have hP : va_P D vwCl [] H := hP
  have hD : va_D A [] := hD
  exact en_z hx hb hr hlk hP hD hS rfl (fun _ => 0) (is := []) rfl rfl (Nat.le_of_ble_eq_true rfl) (Nat.le_of_ble_eq_true rfl) dJ0_indexOf_0f7a4_6
set_option maxHeartbeats 4000000 in
set_option maxRecDepth 100000 in
theorem k455_X10_addStroke (l : Launch) (D : va_G) (cy : Nat → ClassId) (g : Nat → Nat) (x0 : Int32) (x1 : Int32) (x2 : Int32) (a0 : Nat) (v0 : Value) (v1 : Value) (v2 : Value) (v3 : Value) (v4 : Value) (v5 : Value) (v6 : Value) (v7 : Value) (v8 : Value) (v9 : Value) (v10 : Value) (v11 : Value) (v12 : Value) (v13 : Value) (v14 : Value) (v15 : Value) (v16 : Value) (v17 : Value) (v18 : Value) (v19 : Value) (v20 : Value) (v21 : Value) (v22 : Value) (v23 : Value) (v24 : Value) (v25 : Value) (v26 : Value) (v27 : Value) (sz : Nat) (h0 : ¬ x0 < 0) (h1 : (255 : Int32) < x0) : Met l yX10_addStroke [.code yX10_addStroke cX10_addStroke 4 (some .int)] ({ frames := 4, cells := 0, slots := 0, locals := 86 }) (PC D cy g [(a0, .inr (15, [v0, v1, v2, v3, v4, v5, v6, v7, v8, v9, v10, v11, v12, v13, v14, v15, v16, v17, v18, v19, v20, v21, v22, v23, v24, v25, v26, v27]))] sz [.ref a0, .int x0, .int x1, .int x2]) (QI D (-1) (fun ad => [(a0, .inr (15, [.int 1, v1, v2, v3, v4, v5, v6, v7, v8, v9, v10, v11, v12, v13, v14, v15, v16, v17, v18, v19, v20, v21, v22, v23, v24, v25, v26, v27]))]) (va_A [(a0, .inr (15, [v0, v1, v2, v3, v4, v5, v6, v7, v8, v9, v10, v11, v12, v13, v14, v15, v16, v17, v18, v19, v20, v21, v22, v23, v24, v25, v26, v27]))] sz)) 0 0 (va_A [(a0, .inr (15, [v0, v1, v2, v3, v4, v5, v6, v7, v8, v9, v10, v11, v12, v13, v14, v15, v16, v17, v18, v19, v20, v21, v22, v23, v24, v25, v26, v27]))] sz) := by
  refine st_I (by decide) (Nat.le_of_ble_eq_true rfl) ?_
  intro p e s m args below meth c A ls hx hb hr hml hown hlk hnm hsz hP hD hA hE hts hS hl
  have hown : s.vm.findClass RX10 = some m.cls := hown
  have hl : lv_has ls 4 [(0, .ref a0), (1, .int x0), (2, .int x1), (3, .int x2)] := hl
  refine lv_aload_n hx hb dX10_addStroke_0 rfl (lv_at hl 0 rfl) ?_
  refine ca_v (isC := [0]) (isR := []) (wr := []) (rn_V (ci := 15) (q0 := 0) (isC := [0]) (wc := [(a0, .inr (15, [v0, v1, v2, v3, v4, v5, v6, v7, v8, v9, v10, v11, v12, v13, v14, v15, v16, v17, v18, v19, v20, v21, v22, v23, v24, v25, v26, v27]))]) (As := []) (rest := []) (n := 0) hx hb hml hown hts hE hS hP hD hA hl.1 (k20_X10_begins l D cy g a0 (v0) (v1) (v2) (v3) (v4) (v5) (v6) (v7) (v8) (v9) (v10) (v11) (v12) (v13) (v14) (v15) (v16) (v17) (v18) (v19) (v20) (v21) (v22) (v23) (v24) (v25) (v26) (v27) s.heap.size ) rfl rfl rfl rfl rfl ax_37 rfl rfl ax_38 ⟨Nat.le_of_ble_eq_true rfl, Nat.le_of_ble_eq_true rfl⟩ rfl rfl (Nat.le_of_ble_eq_true rfl) dX10_addStroke_1 ⟨(Nat.le_of_ble_eq_true rfl), (Nat.le_of_ble_eq_true rfl)⟩) hP hD hS hA rfl rfl rfl (by decide) (fun ad1 H locs hP hD hS => ?_)
  have hP : va_P D vwCl [(a0, .inr (15, [.int 0, v1, v2, v3, v4, v5, v6, v7, v8, v9, v10, v11, v12, v13, v14, v15, v16, v17, v18, v19, v20, v21, v22, v23, v24, v25, v26, v27]))] H := hP
  have hD : va_D A [(a0, .inr (15, [.int 0, v1, v2, v3, v4, v5, v6, v7, v8, v9, v10, v11, v12, v13, v14, v15, v16, v17, v18, v19, v20, v21, v22, v23, v24, v25, v26, v27]))] := hD
  refine lv_aload_n hx hb dX10_addStroke_4 rfl (lv_at hl 0 rfl) ?_
  refine va_ldcS (tx := "aiv") (q := (g (1 + 1))) hx hb hown hE.2.2.1.2.2 dX10_addStroke_5 ?_
  refine lv_iload_n hx hb dX10_addStroke_7 rfl (lv_at hl 1 rfl) ?_
  refine ca_i (isC := []) (isR := [0]) (wr := [(a0, .inr (15, [.int 0, v1, v2, v3, v4, v5, v6, v7, v8, v9, v10, v11, v12, v13, v14, v15, v16, v17, v18, v19, v20, v21, v22, v23, v24, v25, v26, v27]))]) (rn_VS (i := 1) (isC := []) (wc := []) (As := [.int x0]) (rest := [.ref a0]) (n := 1) hx hb hml hown hts hE hS hP hD hA hl.1 (k454_J0_indexOf_0f7a4 l D cy g x0 H.size h0 h1) rfl rfl (by decide) rfl ax_200 rfl rfl ax_201 ⟨Nat.le_of_ble_eq_true rfl, Nat.le_of_ble_eq_true rfl⟩ rfl rfl (Nat.le_of_ble_eq_true rfl) dX10_addStroke_8 ⟨(Nat.le_of_ble_eq_true rfl), (Nat.le_of_ble_eq_true rfl)⟩) hP hD hS hA rfl rfl rfl (by decide) (fun ad8 H locs hP hD hS => ?_)
  have hP : va_P D vwCl [(a0, .inr (15, [.int 0, v1, v2, v3, v4, v5, v6, v7, v8, v9, v10, v11, v12, v13, v14, v15, v16, v17, v18, v19, v20, v21, v22, v23, v24, v25, v26, v27]))] H := hP
  have hD : va_D A [(a0, .inr (15, [.int 0, v1, v2, v3, v4, v5, v6, v7, v8, v9, v10, v11, v12, v13, v14, v15, v16, v17, v18, v19, v20, v21, v22, v23, v24, v25, v26, v27]))] := hD
  refine lv_if_lt (tgt := 32) hx hb dX10_addStroke_11 (by decide) (fun _ => ?_) (fun z => absurd (by decide) z)
  refine lv_iconst (v := 1) hx hb dX10_addStroke_32 (by decide) ?_
  refine lv_goto (tgt := 37) hx hb dX10_addStroke_33 (by decide) ?_
  refine lv_iconst (v := 1) hx hb dX10_addStroke_37 (by decide) ?_
  refine ca_i (isC := [0]) (isR := []) (wr := []) (rn_V (ci := 15) (q0 := 0) (isC := [0]) (wc := [(a0, .inr (15, [.int 0, v1, v2, v3, v4, v5, v6, v7, v8, v9, v10, v11, v12, v13, v14, v15, v16, v17, v18, v19, v20, v21, v22, v23, v24, v25, v26, v27]))]) (As := [.int 1, .int 1]) (rest := []) (n := 2) hx hb hml hown hts hE hS hP hD hA hl.1 (k22_X10_fails l D cy g a0 (v1) (v2) (v3) (v4) (v5) (v6) (v7) (v8) (v9) (v10) (v11) (v12) (v13) (v14) (v15) (v16) (v17) (v18) (v19) (v20) (v21) (v22) (v23) (v24) (v25) (v26) (v27) H.size ) rfl rfl rfl rfl rfl ax_41 rfl rfl ax_42 ⟨Nat.le_of_ble_eq_true rfl, Nat.le_of_ble_eq_true rfl⟩ rfl rfl (Nat.le_of_ble_eq_true rfl) dX10_addStroke_38 ⟨(Nat.le_of_ble_eq_true rfl), (Nat.le_of_ble_eq_true rfl)⟩) hP hD hS hA rfl rfl rfl (by decide) (fun ad38 H locs hP hD hS => ?_)
  have hP : va_P D vwCl [(a0, .inr (15, [.int 1, v1, v2, v3, v4, v5, v6, v7, v8, v9, v10, v11, v12, v13, v14, v15, v16, v17, v18, v19, v20, v21, v22, v23, v24, v25, v26, v27]))] H := hP
  have hD : va_D A [(a0, .inr (15, [.int 1, v1, v2, v3, v4, v5, v6, v7, v8, v9, v10, v11, v12, v13, v14, v15, v16, v17, v18, v19, v20, v21, v22, v23, v24, v25, v26, v27]))] := hD
  refine lv_if_ne (tgt := 101) hx hb dX10_addStroke_41 (by decide) (fun _ => ?_) (fun z => absurd z (by decide))
  refine lv_iconst (v := (-1)) hx hb dX10_addStroke_101 (by decide) ?_
  exact en_z hx hb hr hlk hP hD hS rfl (fun _ => 0) (is := [0]) rfl rfl (Nat.le_of_ble_eq_true rfl) (Nat.le_of_ble_eq_true rfl) dX10_addStroke_102
set_option maxHeartbeats 4000000 in
set_option maxRecDepth 100000 in
theorem k456_J1_indexOfChar_4cfef (l : Launch) (D : va_G) (cy : Nat → ClassId) (g : Nat → Nat) (x0 : Int32) (sz : Nat) (h0 : ¬ (97 : Int32) = x0.toInt8.toInt32) (h1 : ¬ (105 : Int32) = x0.toInt8.toInt32) (h2 : ¬ (118 : Int32) = x0.toInt8.toInt32) : Met l yJ1_indexOfChar_4cfef [.code yJ1_indexOfChar_4cfef cJ1_indexOfChar_4cfef 6 (some .int)] ({ frames := 0, cells := 0, slots := 0, locals := 0 }) (PC D cy g [] sz [.ref (g (1 + 3)), .int x0, .int 0, .int 3]) (QI D (-1) (fun ad => []) (va_A [] sz)) 0 0 (va_A [] sz) := by
  refine st_I (by decide) (Nat.le_of_ble_eq_true rfl) ?_
  intro p e s m args below meth c A ls hx hb hr hml hown hlk hnm hsz hP hD hA hE hts hS hl
  have hown : s.vm.findClass RJ1 = some m.cls := hown
  have hl : lv_has ls 6 [(0, .ref (g (1 + 3))), (1, .int x0), (2, .int 0), (3, .int 3)] := hl
  refine lv_iload_n hx hb dJ1_indexOfChar_4cfef_0 rfl (lv_at hl 1 rfl) ?_
  refine lv_i2b (v := x0.toInt8.toInt32) hx hb dJ1_indexOfChar_4cfef_1 rfl ?_
  refine lv_istore (lv' := [(4, .int x0.toInt8.toInt32), (0, .ref (g (1 + 3))), (1, .int x0), (2, .int 0), (3, .int 3)]) hx hb dJ1_indexOfChar_4cfef_2 hl (Nat.le_of_ble_eq_true rfl) rfl (fun ls hl => ?_)
  refine lv_iload_n hx hb dJ1_indexOfChar_4cfef_4 rfl (lv_at hl 3 rfl) ?_
  refine lv_istore (lv' := [(5, .int 0), (4, .int x0.toInt8.toInt32), (0, .ref (g (1 + 3))), (1, .int x0), (2, .int 0), (3, .int 3)]) hx hb dJ1_indexOfChar_4cfef_5 hl (Nat.le_of_ble_eq_true rfl) rfl (fun ls hl => ?_)
  refine lv_iload hx hb dJ1_indexOfChar_4cfef_7 (lv_at hl 0 rfl) ?_
  refine lv_iload_n hx hb dJ1_indexOfChar_4cfef_9 rfl (lv_at hl 5 rfl) ?_
  refine lv_icmp_ge (tgt := 31) hx hb dJ1_indexOfChar_4cfef_10 (by decide) (fun z => absurd z (by decide)) (fun _ => ?_)
  refine lv_aload_n hx hb dJ1_indexOfChar_4cfef_13 rfl (lv_at hl 2 rfl) ?_
  refine lv_iload hx hb dJ1_indexOfChar_4cfef_14 (lv_at hl 0 rfl) ?_
  refine va_tb (v := .int 97) hx hb (hE.2.2.2.2.2.2.2.2.2.2.1 1 (by decide)).2.2.2 hS (by unfold vp_in; decide) rfl dJ1_indexOfChar_4cfef_16 ?_
  refine lv_iload hx hb dJ1_indexOfChar_4cfef_17 (lv_at hl 1 rfl) ?_
  refine lv_icmp_ne (tgt := 25) hx hb dJ1_indexOfChar_4cfef_19 (by decide) (fun _ => ?_) (fun z => absurd z h0)
  refine lv_iinc (v := 1) (lv' := [(5, .int 1), (4, .int x0.toInt8.toInt32), (0, .ref (g (1 + 3))), (1, .int x0), (2, .int 0), (3, .int 3)]) hx hb dJ1_indexOfChar_4cfef_25 hl (k := 0) rfl (by decide) (Nat.le_of_ble_eq_true rfl) rfl (fun ls hl => ?_)
  refine lv_goto (tgt := 7) hx hb dJ1_indexOfChar_4cfef_28 (by decide) ?_
  refine lv_iload hx hb dJ1_indexOfChar_4cfef_7 (lv_at hl 0 rfl) ?_
  refine lv_iload_n hx hb dJ1_indexOfChar_4cfef_9 rfl (lv_at hl 5 rfl) ?_
  refine lv_icmp_ge (tgt := 31) hx hb dJ1_indexOfChar_4cfef_10 (by decide) (fun z => absurd z (by decide)) (fun _ => ?_)
  refine lv_aload_n hx hb dJ1_indexOfChar_4cfef_13 rfl (lv_at hl 2 rfl) ?_
  refine lv_iload hx hb dJ1_indexOfChar_4cfef_14 (lv_at hl 0 rfl) ?_
  refine va_tb (v := .int 105) hx hb (hE.2.2.2.2.2.2.2.2.2.2.1 1 (by decide)).2.2.2 hS (by unfold vp_in; decide) rfl dJ1_indexOfChar_4cfef_16 ?_
  refine lv_iload hx hb dJ1_indexOfChar_4cfef_17 (lv_at hl 1 rfl) ?_
  refine lv_icmp_ne (tgt := 25) hx hb dJ1_indexOfChar_4cfef_19 (by decide) (fun _ => ?_) (fun z => absurd z h1)
  refine lv_iinc (v := 2) (lv' := [(5, .int 2), (4, .int x0.toInt8.toInt32), (0, .ref (g (1 + 3))), (1, .int x0), (2, .int 0), (3, .int 3)]) hx hb dJ1_indexOfChar_4cfef_25 hl (k := 0) rfl (by decide) (Nat.le_of_ble_eq_true rfl) rfl (fun ls hl => ?_)
  refine lv_goto (tgt := 7) hx hb dJ1_indexOfChar_4cfef_28 (by decide) ?_
  refine lv_iload hx hb dJ1_indexOfChar_4cfef_7 (lv_at hl 0 rfl) ?_
  refine lv_iload_n hx hb dJ1_indexOfChar_4cfef_9 rfl (lv_at hl 5 rfl) ?_
  refine lv_icmp_ge (tgt := 31) hx hb dJ1_indexOfChar_4cfef_10 (by decide) (fun z => absurd z (by decide)) (fun _ => ?_)
  refine lv_aload_n hx hb dJ1_indexOfChar_4cfef_13 rfl (lv_at hl 2 rfl) ?_
  refine lv_iload hx hb dJ1_indexOfChar_4cfef_14 (lv_at hl 0 rfl) ?_
  refine va_tb (v := .int 118) hx hb (hE.2.2.2.2.2.2.2.2.2.2.1 1 (by decide)).2.2.2 hS (by unfold vp_in; decide) rfl dJ1_indexOfChar_4cfef_16 ?_
  refine lv_iload hx hb dJ1_indexOfChar_4cfef_17 (lv_at hl 1 rfl) ?_
  refine lv_icmp_ne (tgt := 25) hx hb dJ1_indexOfChar_4cfef_19 (by decide) (fun _ => ?_) (fun z => absurd z h2)
  refine lv_iinc (v := 3) (lv' := [(5, .int 3), (4, .int x0.toInt8.toInt32), (0, .ref (g (1 + 3))), (1, .int x0), (2, .int 0), (3, .int 3)]) hx hb dJ1_indexOfChar_4cfef_25 hl (k := 0) rfl (by decide) (Nat.le_of_ble_eq_true rfl) rfl (fun ls hl => ?_)
  refine lv_goto (tgt := 7) hx hb dJ1_indexOfChar_4cfef_28 (by decide) ?_
  refine lv_iload hx hb dJ1_indexOfChar_4cfef_7 (lv_at hl 0 rfl) ?_
  refine lv_iload_n hx hb dJ1_indexOfChar_4cfef_9 rfl (lv_at hl 5 rfl) ?_
  refine lv_icmp_ge (tgt := 31) hx hb dJ1_indexOfChar_4cfef_10 (by decide) (fun _ => ?_) (fun z => absurd (by decide) z)
  refine lv_iconst (v := (-1)) hx hb dJ1_indexOfChar_4cfef_31 (by decide) ?_
  exact en_z hx hb hr hlk hP hD hS rfl (fun _ => 0) (is := []) rfl rfl (Nat.le_of_ble_eq_true rfl) (Nat.le_of_ble_eq_true rfl) dJ1_indexOfChar_4cfef_32
set_option maxHeartbeats 4000000 in
set_option maxRecDepth 100000 in
theorem k457_J1_indexOf_4cfef (l : Launch) (D : va_G) (cy : Nat → ClassId) (g : Nat → Nat) (x0 : Int32) (sz : Nat) (h0 : ¬ x0 < 0) (h1 : ¬ (255 : Int32) < x0) (h2 : ¬ (97 : Int32) = x0.toInt8.toInt32) (h3 : ¬ (105 : Int32) = x0.toInt8.toInt32) (h4 : ¬ (118 : Int32) = x0.toInt8.toInt32) : Met l yJ1_indexOf_4cfef [.code yJ1_indexOf_4cfef cJ1_indexOf_4cfef 4 (some .int)] ({ frames := 1, cells := 0, slots := 0, locals := 25 }) (PC D cy g [] sz [.ref (g (1 + 3)), .int x0, .int 0, .int 3]) (QI D (-1) (fun ad => []) (va_A [] sz)) 0 0 (va_A [] sz) := by
  refine st_I (by decide) (Nat.le_of_ble_eq_true rfl) ?_
  intro p e s m args below meth c A ls hx hb hr hml hown hlk hnm hsz hP hD hA hE hts hS hl
  have hown : s.vm.findClass RJ1 = some m.cls := hown
  have hl : lv_has ls 4 [(0, .ref (g (1 + 3))), (1, .int x0), (2, .int 0), (3, .int 3)] := hl
  refine lv_iload_n hx hb dJ1_indexOf_4cfef_0 rfl (lv_at hl 1 rfl) ?_
  refine ca_i (isC := []) (isR := []) (wr := []) (rn_S (isC := []) (wc := []) (As := [.int x0]) (rest := []) (n := 1) hx hb hml hown hts hE hS hP hD hA hl.1 (k309_J1_canEncode_9a6ad l D cy g x0 s.heap.size h0 h1) rfl rfl ax_188 rfl rfl ax_189 ⟨Nat.le_of_ble_eq_true rfl, Nat.le_of_ble_eq_true rfl⟩ rfl rfl (Nat.le_of_ble_eq_true rfl) dJ1_indexOf_4cfef_1 ⟨(Nat.le_of_ble_eq_true rfl), (Nat.le_of_ble_eq_true rfl)⟩) hP hD hS hA rfl rfl rfl (by decide) (fun ad1 H locs hP hD hS => ?_)
  have hP : va_P D vwCl [] H := hP
  have hD : va_D A [] := hD
  refine lv_if_ne (tgt := 9) hx hb dJ1_indexOf_4cfef_4 (by decide) (fun _ => ?_) (fun z => absurd z (by decide))
  refine lv_iload_n hx hb dJ1_indexOf_4cfef_9 rfl (lv_at hl 2 rfl) ?_
  refine lv_iconst (v := 0) hx hb dJ1_indexOf_4cfef_10 (by decide) ?_
  refine va_mmax hx hb (hml.trans hl.1.symm) hown (hts _ tw_642) (hts _ tw_344) (hts _ tw_345) (hts _ tw_346) (Nat.le_of_ble_eq_true rfl) (Nat.le_of_ble_eq_true rfl) (Nat.le_of_ble_eq_true rfl) (Nat.le_of_ble_eq_true rfl) dJ1_indexOf_4cfef_11 ?_
  refine tp_i 0 (by decide) ?_
  refine lv_istore_n (lv' := [(2, .int 0), (0, .ref (g (1 + 3))), (1, .int x0), (3, .int 3)]) hx hb dJ1_indexOf_4cfef_14 rfl hl (Nat.le_of_ble_eq_true rfl) rfl (fun ls hl => ?_)
  refine lv_iload_n hx hb dJ1_indexOf_4cfef_15 rfl (lv_at hl 3 rfl) ?_
  refine lv_aload_n hx hb dJ1_indexOf_4cfef_16 rfl (lv_at hl 1 rfl) ?_
  refine va_tlen (v := 3) hx hb (hE.2.2.2.2.2.2.2.2.2.2.1 1 (by decide)).2.2.2 hS (by decide) dJ1_indexOf_4cfef_17 ?_
  refine va_mmin hx hb (hml.trans hl.1.symm) hown (hts _ tw_643) (hts _ tw_644) (hts _ tw_345) (hts _ tw_645) (Nat.le_of_ble_eq_true rfl) (Nat.le_of_ble_eq_true rfl) (Nat.le_of_ble_eq_true rfl) (Nat.le_of_ble_eq_true rfl) dJ1_indexOf_4cfef_18 ?_
  refine tp_i 3 (by decide) ?_
  refine lv_istore_n (lv' := [(3, .int 3), (2, .int 0), (0, .ref (g (1 + 3))), (1, .int x0)]) hx hb dJ1_indexOf_4cfef_21 rfl hl (Nat.le_of_ble_eq_true rfl) rfl (fun ls hl => ?_)
  refine lv_iload_n hx hb dJ1_indexOf_4cfef_22 rfl (lv_at hl 1 rfl) ?_
  refine lv_iload_n hx hb dJ1_indexOf_4cfef_23 rfl (lv_at hl 0 rfl) ?_
  refine lv_icmp_lt (tgt := 29) hx hb dJ1_indexOf_4cfef_24 (by decide) (fun _ => ?_) (fun z => absurd (by decide) z)
  refine lv_aload_n hx hb dJ1_indexOf_4cfef_29 rfl (lv_at hl 2 rfl) ?_
  refine lv_iload_n hx hb dJ1_indexOf_4cfef_30 rfl (lv_at hl 3 rfl) ?_
  refine lv_iload_n hx hb dJ1_indexOf_4cfef_31 rfl (lv_at hl 1 rfl) ?_
  refine lv_iload_n hx hb dJ1_indexOf_4cfef_32 rfl (lv_at hl 0 rfl) ?_
  refine ca_i (isC := []) (isR := []) (wr := []) (rn_S (isC := []) (wc := []) (As := [.ref (g (1 + 3)), .int x0, .int 0, .int 3]) (rest := []) (n := 4) hx hb hml hown hts hE hS hP hD hA hl.1 (k456_J1_indexOfChar_4cfef l D cy g x0 H.size h2 h3 h4) rfl rfl ax_190 rfl rfl ax_191 ⟨Nat.le_of_ble_eq_true rfl, Nat.le_of_ble_eq_true rfl⟩ rfl rfl (Nat.le_of_ble_eq_true rfl) dJ1_indexOf_4cfef_33 ⟨(Nat.le_of_ble_eq_true rfl), (Nat.le_of_ble_eq_true rfl)⟩) hP hD hS hA rfl rfl rfl (by decide) (fun ad33 H locs hP hD hS => ?_)
  have hP : va_P D vwCl [] H := hP
  have hD : va_D A [] := hD
  exact en_z hx hb hr hlk hP hD hS rfl (fun _ => 0) (is := []) rfl rfl (Nat.le_of_ble_eq_true rfl) (Nat.le_of_ble_eq_true rfl) dJ1_indexOf_4cfef_36
set_option maxHeartbeats 4000000 in
set_option maxRecDepth 100000 in
theorem k458_J0_indexOf_7cf53 (l : Launch) (D : va_G) (cy : Nat → ClassId) (g : Nat → Nat) (x0 : Int32) (sz : Nat) (h0 : ¬ x0 < 0) (h1 : ¬ (255 : Int32) < x0) (h2 : ¬ (97 : Int32) = x0.toInt8.toInt32) (h3 : ¬ (105 : Int32) = x0.toInt8.toInt32) (h4 : ¬ (118 : Int32) = x0.toInt8.toInt32) : Met l yJ0_indexOf_7cf53 [.code yJ0_indexOf_7cf53 cJ0_indexOf_7cf53 3 (some .int)] ({ frames := 2, cells := 0, slots := 0, locals := 48 }) (PC D cy g [] sz [.ref (g (1 + 1)), .int x0, .int 0]) (QI D (-1) (fun ad => []) (va_A [] sz)) 0 0 (va_A [] sz) := by
  refine st_I (by decide) (Nat.le_of_ble_eq_true rfl) ?_
  intro p e s m args below meth c A ls hx hb hr hml hown hlk hnm hsz hP hD hA hE hts hS hl
  have hown : s.vm.findClass RJ0 = some m.cls := hown
  have hl : lv_has ls 3 [(0, .ref (g (1 + 1))), (1, .int x0), (2, .int 0)] := hl
  refine lv_aload_n hx hb dJ0_indexOf_7cf53_0 rfl (lv_at hl 0 rfl) ?_
  refine ca_i (isC := []) (isR := []) (wr := []) (rn_VS (i := 1) (isC := []) (wc := []) (As := []) (rest := []) (n := 0) hx hb hml hown hts hE hS hP hD hA hl.1 (k393_J0_isLatin1_aae02 l D cy g  s.heap.size ) rfl rfl (by decide) rfl ax_192 rfl rfl ax_193 ⟨Nat.le_of_ble_eq_true rfl, Nat.le_of_ble_eq_true rfl⟩ rfl rfl (Nat.le_of_ble_eq_true rfl) dJ0_indexOf_7cf53_1 ⟨(Nat.le_of_ble_eq_true rfl), (Nat.le_of_ble_eq_true rfl)⟩) hP hD hS hA rfl rfl rfl (by decide) (fun ad1 H locs hP hD hS => ?_)
  have hP : va_P D vwCl [] H := hP
  have hD : va_D A [] := hD
  refine lv_if_eq (tgt := 23) hx hb dJ0_indexOf_7cf53_4 (by decide) (fun z => absurd z (by decide)) (fun _ => ?_)
  refine lv_aload_n hx hb dJ0_indexOf_7cf53_7 rfl (lv_at hl 0 rfl) ?_
  refine vk_getf (v := .ref (g (1 + 3))) hx hb (hE.2.2.2.2.2.2.2.2.2.2.1 1 (by decide)).2.2.1 hS hown (hts _ tw_632) (fun _ h9 => h9) dJ0_indexOf_7cf53_8 ?_
  refine lv_iload_n hx hb dJ0_indexOf_7cf53_11 rfl (lv_at hl 1 rfl) ?_
  refine lv_iload_n hx hb dJ0_indexOf_7cf53_12 rfl (lv_at hl 2 rfl) ?_
  refine lv_aload_n hx hb dJ0_indexOf_7cf53_13 rfl (lv_at hl 0 rfl) ?_
  refine ca_i (isC := []) (isR := []) (wr := []) (rn_VS (i := 1) (isC := []) (wc := []) (As := []) (rest := [.int 0, .int x0, .ref (g (1 + 3))]) (n := 0) hx hb hml hown hts hE hS hP hD hA hl.1 (k395_J0_length_8abf5 l D cy g  H.size ) rfl rfl (by decide) rfl ax_194 rfl rfl ax_195 ⟨Nat.le_of_ble_eq_true rfl, Nat.le_of_ble_eq_true rfl⟩ rfl rfl (Nat.le_of_ble_eq_true rfl) dJ0_indexOf_7cf53_14 ⟨(Nat.le_of_ble_eq_true rfl), (Nat.le_of_ble_eq_true rfl)⟩) hP hD hS hA rfl rfl rfl (by decide) (fun ad14 H locs hP hD hS => ?_)
  have hP : va_P D vwCl [] H := hP
  have hD : va_D A [] := hD
  refine ca_i (isC := []) (isR := []) (wr := []) (rn_S (isC := []) (wc := []) (As := [.ref (g (1 + 3)), .int x0, .int 0, .int 3]) (rest := []) (n := 4) hx hb hml hown hts hE hS hP hD hA hl.1 (k457_J1_indexOf_4cfef l D cy g x0 H.size h0 h1 h2 h3 h4) rfl rfl ax_196 rfl rfl ax_197 ⟨Nat.le_of_ble_eq_true rfl, Nat.le_of_ble_eq_true rfl⟩ rfl rfl (Nat.le_of_ble_eq_true rfl) dJ0_indexOf_7cf53_17 ⟨(Nat.le_of_ble_eq_true rfl), (Nat.le_of_ble_eq_true rfl)⟩) hP hD hS hA rfl rfl rfl (by decide) (fun ad17 H locs hP hD hS => ?_)
  have hP : va_P D vwCl [] H := hP
  have hD : va_D A [] := hD
  refine lv_goto (tgt := 36) hx hb dJ0_indexOf_7cf53_20 (by decide) ?_
  exact en_z hx hb hr hlk hP hD hS rfl (fun _ => 0) (is := []) rfl rfl (Nat.le_of_ble_eq_true rfl) (Nat.le_of_ble_eq_true rfl) dJ0_indexOf_7cf53_36
set_option maxHeartbeats 4000000 in
set_option maxRecDepth 100000 in
theorem k459_J0_indexOf_0f7a4 (l : Launch) (D : va_G) (cy : Nat → ClassId) (g : Nat → Nat) (x0 : Int32) (sz : Nat) (h0 : ¬ x0 < 0) (h1 : ¬ (255 : Int32) < x0) (h2 : ¬ (97 : Int32) = x0.toInt8.toInt32) (h3 : ¬ (105 : Int32) = x0.toInt8.toInt32) (h4 : ¬ (118 : Int32) = x0.toInt8.toInt32) : Met l yJ0_indexOf_0f7a4 [.code yJ0_indexOf_0f7a4 cJ0_indexOf_0f7a4 2 (some .int)] ({ frames := 3, cells := 0, slots := 0, locals := 70 }) (PC D cy g [] sz [.ref (g (1 + 1)), .int x0]) (QI D (-1) (fun ad => []) (va_A [] sz)) 0 0 (va_A [] sz) := by
  refine st_I (by decide) (Nat.le_of_ble_eq_true rfl) ?_
  intro p e s m args below meth c A ls hx hb hr hml hown hlk hnm hsz hP hD hA hE hts hS hl
  have hown : s.vm.findClass RJ0 = some m.cls := hown
  have hl : lv_has ls 2 [(0, .ref (g (1 + 1))), (1, .int x0)] := hl
  refine lv_aload_n hx hb dJ0_indexOf_0f7a4_0 rfl (lv_at hl 0 rfl) ?_
  refine lv_iload_n hx hb dJ0_indexOf_0f7a4_1 rfl (lv_at hl 1 rfl) ?_
  refine lv_iconst (v := 0) hx hb dJ0_indexOf_0f7a4_2 (by decide) ?_
  refine ca_i (isC := []) (isR := []) (wr := []) (rn_VS (i := 1) (isC := []) (wc := []) (As := [.int x0, .int 0]) (rest := []) (n := 2) hx hb hml hown hts hE hS hP hD hA hl.1 (k458_J0_indexOf_7cf53 l D cy g x0 s.heap.size h0 h1 h2 h3 h4) rfl rfl (by decide) rfl ax_198 rfl rfl ax_199 ⟨Nat.le_of_ble_eq_true rfl, Nat.le_of_ble_eq_true rfl⟩ rfl rfl (Nat.le_of_ble_eq_true rfl) dJ0_indexOf_0f7a4_3 ⟨(Nat.le_of_ble_eq_true rfl), (Nat.le_of_ble_eq_true rfl)⟩) hP hD hS hA rfl rfl rfl (by decide) (fun ad3 H locs hP hD hS => ?_)
  have hP : va_P D vwCl [] H := hP
  have hD : va_D A [] := hD
  exact en_z hx hb hr hlk hP hD hS rfl (fun _ => 0) (is := []) rfl rfl (Nat.le_of_ble_eq_true rfl) (Nat.le_of_ble_eq_true rfl) dJ0_indexOf_0f7a4_6
set_option maxHeartbeats 4000000 in
set_option maxRecDepth 100000 in
theorem k460_X10_addStroke (l : Launch) (D : va_G) (cy : Nat → ClassId) (g : Nat → Nat) (x0 : Int32) (x1 : Int32) (x2 : Int32) (a0 : Nat) (v0 : Value) (v1 : Value) (v2 : Value) (v3 : Value) (v4 : Value) (v5 : Value) (v6 : Value) (v7 : Value) (v8 : Value) (v9 : Value) (v10 : Value) (v11 : Value) (v12 : Value) (v13 : Value) (v14 : Value) (v15 : Value) (v16 : Value) (v17 : Value) (v18 : Value) (v19 : Value) (v20 : Value) (v21 : Value) (v22 : Value) (v23 : Value) (v24 : Value) (v25 : Value) (v26 : Value) (v27 : Value) (sz : Nat) (h0 : ¬ x0 < 0) (h1 : ¬ (255 : Int32) < x0) (h2 : ¬ (97 : Int32) = x0.toInt8.toInt32) (h3 : ¬ (105 : Int32) = x0.toInt8.toInt32) (h4 : ¬ (118 : Int32) = x0.toInt8.toInt32) : Met l yX10_addStroke [.code yX10_addStroke cX10_addStroke 4 (some .int)] ({ frames := 4, cells := 0, slots := 0, locals := 91 }) (PC D cy g [(a0, .inr (15, [v0, v1, v2, v3, v4, v5, v6, v7, v8, v9, v10, v11, v12, v13, v14, v15, v16, v17, v18, v19, v20, v21, v22, v23, v24, v25, v26, v27]))] sz [.ref a0, .int x0, .int x1, .int x2]) (QI D (-1) (fun ad => [(a0, .inr (15, [.int 1, v1, v2, v3, v4, v5, v6, v7, v8, v9, v10, v11, v12, v13, v14, v15, v16, v17, v18, v19, v20, v21, v22, v23, v24, v25, v26, v27]))]) (va_A [(a0, .inr (15, [v0, v1, v2, v3, v4, v5, v6, v7, v8, v9, v10, v11, v12, v13, v14, v15, v16, v17, v18, v19, v20, v21, v22, v23, v24, v25, v26, v27]))] sz)) 0 0 (va_A [(a0, .inr (15, [v0, v1, v2, v3, v4, v5, v6, v7, v8, v9, v10, v11, v12, v13, v14, v15, v16, v17, v18, v19, v20, v21, v22, v23, v24, v25, v26, v27]))] sz) := by
  refine st_I (by decide) (Nat.le_of_ble_eq_true rfl) ?_
  intro p e s m args below meth c A ls hx hb hr hml hown hlk hnm hsz hP hD hA hE hts hS hl
  have hown : s.vm.findClass RX10 = some m.cls := hown
  have hl : lv_has ls 4 [(0, .ref a0), (1, .int x0), (2, .int x1), (3, .int x2)] := hl
  refine lv_aload_n hx hb dX10_addStroke_0 rfl (lv_at hl 0 rfl) ?_
  refine ca_v (isC := [0]) (isR := []) (wr := []) (rn_V (ci := 15) (q0 := 0) (isC := [0]) (wc := [(a0, .inr (15, [v0, v1, v2, v3, v4, v5, v6, v7, v8, v9, v10, v11, v12, v13, v14, v15, v16, v17, v18, v19, v20, v21, v22, v23, v24, v25, v26, v27]))]) (As := []) (rest := []) (n := 0) hx hb hml hown hts hE hS hP hD hA hl.1 (k20_X10_begins l D cy g a0 (v0) (v1) (v2) (v3) (v4) (v5) (v6) (v7) (v8) (v9) (v10) (v11) (v12) (v13) (v14) (v15) (v16) (v17) (v18) (v19) (v20) (v21) (v22) (v23) (v24) (v25) (v26) (v27) s.heap.size ) rfl rfl rfl rfl rfl ax_37 rfl rfl ax_38 ⟨Nat.le_of_ble_eq_true rfl, Nat.le_of_ble_eq_true rfl⟩ rfl rfl (Nat.le_of_ble_eq_true rfl) dX10_addStroke_1 ⟨(Nat.le_of_ble_eq_true rfl), (Nat.le_of_ble_eq_true rfl)⟩) hP hD hS hA rfl rfl rfl (by decide) (fun ad1 H locs hP hD hS => ?_)
  have hP : va_P D vwCl [(a0, .inr (15, [.int 0, v1, v2, v3, v4, v5, v6, v7, v8, v9, v10, v11, v12, v13, v14, v15, v16, v17, v18, v19, v20, v21, v22, v23, v24, v25, v26, v27]))] H := hP
  have hD : va_D A [(a0, .inr (15, [.int 0, v1, v2, v3, v4, v5, v6, v7, v8, v9, v10, v11, v12, v13, v14, v15, v16, v17, v18, v19, v20, v21, v22, v23, v24, v25, v26, v27]))] := hD
  refine lv_aload_n hx hb dX10_addStroke_4 rfl (lv_at hl 0 rfl) ?_
  refine va_ldcS (tx := "aiv") (q := (g (1 + 1))) hx hb hown hE.2.2.1.2.2 dX10_addStroke_5 ?_
  refine lv_iload_n hx hb dX10_addStroke_7 rfl (lv_at hl 1 rfl) ?_
  refine ca_i (isC := []) (isR := [0]) (wr := [(a0, .inr (15, [.int 0, v1, v2, v3, v4, v5, v6, v7, v8, v9, v10, v11, v12, v13, v14, v15, v16, v17, v18, v19, v20, v21, v22, v23, v24, v25, v26, v27]))]) (rn_VS (i := 1) (isC := []) (wc := []) (As := [.int x0]) (rest := [.ref a0]) (n := 1) hx hb hml hown hts hE hS hP hD hA hl.1 (k459_J0_indexOf_0f7a4 l D cy g x0 H.size h0 h1 h2 h3 h4) rfl rfl (by decide) rfl ax_200 rfl rfl ax_201 ⟨Nat.le_of_ble_eq_true rfl, Nat.le_of_ble_eq_true rfl⟩ rfl rfl (Nat.le_of_ble_eq_true rfl) dX10_addStroke_8 ⟨(Nat.le_of_ble_eq_true rfl), (Nat.le_of_ble_eq_true rfl)⟩) hP hD hS hA rfl rfl rfl (by decide) (fun ad8 H locs hP hD hS => ?_)
  have hP : va_P D vwCl [(a0, .inr (15, [.int 0, v1, v2, v3, v4, v5, v6, v7, v8, v9, v10, v11, v12, v13, v14, v15, v16, v17, v18, v19, v20, v21, v22, v23, v24, v25, v26, v27]))] H := hP
  have hD : va_D A [(a0, .inr (15, [.int 0, v1, v2, v3, v4, v5, v6, v7, v8, v9, v10, v11, v12, v13, v14, v15, v16, v17, v18, v19, v20, v21, v22, v23, v24, v25, v26, v27]))] := hD
  refine lv_if_lt (tgt := 32) hx hb dX10_addStroke_11 (by decide) (fun _ => ?_) (fun z => absurd (by decide) z)
  refine lv_iconst (v := 1) hx hb dX10_addStroke_32 (by decide) ?_
  refine lv_goto (tgt := 37) hx hb dX10_addStroke_33 (by decide) ?_
  refine lv_iconst (v := 1) hx hb dX10_addStroke_37 (by decide) ?_
  refine ca_i (isC := [0]) (isR := []) (wr := []) (rn_V (ci := 15) (q0 := 0) (isC := [0]) (wc := [(a0, .inr (15, [.int 0, v1, v2, v3, v4, v5, v6, v7, v8, v9, v10, v11, v12, v13, v14, v15, v16, v17, v18, v19, v20, v21, v22, v23, v24, v25, v26, v27]))]) (As := [.int 1, .int 1]) (rest := []) (n := 2) hx hb hml hown hts hE hS hP hD hA hl.1 (k22_X10_fails l D cy g a0 (v1) (v2) (v3) (v4) (v5) (v6) (v7) (v8) (v9) (v10) (v11) (v12) (v13) (v14) (v15) (v16) (v17) (v18) (v19) (v20) (v21) (v22) (v23) (v24) (v25) (v26) (v27) H.size ) rfl rfl rfl rfl rfl ax_41 rfl rfl ax_42 ⟨Nat.le_of_ble_eq_true rfl, Nat.le_of_ble_eq_true rfl⟩ rfl rfl (Nat.le_of_ble_eq_true rfl) dX10_addStroke_38 ⟨(Nat.le_of_ble_eq_true rfl), (Nat.le_of_ble_eq_true rfl)⟩) hP hD hS hA rfl rfl rfl (by decide) (fun ad38 H locs hP hD hS => ?_)
  have hP : va_P D vwCl [(a0, .inr (15, [.int 1, v1, v2, v3, v4, v5, v6, v7, v8, v9, v10, v11, v12, v13, v14, v15, v16, v17, v18, v19, v20, v21, v22, v23, v24, v25, v26, v27]))] H := hP
  have hD : va_D A [(a0, .inr (15, [.int 1, v1, v2, v3, v4, v5, v6, v7, v8, v9, v10, v11, v12, v13, v14, v15, v16, v17, v18, v19, v20, v21, v22, v23, v24, v25, v26, v27]))] := hD
  refine lv_if_ne (tgt := 101) hx hb dX10_addStroke_41 (by decide) (fun _ => ?_) (fun z => absurd z (by decide))
  refine lv_iconst (v := (-1)) hx hb dX10_addStroke_101 (by decide) ?_
  exact en_z hx hb hr hlk hP hD hS rfl (fun _ => 0) (is := [0]) rfl rfl (Nat.le_of_ble_eq_true rfl) (Nat.le_of_ble_eq_true rfl) dX10_addStroke_102
set_option maxHeartbeats 4000000 in
set_option maxRecDepth 100000 in
theorem k461_X1_removeAll (l : Launch) (D : va_G) (cy : Nat → ClassId) (g : Nat → Nat) (a0 : Nat) (v0 : Value) (v1 : Value) (v2 : Value) (v3 : Value) (v4 : Value) (v5 : Value) (v6 : Value) (v7 : Value) (v8 : Value) (v9 : Value) (v10 : Value) (v11 : Value) (sz : Nat)  : Met l yX1_removeAll [.code yX1_removeAll cX1_removeAll 2 (some .int)] ({ frames := 0, cells := 0, slots := 0, locals := 0 }) (PC D cy g [(a0, .inr (6, [v0, v1, v2, .int 0, v3, v4, v5, v6, v7, v8, v9, v10, v11]))] sz [.ref a0]) (QI D 0 (fun ad => [(a0, .inr (6, [v0, v1, v2, .int 0, v3, v4, v5, v6, v7, v8, v9, v10, v11]))]) (va_A [(a0, .inr (6, [v0, v1, v2, .int 0, v3, v4, v5, v6, v7, v8, v9, v10, v11]))] sz)) 0 0 (va_A [(a0, .inr (6, [v0, v1, v2, .int 0, v3, v4, v5, v6, v7, v8, v9, v10, v11]))] sz) := by
  refine st_I (by decide) (Nat.le_of_ble_eq_true rfl) ?_
  intro p e s m args below meth c A ls hx hb hr hml hown hlk hnm hsz hP hD hA hE hts hS hl
  have hown : s.vm.findClass RX1 = some m.cls := hown
  have hl : lv_has ls 2 [(0, .ref a0)] := hl
  refine lv_aload_n hx hb dX1_removeAll_0 rfl (lv_at hl 0 rfl) ?_
  refine va_get (D := D) (ci := 6) (v := .int 0) (C := RX1) (T := TX1) (N := 13) hx hb hts ax_7 hown hE.1 hP 0 rfl rfl 3 (by decide) (hts _ tw_110) (fun _ h9 => h9) rfl dX1_removeAll_1 ?_
  refine lv_istore_n (lv' := [(1, .int 0), (0, .ref a0)]) hx hb dX1_removeAll_4 rfl hl (Nat.le_of_ble_eq_true rfl) rfl (fun ls hl => ?_)
  refine lv_aload_n hx hb dX1_removeAll_5 rfl (lv_at hl 1 rfl) ?_
  refine lv_iconst (v := 0) hx hb dX1_removeAll_6 (by decide) ?_
  refine va_put (D := D) (ci := 6) (v := .int 0) (ty := .int) (C := RX1) (T := TX1) (N := 13) hx hb hts ax_7 tyX1 tyX1_ok nmX1 hown hE.1 hP hD hS 0 rfl rfl 3 (by decide) (hts _ tw_110) (fun _ h9 => h9) rfl (by decide +kernel) rfl rfl (Nat.le_of_ble_eq_true rfl) dX1_removeAll_7 (fun H locs hP hD hS => ?_)
  have hP : va_P D vwCl [(a0, .inr (6, [v0, v1, v2, .int 0, v3, v4, v5, v6, v7, v8, v9, v10, v11]))] H := hP
  have hD : va_D A [(a0, .inr (6, [v0, v1, v2, .int 0, v3, v4, v5, v6, v7, v8, v9, v10, v11]))] := hD
  refine lv_iload_n hx hb dX1_removeAll_10 rfl (lv_at hl 0 rfl) ?_
  exact en_z hx hb hr hlk hP hD hS rfl (fun _ => 0) (is := [0]) rfl rfl (Nat.le_of_ble_eq_true rfl) (Nat.le_of_ble_eq_true rfl) dX1_removeAll_11
set_option maxHeartbeats 4000000 in
set_option maxRecDepth 100000 in
theorem k462_X9_clearStrokes (l : Launch) (D : va_G) (cy : Nat → ClassId) (g : Nat → Nat) (a0 : Nat) (a1 : Nat) (v0 : Value) (v1 : Value) (v2 : Value) (v3 : Value) (v4 : Value) (v5 : Value) (v6 : Value) (v7 : Value) (v8 : Value) (v9 : Value) (v10 : Value) (v11 : Value) (v12 : Value) (v13 : Value) (v14 : Value) (v15 : Value) (v16 : Value) (v17 : Value) (sz : Nat)  : Met l yX9_clearStrokes [.code yX9_clearStrokes cX9_clearStrokes 1 (some .int)] ({ frames := 1, cells := 0, slots := 0, locals := 21 }) (PC D cy g [(a0, .inr (14, [v0, v1, v2, .ref a1, v3, v4, v5])), (a1, .inr (6, [v6, v7, v8, .int 0, v9, v10, v11, v12, v13, v14, v15, v16, v17]))] sz [.ref a0]) (QI D 0 (fun ad => []) (va_A [(a0, .inr (14, [v0, v1, v2, .ref a1, v3, v4, v5])), (a1, .inr (6, [v6, v7, v8, .int 0, v9, v10, v11, v12, v13, v14, v15, v16, v17]))] sz)) 0 0 (va_A [(a0, .inr (14, [v0, v1, v2, .ref a1, v3, v4, v5])), (a1, .inr (6, [v6, v7, v8, .int 0, v9, v10, v11, v12, v13, v14, v15, v16, v17]))] sz) := by
  refine st_I (by decide) (Nat.le_of_ble_eq_true rfl) ?_
  intro p e s m args below meth c A ls hx hb hr hml hown hlk hnm hsz hP hD hA hE hts hS hl
  have hown : s.vm.findClass RX9 = some m.cls := hown
  have hl : lv_has ls 1 [(0, .ref a0)] := hl
  refine lv_aload_n hx hb dX9_clearStrokes_0 rfl (lv_at hl 0 rfl) ?_
  refine va_get (D := D) (ci := 14) (v := .ref a1) (C := RX9) (T := TX9) (N := 7) hx hb hts ax_16 hown hE.1 hP 0 rfl rfl 3 (by decide) (hts _ tw_199) (fun _ h9 => h9) rfl dX9_clearStrokes_1 ?_
  refine ca_i (isC := [1]) (isR := [0]) (wr := [(a0, .inr (14, [v0, v1, v2, .ref a1, v3, v4, v5]))]) (rn_V (ci := 6) (q0 := 1) (isC := [1]) (wc := [(a1, .inr (6, [v6, v7, v8, .int 0, v9, v10, v11, v12, v13, v14, v15, v16, v17]))]) (As := []) (rest := []) (n := 0) hx hb hml hown hts hE hS hP hD hA hl.1 (k461_X1_removeAll l D cy g a1 (v6) (v7) (v8) (v9) (v10) (v11) (v12) (v13) (v14) (v15) (v16) (v17) s.heap.size ) rfl rfl rfl rfl rfl ax_293 rfl rfl ax_294 ⟨Nat.le_of_ble_eq_true rfl, Nat.le_of_ble_eq_true rfl⟩ rfl rfl (Nat.le_of_ble_eq_true rfl) dX9_clearStrokes_4 ⟨(Nat.le_of_ble_eq_true rfl), (Nat.le_of_ble_eq_true rfl)⟩) hP hD hS hA rfl rfl rfl (by decide) (fun ad4 H locs hP hD hS => ?_)
  have hP : va_P D vwCl [(a0, .inr (14, [v0, v1, v2, .ref a1, v3, v4, v5])), (a1, .inr (6, [v6, v7, v8, .int 0, v9, v10, v11, v12, v13, v14, v15, v16, v17]))] H := hP
  have hD : va_D A [(a0, .inr (14, [v0, v1, v2, .ref a1, v3, v4, v5])), (a1, .inr (6, [v6, v7, v8, .int 0, v9, v10, v11, v12, v13, v14, v15, v16, v17]))] := hD
  exact en_z hx hb hr hlk hP hD hS rfl (fun _ => 0) (is := []) rfl rfl (Nat.le_of_ble_eq_true rfl) (Nat.le_of_ble_eq_true rfl) dX9_clearStrokes_7
set_option maxHeartbeats 4000000 in
set_option maxRecDepth 100000 in
theorem k463_X10_clearStrokes (l : Launch) (D : va_G) (cy : Nat → ClassId) (g : Nat → Nat) (a0 : Nat) (a1 : Nat) (v0 : Value) (v1 : Value) (v2 : Value) (v3 : Value) (v4 : Value) (v5 : Value) (v6 : Value) (v7 : Value) (v8 : Value) (v9 : Value) (v10 : Value) (v11 : Value) (v12 : Value) (v13 : Value) (v14 : Value) (v15 : Value) (v16 : Value) (v17 : Value) (v18 : Value) (v19 : Value) (v20 : Value) (v21 : Value) (v22 : Value) (v23 : Value) (v24 : Value) (v25 : Value) (v26 : Value) (sz : Nat)  : Met l yX10_clearStrokes [.code yX10_clearStrokes cX10_clearStrokes 2 (some .int)] ({ frames := 1, cells := 0, slots := 0, locals := 23 }) (PC D cy g [(a0, .inr (15, [v0, v1, v2, v3, v4, v5, v6, v7, v8, v9, v10, v11, .ref a1, v12, v13, v14, v15, v16, v17, v18, v19, v20, v21, v22, v23, v24, v25, v26])), (a1, .inr (4, [.int 0, .ref (g 0), .int 0]))] sz [.ref a0]) (QI D 0 (fun ad => [(a0, .inr (15, [.int 0, v1, v2, v3, v4, v5, v6, v7, v8, v9, v10, v11, .ref a1, v12, v13, v14, v15, v16, v17, v18, v19, v20, v21, v22, v23, v24, v25, v26]))]) (va_A [(a0, .inr (15, [v0, v1, v2, v3, v4, v5, v6, v7, v8, v9, v10, v11, .ref a1, v12, v13, v14, v15, v16, v17, v18, v19, v20, v21, v22, v23, v24, v25, v26])), (a1, .inr (4, [.int 0, .ref (g 0), .int 0]))] sz)) 0 0 (va_A [(a0, .inr (15, [v0, v1, v2, v3, v4, v5, v6, v7, v8, v9, v10, v11, .ref a1, v12, v13, v14, v15, v16, v17, v18, v19, v20, v21, v22, v23, v24, v25, v26])), (a1, .inr (4, [.int 0, .ref (g 0), .int 0]))] sz) := by
  refine st_I (by decide) (Nat.le_of_ble_eq_true rfl) ?_
  intro p e s m args below meth c A ls hx hb hr hml hown hlk hnm hsz hP hD hA hE hts hS hl
  have hown : s.vm.findClass RX10 = some m.cls := hown
  have hl : lv_has ls 2 [(0, .ref a0)] := hl
  refine lv_aload_n hx hb dX10_clearStrokes_0 rfl (lv_at hl 0 rfl) ?_
  refine ca_v (isC := [0]) (isR := [1]) (wr := [(a1, .inr (4, [.int 0, .ref (g 0), .int 0]))]) (rn_V (ci := 15) (q0 := 0) (isC := [0]) (wc := [(a0, .inr (15, [v0, v1, v2, v3, v4, v5, v6, v7, v8, v9, v10, v11, .ref a1, v12, v13, v14, v15, v16, v17, v18, v19, v20, v21, v22, v23, v24, v25, v26]))]) (As := []) (rest := []) (n := 0) hx hb hml hown hts hE hS hP hD hA hl.1 (k20_X10_begins l D cy g a0 (v0) (v1) (v2) (v3) (v4) (v5) (v6) (v7) (v8) (v9) (v10) (v11) (.ref a1) (v12) (v13) (v14) (v15) (v16) (v17) (v18) (v19) (v20) (v21) (v22) (v23) (v24) (v25) (v26) s.heap.size ) rfl rfl rfl rfl rfl ax_37 rfl rfl ax_38 ⟨Nat.le_of_ble_eq_true rfl, Nat.le_of_ble_eq_true rfl⟩ rfl rfl (Nat.le_of_ble_eq_true rfl) dX10_clearStrokes_1 ⟨(Nat.le_of_ble_eq_true rfl), (Nat.le_of_ble_eq_true rfl)⟩) hP hD hS hA rfl rfl rfl (by decide) (fun ad1 H locs hP hD hS => ?_)
  have hP : va_P D vwCl [(a1, .inr (4, [.int 0, .ref (g 0), .int 0])), (a0, .inr (15, [.int 0, v1, v2, v3, v4, v5, v6, v7, v8, v9, v10, v11, .ref a1, v12, v13, v14, v15, v16, v17, v18, v19, v20, v21, v22, v23, v24, v25, v26]))] H := hP
  have hD : va_D A [(a1, .inr (4, [.int 0, .ref (g 0), .int 0])), (a0, .inr (15, [.int 0, v1, v2, v3, v4, v5, v6, v7, v8, v9, v10, v11, .ref a1, v12, v13, v14, v15, v16, v17, v18, v19, v20, v21, v22, v23, v24, v25, v26]))] := hD
  refine lv_aload_n hx hb dX10_clearStrokes_4 rfl (lv_at hl 0 rfl) ?_
  refine va_get (D := D) (ci := 15) (v := .ref a1) (C := RX10) (T := TX10) (N := 28) hx hb hts ax_29 hown hE.1 hP 1 rfl rfl 12 (by decide) (hts _ tw_283) (fun _ h9 => h9) rfl dX10_clearStrokes_5 ?_
  refine ca_Fi (isC := [0]) (isR := [1]) (wr := [(a0, .inr (15, [.int 0, v1, v2, v3, v4, v5, v6, v7, v8, v9, v10, v11, .ref a1, v12, v13, v14, v15, v16, v17, v18, v19, v20, v21, v22, v23, v24, v25, v26]))]) (rn_F (ci := 4) (q0 := 0) (isC := [0]) (wc := [(a1, .inr (4, [.int 0, .ref (g 0), .int 0]))]) (As := []) (rest := []) (n := 0) hx hb hml hown hts hE hS hP hD hA hl.1 (k44_Jx4a65c_size_8abf5 l D cy g a1 (.int 0) (.ref (g 0)) H.size ) rfl rfl rfl rfl rfl ax_59 tw_367 tw_368 tw_369 tw_370 tw_371 rfl rfl ax_60 ⟨Nat.le_of_ble_eq_true rfl, Nat.le_of_ble_eq_true rfl⟩ rfl rfl (Nat.le_of_ble_eq_true rfl) dX10_clearStrokes_8 ⟨(Nat.le_of_ble_eq_true rfl), (Nat.le_of_ble_eq_true rfl)⟩) hP hD hS hA rfl rfl rfl (by decide) (fun ad8 H locs hP hD hS => ?_)
  have hP : va_P D vwCl [(a0, .inr (15, [.int 0, v1, v2, v3, v4, v5, v6, v7, v8, v9, v10, v11, .ref a1, v12, v13, v14, v15, v16, v17, v18, v19, v20, v21, v22, v23, v24, v25, v26])), (a1, .inr (4, [.int 0, .ref (g 0), .int 0]))] H := hP
  have hD : va_D A [(a0, .inr (15, [.int 0, v1, v2, v3, v4, v5, v6, v7, v8, v9, v10, v11, .ref a1, v12, v13, v14, v15, v16, v17, v18, v19, v20, v21, v22, v23, v24, v25, v26])), (a1, .inr (4, [.int 0, .ref (g 0), .int 0]))] := hD
  refine lv_istore_n (lv' := [(1, .int 0), (0, .ref a0)]) hx hb dX10_clearStrokes_13 rfl hl (Nat.le_of_ble_eq_true rfl) rfl (fun ls hl => ?_)
  refine lv_aload_n hx hb dX10_clearStrokes_14 rfl (lv_at hl 1 rfl) ?_
  refine va_get (D := D) (ci := 15) (v := .ref a1) (C := RX10) (T := TX10) (N := 28) hx hb hts ax_29 hown hE.1 hP 0 rfl rfl 12 (by decide) (hts _ tw_283) (fun _ h9 => h9) rfl dX10_clearStrokes_15 ?_
  refine ca_Fv (isC := [1]) (isR := [0]) (wr := [(a0, .inr (15, [.int 0, v1, v2, v3, v4, v5, v6, v7, v8, v9, v10, v11, .ref a1, v12, v13, v14, v15, v16, v17, v18, v19, v20, v21, v22, v23, v24, v25, v26]))]) (rn_F (ci := 4) (q0 := 1) (isC := [1]) (wc := [(a1, .inr (4, [.int 0, .ref (g 0), .int 0]))]) (As := []) (rest := []) (n := 0) hx hb hml hown hts hE hS hP hD hA hl.1 (k317_Jx4a65c_clear_da8c8 l D cy g a1 H.size ) rfl rfl rfl rfl rfl ax_213 tw_694 tw_695 tw_696 tw_697 tw_371 rfl rfl ax_214 ⟨Nat.le_of_ble_eq_true rfl, Nat.le_of_ble_eq_true rfl⟩ rfl rfl (Nat.le_of_ble_eq_true rfl) dX10_clearStrokes_18 ⟨(Nat.le_of_ble_eq_true rfl), (Nat.le_of_ble_eq_true rfl)⟩) hP hD hS hA rfl rfl rfl (by decide) (fun ad18 H locs hP hD hS => ?_)
  have hP : va_P D vwCl [(a0, .inr (15, [.int 0, v1, v2, v3, v4, v5, v6, v7, v8, v9, v10, v11, .ref a1, v12, v13, v14, v15, v16, v17, v18, v19, v20, v21, v22, v23, v24, v25, v26])), (a1, .inr (4, [.int 1, .ref (g 0), .int 0]))] H := hP
  have hD : va_D A [(a0, .inr (15, [.int 0, v1, v2, v3, v4, v5, v6, v7, v8, v9, v10, v11, .ref a1, v12, v13, v14, v15, v16, v17, v18, v19, v20, v21, v22, v23, v24, v25, v26])), (a1, .inr (4, [.int 1, .ref (g 0), .int 0]))] := hD
  refine lv_iload_n hx hb dX10_clearStrokes_23 rfl (lv_at hl 0 rfl) ?_
  exact en_z hx hb hr hlk hP hD hS rfl (fun _ => 0) (is := [0]) rfl rfl (Nat.le_of_ble_eq_true rfl) (Nat.le_of_ble_eq_true rfl) dX10_clearStrokes_24
set_option maxHeartbeats 4000000 in
set_option maxRecDepth 100000 in
theorem k464_X9_runCycles (l : Launch) (hst : l.stackTraces = false) (D : va_G) (cy : Nat → ClassId) (g : Nat → Nat) (x0 : Int32) (b0 : Nat) (sz : Nat) (h0 : x0 < 1) : vx_Met l yX9_runCycles [.code yX9_runCycles cX9_runCycles 6 (some .int)] ({ frames := 6, cells := 1, slots := 6, locals := 82 }) (PC D cy g [] sz [.ref b0, .int x0]) QN (XE "java/lang/IllegalArgumentException" (va_A [] sz)) 1 6 (va_A [] sz) := by
  refine st_X (by decide) (Nat.le_of_ble_eq_true rfl) ?_
  intro p e s m args below meth c A ls hx hb hr hml hown hlk hnm hsz hP hD hA hE hts hS hl hout
  have hown : s.vm.findClass RX9 = some m.cls := hown
  have hl : lv_has ls 6 [(0, .ref b0), (1, .int x0)] := hl
  refine lv_iload_n hx hb dX9_runCycles_0 rfl (lv_at hl 1 rfl) ?_
  refine lv_iconst (v := 1) hx hb dX9_runCycles_1 (by decide) ?_
  refine lv_bipush (v := 10) hx hb dX9_runCycles_2 (by decide) ?_
  refine ca_i (isC := []) (isR := []) (wr := []) (rn_S (isC := []) (wc := []) (As := [.int x0, .int 1, .int 10]) (rest := []) (n := 3) hx hb hml hown hts hE hS hP hD hA hl.1 (k17_X9_isOutside l D cy g x0 1 10 s.heap.size h0) rfl rfl ax_30 rfl rfl ax_31 ⟨Nat.le_of_ble_eq_true rfl, Nat.le_of_ble_eq_true rfl⟩ rfl rfl (Nat.le_of_ble_eq_true rfl) dX9_runCycles_4 ⟨(Nat.le_of_ble_eq_true rfl), (Nat.le_of_ble_eq_true rfl)⟩) hP hD hS hA rfl rfl rfl (by decide) (fun ad4 H locs hP hD hS => ?_)
  have hP : va_P D vwCl [] H := hP
  have hD : va_D A [] := hD
  refine lv_if_eq (tgt := 20) hx hb dX9_runCycles_7 (by decide) (fun z => absurd z (by decide)) (fun _ => ?_)
  exact th_S (text := "a number is out of range") hx hb hst hown hts hE hS (hl.1.trans hml.symm) hout hlk (by decide +kernel) tw_296 tw_297 ax_32 (by decide +kernel) dX9_runCycles_10 dX9_runCycles_13 dX9_runCycles_14 dX9_runCycles_16 dX9_runCycles_19 ⟨Nat.le_of_ble_eq_true rfl, Nat.le_of_ble_eq_true rfl, Nat.le_of_ble_eq_true rfl, Nat.le_of_ble_eq_true rfl⟩ (Nat.le_of_ble_eq_true rfl) (Nat.le_of_ble_eq_true rfl)
set_option maxHeartbeats 4000000 in
set_option maxRecDepth 100000 in
theorem k465_L_runCycles (l : Launch) (hst : l.stackTraces = false) (D : va_G) (cy : Nat → ClassId) (g : Nat → Nat) (x0 : Int32) (a0 : Nat) (b0 : Nat) (v0 : Value) (v1 : Value) (v2 : Value) (v3 : Value) (v4 : Value) (v5 : Value) (v6 : Value) (sz : Nat) (h0 : x0 < 1) : Met l yL_runCycles [.codeWith yL_runCycles cL_runCycles 4 (some .int) [(0, 9, 12, 13), (0, 9, 15, 15)]] ({ frames := 7, cells := 1, slots := 6, locals := 107 }) (PC D cy g [(a0, .inr (14, [v0, v1, v2, v3, v4, v5, v6]))] sz [.ref a0, .int x0, .ref b0]) (QI D 1 (fun ad => []) (va_A [(a0, .inr (14, [v0, v1, v2, v3, v4, v5, v6]))] sz)) 1 6 (va_A [(a0, .inr (14, [v0, v1, v2, v3, v4, v5, v6]))] sz) := by
  refine sh_I (by decide) (Nat.le_of_ble_eq_true rfl) ?_
  intro p e s m args below meth c A ls hx hb hr hml hown hlk hnm hsz hP hD hA hE hts hS hl htb
  have hown : s.vm.findClass RL = some m.cls := hown
  have hl : lv_has ls 4 [(0, .ref a0), (1, .int x0), (2, .ref b0)] := hl
  refine lv_aload_n hx hb dL_runCycles_0 rfl (lv_at hl 2 rfl) ?_
  refine lv_iconst (v := 0) hx hb dL_runCycles_1 (by decide) ?_
  refine lv_aload_n hx hb dL_runCycles_2 rfl (lv_at hl 0 rfl) ?_
  refine lv_iload_n hx hb dL_runCycles_3 rfl (lv_at hl 1 rfl) ?_
  refine cx_catch (isC := []) (isR := [0]) (wr := [(a0, .inr (14, [v0, v1, v2, v3, v4, v5, v6]))]) (hp := []) (z := (0, 9, 12, 13)) (hq := [(0, 9, 15, 15)]) (name := "java/lang/IllegalArgumentException") (own := RL) (rx_V (ci := 14) (q0 := 0) (isC := []) (wc := []) (As := [.int x0]) (rest := [.int 0, .ref b0]) (n := 1) hx hb hml hown hts hE hS hP hD hA hl.1 (k464_X9_runCycles l hst D cy g x0 a0 s.heap.size h0) rfl rfl rfl rfl rfl ax_299 rfl rfl ax_300 ⟨Nat.le_of_ble_eq_true rfl, Nat.le_of_ble_eq_true rfl⟩ rfl rfl (Nat.le_of_ble_eq_true rfl) dL_runCycles_4 ⟨(Nat.le_of_ble_eq_true rfl), (Nat.le_of_ble_eq_true rfl)⟩) hP hD hS hA hown hts hE htb rfl rfl rfl rfl (by decide) (fun z hz => by cases hz) (by decide) (by decide) tw_302 tw_303 (fun qx H locs hP hD hS => ?_)
  have hP : va_P D vwCl [(a0, .inr (14, [v0, v1, v2, v3, v4, v5, v6]))] H := hP
  have hD : va_D A [(a0, .inr (14, [v0, v1, v2, v3, v4, v5, v6]))] := hD
  refine lv_astore_n (lv' := [(3, .ref qx), (0, .ref a0), (1, .int x0), (2, .ref b0)]) hx hb dL_runCycles_12 rfl hl (Nat.le_of_ble_eq_true rfl) rfl (fun ls hl => ?_)
  refine lv_iconst (v := 1) hx hb dL_runCycles_13 (by decide) ?_
  exact en_z hx hb hr hlk hP hD hS rfl (fun _ => 0) (is := []) rfl rfl (Nat.le_of_ble_eq_true rfl) (Nat.le_of_ble_eq_true rfl) dL_runCycles_14
set_option maxHeartbeats 4000000 in
set_option maxRecDepth 100000 in
theorem k466_X10_runCycles (l : Launch) (D : va_G) (cy : Nat → ClassId) (g : Nat → Nat) (x0 : Int32) (a0 : Nat) (v0 : Value) (v1 : Value) (v2 : Value) (v3 : Value) (v4 : Value) (v5 : Value) (v6 : Value) (v7 : Value) (v8 : Value) (v9 : Value) (v10 : Value) (v11 : Value) (v12 : Value) (v13 : Value) (v14 : Value) (v15 : Value) (v16 : Value) (v17 : Value) (v18 : Value) (v19 : Value) (v20 : Value) (v21 : Value) (v22 : Value) (v23 : Value) (v24 : Value) (v25 : Value) (v26 : Value) (v27 : Value) (sz : Nat) (h0 : x0 < 1) : Met l yX10_runCycles [.code yX10_runCycles cX10_runCycles 3 (some .int)] ({ frames := 1, cells := 0, slots := 0, locals := 25 }) (PC D cy g [(a0, .inr (15, [v0, v1, v2, v3, v4, v5, v6, v7, v8, v9, v10, v11, v12, v13, v14, v15, v16, v17, v18, v19, v20, v21, v22, v23, v24, v25, v26, v27]))] sz [.ref a0, .int x0]) (QI D (-1) (fun ad => [(a0, .inr (15, [.int 1, v1, v2, v3, v4, v5, v6, v7, v8, v9, v10, v11, v12, v13, v14, v15, v16, v17, v18, v19, v20, v21, v22, v23, v24, v25, v26, v27]))]) (va_A [(a0, .inr (15, [v0, v1, v2, v3, v4, v5, v6, v7, v8, v9, v10, v11, v12, v13, v14, v15, v16, v17, v18, v19, v20, v21, v22, v23, v24, v25, v26, v27]))] sz)) 0 0 (va_A [(a0, .inr (15, [v0, v1, v2, v3, v4, v5, v6, v7, v8, v9, v10, v11, v12, v13, v14, v15, v16, v17, v18, v19, v20, v21, v22, v23, v24, v25, v26, v27]))] sz) := by
  refine st_I (by decide) (Nat.le_of_ble_eq_true rfl) ?_
  intro p e s m args below meth c A ls hx hb hr hml hown hlk hnm hsz hP hD hA hE hts hS hl
  have hown : s.vm.findClass RX10 = some m.cls := hown
  have hl : lv_has ls 3 [(0, .ref a0), (1, .int x0)] := hl
  refine lv_aload_n hx hb dX10_runCycles_0 rfl (lv_at hl 0 rfl) ?_
  refine ca_v (isC := [0]) (isR := []) (wr := []) (rn_V (ci := 15) (q0 := 0) (isC := [0]) (wc := [(a0, .inr (15, [v0, v1, v2, v3, v4, v5, v6, v7, v8, v9, v10, v11, v12, v13, v14, v15, v16, v17, v18, v19, v20, v21, v22, v23, v24, v25, v26, v27]))]) (As := []) (rest := []) (n := 0) hx hb hml hown hts hE hS hP hD hA hl.1 (k20_X10_begins l D cy g a0 (v0) (v1) (v2) (v3) (v4) (v5) (v6) (v7) (v8) (v9) (v10) (v11) (v12) (v13) (v14) (v15) (v16) (v17) (v18) (v19) (v20) (v21) (v22) (v23) (v24) (v25) (v26) (v27) s.heap.size ) rfl rfl rfl rfl rfl ax_37 rfl rfl ax_38 ⟨Nat.le_of_ble_eq_true rfl, Nat.le_of_ble_eq_true rfl⟩ rfl rfl (Nat.le_of_ble_eq_true rfl) dX10_runCycles_1 ⟨(Nat.le_of_ble_eq_true rfl), (Nat.le_of_ble_eq_true rfl)⟩) hP hD hS hA rfl rfl rfl (by decide) (fun ad1 H locs hP hD hS => ?_)
  have hP : va_P D vwCl [(a0, .inr (15, [.int 0, v1, v2, v3, v4, v5, v6, v7, v8, v9, v10, v11, v12, v13, v14, v15, v16, v17, v18, v19, v20, v21, v22, v23, v24, v25, v26, v27]))] H := hP
  have hD : va_D A [(a0, .inr (15, [.int 0, v1, v2, v3, v4, v5, v6, v7, v8, v9, v10, v11, v12, v13, v14, v15, v16, v17, v18, v19, v20, v21, v22, v23, v24, v25, v26, v27]))] := hD
  refine lv_aload_n hx hb dX10_runCycles_4 rfl (lv_at hl 0 rfl) ?_
  refine lv_iload_n hx hb dX10_runCycles_5 rfl (lv_at hl 1 rfl) ?_
  refine lv_i2l (v := x0.toInt64) hx hb dX10_runCycles_6 rfl ?_
  refine lv_lconst (v := 1) hx hb dX10_runCycles_7 (by decide) ?_
  refine lv_ldc2 (v := 10) hx hb hown (hts _ tw_865) dX10_runCycles_8 ?_
  refine ca_i (isC := []) (isR := [0]) (wr := [(a0, .inr (15, [.int 0, v1, v2, v3, v4, v5, v6, v7, v8, v9, v10, v11, v12, v13, v14, v15, v16, v17, v18, v19, v20, v21, v22, v23, v24, v25, v26, v27]))]) (rn_S (isC := []) (wc := []) (As := [.long x0.toInt64, .long 1, .long 10]) (rest := [.ref a0]) (n := 3) hx hb hml hown hts hE hS hP hD hA hl.1 (k21_X10_in l D cy g x0.toInt64 1 10 H.size (wl_lt rfl (by decide) h0)) rfl rfl ax_39 rfl rfl ax_40 ⟨Nat.le_of_ble_eq_true rfl, Nat.le_of_ble_eq_true rfl⟩ rfl rfl (Nat.le_of_ble_eq_true rfl) dX10_runCycles_11 ⟨(Nat.le_of_ble_eq_true rfl), (Nat.le_of_ble_eq_true rfl)⟩) hP hD hS hA rfl rfl rfl (by decide) (fun ad11 H locs hP hD hS => ?_)
  have hP : va_P D vwCl [(a0, .inr (15, [.int 0, v1, v2, v3, v4, v5, v6, v7, v8, v9, v10, v11, v12, v13, v14, v15, v16, v17, v18, v19, v20, v21, v22, v23, v24, v25, v26, v27]))] H := hP
  have hD : va_D A [(a0, .inr (15, [.int 0, v1, v2, v3, v4, v5, v6, v7, v8, v9, v10, v11, v12, v13, v14, v15, v16, v17, v18, v19, v20, v21, v22, v23, v24, v25, v26, v27]))] := hD
  refine lv_if_ne (tgt := 21) hx hb dX10_runCycles_14 (by decide) (fun z => absurd (by decide) z) (fun _ => ?_)
  refine lv_iconst (v := 1) hx hb dX10_runCycles_17 (by decide) ?_
  refine lv_goto (tgt := 22) hx hb dX10_runCycles_18 (by decide) ?_
  refine lv_iconst (v := 1) hx hb dX10_runCycles_22 (by decide) ?_
  refine ca_i (isC := [0]) (isR := []) (wr := []) (rn_V (ci := 15) (q0 := 0) (isC := [0]) (wc := [(a0, .inr (15, [.int 0, v1, v2, v3, v4, v5, v6, v7, v8, v9, v10, v11, v12, v13, v14, v15, v16, v17, v18, v19, v20, v21, v22, v23, v24, v25, v26, v27]))]) (As := [.int 1, .int 1]) (rest := []) (n := 2) hx hb hml hown hts hE hS hP hD hA hl.1 (k22_X10_fails l D cy g a0 (v1) (v2) (v3) (v4) (v5) (v6) (v7) (v8) (v9) (v10) (v11) (v12) (v13) (v14) (v15) (v16) (v17) (v18) (v19) (v20) (v21) (v22) (v23) (v24) (v25) (v26) (v27) H.size ) rfl rfl rfl rfl rfl ax_41 rfl rfl ax_42 ⟨Nat.le_of_ble_eq_true rfl, Nat.le_of_ble_eq_true rfl⟩ rfl rfl (Nat.le_of_ble_eq_true rfl) dX10_runCycles_23 ⟨(Nat.le_of_ble_eq_true rfl), (Nat.le_of_ble_eq_true rfl)⟩) hP hD hS hA rfl rfl rfl (by decide) (fun ad23 H locs hP hD hS => ?_)
  have hP : va_P D vwCl [(a0, .inr (15, [.int 1, v1, v2, v3, v4, v5, v6, v7, v8, v9, v10, v11, v12, v13, v14, v15, v16, v17, v18, v19, v20, v21, v22, v23, v24, v25, v26, v27]))] H := hP
  have hD : va_D A [(a0, .inr (15, [.int 1, v1, v2, v3, v4, v5, v6, v7, v8, v9, v10, v11, v12, v13, v14, v15, v16, v17, v18, v19, v20, v21, v22, v23, v24, v25, v26, v27]))] := hD
  refine lv_if_ne (tgt := 46) hx hb dX10_runCycles_26 (by decide) (fun _ => ?_) (fun z => absurd z (by decide))
  refine lv_iconst (v := (-1)) hx hb dX10_runCycles_46 (by decide) ?_
  exact en_z hx hb hr hlk hP hD hS rfl (fun _ => 0) (is := [0]) rfl rfl (Nat.le_of_ble_eq_true rfl) (Nat.le_of_ble_eq_true rfl) dX10_runCycles_47
set_option maxHeartbeats 4000000 in
set_option maxRecDepth 100000 in
theorem k467_X9_runCycles (l : Launch) (hst : l.stackTraces = false) (D : va_G) (cy : Nat → ClassId) (g : Nat → Nat) (x0 : Int32) (b0 : Nat) (sz : Nat) (h0 : ¬ x0 < 1) (h1 : (10 : Int32) < x0) : vx_Met l yX9_runCycles [.code yX9_runCycles cX9_runCycles 6 (some .int)] ({ frames := 6, cells := 1, slots := 6, locals := 82 }) (PC D cy g [] sz [.ref b0, .int x0]) QN (XE "java/lang/IllegalArgumentException" (va_A [] sz)) 1 6 (va_A [] sz) := by
  refine st_X (by decide) (Nat.le_of_ble_eq_true rfl) ?_
  intro p e s m args below meth c A ls hx hb hr hml hown hlk hnm hsz hP hD hA hE hts hS hl hout
  have hown : s.vm.findClass RX9 = some m.cls := hown
  have hl : lv_has ls 6 [(0, .ref b0), (1, .int x0)] := hl
  refine lv_iload_n hx hb dX9_runCycles_0 rfl (lv_at hl 1 rfl) ?_
  refine lv_iconst (v := 1) hx hb dX9_runCycles_1 (by decide) ?_
  refine lv_bipush (v := 10) hx hb dX9_runCycles_2 (by decide) ?_
  refine ca_i (isC := []) (isR := []) (wr := []) (rn_S (isC := []) (wc := []) (As := [.int x0, .int 1, .int 10]) (rest := []) (n := 3) hx hb hml hown hts hE hS hP hD hA hl.1 (k25_X9_isOutside l D cy g x0 1 10 s.heap.size h0 h1) rfl rfl ax_30 rfl rfl ax_31 ⟨Nat.le_of_ble_eq_true rfl, Nat.le_of_ble_eq_true rfl⟩ rfl rfl (Nat.le_of_ble_eq_true rfl) dX9_runCycles_4 ⟨(Nat.le_of_ble_eq_true rfl), (Nat.le_of_ble_eq_true rfl)⟩) hP hD hS hA rfl rfl rfl (by decide) (fun ad4 H locs hP hD hS => ?_)
  have hP : va_P D vwCl [] H := hP
  have hD : va_D A [] := hD
  refine lv_if_eq (tgt := 20) hx hb dX9_runCycles_7 (by decide) (fun z => absurd z (by decide)) (fun _ => ?_)
  exact th_S (text := "a number is out of range") hx hb hst hown hts hE hS (hl.1.trans hml.symm) hout hlk (by decide +kernel) tw_296 tw_297 ax_32 (by decide +kernel) dX9_runCycles_10 dX9_runCycles_13 dX9_runCycles_14 dX9_runCycles_16 dX9_runCycles_19 ⟨Nat.le_of_ble_eq_true rfl, Nat.le_of_ble_eq_true rfl, Nat.le_of_ble_eq_true rfl, Nat.le_of_ble_eq_true rfl⟩ (Nat.le_of_ble_eq_true rfl) (Nat.le_of_ble_eq_true rfl)
set_option maxHeartbeats 4000000 in
set_option maxRecDepth 100000 in
theorem k468_L_runCycles (l : Launch) (hst : l.stackTraces = false) (D : va_G) (cy : Nat → ClassId) (g : Nat → Nat) (x0 : Int32) (a0 : Nat) (b0 : Nat) (v0 : Value) (v1 : Value) (v2 : Value) (v3 : Value) (v4 : Value) (v5 : Value) (v6 : Value) (sz : Nat) (h0 : ¬ x0 < 1) (h1 : (10 : Int32) < x0) : Met l yL_runCycles [.codeWith yL_runCycles cL_runCycles 4 (some .int) [(0, 9, 12, 13), (0, 9, 15, 15)]] ({ frames := 7, cells := 1, slots := 6, locals := 107 }) (PC D cy g [(a0, .inr (14, [v0, v1, v2, v3, v4, v5, v6]))] sz [.ref a0, .int x0, .ref b0]) (QI D 1 (fun ad => []) (va_A [(a0, .inr (14, [v0, v1, v2, v3, v4, v5, v6]))] sz)) 1 6 (va_A [(a0, .inr (14, [v0, v1, v2, v3, v4, v5, v6]))] sz) := by
  refine sh_I (by decide) (Nat.le_of_ble_eq_true rfl) ?_
  intro p e s m args below meth c A ls hx hb hr hml hown hlk hnm hsz hP hD hA hE hts hS hl htb
  have hown : s.vm.findClass RL = some m.cls := hown
  have hl : lv_has ls 4 [(0, .ref a0), (1, .int x0), (2, .ref b0)] := hl
  refine lv_aload_n hx hb dL_runCycles_0 rfl (lv_at hl 2 rfl) ?_
  refine lv_iconst (v := 0) hx hb dL_runCycles_1 (by decide) ?_
  refine lv_aload_n hx hb dL_runCycles_2 rfl (lv_at hl 0 rfl) ?_
  refine lv_iload_n hx hb dL_runCycles_3 rfl (lv_at hl 1 rfl) ?_
  refine cx_catch (isC := []) (isR := [0]) (wr := [(a0, .inr (14, [v0, v1, v2, v3, v4, v5, v6]))]) (hp := []) (z := (0, 9, 12, 13)) (hq := [(0, 9, 15, 15)]) (name := "java/lang/IllegalArgumentException") (own := RL) (rx_V (ci := 14) (q0 := 0) (isC := []) (wc := []) (As := [.int x0]) (rest := [.int 0, .ref b0]) (n := 1) hx hb hml hown hts hE hS hP hD hA hl.1 (k467_X9_runCycles l hst D cy g x0 a0 s.heap.size h0 h1) rfl rfl rfl rfl rfl ax_299 rfl rfl ax_300 ⟨Nat.le_of_ble_eq_true rfl, Nat.le_of_ble_eq_true rfl⟩ rfl rfl (Nat.le_of_ble_eq_true rfl) dL_runCycles_4 ⟨(Nat.le_of_ble_eq_true rfl), (Nat.le_of_ble_eq_true rfl)⟩) hP hD hS hA hown hts hE htb rfl rfl rfl rfl (by decide) (fun z hz => by cases hz) (by decide) (by decide) tw_302 tw_303 (fun qx H locs hP hD hS => ?_)
  have hP : va_P D vwCl [(a0, .inr (14, [v0, v1, v2, v3, v4, v5, v6]))] H := hP
  have hD : va_D A [(a0, .inr (14, [v0, v1, v2, v3, v4, v5, v6]))] := hD
  refine lv_astore_n (lv' := [(3, .ref qx), (0, .ref a0), (1, .int x0), (2, .ref b0)]) hx hb dL_runCycles_12 rfl hl (Nat.le_of_ble_eq_true rfl) rfl (fun ls hl => ?_)
  refine lv_iconst (v := 1) hx hb dL_runCycles_13 (by decide) ?_
  exact en_z hx hb hr hlk hP hD hS rfl (fun _ => 0) (is := []) rfl rfl (Nat.le_of_ble_eq_true rfl) (Nat.le_of_ble_eq_true rfl) dL_runCycles_14
set_option maxHeartbeats 4000000 in
set_option maxRecDepth 100000 in
theorem k469_X10_runCycles (l : Launch) (D : va_G) (cy : Nat → ClassId) (g : Nat → Nat) (x0 : Int32) (a0 : Nat) (v0 : Value) (v1 : Value) (v2 : Value) (v3 : Value) (v4 : Value) (v5 : Value) (v6 : Value) (v7 : Value) (v8 : Value) (v9 : Value) (v10 : Value) (v11 : Value) (v12 : Value) (v13 : Value) (v14 : Value) (v15 : Value) (v16 : Value) (v17 : Value) (v18 : Value) (v19 : Value) (v20 : Value) (v21 : Value) (v22 : Value) (v23 : Value) (v24 : Value) (v25 : Value) (v26 : Value) (v27 : Value) (sz : Nat) (h0 : ¬ x0 < 1) (h1 : (10 : Int32) < x0) : Met l yX10_runCycles [.code yX10_runCycles cX10_runCycles 3 (some .int)] ({ frames := 1, cells := 0, slots := 0, locals := 25 }) (PC D cy g [(a0, .inr (15, [v0, v1, v2, v3, v4, v5, v6, v7, v8, v9, v10, v11, v12, v13, v14, v15, v16, v17, v18, v19, v20, v21, v22, v23, v24, v25, v26, v27]))] sz [.ref a0, .int x0]) (QI D (-1) (fun ad => [(a0, .inr (15, [.int 1, v1, v2, v3, v4, v5, v6, v7, v8, v9, v10, v11, v12, v13, v14, v15, v16, v17, v18, v19, v20, v21, v22, v23, v24, v25, v26, v27]))]) (va_A [(a0, .inr (15, [v0, v1, v2, v3, v4, v5, v6, v7, v8, v9, v10, v11, v12, v13, v14, v15, v16, v17, v18, v19, v20, v21, v22, v23, v24, v25, v26, v27]))] sz)) 0 0 (va_A [(a0, .inr (15, [v0, v1, v2, v3, v4, v5, v6, v7, v8, v9, v10, v11, v12, v13, v14, v15, v16, v17, v18, v19, v20, v21, v22, v23, v24, v25, v26, v27]))] sz) := by
  refine st_I (by decide) (Nat.le_of_ble_eq_true rfl) ?_
  intro p e s m args below meth c A ls hx hb hr hml hown hlk hnm hsz hP hD hA hE hts hS hl
  have hown : s.vm.findClass RX10 = some m.cls := hown
  have hl : lv_has ls 3 [(0, .ref a0), (1, .int x0)] := hl
  refine lv_aload_n hx hb dX10_runCycles_0 rfl (lv_at hl 0 rfl) ?_
  refine ca_v (isC := [0]) (isR := []) (wr := []) (rn_V (ci := 15) (q0 := 0) (isC := [0]) (wc := [(a0, .inr (15, [v0, v1, v2, v3, v4, v5, v6, v7, v8, v9, v10, v11, v12, v13, v14, v15, v16, v17, v18, v19, v20, v21, v22, v23, v24, v25, v26, v27]))]) (As := []) (rest := []) (n := 0) hx hb hml hown hts hE hS hP hD hA hl.1 (k20_X10_begins l D cy g a0 (v0) (v1) (v2) (v3) (v4) (v5) (v6) (v7) (v8) (v9) (v10) (v11) (v12) (v13) (v14) (v15) (v16) (v17) (v18) (v19) (v20) (v21) (v22) (v23) (v24) (v25) (v26) (v27) s.heap.size ) rfl rfl rfl rfl rfl ax_37 rfl rfl ax_38 ⟨Nat.le_of_ble_eq_true rfl, Nat.le_of_ble_eq_true rfl⟩ rfl rfl (Nat.le_of_ble_eq_true rfl) dX10_runCycles_1 ⟨(Nat.le_of_ble_eq_true rfl), (Nat.le_of_ble_eq_true rfl)⟩) hP hD hS hA rfl rfl rfl (by decide) (fun ad1 H locs hP hD hS => ?_)
  have hP : va_P D vwCl [(a0, .inr (15, [.int 0, v1, v2, v3, v4, v5, v6, v7, v8, v9, v10, v11, v12, v13, v14, v15, v16, v17, v18, v19, v20, v21, v22, v23, v24, v25, v26, v27]))] H := hP
  have hD : va_D A [(a0, .inr (15, [.int 0, v1, v2, v3, v4, v5, v6, v7, v8, v9, v10, v11, v12, v13, v14, v15, v16, v17, v18, v19, v20, v21, v22, v23, v24, v25, v26, v27]))] := hD
  refine lv_aload_n hx hb dX10_runCycles_4 rfl (lv_at hl 0 rfl) ?_
  refine lv_iload_n hx hb dX10_runCycles_5 rfl (lv_at hl 1 rfl) ?_
  refine lv_i2l (v := x0.toInt64) hx hb dX10_runCycles_6 rfl ?_
  refine lv_lconst (v := 1) hx hb dX10_runCycles_7 (by decide) ?_
  refine lv_ldc2 (v := 10) hx hb hown (hts _ tw_865) dX10_runCycles_8 ?_
  refine ca_i (isC := []) (isR := [0]) (wr := [(a0, .inr (15, [.int 0, v1, v2, v3, v4, v5, v6, v7, v8, v9, v10, v11, v12, v13, v14, v15, v16, v17, v18, v19, v20, v21, v22, v23, v24, v25, v26, v27]))]) (rn_S (isC := []) (wc := []) (As := [.long x0.toInt64, .long 1, .long 10]) (rest := [.ref a0]) (n := 3) hx hb hml hown hts hE hS hP hD hA hl.1 (k28_X10_in l D cy g x0.toInt64 1 10 H.size (wl_nlt rfl (by decide) h0) (wl_lt (by decide) rfl h1)) rfl rfl ax_39 rfl rfl ax_40 ⟨Nat.le_of_ble_eq_true rfl, Nat.le_of_ble_eq_true rfl⟩ rfl rfl (Nat.le_of_ble_eq_true rfl) dX10_runCycles_11 ⟨(Nat.le_of_ble_eq_true rfl), (Nat.le_of_ble_eq_true rfl)⟩) hP hD hS hA rfl rfl rfl (by decide) (fun ad11 H locs hP hD hS => ?_)
  have hP : va_P D vwCl [(a0, .inr (15, [.int 0, v1, v2, v3, v4, v5, v6, v7, v8, v9, v10, v11, v12, v13, v14, v15, v16, v17, v18, v19, v20, v21, v22, v23, v24, v25, v26, v27]))] H := hP
  have hD : va_D A [(a0, .inr (15, [.int 0, v1, v2, v3, v4, v5, v6, v7, v8, v9, v10, v11, v12, v13, v14, v15, v16, v17, v18, v19, v20, v21, v22, v23, v24, v25, v26, v27]))] := hD
  refine lv_if_ne (tgt := 21) hx hb dX10_runCycles_14 (by decide) (fun z => absurd (by decide) z) (fun _ => ?_)
  refine lv_iconst (v := 1) hx hb dX10_runCycles_17 (by decide) ?_
  refine lv_goto (tgt := 22) hx hb dX10_runCycles_18 (by decide) ?_
  refine lv_iconst (v := 1) hx hb dX10_runCycles_22 (by decide) ?_
  refine ca_i (isC := [0]) (isR := []) (wr := []) (rn_V (ci := 15) (q0 := 0) (isC := [0]) (wc := [(a0, .inr (15, [.int 0, v1, v2, v3, v4, v5, v6, v7, v8, v9, v10, v11, v12, v13, v14, v15, v16, v17, v18, v19, v20, v21, v22, v23, v24, v25, v26, v27]))]) (As := [.int 1, .int 1]) (rest := []) (n := 2) hx hb hml hown hts hE hS hP hD hA hl.1 (k22_X10_fails l D cy g a0 (v1) (v2) (v3) (v4) (v5) (v6) (v7) (v8) (v9) (v10) (v11) (v12) (v13) (v14) (v15) (v16) (v17) (v18) (v19) (v20) (v21) (v22) (v23) (v24) (v25) (v26) (v27) H.size ) rfl rfl rfl rfl rfl ax_41 rfl rfl ax_42 ⟨Nat.le_of_ble_eq_true rfl, Nat.le_of_ble_eq_true rfl⟩ rfl rfl (Nat.le_of_ble_eq_true rfl) dX10_runCycles_23 ⟨(Nat.le_of_ble_eq_true rfl), (Nat.le_of_ble_eq_true rfl)⟩) hP hD hS hA rfl rfl rfl (by decide) (fun ad23 H locs hP hD hS => ?_)
  have hP : va_P D vwCl [(a0, .inr (15, [.int 1, v1, v2, v3, v4, v5, v6, v7, v8, v9, v10, v11, v12, v13, v14, v15, v16, v17, v18, v19, v20, v21, v22, v23, v24, v25, v26, v27]))] H := hP
  have hD : va_D A [(a0, .inr (15, [.int 1, v1, v2, v3, v4, v5, v6, v7, v8, v9, v10, v11, v12, v13, v14, v15, v16, v17, v18, v19, v20, v21, v22, v23, v24, v25, v26, v27]))] := hD
  refine lv_if_ne (tgt := 46) hx hb dX10_runCycles_26 (by decide) (fun _ => ?_) (fun z => absurd z (by decide))
  refine lv_iconst (v := (-1)) hx hb dX10_runCycles_46 (by decide) ?_
  exact en_z hx hb hr hlk hP hD hS rfl (fun _ => 0) (is := [0]) rfl rfl (Nat.le_of_ble_eq_true rfl) (Nat.le_of_ble_eq_true rfl) dX10_runCycles_47
set_option maxHeartbeats 4000000 in
set_option maxRecDepth 100000 in
theorem k470_X1_isEmpty (l : Launch) (D : va_G) (cy : Nat → ClassId) (g : Nat → Nat) (a0 : Nat) (v0 : Value) (v1 : Value) (v2 : Value) (v3 : Value) (v4 : Value) (v5 : Value) (v6 : Value) (v7 : Value) (v8 : Value) (v9 : Value) (v10 : Value) (v11 : Value) (sz : Nat)  : Met l yX1_isEmpty [.code yX1_isEmpty cX1_isEmpty 1 (some .boolean)] ({ frames := 0, cells := 0, slots := 0, locals := 0 }) (PC D cy g [(a0, .inr (6, [v0, v1, v2, .int 0, v3, v4, v5, v6, v7, v8, v9, v10, v11]))] sz [.ref a0]) (QI D 1 (fun ad => [(a0, .inr (6, [v0, v1, v2, .int 0, v3, v4, v5, v6, v7, v8, v9, v10, v11]))]) (va_A [(a0, .inr (6, [v0, v1, v2, .int 0, v3, v4, v5, v6, v7, v8, v9, v10, v11]))] sz)) 0 0 (va_A [(a0, .inr (6, [v0, v1, v2, .int 0, v3, v4, v5, v6, v7, v8, v9, v10, v11]))] sz) := by
  refine st_I (by decide) (Nat.le_of_ble_eq_true rfl) ?_
  intro p e s m args below meth c A ls hx hb hr hml hown hlk hnm hsz hP hD hA hE hts hS hl
  have hown : s.vm.findClass RX1 = some m.cls := hown
  have hl : lv_has ls 1 [(0, .ref a0)] := hl
  refine lv_aload_n hx hb dX1_isEmpty_0 rfl (lv_at hl 0 rfl) ?_
  refine va_get (D := D) (ci := 6) (v := .int 0) (C := RX1) (T := TX1) (N := 13) hx hb hts ax_7 hown hE.1 hP 0 rfl rfl 3 (by decide) (hts _ tw_110) (fun _ h9 => h9) rfl dX1_isEmpty_1 ?_
  refine lv_if_ne (tgt := 11) hx hb dX1_isEmpty_4 (by decide) (fun z => absurd (by decide) z) (fun _ => ?_)
  refine lv_iconst (v := 1) hx hb dX1_isEmpty_7 (by decide) ?_
  refine lv_goto (tgt := 12) hx hb dX1_isEmpty_8 (by decide) ?_
  exact en_z hx hb hr hlk hP hD hS rfl (fun _ => 0) (is := [0]) rfl rfl (Nat.le_of_ble_eq_true rfl) (Nat.le_of_ble_eq_true rfl) dX1_isEmpty_12
set_option maxHeartbeats 4000000 in
set_option maxRecDepth 100000 in
theorem k471_X9_runCycles (l : Launch) (hst : l.stackTraces = false) (D : va_G) (cy : Nat → ClassId) (g : Nat → Nat) (x0 : Int32) (a0 : Nat) (a1 : Nat) (v0 : Value) (v1 : Value) (v2 : Value) (v3 : Value) (v4 : Value) (v5 : Value) (v6 : Value) (v7 : Value) (v8 : Value) (v9 : Value) (v10 : Value) (v11 : Value) (v12 : Value) (v13 : Value) (v14 : Value) (v15 : Value) (v16 : Value) (v17 : Value) (sz : Nat) (h0 : ¬ x0 < 1) (h1 : ¬ (10 : Int32) < x0) : vx_Met l yX9_runCycles [.code yX9_runCycles cX9_runCycles 6 (some .int)] ({ frames := 6, cells := 1, slots := 6, locals := 82 }) (PC D cy g [(a0, .inr (14, [v0, v1, v2, .ref a1, v3, v4, v5])), (a1, .inr (6, [v6, v7, v8, .int 0, v9, v10, v11, v12, v13, v14, v15, v16, v17]))] sz [.ref a0, .int x0]) QN (XE "java/lang/IllegalStateException" (va_A [(a0, .inr (14, [v0, v1, v2, .ref a1, v3, v4, v5])), (a1, .inr (6, [v6, v7, v8, .int 0, v9, v10, v11, v12, v13, v14, v15, v16, v17]))] sz)) 1 6 (va_A [(a0, .inr (14, [v0, v1, v2, .ref a1, v3, v4, v5])), (a1, .inr (6, [v6, v7, v8, .int 0, v9, v10, v11, v12, v13, v14, v15, v16, v17]))] sz) := by
  refine st_X (by decide) (Nat.le_of_ble_eq_true rfl) ?_
  intro p e s m args below meth c A ls hx hb hr hml hown hlk hnm hsz hP hD hA hE hts hS hl hout
  have hown : s.vm.findClass RX9 = some m.cls := hown
  have hl : lv_has ls 6 [(0, .ref a0), (1, .int x0)] := hl
  refine lv_iload_n hx hb dX9_runCycles_0 rfl (lv_at hl 1 rfl) ?_
  refine lv_iconst (v := 1) hx hb dX9_runCycles_1 (by decide) ?_
  refine lv_bipush (v := 10) hx hb dX9_runCycles_2 (by decide) ?_
  refine ca_i (isC := []) (isR := [0, 1]) (wr := [(a0, .inr (14, [v0, v1, v2, .ref a1, v3, v4, v5])), (a1, .inr (6, [v6, v7, v8, .int 0, v9, v10, v11, v12, v13, v14, v15, v16, v17]))]) (rn_S (isC := []) (wc := []) (As := [.int x0, .int 1, .int 10]) (rest := []) (n := 3) hx hb hml hown hts hE hS hP hD hA hl.1 (k30_X9_isOutside l D cy g x0 1 10 s.heap.size h0 h1) rfl rfl ax_30 rfl rfl ax_31 ⟨Nat.le_of_ble_eq_true rfl, Nat.le_of_ble_eq_true rfl⟩ rfl rfl (Nat.le_of_ble_eq_true rfl) dX9_runCycles_4 ⟨(Nat.le_of_ble_eq_true rfl), (Nat.le_of_ble_eq_true rfl)⟩) hP hD hS hA rfl rfl rfl (by decide) (fun ad4 H locs hP hD hS => ?_)
  have hP : va_P D vwCl [(a0, .inr (14, [v0, v1, v2, .ref a1, v3, v4, v5])), (a1, .inr (6, [v6, v7, v8, .int 0, v9, v10, v11, v12, v13, v14, v15, v16, v17]))] H := hP
  have hD : va_D A [(a0, .inr (14, [v0, v1, v2, .ref a1, v3, v4, v5])), (a1, .inr (6, [v6, v7, v8, .int 0, v9, v10, v11, v12, v13, v14, v15, v16, v17]))] := hD
  refine lv_if_eq (tgt := 20) hx hb dX9_runCycles_7 (by decide) (fun _ => ?_) (fun z => absurd (by decide) z)
  refine lv_aload_n hx hb dX9_runCycles_20 rfl (lv_at hl 0 rfl) ?_
  refine va_get (D := D) (ci := 14) (v := .ref a1) (C := RX9) (T := TX9) (N := 7) hx hb hts ax_16 hown hE.1 hP 0 rfl rfl 3 (by decide) (hts _ tw_199) (fun _ h9 => h9) rfl dX9_runCycles_21 ?_
  refine ca_i (isC := [1]) (isR := [0]) (wr := [(a0, .inr (14, [v0, v1, v2, .ref a1, v3, v4, v5]))]) (rn_V (ci := 6) (q0 := 1) (isC := [1]) (wc := [(a1, .inr (6, [v6, v7, v8, .int 0, v9, v10, v11, v12, v13, v14, v15, v16, v17]))]) (As := []) (rest := []) (n := 0) hx hb hml hown hts hE hS hP hD hA hl.1 (k470_X1_isEmpty l D cy g a1 (v6) (v7) (v8) (v9) (v10) (v11) (v12) (v13) (v14) (v15) (v16) (v17) H.size ) rfl rfl rfl rfl rfl ax_305 rfl rfl ax_306 ⟨Nat.le_of_ble_eq_true rfl, Nat.le_of_ble_eq_true rfl⟩ rfl rfl (Nat.le_of_ble_eq_true rfl) dX9_runCycles_24 ⟨(Nat.le_of_ble_eq_true rfl), (Nat.le_of_ble_eq_true rfl)⟩) hP hD hS hA rfl rfl rfl (by decide) (fun ad24 H locs hP hD hS => ?_)
  have hP : va_P D vwCl [(a0, .inr (14, [v0, v1, v2, .ref a1, v3, v4, v5])), (a1, .inr (6, [v6, v7, v8, .int 0, v9, v10, v11, v12, v13, v14, v15, v16, v17]))] H := hP
  have hD : va_D A [(a0, .inr (14, [v0, v1, v2, .ref a1, v3, v4, v5])), (a1, .inr (6, [v6, v7, v8, .int 0, v9, v10, v11, v12, v13, v14, v15, v16, v17]))] := hD
  refine lv_if_eq (tgt := 41) hx hb dX9_runCycles_27 (by decide) (fun z => absurd z (by decide)) (fun _ => ?_)
  exact th_SW (text := "there are no strokes") hx hb hst hown hts hE hS (hl.1.trans hml.symm) hout hlk (by decide +kernel) tw_718 tw_719 ax_225 (by decide +kernel) dX9_runCycles_30 dX9_runCycles_33 dX9_runCycles_34 dX9_runCycles_37 dX9_runCycles_40 ⟨Nat.le_of_ble_eq_true rfl, Nat.le_of_ble_eq_true rfl, Nat.le_of_ble_eq_true rfl, Nat.le_of_ble_eq_true rfl⟩ (Nat.le_of_ble_eq_true rfl) (Nat.le_of_ble_eq_true rfl)
set_option maxHeartbeats 4000000 in
set_option maxRecDepth 100000 in
theorem k472_L_runCycles (l : Launch) (hst : l.stackTraces = false) (D : va_G) (cy : Nat → ClassId) (g : Nat → Nat) (x0 : Int32) (a0 : Nat) (a1 : Nat) (b0 : Nat) (v0 : Value) (v1 : Value) (v2 : Value) (v3 : Value) (v4 : Value) (v5 : Value) (v6 : Value) (v7 : Value) (v8 : Value) (v9 : Value) (v10 : Value) (v11 : Value) (v12 : Value) (v13 : Value) (v14 : Value) (v15 : Value) (v16 : Value) (v17 : Value) (sz : Nat) (h0 : ¬ x0 < 1) (h1 : ¬ (10 : Int32) < x0) : Met l yL_runCycles [.codeWith yL_runCycles cL_runCycles 4 (some .int) [(0, 9, 12, 13), (0, 9, 15, 15)]] ({ frames := 7, cells := 1, slots := 6, locals := 107 }) (PC D cy g [(a0, .inr (14, [v0, v1, v2, .ref a1, v3, v4, v5])), (a1, .inr (6, [v6, v7, v8, .int 0, v9, v10, v11, v12, v13, v14, v15, v16, v17]))] sz [.ref a0, .int x0, .ref b0]) (QI D 2 (fun ad => []) (va_A [(a0, .inr (14, [v0, v1, v2, .ref a1, v3, v4, v5])), (a1, .inr (6, [v6, v7, v8, .int 0, v9, v10, v11, v12, v13, v14, v15, v16, v17]))] sz)) 1 6 (va_A [(a0, .inr (14, [v0, v1, v2, .ref a1, v3, v4, v5])), (a1, .inr (6, [v6, v7, v8, .int 0, v9, v10, v11, v12, v13, v14, v15, v16, v17]))] sz) := by
  refine sh_I (by decide) (Nat.le_of_ble_eq_true rfl) ?_
  intro p e s m args below meth c A ls hx hb hr hml hown hlk hnm hsz hP hD hA hE hts hS hl htb
  have hown : s.vm.findClass RL = some m.cls := hown
  have hl : lv_has ls 4 [(0, .ref a0), (1, .int x0), (2, .ref b0)] := hl
  refine lv_aload_n hx hb dL_runCycles_0 rfl (lv_at hl 2 rfl) ?_
  refine lv_iconst (v := 0) hx hb dL_runCycles_1 (by decide) ?_
  refine lv_aload_n hx hb dL_runCycles_2 rfl (lv_at hl 0 rfl) ?_
  refine lv_iload_n hx hb dL_runCycles_3 rfl (lv_at hl 1 rfl) ?_
  refine cx_catch (isC := [0, 1]) (isR := []) (wr := []) (hp := [(0, 9, 12, 13)]) (z := (0, 9, 15, 15)) (hq := []) (name := "java/lang/IllegalStateException") (own := RL) (rx_V (ci := 14) (q0 := 0) (isC := [0, 1]) (wc := [(a0, .inr (14, [v0, v1, v2, .ref a1, v3, v4, v5])), (a1, .inr (6, [v6, v7, v8, .int 0, v9, v10, v11, v12, v13, v14, v15, v16, v17]))]) (As := [.int x0]) (rest := [.int 0, .ref b0]) (n := 1) hx hb hml hown hts hE hS hP hD hA hl.1 (k471_X9_runCycles l hst D cy g x0 a0 a1 (v0) (v1) (v2) (v3) (v4) (v5) (v6) (v7) (v8) (v9) (v10) (v11) (v12) (v13) (v14) (v15) (v16) (v17) s.heap.size h0 h1) rfl rfl rfl rfl rfl ax_299 rfl rfl ax_300 ⟨Nat.le_of_ble_eq_true rfl, Nat.le_of_ble_eq_true rfl⟩ rfl rfl (Nat.le_of_ble_eq_true rfl) dL_runCycles_4 ⟨(Nat.le_of_ble_eq_true rfl), (Nat.le_of_ble_eq_true rfl)⟩) hP hD hS hA hown hts hE htb rfl rfl rfl rfl (by decide) (fun z hz => by rcases List.mem_singleton.mp hz with rfl; exact ⟨by decide, "java/lang/IllegalArgumentException", tw_302, by decide +kernel⟩) (by decide) (by decide) tw_720 tw_721 (fun qx H locs hP hD hS => ?_)
  have hP : va_P D vwCl [] H := hP
  have hD : va_D A [] := hD
  refine lv_astore_n (lv' := [(3, .ref qx), (0, .ref a0), (1, .int x0), (2, .ref b0)]) hx hb dL_runCycles_15 rfl hl (Nat.le_of_ble_eq_true rfl) rfl (fun ls hl => ?_)
  refine lv_iconst (v := 2) hx hb dL_runCycles_16 (by decide) ?_
  exact en_z hx hb hr hlk hP hD hS rfl (fun _ => 0) (is := []) rfl rfl (Nat.le_of_ble_eq_true rfl) (Nat.le_of_ble_eq_true rfl) dL_runCycles_17
set_option maxHeartbeats 4000000 in
set_option maxRecDepth 100000 in
theorem k473_X10_runCycles (l : Launch) (D : va_G) (cy : Nat → ClassId) (g : Nat → Nat) (x0 : Int32) (a0 : Nat) (a1 : Nat) (v0 : Value) (v1 : Value) (v2 : Value) (v3 : Value) (v4 : Value) (v5 : Value) (v6 : Value) (v7 : Value) (v8 : Value) (v9 : Value) (v10 : Value) (v11 : Value) (v12 : Value) (v13 : Value) (v14 : Value) (v15 : Value) (v16 : Value) (v17 : Value) (v18 : Value) (v19 : Value) (v20 : Value) (v21 : Value) (v22 : Value) (v23 : Value) (v24 : Value) (v25 : Value) (v26 : Value) (v27 : Value) (v28 : Value) (sz : Nat) (h0 : ¬ x0 < 1) (h1 : ¬ (10 : Int32) < x0) : Met l yX10_runCycles [.code yX10_runCycles cX10_runCycles 3 (some .int)] ({ frames := 1, cells := 0, slots := 0, locals := 25 }) (PC D cy g [(a0, .inr (15, [v0, v1, v2, v3, v4, v5, v6, v7, v8, v9, v10, v11, .ref a1, v12, v13, v14, v15, v16, v17, v18, v19, v20, v21, v22, v23, v24, v25, v26])), (a1, .inr (4, [v27, v28, .int 0]))] sz [.ref a0, .int x0]) (QI D (-1) (fun ad => [(a0, .inr (15, [.int 2, v1, v2, v3, v4, v5, v6, v7, v8, v9, v10, v11, .ref a1, v12, v13, v14, v15, v16, v17, v18, v19, v20, v21, v22, v23, v24, v25, v26]))]) (va_A [(a0, .inr (15, [v0, v1, v2, v3, v4, v5, v6, v7, v8, v9, v10, v11, .ref a1, v12, v13, v14, v15, v16, v17, v18, v19, v20, v21, v22, v23, v24, v25, v26])), (a1, .inr (4, [v27, v28, .int 0]))] sz)) 0 0 (va_A [(a0, .inr (15, [v0, v1, v2, v3, v4, v5, v6, v7, v8, v9, v10, v11, .ref a1, v12, v13, v14, v15, v16, v17, v18, v19, v20, v21, v22, v23, v24, v25, v26])), (a1, .inr (4, [v27, v28, .int 0]))] sz) := by
  refine st_I (by decide) (Nat.le_of_ble_eq_true rfl) ?_
  intro p e s m args below meth c A ls hx hb hr hml hown hlk hnm hsz hP hD hA hE hts hS hl
  have hown : s.vm.findClass RX10 = some m.cls := hown
  have hl : lv_has ls 3 [(0, .ref a0), (1, .int x0)] := hl
  refine lv_aload_n hx hb dX10_runCycles_0 rfl (lv_at hl 0 rfl) ?_
  refine ca_v (isC := [0]) (isR := [1]) (wr := [(a1, .inr (4, [v27, v28, .int 0]))]) (rn_V (ci := 15) (q0 := 0) (isC := [0]) (wc := [(a0, .inr (15, [v0, v1, v2, v3, v4, v5, v6, v7, v8, v9, v10, v11, .ref a1, v12, v13, v14, v15, v16, v17, v18, v19, v20, v21, v22, v23, v24, v25, v26]))]) (As := []) (rest := []) (n := 0) hx hb hml hown hts hE hS hP hD hA hl.1 (k20_X10_begins l D cy g a0 (v0) (v1) (v2) (v3) (v4) (v5) (v6) (v7) (v8) (v9) (v10) (v11) (.ref a1) (v12) (v13) (v14) (v15) (v16) (v17) (v18) (v19) (v20) (v21) (v22) (v23) (v24) (v25) (v26) s.heap.size ) rfl rfl rfl rfl rfl ax_37 rfl rfl ax_38 ⟨Nat.le_of_ble_eq_true rfl, Nat.le_of_ble_eq_true rfl⟩ rfl rfl (Nat.le_of_ble_eq_true rfl) dX10_runCycles_1 ⟨(Nat.le_of_ble_eq_true rfl), (Nat.le_of_ble_eq_true rfl)⟩) hP hD hS hA rfl rfl rfl (by decide) (fun ad1 H locs hP hD hS => ?_)
  have hP : va_P D vwCl [(a1, .inr (4, [v27, v28, .int 0])), (a0, .inr (15, [.int 0, v1, v2, v3, v4, v5, v6, v7, v8, v9, v10, v11, .ref a1, v12, v13, v14, v15, v16, v17, v18, v19, v20, v21, v22, v23, v24, v25, v26]))] H := hP
  have hD : va_D A [(a1, .inr (4, [v27, v28, .int 0])), (a0, .inr (15, [.int 0, v1, v2, v3, v4, v5, v6, v7, v8, v9, v10, v11, .ref a1, v12, v13, v14, v15, v16, v17, v18, v19, v20, v21, v22, v23, v24, v25, v26]))] := hD
  refine lv_aload_n hx hb dX10_runCycles_4 rfl (lv_at hl 0 rfl) ?_
  refine lv_iload_n hx hb dX10_runCycles_5 rfl (lv_at hl 1 rfl) ?_
  refine lv_i2l (v := x0.toInt64) hx hb dX10_runCycles_6 rfl ?_
  refine lv_lconst (v := 1) hx hb dX10_runCycles_7 (by decide) ?_
  refine lv_ldc2 (v := 10) hx hb hown (hts _ tw_865) dX10_runCycles_8 ?_
  refine ca_i (isC := []) (isR := [0, 1]) (wr := [(a1, .inr (4, [v27, v28, .int 0])), (a0, .inr (15, [.int 0, v1, v2, v3, v4, v5, v6, v7, v8, v9, v10, v11, .ref a1, v12, v13, v14, v15, v16, v17, v18, v19, v20, v21, v22, v23, v24, v25, v26]))]) (rn_S (isC := []) (wc := []) (As := [.long x0.toInt64, .long 1, .long 10]) (rest := [.ref a0]) (n := 3) hx hb hml hown hts hE hS hP hD hA hl.1 (k33_X10_in l D cy g x0.toInt64 1 10 H.size (wl_nlt rfl (by decide) h0) (wl_nlt (by decide) rfl h1)) rfl rfl ax_39 rfl rfl ax_40 ⟨Nat.le_of_ble_eq_true rfl, Nat.le_of_ble_eq_true rfl⟩ rfl rfl (Nat.le_of_ble_eq_true rfl) dX10_runCycles_11 ⟨(Nat.le_of_ble_eq_true rfl), (Nat.le_of_ble_eq_true rfl)⟩) hP hD hS hA rfl rfl rfl (by decide) (fun ad11 H locs hP hD hS => ?_)
  have hP : va_P D vwCl [(a1, .inr (4, [v27, v28, .int 0])), (a0, .inr (15, [.int 0, v1, v2, v3, v4, v5, v6, v7, v8, v9, v10, v11, .ref a1, v12, v13, v14, v15, v16, v17, v18, v19, v20, v21, v22, v23, v24, v25, v26]))] H := hP
  have hD : va_D A [(a1, .inr (4, [v27, v28, .int 0])), (a0, .inr (15, [.int 0, v1, v2, v3, v4, v5, v6, v7, v8, v9, v10, v11, .ref a1, v12, v13, v14, v15, v16, v17, v18, v19, v20, v21, v22, v23, v24, v25, v26]))] := hD
  refine lv_if_ne (tgt := 21) hx hb dX10_runCycles_14 (by decide) (fun _ => ?_) (fun z => absurd z (by decide))
  refine lv_iconst (v := 0) hx hb dX10_runCycles_21 (by decide) ?_
  refine lv_iconst (v := 1) hx hb dX10_runCycles_22 (by decide) ?_
  refine ca_i (isC := [1]) (isR := [0]) (wr := [(a1, .inr (4, [v27, v28, .int 0]))]) (rn_V (ci := 15) (q0 := 1) (isC := [1]) (wc := [(a0, .inr (15, [.int 0, v1, v2, v3, v4, v5, v6, v7, v8, v9, v10, v11, .ref a1, v12, v13, v14, v15, v16, v17, v18, v19, v20, v21, v22, v23, v24, v25, v26]))]) (As := [.int 0, .int 1]) (rest := []) (n := 2) hx hb hml hown hts hE hS hP hD hA hl.1 (k43_X10_fails l D cy g a0 (v1) (v2) (v3) (v4) (v5) (v6) (v7) (v8) (v9) (v10) (v11) (.ref a1) (v12) (v13) (v14) (v15) (v16) (v17) (v18) (v19) (v20) (v21) (v22) (v23) (v24) (v25) (v26) H.size ) rfl rfl rfl rfl rfl ax_41 rfl rfl ax_42 ⟨Nat.le_of_ble_eq_true rfl, Nat.le_of_ble_eq_true rfl⟩ rfl rfl (Nat.le_of_ble_eq_true rfl) dX10_runCycles_23 ⟨(Nat.le_of_ble_eq_true rfl), (Nat.le_of_ble_eq_true rfl)⟩) hP hD hS hA rfl rfl rfl (by decide) (fun ad23 H locs hP hD hS => ?_)
  have hP : va_P D vwCl [(a1, .inr (4, [v27, v28, .int 0])), (a0, .inr (15, [.int 0, v1, v2, v3, v4, v5, v6, v7, v8, v9, v10, v11, .ref a1, v12, v13, v14, v15, v16, v17, v18, v19, v20, v21, v22, v23, v24, v25, v26]))] H := hP
  have hD : va_D A [(a1, .inr (4, [v27, v28, .int 0])), (a0, .inr (15, [.int 0, v1, v2, v3, v4, v5, v6, v7, v8, v9, v10, v11, .ref a1, v12, v13, v14, v15, v16, v17, v18, v19, v20, v21, v22, v23, v24, v25, v26]))] := hD
  refine lv_if_ne (tgt := 46) hx hb dX10_runCycles_26 (by decide) (fun z => absurd (by decide) z) (fun _ => ?_)
  refine lv_aload_n hx hb dX10_runCycles_29 rfl (lv_at hl 0 rfl) ?_
  refine lv_aload_n hx hb dX10_runCycles_30 rfl (lv_at hl 0 rfl) ?_
  refine va_get (D := D) (ci := 15) (v := .ref a1) (C := RX10) (T := TX10) (N := 28) hx hb hts ax_29 hown hE.1 hP 1 rfl rfl 12 (by decide) (hts _ tw_283) (fun _ h9 => h9) rfl dX10_runCycles_31 ?_
  refine ca_Fi (isC := [0]) (isR := [1]) (wr := [(a0, .inr (15, [.int 0, v1, v2, v3, v4, v5, v6, v7, v8, v9, v10, v11, .ref a1, v12, v13, v14, v15, v16, v17, v18, v19, v20, v21, v22, v23, v24, v25, v26]))]) (rn_F (ci := 4) (q0 := 0) (isC := [0]) (wc := [(a1, .inr (4, [v27, v28, .int 0]))]) (As := []) (rest := [.ref a0]) (n := 0) hx hb hml hown hts hE hS hP hD hA hl.1 (k139_Jx4a65c_isEmpty_aae02 l D cy g a1 (v27) (v28) H.size ) rfl rfl rfl rfl rfl ax_127 tw_512 tw_513 tw_514 tw_515 tw_371 rfl rfl ax_128 ⟨Nat.le_of_ble_eq_true rfl, Nat.le_of_ble_eq_true rfl⟩ rfl rfl (Nat.le_of_ble_eq_true rfl) dX10_runCycles_34 ⟨(Nat.le_of_ble_eq_true rfl), (Nat.le_of_ble_eq_true rfl)⟩) hP hD hS hA rfl rfl rfl (by decide) (fun ad34 H locs hP hD hS => ?_)
  have hP : va_P D vwCl [(a0, .inr (15, [.int 0, v1, v2, v3, v4, v5, v6, v7, v8, v9, v10, v11, .ref a1, v12, v13, v14, v15, v16, v17, v18, v19, v20, v21, v22, v23, v24, v25, v26])), (a1, .inr (4, [v27, v28, .int 0]))] H := hP
  have hD : va_D A [(a0, .inr (15, [.int 0, v1, v2, v3, v4, v5, v6, v7, v8, v9, v10, v11, .ref a1, v12, v13, v14, v15, v16, v17, v18, v19, v20, v21, v22, v23, v24, v25, v26])), (a1, .inr (4, [v27, v28, .int 0]))] := hD
  refine lv_iconst (v := 2) hx hb dX10_runCycles_39 (by decide) ?_
  refine ca_i (isC := [0]) (isR := [1]) (wr := [(a1, .inr (4, [v27, v28, .int 0]))]) (rn_V (ci := 15) (q0 := 0) (isC := [0]) (wc := [(a0, .inr (15, [.int 0, v1, v2, v3, v4, v5, v6, v7, v8, v9, v10, v11, .ref a1, v12, v13, v14, v15, v16, v17, v18, v19, v20, v21, v22, v23, v24, v25, v26]))]) (As := [.int 1, .int 2]) (rest := []) (n := 2) hx hb hml hown hts hE hS hP hD hA hl.1 (k146_X10_fails l D cy g a0 (v1) (v2) (v3) (v4) (v5) (v6) (v7) (v8) (v9) (v10) (v11) (.ref a1) (v12) (v13) (v14) (v15) (v16) (v17) (v18) (v19) (v20) (v21) (v22) (v23) (v24) (v25) (v26) H.size ) rfl rfl rfl rfl rfl ax_41 rfl rfl ax_42 ⟨Nat.le_of_ble_eq_true rfl, Nat.le_of_ble_eq_true rfl⟩ rfl rfl (Nat.le_of_ble_eq_true rfl) dX10_runCycles_40 ⟨(Nat.le_of_ble_eq_true rfl), (Nat.le_of_ble_eq_true rfl)⟩) hP hD hS hA rfl rfl rfl (by decide) (fun ad40 H locs hP hD hS => ?_)
  have hP : va_P D vwCl [(a1, .inr (4, [v27, v28, .int 0])), (a0, .inr (15, [.int 2, v1, v2, v3, v4, v5, v6, v7, v8, v9, v10, v11, .ref a1, v12, v13, v14, v15, v16, v17, v18, v19, v20, v21, v22, v23, v24, v25, v26]))] H := hP
  have hD : va_D A [(a1, .inr (4, [v27, v28, .int 0])), (a0, .inr (15, [.int 2, v1, v2, v3, v4, v5, v6, v7, v8, v9, v10, v11, .ref a1, v12, v13, v14, v15, v16, v17, v18, v19, v20, v21, v22, v23, v24, v25, v26]))] := hD
  refine lv_if_eq (tgt := 48) hx hb dX10_runCycles_43 (by decide) (fun z => absurd z (by decide)) (fun _ => ?_)
  refine lv_iconst (v := (-1)) hx hb dX10_runCycles_46 (by decide) ?_
  exact en_z hx hb hr hlk hP hD hS rfl (fun _ => 0) (is := [1]) rfl rfl (Nat.le_of_ble_eq_true rfl) (Nat.le_of_ble_eq_true rfl) dX10_runCycles_47
set_option maxHeartbeats 4000000 in
set_option maxRecDepth 100000 in
theorem k474_X9_wasEnded (l : Launch) (hst : l.stackTraces = false) (D : va_G) (cy : Nat → ClassId) (g : Nat → Nat) (a0 : Nat) (a1 : Nat) (v0 : Value) (v1 : Value) (v2 : Value) (v3 : Value) (v4 : Value) (v5 : Value) (v6 : Value) (v7 : Value) (v8 : Value) (v9 : Value) (v10 : Value) (v11 : Value) (v12 : Value) (v13 : Value) (v14 : Value) (v15 : Value) (v16 : Value) (v17 : Value) (sz : Nat)  : vx_Met l yX9_wasEnded [.code yX9_wasEnded cX9_wasEnded 1 (some .boolean)] ({ frames := 6, cells := 1, slots := 6, locals := 82 }) (PC D cy g [(a0, .inr (14, [v0, v1, v2, .ref a1, v3, v4, v5])), (a1, .inr (6, [v6, v7, v8, v9, v10, v11, v12, v13, v14, v15, v16, .int 0, v17]))] sz [.ref a0]) QN (XE "java/lang/IllegalStateException" (va_A [(a0, .inr (14, [v0, v1, v2, .ref a1, v3, v4, v5])), (a1, .inr (6, [v6, v7, v8, v9, v10, v11, v12, v13, v14, v15, v16, .int 0, v17]))] sz)) 1 6 (va_A [(a0, .inr (14, [v0, v1, v2, .ref a1, v3, v4, v5])), (a1, .inr (6, [v6, v7, v8, v9, v10, v11, v12, v13, v14, v15, v16, .int 0, v17]))] sz) := by
  refine st_X (by decide) (Nat.le_of_ble_eq_true rfl) ?_
  intro p e s m args below meth c A ls hx hb hr hml hown hlk hnm hsz hP hD hA hE hts hS hl hout
  have hown : s.vm.findClass RX9 = some m.cls := hown
  have hl : lv_has ls 1 [(0, .ref a0)] := hl
  refine lv_aload_n hx hb dX9_wasEnded_0 rfl (lv_at hl 0 rfl) ?_
  refine va_get (D := D) (ci := 14) (v := .ref a1) (C := RX9) (T := TX9) (N := 7) hx hb hts ax_16 hown hE.1 hP 0 rfl rfl 3 (by decide) (hts _ tw_199) (fun _ h9 => h9) rfl dX9_wasEnded_1 ?_
  refine va_getN (D := D) (ci := 6) (v := .int 0) (C := RX1) (T := TX1) (N := 13) hx hb hts ax_7 hown hE.1 hP 1 rfl rfl 11 (by decide) (hts _ tw_874) (fun _ h9 => h9) rfl dX9_wasEnded_4 ?_
  refine lv_if_ne (tgt := 21) hx hb dX9_wasEnded_7 (by decide) (fun z => absurd (by decide) z) (fun _ => ?_)
  exact th_SW (text := "there was no run") hx hb hst hown hts hE hS (hl.1.trans hml.symm) hout hlk (by decide +kernel) tw_718 tw_719 ax_225 (by decide +kernel) dX9_wasEnded_10 dX9_wasEnded_13 dX9_wasEnded_14 dX9_wasEnded_17 dX9_wasEnded_20 ⟨Nat.le_of_ble_eq_true rfl, Nat.le_of_ble_eq_true rfl, Nat.le_of_ble_eq_true rfl, Nat.le_of_ble_eq_true rfl⟩ (Nat.le_of_ble_eq_true rfl) (Nat.le_of_ble_eq_true rfl)
set_option maxHeartbeats 4000000 in
set_option maxRecDepth 100000 in
theorem k475_L_wasEnded (l : Launch) (hst : l.stackTraces = false) (D : va_G) (cy : Nat → ClassId) (g : Nat → Nat) (a0 : Nat) (a1 : Nat) (b0 : Nat) (v0 : Value) (v1 : Value) (v2 : Value) (v3 : Value) (v4 : Value) (v5 : Value) (v6 : Value) (v7 : Value) (v8 : Value) (v9 : Value) (v10 : Value) (v11 : Value) (v12 : Value) (v13 : Value) (v14 : Value) (v15 : Value) (v16 : Value) (v17 : Value) (sz : Nat)  : Met l yL_wasEnded [.codeWith yL_wasEnded cL_wasEnded 3 (some .int) [(0, 15, 18, 15)]] ({ frames := 7, cells := 1, slots := 6, locals := 102 }) (PC D cy g [(a0, .inr (14, [v0, v1, v2, .ref a1, v3, v4, v5])), (a1, .inr (6, [v6, v7, v8, v9, v10, v11, v12, v13, v14, v15, v16, .int 0, v17]))] sz [.ref a0, .ref b0]) (QI D 1 (fun ad => []) (va_A [(a0, .inr (14, [v0, v1, v2, .ref a1, v3, v4, v5])), (a1, .inr (6, [v6, v7, v8, v9, v10, v11, v12, v13, v14, v15, v16, .int 0, v17]))] sz)) 1 6 (va_A [(a0, .inr (14, [v0, v1, v2, .ref a1, v3, v4, v5])), (a1, .inr (6, [v6, v7, v8, v9, v10, v11, v12, v13, v14, v15, v16, .int 0, v17]))] sz) := by
  refine sh_I (by decide) (Nat.le_of_ble_eq_true rfl) ?_
  intro p e s m args below meth c A ls hx hb hr hml hown hlk hnm hsz hP hD hA hE hts hS hl htb
  have hown : s.vm.findClass RL = some m.cls := hown
  have hl : lv_has ls 3 [(0, .ref a0), (1, .ref b0)] := hl
  refine lv_aload_n hx hb dL_wasEnded_0 rfl (lv_at hl 1 rfl) ?_
  refine lv_iconst (v := 0) hx hb dL_wasEnded_1 (by decide) ?_
  refine lv_aload_n hx hb dL_wasEnded_2 rfl (lv_at hl 0 rfl) ?_
  refine cx_catch (isC := [0, 1]) (isR := []) (wr := []) (hp := []) (z := (0, 15, 18, 15)) (hq := []) (name := "java/lang/IllegalStateException") (own := RL) (rx_V (ci := 14) (q0 := 0) (isC := [0, 1]) (wc := [(a0, .inr (14, [v0, v1, v2, .ref a1, v3, v4, v5])), (a1, .inr (6, [v6, v7, v8, v9, v10, v11, v12, v13, v14, v15, v16, .int 0, v17]))]) (As := []) (rest := [.int 0, .ref b0]) (n := 0) hx hb hml hown hts hE hS hP hD hA hl.1 (k474_X9_wasEnded l hst D cy g a0 a1 (v0) (v1) (v2) (v3) (v4) (v5) (v6) (v7) (v8) (v9) (v10) (v11) (v12) (v13) (v14) (v15) (v16) (v17) s.heap.size ) rfl rfl rfl rfl rfl ax_307 rfl rfl ax_308 ⟨Nat.le_of_ble_eq_true rfl, Nat.le_of_ble_eq_true rfl⟩ rfl rfl (Nat.le_of_ble_eq_true rfl) dL_wasEnded_3 ⟨(Nat.le_of_ble_eq_true rfl), (Nat.le_of_ble_eq_true rfl)⟩) hP hD hS hA hown hts hE htb rfl rfl rfl rfl (by decide) (fun z hz => by cases hz) (by decide) (by decide) tw_720 tw_721 (fun qx H locs hP hD hS => ?_)
  have hP : va_P D vwCl [] H := hP
  have hD : va_D A [] := hD
  refine lv_astore_n (lv' := [(2, .ref qx), (0, .ref a0), (1, .ref b0)]) hx hb dL_wasEnded_18 rfl hl (Nat.le_of_ble_eq_true rfl) rfl (fun ls hl => ?_)
  refine lv_iconst (v := 1) hx hb dL_wasEnded_19 (by decide) ?_
  exact en_z hx hb hr hlk hP hD hS rfl (fun _ => 0) (is := []) rfl rfl (Nat.le_of_ble_eq_true rfl) (Nat.le_of_ble_eq_true rfl) dL_wasEnded_20
set_option maxHeartbeats 4000000 in
set_option maxRecDepth 100000 in
theorem k476_X10_wasEnded (l : Launch) (D : va_G) (cy : Nat → ClassId) (g : Nat → Nat) (a0 : Nat) (v0 : Value) (v1 : Value) (v2 : Value) (v3 : Value) (v4 : Value) (v5 : Value) (v6 : Value) (v7 : Value) (v8 : Value) (v9 : Value) (v10 : Value) (v11 : Value) (v12 : Value) (v13 : Value) (v14 : Value) (v15 : Value) (v16 : Value) (v17 : Value) (v18 : Value) (v19 : Value) (v20 : Value) (v21 : Value) (v22 : Value) (v23 : Value) (v24 : Value) (v25 : Value) (v26 : Value) (sz : Nat)  : Met l yX10_wasEnded [.code yX10_wasEnded cX10_wasEnded 1 (some .boolean)] ({ frames := 1, cells := 0, slots := 0, locals := 22 }) (PC D cy g [(a0, .inr (15, [v0, v1, v2, v3, v4, v5, v6, v7, v8, v9, v10, v11, v12, v13, .int 0, v14, v15, v16, v17, v18, v19, v20, v21, v22, v23, v24, v25, v26]))] sz [.ref a0]) (QI D 0 (fun ad => [(a0, .inr (15, [.int 1, v1, v2, v3, v4, v5, v6, v7, v8, v9, v10, v11, v12, v13, .int 0, v14, v15, v16, v17, v18, v19, v20, v21, v22, v23, v24, v25, v26]))]) (va_A [(a0, .inr (15, [v0, v1, v2, v3, v4, v5, v6, v7, v8, v9, v10, v11, v12, v13, .int 0, v14, v15, v16, v17, v18, v19, v20, v21, v22, v23, v24, v25, v26]))] sz)) 0 0 (va_A [(a0, .inr (15, [v0, v1, v2, v3, v4, v5, v6, v7, v8, v9, v10, v11, v12, v13, .int 0, v14, v15, v16, v17, v18, v19, v20, v21, v22, v23, v24, v25, v26]))] sz) := by
  refine st_I (by decide) (Nat.le_of_ble_eq_true rfl) ?_
  intro p e s m args below meth c A ls hx hb hr hml hown hlk hnm hsz hP hD hA hE hts hS hl
  have hown : s.vm.findClass RX10 = some m.cls := hown
  have hl : lv_has ls 1 [(0, .ref a0)] := hl
  refine lv_aload_n hx hb dX10_wasEnded_0 rfl (lv_at hl 0 rfl) ?_
  refine ca_v (isC := [0]) (isR := []) (wr := []) (rn_V (ci := 15) (q0 := 0) (isC := [0]) (wc := [(a0, .inr (15, [v0, v1, v2, v3, v4, v5, v6, v7, v8, v9, v10, v11, v12, v13, .int 0, v14, v15, v16, v17, v18, v19, v20, v21, v22, v23, v24, v25, v26]))]) (As := []) (rest := []) (n := 0) hx hb hml hown hts hE hS hP hD hA hl.1 (k20_X10_begins l D cy g a0 (v0) (v1) (v2) (v3) (v4) (v5) (v6) (v7) (v8) (v9) (v10) (v11) (v12) (v13) (.int 0) (v14) (v15) (v16) (v17) (v18) (v19) (v20) (v21) (v22) (v23) (v24) (v25) (v26) s.heap.size ) rfl rfl rfl rfl rfl ax_37 rfl rfl ax_38 ⟨Nat.le_of_ble_eq_true rfl, Nat.le_of_ble_eq_true rfl⟩ rfl rfl (Nat.le_of_ble_eq_true rfl) dX10_wasEnded_1 ⟨(Nat.le_of_ble_eq_true rfl), (Nat.le_of_ble_eq_true rfl)⟩) hP hD hS hA rfl rfl rfl (by decide) (fun ad1 H locs hP hD hS => ?_)
  have hP : va_P D vwCl [(a0, .inr (15, [.int 0, v1, v2, v3, v4, v5, v6, v7, v8, v9, v10, v11, v12, v13, .int 0, v14, v15, v16, v17, v18, v19, v20, v21, v22, v23, v24, v25, v26]))] H := hP
  have hD : va_D A [(a0, .inr (15, [.int 0, v1, v2, v3, v4, v5, v6, v7, v8, v9, v10, v11, v12, v13, .int 0, v14, v15, v16, v17, v18, v19, v20, v21, v22, v23, v24, v25, v26]))] := hD
  refine lv_aload_n hx hb dX10_wasEnded_4 rfl (lv_at hl 0 rfl) ?_
  refine lv_aload_n hx hb dX10_wasEnded_5 rfl (lv_at hl 0 rfl) ?_
  refine va_get (D := D) (ci := 15) (v := .int 0) (C := RX10) (T := TX10) (N := 28) hx hb hts ax_29 hown hE.1 hP 0 rfl rfl 14 (by decide) (hts _ tw_882) (fun _ h9 => h9) rfl dX10_wasEnded_6 ?_
  refine lv_if_ne (tgt := 16) hx hb dX10_wasEnded_9 (by decide) (fun z => absurd (by decide) z) (fun _ => ?_)
  refine lv_iconst (v := 1) hx hb dX10_wasEnded_12 (by decide) ?_
  refine lv_goto (tgt := 17) hx hb dX10_wasEnded_13 (by decide) ?_
  refine lv_iconst (v := 1) hx hb dX10_wasEnded_17 (by decide) ?_
  refine ca_i (isC := [0]) (isR := []) (wr := []) (rn_V (ci := 15) (q0 := 0) (isC := [0]) (wc := [(a0, .inr (15, [.int 0, v1, v2, v3, v4, v5, v6, v7, v8, v9, v10, v11, v12, v13, .int 0, v14, v15, v16, v17, v18, v19, v20, v21, v22, v23, v24, v25, v26]))]) (As := [.int 1, .int 1]) (rest := []) (n := 2) hx hb hml hown hts hE hS hP hD hA hl.1 (k22_X10_fails l D cy g a0 (v1) (v2) (v3) (v4) (v5) (v6) (v7) (v8) (v9) (v10) (v11) (v12) (v13) (.int 0) (v14) (v15) (v16) (v17) (v18) (v19) (v20) (v21) (v22) (v23) (v24) (v25) (v26) H.size ) rfl rfl rfl rfl rfl ax_41 rfl rfl ax_42 ⟨Nat.le_of_ble_eq_true rfl, Nat.le_of_ble_eq_true rfl⟩ rfl rfl (Nat.le_of_ble_eq_true rfl) dX10_wasEnded_18 ⟨(Nat.le_of_ble_eq_true rfl), (Nat.le_of_ble_eq_true rfl)⟩) hP hD hS hA rfl rfl rfl (by decide) (fun ad18 H locs hP hD hS => ?_)
  have hP : va_P D vwCl [(a0, .inr (15, [.int 1, v1, v2, v3, v4, v5, v6, v7, v8, v9, v10, v11, v12, v13, .int 0, v14, v15, v16, v17, v18, v19, v20, v21, v22, v23, v24, v25, v26]))] H := hP
  have hD : va_D A [(a0, .inr (15, [.int 1, v1, v2, v3, v4, v5, v6, v7, v8, v9, v10, v11, v12, v13, .int 0, v14, v15, v16, v17, v18, v19, v20, v21, v22, v23, v24, v25, v26]))] := hD
  refine lv_if_ne (tgt := 35) hx hb dX10_wasEnded_21 (by decide) (fun _ => ?_) (fun z => absurd z (by decide))
  refine lv_iconst (v := 0) hx hb dX10_wasEnded_35 (by decide) ?_
  exact en_z hx hb hr hlk hP hD hS rfl (fun _ => 0) (is := [0]) rfl rfl (Nat.le_of_ble_eq_true rfl) (Nat.le_of_ble_eq_true rfl) dX10_wasEnded_36
set_option maxHeartbeats 4000000 in
set_option maxRecDepth 100000 in
theorem k477_X9_gasEnergy (l : Launch) (D : va_G) (cy : Nat → ClassId) (g : Nat → Nat) (a0 : Nat) (a1 : Nat) (a2 : Nat) (v0 : Value) (v1 : Value) (v2 : Value) (v3 : Value) (v4 : Value) (v5 : Value) (v6 : Value) (v7 : Value) (v8 : Value) (v9 : Value) (v10 : Value) (v11 : Value) (v12 : Value) (v13 : Value) (v14 : Value) (v15 : Value) (v16 : Value) (v17 : Value) (v18 : Value) (sz : Nat)  : Met l yX9_gasEnergy [.code yX9_gasEnergy cX9_gasEnergy 1 (some .int)] ({ frames := 1, cells := 0, slots := 0, locals := 20 }) (PC D cy g [(a0, .inr (14, [v0, v1, v2, .ref a1, v3, v4, v5])), (a1, .inr (6, [v6, v7, v8, v9, v10, v11, .ref a2, v12, v13, v14, v15, v16, v17])), (a2, .inr (13, [.long 900, v18, .int 1]))] sz [.ref a0]) (QI D 900 (fun ad => []) (va_A [(a0, .inr (14, [v0, v1, v2, .ref a1, v3, v4, v5])), (a1, .inr (6, [v6, v7, v8, v9, v10, v11, .ref a2, v12, v13, v14, v15, v16, v17])), (a2, .inr (13, [.long 900, v18, .int 1]))] sz)) 0 0 (va_A [(a0, .inr (14, [v0, v1, v2, .ref a1, v3, v4, v5])), (a1, .inr (6, [v6, v7, v8, v9, v10, v11, .ref a2, v12, v13, v14, v15, v16, v17])), (a2, .inr (13, [.long 900, v18, .int 1]))] sz) := by
  refine st_I (by decide) (Nat.le_of_ble_eq_true rfl) ?_
  intro p e s m args below meth c A ls hx hb hr hml hown hlk hnm hsz hP hD hA hE hts hS hl
  have hown : s.vm.findClass RX9 = some m.cls := hown
  have hl : lv_has ls 1 [(0, .ref a0)] := hl
  refine lv_aload_n hx hb dX9_gasEnergy_0 rfl (lv_at hl 0 rfl) ?_
  refine va_get (D := D) (ci := 14) (v := .ref a1) (C := RX9) (T := TX9) (N := 7) hx hb hts ax_16 hown hE.1 hP 0 rfl rfl 3 (by decide) (hts _ tw_199) (fun _ h9 => h9) rfl dX9_gasEnergy_1 ?_
  refine va_getN (D := D) (ci := 6) (v := .ref a2) (C := RX1) (T := TX1) (N := 13) hx hb hts ax_7 hown hE.1 hP 1 rfl rfl 6 (by decide) (hts _ tw_221) (fun _ h9 => h9) rfl dX9_gasEnergy_4 ?_
  refine ca_l (isC := [2]) (isR := [0, 1]) (wr := [(a0, .inr (14, [v0, v1, v2, .ref a1, v3, v4, v5])), (a1, .inr (6, [v6, v7, v8, v9, v10, v11, .ref a2, v12, v13, v14, v15, v16, v17]))]) (rn_V (ci := 13) (q0 := 2) (isC := [2]) (wc := [(a2, .inr (13, [.long 900, v18, .int 1]))]) (As := []) (rest := []) (n := 0) hx hb hml hown hts hE hS hP hD hA hl.1 (k11_X8_low l D cy g a2 (v18) s.heap.size ) rfl rfl rfl rfl rfl ax_23 rfl rfl ax_24 ⟨Nat.le_of_ble_eq_true rfl, Nat.le_of_ble_eq_true rfl⟩ rfl rfl (Nat.le_of_ble_eq_true rfl) dX9_gasEnergy_7 ⟨(Nat.le_of_ble_eq_true rfl), (Nat.le_of_ble_eq_true rfl)⟩) hP hD hS hA rfl rfl rfl (by decide) (fun ad7 H locs hP hD hS => ?_)
  have hP : va_P D vwCl [(a0, .inr (14, [v0, v1, v2, .ref a1, v3, v4, v5])), (a1, .inr (6, [v6, v7, v8, v9, v10, v11, .ref a2, v12, v13, v14, v15, v16, v17])), (a2, .inr (13, [.long 900, v18, .int 1]))] H := hP
  have hD : va_D A [(a0, .inr (14, [v0, v1, v2, .ref a1, v3, v4, v5])), (a1, .inr (6, [v6, v7, v8, v9, v10, v11, .ref a2, v12, v13, v14, v15, v16, v17])), (a2, .inr (13, [.long 900, v18, .int 1]))] := hD
  refine lv_l2i (v := 900) hx hb dX9_gasEnergy_10 (by decide) ?_
  exact en_z hx hb hr hlk hP hD hS rfl (fun _ => 0) (is := []) rfl rfl (Nat.le_of_ble_eq_true rfl) (Nat.le_of_ble_eq_true rfl) dX9_gasEnergy_11
set_option maxHeartbeats 4000000 in
set_option maxRecDepth 100000 in
theorem k478_X10_gasEnergy (l : Launch) (D : va_G) (cy : Nat → ClassId) (g : Nat → Nat) (a0 : Nat) (v0 : Value) (v1 : Value) (v2 : Value) (v3 : Value) (v4 : Value) (v5 : Value) (v6 : Value) (v7 : Value) (v8 : Value) (v9 : Value) (v10 : Value) (v11 : Value) (v12 : Value) (v13 : Value) (v14 : Value) (v15 : Value) (v16 : Value) (v17 : Value) (v18 : Value) (v19 : Value) (v20 : Value) (v21 : Value) (v22 : Value) (v23 : Value) (v24 : Value) (v25 : Value) (v26 : Value) (sz : Nat)  : Met l yX10_gasEnergy [.code yX10_gasEnergy cX10_gasEnergy 1 (some .int)] ({ frames := 1, cells := 0, slots := 0, locals := 20 }) (PC D cy g [(a0, .inr (15, [v0, v1, v2, v3, v4, v5, v6, v7, v8, v9, v10, .int 900, v11, v12, v13, v14, v15, v16, v17, v18, v19, v20, v21, v22, v23, v24, v25, v26]))] sz [.ref a0]) (QI D 900 (fun ad => [(a0, .inr (15, [.int 0, v1, v2, v3, v4, v5, v6, v7, v8, v9, v10, .int 900, v11, v12, v13, v14, v15, v16, v17, v18, v19, v20, v21, v22, v23, v24, v25, v26]))]) (va_A [(a0, .inr (15, [v0, v1, v2, v3, v4, v5, v6, v7, v8, v9, v10, .int 900, v11, v12, v13, v14, v15, v16, v17, v18, v19, v20, v21, v22, v23, v24, v25, v26]))] sz)) 0 0 (va_A [(a0, .inr (15, [v0, v1, v2, v3, v4, v5, v6, v7, v8, v9, v10, .int 900, v11, v12, v13, v14, v15, v16, v17, v18, v19, v20, v21, v22, v23, v24, v25, v26]))] sz) := by
  refine st_I (by decide) (Nat.le_of_ble_eq_true rfl) ?_
  intro p e s m args below meth c A ls hx hb hr hml hown hlk hnm hsz hP hD hA hE hts hS hl
  have hown : s.vm.findClass RX10 = some m.cls := hown
  have hl : lv_has ls 1 [(0, .ref a0)] := hl
  refine lv_aload_n hx hb dX10_gasEnergy_0 rfl (lv_at hl 0 rfl) ?_
  refine ca_v (isC := [0]) (isR := []) (wr := []) (rn_V (ci := 15) (q0 := 0) (isC := [0]) (wc := [(a0, .inr (15, [v0, v1, v2, v3, v4, v5, v6, v7, v8, v9, v10, .int 900, v11, v12, v13, v14, v15, v16, v17, v18, v19, v20, v21, v22, v23, v24, v25, v26]))]) (As := []) (rest := []) (n := 0) hx hb hml hown hts hE hS hP hD hA hl.1 (k20_X10_begins l D cy g a0 (v0) (v1) (v2) (v3) (v4) (v5) (v6) (v7) (v8) (v9) (v10) (.int 900) (v11) (v12) (v13) (v14) (v15) (v16) (v17) (v18) (v19) (v20) (v21) (v22) (v23) (v24) (v25) (v26) s.heap.size ) rfl rfl rfl rfl rfl ax_37 rfl rfl ax_38 ⟨Nat.le_of_ble_eq_true rfl, Nat.le_of_ble_eq_true rfl⟩ rfl rfl (Nat.le_of_ble_eq_true rfl) dX10_gasEnergy_1 ⟨(Nat.le_of_ble_eq_true rfl), (Nat.le_of_ble_eq_true rfl)⟩) hP hD hS hA rfl rfl rfl (by decide) (fun ad1 H locs hP hD hS => ?_)
  have hP : va_P D vwCl [(a0, .inr (15, [.int 0, v1, v2, v3, v4, v5, v6, v7, v8, v9, v10, .int 900, v11, v12, v13, v14, v15, v16, v17, v18, v19, v20, v21, v22, v23, v24, v25, v26]))] H := hP
  have hD : va_D A [(a0, .inr (15, [.int 0, v1, v2, v3, v4, v5, v6, v7, v8, v9, v10, .int 900, v11, v12, v13, v14, v15, v16, v17, v18, v19, v20, v21, v22, v23, v24, v25, v26]))] := hD
  refine lv_aload_n hx hb dX10_gasEnergy_4 rfl (lv_at hl 0 rfl) ?_
  refine va_get (D := D) (ci := 15) (v := .int 900) (C := RX10) (T := TX10) (N := 28) hx hb hts ax_29 hown hE.1 hP 0 rfl rfl 11 (by decide) (hts _ tw_282) (fun _ h9 => h9) rfl dX10_gasEnergy_5 ?_
  exact en_z hx hb hr hlk hP hD hS rfl (fun _ => 0) (is := [0]) rfl rfl (Nat.le_of_ble_eq_true rfl) (Nat.le_of_ble_eq_true rfl) dX10_gasEnergy_8
set_option maxHeartbeats 4000000 in
set_option maxRecDepth 100000 in
theorem k479_X8_set (l : Launch) (D : va_G) (cy : Nat → ClassId) (g : Nat → Nat) (a0 : Nat) (v0 : Value) (v1 : Value) (v2 : Value) (sz : Nat)  : Met l yX8_set [.code yX8_set cX8_set 3 none] ({ frames := 0, cells := 0, slots := 0, locals := 0 }) (PC D cy g [(a0, .inr (13, [v0, v1, v2]))] sz [.ref a0, .long 0]) (QV D (fun ad => [(a0, .inr (13, [.long 0, v1, .int 0]))]) (va_A [(a0, .inr (13, [v0, v1, v2]))] sz)) 0 0 (va_A [(a0, .inr (13, [v0, v1, v2]))] sz) := by
  refine st_V (by decide) (Nat.le_of_ble_eq_true rfl) ?_
  intro p e s m args below meth c A ls hx hb hr hml hown hlk hnm hsz hP hD hA hE hts hS hl
  have hown : s.vm.findClass RX8 = some m.cls := hown
  have hl : lv_has ls 3 [(0, .ref a0), (1, .long 0)] := hl
  refine lv_aload_n hx hb dX8_set_0 rfl (lv_at hl 0 rfl) ?_
  refine lv_lload_n hx hb dX8_set_1 rfl (lv_at hl 1 rfl) ?_
  refine lv_ldc2 (v := 1125899906842623) hx hb hown (hts _ tw_84) dX8_set_2 ?_
  refine lv_land hx hb dX8_set_5 ?_
  refine tp_l 0 (by decide) ?_
  refine va_put (D := D) (ci := 13) (v := .long 0) (ty := .long) (C := RX8) (T := TX8) (N := 3) hx hb hts ax_0 tyX8 tyX8_ok nmX8 hown hE.1 hP hD hS 0 rfl rfl 0 (by decide) (hts _ tw_6) (fun _ h9 => h9) rfl (by decide +kernel) rfl rfl (Nat.le_of_ble_eq_true rfl) dX8_set_6 (fun H locs hP hD hS => ?_)
  have hP : va_P D vwCl [(a0, .inr (13, [.long 0, v1, v2]))] H := hP
  have hD : va_D A [(a0, .inr (13, [.long 0, v1, v2]))] := hD
  refine lv_aload_n hx hb dX8_set_9 rfl (lv_at hl 0 rfl) ?_
  refine lv_aload_n hx hb dX8_set_10 rfl (lv_at hl 0 rfl) ?_
  refine va_get (D := D) (ci := 13) (v := .long 0) (C := RX8) (T := TX8) (N := 3) hx hb hts ax_0 hown hE.1 hP 0 rfl rfl 0 (by decide) (hts _ tw_6) (fun _ h9 => h9) rfl dX8_set_11 ?_
  refine lv_lconst (v := 0) hx hb dX8_set_14 (by decide) ?_
  refine W.lcmp hx hb dX8_set_15 ?_
  refine tp_i 0 (by decide) ?_
  refine lv_if_ne (tgt := 23) hx hb dX8_set_16 (by decide) (fun z => absurd (by decide) z) (fun _ => ?_)
  refine lv_iconst (v := 0) hx hb dX8_set_19 (by decide) ?_
  refine lv_goto (tgt := 24) hx hb dX8_set_20 (by decide) ?_
  refine va_put (D := D) (ci := 13) (v := .int 0) (ty := .int) (C := RX8) (T := TX8) (N := 3) hx hb hts ax_0 tyX8 tyX8_ok nmX8 hown hE.1 hP hD hS 0 rfl rfl 2 (by decide) (hts _ tw_9) (fun _ h9 => h9) rfl (by decide +kernel) rfl rfl (Nat.le_of_ble_eq_true rfl) dX8_set_24 (fun H locs hP hD hS => ?_)
  have hP : va_P D vwCl [(a0, .inr (13, [.long 0, v1, .int 0]))] H := hP
  have hD : va_D A [(a0, .inr (13, [.long 0, v1, .int 0]))] := hD
  refine lv_lload_n hx hb dX8_set_27 rfl (lv_at hl 1 rfl) ?_
  refine lv_ldc2 (v := 1125899906842624) hx hb hown (hts _ tw_85) dX8_set_28 ?_
  refine W.lcmp hx hb dX8_set_31 ?_
  refine tp_i (-1) (by decide) ?_
  refine lv_if_lt (tgt := 49) hx hb dX8_set_32 (by decide) (fun _ => ?_) (fun z => absurd (by decide) z)
  exact en_v hx hb hr hlk hP hD hS (fun _ => 0) (is := [0]) rfl rfl (Nat.le_of_ble_eq_true rfl) (Nat.le_of_ble_eq_true rfl) dX8_set_49

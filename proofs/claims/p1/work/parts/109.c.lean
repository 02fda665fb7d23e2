set_option maxHeartbeats 4000000 in
set_option maxRecDepth 100000 in
theorem k540_X5_narrowest (l : Launch) (D : va_G) (cy : Nat → ClassId) (g : Nat → Nat) (x0 : Int32) (a0 : Nat) (v0 : Value) (v1 : Value) (v2 : Value) (sz : Nat)  : Met l yX5_narrowest [.code yX5_narrowest cX5_narrowest 8 (some .int)] ({ frames := 0, cells := 0, slots := 0, locals := 0 }) (PC D cy g [(a0, .inr (10, [v0, v1, v2, .int 0]))] sz [.ref a0, .int x0]) (QI D 1000 (fun ad => [(a0, .inr (10, [v0, v1, v2, .int 0]))]) (va_A [(a0, .inr (10, [v0, v1, v2, .int 0]))] sz)) 0 0 (va_A [(a0, .inr (10, [v0, v1, v2, .int 0]))] sz) := by
  refine st_I (by decide) (Nat.le_of_ble_eq_true rfl) ?_
  intro p e s m args below meth c A ls hx hb hr hml hown hlk hnm hsz hP hD hA hE hts hS hl
  have hown : s.vm.findClass RX5 = some m.cls := hown
  have hl : lv_has ls 8 [(0, .ref a0), (1, .int x0)] := hl
  refine lv_sipush (v := 1000) hx hb dX5_narrowest_0 (by decide) ?_
  refine lv_istore_n (lv' := [(2, .int 1000), (0, .ref a0), (1, .int x0)]) hx hb dX5_narrowest_3 rfl hl (Nat.le_of_ble_eq_true rfl) rfl (fun ls hl => ?_)
  refine lv_iconst (v := 0) hx hb dX5_narrowest_4 (by decide) ?_
  refine lv_istore_n (lv' := [(3, .int 0), (2, .int 1000), (0, .ref a0), (1, .int x0)]) hx hb dX5_narrowest_5 rfl hl (Nat.le_of_ble_eq_true rfl) rfl (fun ls hl => ?_)
  refine lv_iconst (v := 0) hx hb dX5_narrowest_6 (by decide) ?_
  refine lv_istore (lv' := [(4, .int 0), (3, .int 0), (2, .int 1000), (0, .ref a0), (1, .int x0)]) hx hb dX5_narrowest_7 hl (Nat.le_of_ble_eq_true rfl) rfl (fun ls hl => ?_)
  refine lv_iload hx hb dX5_narrowest_9 (lv_at hl 0 rfl) ?_
  refine lv_bipush (v := 20) hx hb dX5_narrowest_11 (by decide) ?_
  refine lv_icmp_ge (tgt := 104) hx hb dX5_narrowest_13 (by decide) (fun z => absurd z (by decide)) (fun _ => ?_)
  refine lv_iload hx hb dX5_narrowest_16 (lv_at hl 0 rfl) ?_
  refine lv_iconst (v := 2) hx hb dX5_narrowest_18 (by decide) ?_
  refine lv_idiv hx hb dX5_narrowest_19 (by decide) ?_
  refine tp_i 0 (by decide) ?_
  refine lv_istore (lv' := [(5, .int 0), (4, .int 0), (3, .int 0), (2, .int 1000), (0, .ref a0), (1, .int x0)]) hx hb dX5_narrowest_20 hl (Nat.le_of_ble_eq_true rfl) rfl (fun ls hl => ?_)
  refine lv_iload hx hb dX5_narrowest_22 (lv_at hl 0 rfl) ?_
  refine lv_aload_n hx hb dX5_narrowest_24 rfl (lv_at hl 4 rfl) ?_
  refine va_get (D := D) (ci := 10) (v := .int 0) (C := RX5) (T := TX5) (N := 4) hx hb hts ax_12 hown hE.1 hP 0 rfl rfl 3 (by decide) (hts _ tw_132) (fun _ h9 => h9) rfl dX5_narrowest_25 ?_
  refine lv_icmp_ge (tgt := 98) hx hb dX5_narrowest_28 (by decide) (fun _ => ?_) (fun z => absurd (by decide) z)
  refine lv_iinc (v := 1) (lv' := [(4, .int 1), (5, .int 0), (3, .int 0), (2, .int 1000), (0, .ref a0), (1, .int x0)]) hx hb dX5_narrowest_98 hl (k := 1) rfl (by decide) (Nat.le_of_ble_eq_true rfl) rfl (fun ls hl => ?_)
  refine lv_goto (tgt := 9) hx hb dX5_narrowest_101 (by decide) ?_
  refine lv_iload hx hb dX5_narrowest_9 (lv_at hl 0 rfl) ?_
  refine lv_bipush (v := 20) hx hb dX5_narrowest_11 (by decide) ?_
  refine lv_icmp_ge (tgt := 104) hx hb dX5_narrowest_13 (by decide) (fun z => absurd z (by decide)) (fun _ => ?_)
  refine lv_iload hx hb dX5_narrowest_16 (lv_at hl 0 rfl) ?_
  refine lv_iconst (v := 2) hx hb dX5_narrowest_18 (by decide) ?_
  refine lv_idiv hx hb dX5_narrowest_19 (by decide) ?_
  refine tp_i 0 (by decide) ?_
  refine lv_istore (lv' := [(5, .int 0), (4, .int 1), (3, .int 0), (2, .int 1000), (0, .ref a0), (1, .int x0)]) hx hb dX5_narrowest_20 hl (Nat.le_of_ble_eq_true rfl) rfl (fun ls hl => ?_)
  refine lv_iload hx hb dX5_narrowest_22 (lv_at hl 0 rfl) ?_
  refine lv_aload_n hx hb dX5_narrowest_24 rfl (lv_at hl 4 rfl) ?_
  refine va_get (D := D) (ci := 10) (v := .int 0) (C := RX5) (T := TX5) (N := 4) hx hb hts ax_12 hown hE.1 hP 0 rfl rfl 3 (by decide) (hts _ tw_132) (fun _ h9 => h9) rfl dX5_narrowest_25 ?_
  refine lv_icmp_ge (tgt := 98) hx hb dX5_narrowest_28 (by decide) (fun _ => ?_) (fun z => absurd (by decide) z)
  refine lv_iinc (v := 2) (lv' := [(4, .int 2), (5, .int 0), (3, .int 0), (2, .int 1000), (0, .ref a0), (1, .int x0)]) hx hb dX5_narrowest_98 hl (k := 1) rfl (by decide) (Nat.le_of_ble_eq_true rfl) rfl (fun ls hl => ?_)
  refine lv_goto (tgt := 9) hx hb dX5_narrowest_101 (by decide) ?_
  refine lv_iload hx hb dX5_narrowest_9 (lv_at hl 0 rfl) ?_
  refine lv_bipush (v := 20) hx hb dX5_narrowest_11 (by decide) ?_
  refine lv_icmp_ge (tgt := 104) hx hb dX5_narrowest_13 (by decide) (fun z => absurd z (by decide)) (fun _ => ?_)
  refine lv_iload hx hb dX5_narrowest_16 (lv_at hl 0 rfl) ?_
  refine lv_iconst (v := 2) hx hb dX5_narrowest_18 (by decide) ?_
  refine lv_idiv hx hb dX5_narrowest_19 (by decide) ?_
  refine tp_i 1 (by decide) ?_
  refine lv_istore (lv' := [(5, .int 1), (4, .int 2), (3, .int 0), (2, .int 1000), (0, .ref a0), (1, .int x0)]) hx hb dX5_narrowest_20 hl (Nat.le_of_ble_eq_true rfl) rfl (fun ls hl => ?_)
  refine lv_iload hx hb dX5_narrowest_22 (lv_at hl 0 rfl) ?_
  refine lv_aload_n hx hb dX5_narrowest_24 rfl (lv_at hl 4 rfl) ?_
  refine va_get (D := D) (ci := 10) (v := .int 0) (C := RX5) (T := TX5) (N := 4) hx hb hts ax_12 hown hE.1 hP 0 rfl rfl 3 (by decide) (hts _ tw_132) (fun _ h9 => h9) rfl dX5_narrowest_25 ?_
  refine lv_icmp_ge (tgt := 98) hx hb dX5_narrowest_28 (by decide) (fun _ => ?_) (fun z => absurd (by decide) z)
  refine lv_iinc (v := 3) (lv' := [(4, .int 3), (5, .int 1), (3, .int 0), (2, .int 1000), (0, .ref a0), (1, .int x0)]) hx hb dX5_narrowest_98 hl (k := 1) rfl (by decide) (Nat.le_of_ble_eq_true rfl) rfl (fun ls hl => ?_)
  refine lv_goto (tgt := 9) hx hb dX5_narrowest_101 (by decide) ?_
  refine lv_iload hx hb dX5_narrowest_9 (lv_at hl 0 rfl) ?_
  refine lv_bipush (v := 20) hx hb dX5_narrowest_11 (by decide) ?_
  refine lv_icmp_ge (tgt := 104) hx hb dX5_narrowest_13 (by decide) (fun z => absurd z (by decide)) (fun _ => ?_)
  refine lv_iload hx hb dX5_narrowest_16 (lv_at hl 0 rfl) ?_
  refine lv_iconst (v := 2) hx hb dX5_narrowest_18 (by decide) ?_
  refine lv_idiv hx hb dX5_narrowest_19 (by decide) ?_
  refine tp_i 1 (by decide) ?_
  refine lv_istore (lv' := [(5, .int 1), (4, .int 3), (3, .int 0), (2, .int 1000), (0, .ref a0), (1, .int x0)]) hx hb dX5_narrowest_20 hl (Nat.le_of_ble_eq_true rfl) rfl (fun ls hl => ?_)
  refine lv_iload hx hb dX5_narrowest_22 (lv_at hl 0 rfl) ?_
  refine lv_aload_n hx hb dX5_narrowest_24 rfl (lv_at hl 4 rfl) ?_
  refine va_get (D := D) (ci := 10) (v := .int 0) (C := RX5) (T := TX5) (N := 4) hx hb hts ax_12 hown hE.1 hP 0 rfl rfl 3 (by decide) (hts _ tw_132) (fun _ h9 => h9) rfl dX5_narrowest_25 ?_
  refine lv_icmp_ge (tgt := 98) hx hb dX5_narrowest_28 (by decide) (fun _ => ?_) (fun z => absurd (by decide) z)
  refine lv_iinc (v := 4) (lv' := [(4, .int 4), (5, .int 1), (3, .int 0), (2, .int 1000), (0, .ref a0), (1, .int x0)]) hx hb dX5_narrowest_98 hl (k := 1) rfl (by decide) (Nat.le_of_ble_eq_true rfl) rfl (fun ls hl => ?_)
  refine lv_goto (tgt := 9) hx hb dX5_narrowest_101 (by decide) ?_
  refine lv_iload hx hb dX5_narrowest_9 (lv_at hl 0 rfl) ?_
  refine lv_bipush (v := 20) hx hb dX5_narrowest_11 (by decide) ?_
  refine lv_icmp_ge (tgt := 104) hx hb dX5_narrowest_13 (by decide) (fun z => absurd z (by decide)) (fun _ => ?_)
  refine lv_iload hx hb dX5_narrowest_16 (lv_at hl 0 rfl) ?_
  refine lv_iconst (v := 2) hx hb dX5_narrowest_18 (by decide) ?_
  refine lv_idiv hx hb dX5_narrowest_19 (by decide) ?_
  refine tp_i 2 (by decide) ?_
  refine lv_istore (lv' := [(5, .int 2), (4, .int 4), (3, .int 0), (2, .int 1000), (0, .ref a0), (1, .int x0)]) hx hb dX5_narrowest_20 hl (Nat.le_of_ble_eq_true rfl) rfl (fun ls hl => ?_)
  refine lv_iload hx hb dX5_narrowest_22 (lv_at hl 0 rfl) ?_
  refine lv_aload_n hx hb dX5_narrowest_24 rfl (lv_at hl 4 rfl) ?_
  refine va_get (D := D) (ci := 10) (v := .int 0) (C := RX5) (T := TX5) (N := 4) hx hb hts ax_12 hown hE.1 hP 0 rfl rfl 3 (by decide) (hts _ tw_132) (fun _ h9 => h9) rfl dX5_narrowest_25 ?_
  refine lv_icmp_ge (tgt := 98) hx hb dX5_narrowest_28 (by decide) (fun _ => ?_) (fun z => absurd (by decide) z)
  refine lv_iinc (v := 5) (lv' := [(4, .int 5), (5, .int 2), (3, .int 0), (2, .int 1000), (0, .ref a0), (1, .int x0)]) hx hb dX5_narrowest_98 hl (k := 1) rfl (by decide) (Nat.le_of_ble_eq_true rfl) rfl (fun ls hl => ?_)
  refine lv_goto (tgt := 9) hx hb dX5_narrowest_101 (by decide) ?_
  refine lv_iload hx hb dX5_narrowest_9 (lv_at hl 0 rfl) ?_
  refine lv_bipush (v := 20) hx hb dX5_narrowest_11 (by decide) ?_
  refine lv_icmp_ge (tgt := 104) hx hb dX5_narrowest_13 (by decide) (fun z => absurd z (by decide)) (fun _ => ?_)
  refine lv_iload hx hb dX5_narrowest_16 (lv_at hl 0 rfl) ?_
  refine lv_iconst (v := 2) hx hb dX5_narrowest_18 (by decide) ?_
  refine lv_idiv hx hb dX5_narrowest_19 (by decide) ?_
  refine tp_i 2 (by decide) ?_
  refine lv_istore (lv' := [(5, .int 2), (4, .int 5), (3, .int 0), (2, .int 1000), (0, .ref a0), (1, .int x0)]) hx hb dX5_narrowest_20 hl (Nat.le_of_ble_eq_true rfl) rfl (fun ls hl => ?_)
  refine lv_iload hx hb dX5_narrowest_22 (lv_at hl 0 rfl) ?_
  refine lv_aload_n hx hb dX5_narrowest_24 rfl (lv_at hl 4 rfl) ?_
  refine va_get (D := D) (ci := 10) (v := .int 0) (C := RX5) (T := TX5) (N := 4) hx hb hts ax_12 hown hE.1 hP 0 rfl rfl 3 (by decide) (hts _ tw_132) (fun _ h9 => h9) rfl dX5_narrowest_25 ?_
  refine lv_icmp_ge (tgt := 98) hx hb dX5_narrowest_28 (by decide) (fun _ => ?_) (fun z => absurd (by decide) z)
  refine lv_iinc (v := 6) (lv' := [(4, .int 6), (5, .int 2), (3, .int 0), (2, .int 1000), (0, .ref a0), (1, .int x0)]) hx hb dX5_narrowest_98 hl (k := 1) rfl (by decide) (Nat.le_of_ble_eq_true rfl) rfl (fun ls hl => ?_)
  refine lv_goto (tgt := 9) hx hb dX5_narrowest_101 (by decide) ?_
  refine lv_iload hx hb dX5_narrowest_9 (lv_at hl 0 rfl) ?_
  refine lv_bipush (v := 20) hx hb dX5_narrowest_11 (by decide) ?_
  refine lv_icmp_ge (tgt := 104) hx hb dX5_narrowest_13 (by decide) (fun z => absurd z (by decide)) (fun _ => ?_)
  refine lv_iload hx hb dX5_narrowest_16 (lv_at hl 0 rfl) ?_
  refine lv_iconst (v := 2) hx hb dX5_narrowest_18 (by decide) ?_
  refine lv_idiv hx hb dX5_narrowest_19 (by decide) ?_
  refine tp_i 3 (by decide) ?_
  refine lv_istore (lv' := [(5, .int 3), (4, .int 6), (3, .int 0), (2, .int 1000), (0, .ref a0), (1, .int x0)]) hx hb dX5_narrowest_20 hl (Nat.le_of_ble_eq_true rfl) rfl (fun ls hl => ?_)
  refine lv_iload hx hb dX5_narrowest_22 (lv_at hl 0 rfl) ?_
  refine lv_aload_n hx hb dX5_narrowest_24 rfl (lv_at hl 4 rfl) ?_
  refine va_get (D := D) (ci := 10) (v := .int 0) (C := RX5) (T := TX5) (N := 4) hx hb hts ax_12 hown hE.1 hP 0 rfl rfl 3 (by decide) (hts _ tw_132) (fun _ h9 => h9) rfl dX5_narrowest_25 ?_
  refine lv_icmp_ge (tgt := 98) hx hb dX5_narrowest_28 (by decide) (fun _ => ?_) (fun z => absurd (by decide) z)
  refine lv_iinc (v := 7) (lv' := [(4, .int 7), (5, .int 3), (3, .int 0), (2, .int 1000), (0, .ref a0), (1, .int x0)]) hx hb dX5_narrowest_98 hl (k := 1) rfl (by decide) (Nat.le_of_ble_eq_true rfl) rfl (fun ls hl => ?_)
  refine lv_goto (tgt := 9) hx hb dX5_narrowest_101 (by decide) ?_
  refine lv_iload hx hb dX5_narrowest_9 (lv_at hl 0 rfl) ?_
  refine lv_bipush (v := 20) hx hb dX5_narrowest_11 (by decide) ?_
  refine lv_icmp_ge (tgt := 104) hx hb dX5_narrowest_13 (by decide) (fun z => absurd z (by decide)) (fun _ => ?_)
  refine lv_iload hx hb dX5_narrowest_16 (lv_at hl 0 rfl) ?_
  refine lv_iconst (v := 2) hx hb dX5_narrowest_18 (by decide) ?_
  refine lv_idiv hx hb dX5_narrowest_19 (by decide) ?_
  refine tp_i 3 (by decide) ?_
  refine lv_istore (lv' := [(5, .int 3), (4, .int 7), (3, .int 0), (2, .int 1000), (0, .ref a0), (1, .int x0)]) hx hb dX5_narrowest_20 hl (Nat.le_of_ble_eq_true rfl) rfl (fun ls hl => ?_)
  refine lv_iload hx hb dX5_narrowest_22 (lv_at hl 0 rfl) ?_
  refine lv_aload_n hx hb dX5_narrowest_24 rfl (lv_at hl 4 rfl) ?_
  refine va_get (D := D) (ci := 10) (v := .int 0) (C := RX5) (T := TX5) (N := 4) hx hb hts ax_12 hown hE.1 hP 0 rfl rfl 3 (by decide) (hts _ tw_132) (fun _ h9 => h9) rfl dX5_narrowest_25 ?_
  refine lv_icmp_ge (tgt := 98) hx hb dX5_narrowest_28 (by decide) (fun _ => ?_) (fun z => absurd (by decide) z)
  refine lv_iinc (v := 8) (lv' := [(4, .int 8), (5, .int 3), (3, .int 0), (2, .int 1000), (0, .ref a0), (1, .int x0)]) hx hb dX5_narrowest_98 hl (k := 1) rfl (by decide) (Nat.le_of_ble_eq_true rfl) rfl (fun ls hl => ?_)
  refine lv_goto (tgt := 9) hx hb dX5_narrowest_101 (by decide) ?_
  refine lv_iload hx hb dX5_narrowest_9 (lv_at hl 0 rfl) ?_
  refine lv_bipush (v := 20) hx hb dX5_narrowest_11 (by decide) ?_
  refine lv_icmp_ge (tgt := 104) hx hb dX5_narrowest_13 (by decide) (fun z => absurd z (by decide)) (fun _ => ?_)
  refine lv_iload hx hb dX5_narrowest_16 (lv_at hl 0 rfl) ?_
  refine lv_iconst (v := 2) hx hb dX5_narrowest_18 (by decide) ?_
  refine lv_idiv hx hb dX5_narrowest_19 (by decide) ?_
  refine tp_i 4 (by decide) ?_
  refine lv_istore (lv' := [(5, .int 4), (4, .int 8), (3, .int 0), (2, .int 1000), (0, .ref a0), (1, .int x0)]) hx hb dX5_narrowest_20 hl (Nat.le_of_ble_eq_true rfl) rfl (fun ls hl => ?_)
  refine lv_iload hx hb dX5_narrowest_22 (lv_at hl 0 rfl) ?_
  refine lv_aload_n hx hb dX5_narrowest_24 rfl (lv_at hl 4 rfl) ?_
  refine va_get (D := D) (ci := 10) (v := .int 0) (C := RX5) (T := TX5) (N := 4) hx hb hts ax_12 hown hE.1 hP 0 rfl rfl 3 (by decide) (hts _ tw_132) (fun _ h9 => h9) rfl dX5_narrowest_25 ?_
  refine lv_icmp_ge (tgt := 98) hx hb dX5_narrowest_28 (by decide) (fun _ => ?_) (fun z => absurd (by decide) z)
  refine lv_iinc (v := 9) (lv' := [(4, .int 9), (5, .int 4), (3, .int 0), (2, .int 1000), (0, .ref a0), (1, .int x0)]) hx hb dX5_narrowest_98 hl (k := 1) rfl (by decide) (Nat.le_of_ble_eq_true rfl) rfl (fun ls hl => ?_)
  refine lv_goto (tgt := 9) hx hb dX5_narrowest_101 (by decide) ?_
  refine lv_iload hx hb dX5_narrowest_9 (lv_at hl 0 rfl) ?_
  refine lv_bipush (v := 20) hx hb dX5_narrowest_11 (by decide) ?_
  refine lv_icmp_ge (tgt := 104) hx hb dX5_narrowest_13 (by decide) (fun z => absurd z (by decide)) (fun _ => ?_)
  refine lv_iload hx hb dX5_narrowest_16 (lv_at hl 0 rfl) ?_
  refine lv_iconst (v := 2) hx hb dX5_narrowest_18 (by decide) ?_
  refine lv_idiv hx hb dX5_narrowest_19 (by decide) ?_
  refine tp_i 4 (by decide) ?_
  refine lv_istore (lv' := [(5, .int 4), (4, .int 9), (3, .int 0), (2, .int 1000), (0, .ref a0), (1, .int x0)]) hx hb dX5_narrowest_20 hl (Nat.le_of_ble_eq_true rfl) rfl (fun ls hl => ?_)
  refine lv_iload hx hb dX5_narrowest_22 (lv_at hl 0 rfl) ?_
  refine lv_aload_n hx hb dX5_narrowest_24 rfl (lv_at hl 4 rfl) ?_
  refine va_get (D := D) (ci := 10) (v := .int 0) (C := RX5) (T := TX5) (N := 4) hx hb hts ax_12 hown hE.1 hP 0 rfl rfl 3 (by decide) (hts _ tw_132) (fun _ h9 => h9) rfl dX5_narrowest_25 ?_
  refine lv_icmp_ge (tgt := 98) hx hb dX5_narrowest_28 (by decide) (fun _ => ?_) (fun z => absurd (by decide) z)
  refine lv_iinc (v := 10) (lv' := [(4, .int 10), (5, .int 4), (3, .int 0), (2, .int 1000), (0, .ref a0), (1, .int x0)]) hx hb dX5_narrowest_98 hl (k := 1) rfl (by decide) (Nat.le_of_ble_eq_true rfl) rfl (fun ls hl => ?_)
  refine lv_goto (tgt := 9) hx hb dX5_narrowest_101 (by decide) ?_
  refine lv_iload hx hb dX5_narrowest_9 (lv_at hl 0 rfl) ?_
  refine lv_bipush (v := 20) hx hb dX5_narrowest_11 (by decide) ?_
  refine lv_icmp_ge (tgt := 104) hx hb dX5_narrowest_13 (by decide) (fun z => absurd z (by decide)) (fun _ => ?_)
  refine lv_iload hx hb dX5_narrowest_16 (lv_at hl 0 rfl) ?_
  refine lv_iconst (v := 2) hx hb dX5_narrowest_18 (by decide) ?_
  refine lv_idiv hx hb dX5_narrowest_19 (by decide) ?_
  refine tp_i 5 (by decide) ?_
  refine lv_istore (lv' := [(5, .int 5), (4, .int 10), (3, .int 0), (2, .int 1000), (0, .ref a0), (1, .int x0)]) hx hb dX5_narrowest_20 hl (Nat.le_of_ble_eq_true rfl) rfl (fun ls hl => ?_)
  refine lv_iload hx hb dX5_narrowest_22 (lv_at hl 0 rfl) ?_
  refine lv_aload_n hx hb dX5_narrowest_24 rfl (lv_at hl 4 rfl) ?_
  refine va_get (D := D) (ci := 10) (v := .int 0) (C := RX5) (T := TX5) (N := 4) hx hb hts ax_12 hown hE.1 hP 0 rfl rfl 3 (by decide) (hts _ tw_132) (fun _ h9 => h9) rfl dX5_narrowest_25 ?_
  refine lv_icmp_ge (tgt := 98) hx hb dX5_narrowest_28 (by decide) (fun _ => ?_) (fun z => absurd (by decide) z)
  refine lv_iinc (v := 11) (lv' := [(4, .int 11), (5, .int 5), (3, .int 0), (2, .int 1000), (0, .ref a0), (1, .int x0)]) hx hb dX5_narrowest_98 hl (k := 1) rfl (by decide) (Nat.le_of_ble_eq_true rfl) rfl (fun ls hl => ?_)
  refine lv_goto (tgt := 9) hx hb dX5_narrowest_101 (by decide) ?_
  refine lv_iload hx hb dX5_narrowest_9 (lv_at hl 0 rfl) ?_
  refine lv_bipush (v := 20) hx hb dX5_narrowest_11 (by decide) ?_
  refine lv_icmp_ge (tgt := 104) hx hb dX5_narrowest_13 (by decide) (fun z => absurd z (by decide)) (fun _ => ?_)
  refine lv_iload hx hb dX5_narrowest_16 (lv_at hl 0 rfl) ?_
  refine lv_iconst (v := 2) hx hb dX5_narrowest_18 (by decide) ?_
  refine lv_idiv hx hb dX5_narrowest_19 (by decide) ?_
  refine tp_i 5 (by decide) ?_
  refine lv_istore (lv' := [(5, .int 5), (4, .int 11), (3, .int 0), (2, .int 1000), (0, .ref a0), (1, .int x0)]) hx hb dX5_narrowest_20 hl (Nat.le_of_ble_eq_true rfl) rfl (fun ls hl => ?_)
  refine lv_iload hx hb dX5_narrowest_22 (lv_at hl 0 rfl) ?_
  refine lv_aload_n hx hb dX5_narrowest_24 rfl (lv_at hl 4 rfl) ?_
  refine va_get (D := D) (ci := 10) (v := .int 0) (C := RX5) (T := TX5) (N := 4) hx hb hts ax_12 hown hE.1 hP 0 rfl rfl 3 (by decide) (hts _ tw_132) (fun _ h9 => h9) rfl dX5_narrowest_25 ?_
  refine lv_icmp_ge (tgt := 98) hx hb dX5_narrowest_28 (by decide) (fun _ => ?_) (fun z => absurd (by decide) z)
  refine lv_iinc (v := 12) (lv' := [(4, .int 12), (5, .int 5), (3, .int 0), (2, .int 1000), (0, .ref a0), (1, .int x0)]) hx hb dX5_narrowest_98 hl (k := 1) rfl (by decide) (Nat.le_of_ble_eq_true rfl) rfl (fun ls hl => ?_)
  refine lv_goto (tgt := 9) hx hb dX5_narrowest_101 (by decide) ?_
  refine lv_iload hx hb dX5_narrowest_9 (lv_at hl 0 rfl) ?_
  refine lv_bipush (v := 20) hx hb dX5_narrowest_11 (by decide) ?_
  refine lv_icmp_ge (tgt := 104) hx hb dX5_narrowest_13 (by decide) (fun z => absurd z (by decide)) (fun _ => ?_)
  refine lv_iload hx hb dX5_narrowest_16 (lv_at hl 0 rfl) ?_
  refine lv_iconst (v := 2) hx hb dX5_narrowest_18 (by decide) ?_
  refine lv_idiv hx hb dX5_narrowest_19 (by decide) ?_
  refine tp_i 6 (by decide) ?_
  refine lv_istore (lv' := [(5, .int 6), (4, .int 12), (3, .int 0), (2, .int 1000), (0, .ref a0), (1, .int x0)]) hx hb dX5_narrowest_20 hl (Nat.le_of_ble_eq_true rfl) rfl (fun ls hl => ?_)
  refine lv_iload hx hb dX5_narrowest_22 (lv_at hl 0 rfl) ?_
  refine lv_aload_n hx hb dX5_narrowest_24 rfl (lv_at hl 4 rfl) ?_
  refine va_get (D := D) (ci := 10) (v := .int 0) (C := RX5) (T := TX5) (N := 4) hx hb hts ax_12 hown hE.1 hP 0 rfl rfl 3 (by decide) (hts _ tw_132) (fun _ h9 => h9) rfl dX5_narrowest_25 ?_
  refine lv_icmp_ge (tgt := 98) hx hb dX5_narrowest_28 (by decide) (fun _ => ?_) (fun z => absurd (by decide) z)
  refine lv_iinc (v := 13) (lv' := [(4, .int 13), (5, .int 6), (3, .int 0), (2, .int 1000), (0, .ref a0), (1, .int x0)]) hx hb dX5_narrowest_98 hl (k := 1) rfl (by decide) (Nat.le_of_ble_eq_true rfl) rfl (fun ls hl => ?_)
  refine lv_goto (tgt := 9) hx hb dX5_narrowest_101 (by decide) ?_
  refine lv_iload hx hb dX5_narrowest_9 (lv_at hl 0 rfl) ?_
  refine lv_bipush (v := 20) hx hb dX5_narrowest_11 (by decide) ?_
  refine lv_icmp_ge (tgt := 104) hx hb dX5_narrowest_13 (by decide) (fun z => absurd z (by decide)) (fun _ => ?_)
  refine lv_iload hx hb dX5_narrowest_16 (lv_at hl 0 rfl) ?_
  refine lv_iconst (v := 2) hx hb dX5_narrowest_18 (by decide) ?_
  refine lv_idiv hx hb dX5_narrowest_19 (by decide) ?_
  refine tp_i 6 (by decide) ?_
  refine lv_istore (lv' := [(5, .int 6), (4, .int 13), (3, .int 0), (2, .int 1000), (0, .ref a0), (1, .int x0)]) hx hb dX5_narrowest_20 hl (Nat.le_of_ble_eq_true rfl) rfl (fun ls hl => ?_)
  refine lv_iload hx hb dX5_narrowest_22 (lv_at hl 0 rfl) ?_
  refine lv_aload_n hx hb dX5_narrowest_24 rfl (lv_at hl 4 rfl) ?_
  refine va_get (D := D) (ci := 10) (v := .int 0) (C := RX5) (T := TX5) (N := 4) hx hb hts ax_12 hown hE.1 hP 0 rfl rfl 3 (by decide) (hts _ tw_132) (fun _ h9 => h9) rfl dX5_narrowest_25 ?_
  refine lv_icmp_ge (tgt := 98) hx hb dX5_narrowest_28 (by decide) (fun _ => ?_) (fun z => absurd (by decide) z)
  refine lv_iinc (v := 14) (lv' := [(4, .int 14), (5, .int 6), (3, .int 0), (2, .int 1000), (0, .ref a0), (1, .int x0)]) hx hb dX5_narrowest_98 hl (k := 1) rfl (by decide) (Nat.le_of_ble_eq_true rfl) rfl (fun ls hl => ?_)
  refine lv_goto (tgt := 9) hx hb dX5_narrowest_101 (by decide) ?_
  refine lv_iload hx hb dX5_narrowest_9 (lv_at hl 0 rfl) ?_
  refine lv_bipush (v := 20) hx hb dX5_narrowest_11 (by decide) ?_
  refine lv_icmp_ge (tgt := 104) hx hb dX5_narrowest_13 (by decide) (fun z => absurd z (by decide)) (fun _ => ?_)
  refine lv_iload hx hb dX5_narrowest_16 (lv_at hl 0 rfl) ?_
  refine lv_iconst (v := 2) hx hb dX5_narrowest_18 (by decide) ?_
  refine lv_idiv hx hb dX5_narrowest_19 (by decide) ?_
  refine tp_i 7 (by decide) ?_
  refine lv_istore (lv' := [(5, .int 7), (4, .int 14), (3, .int 0), (2, .int 1000), (0, .ref a0), (1, .int x0)]) hx hb dX5_narrowest_20 hl (Nat.le_of_ble_eq_true rfl) rfl (fun ls hl => ?_)
  refine lv_iload hx hb dX5_narrowest_22 (lv_at hl 0 rfl) ?_
  refine lv_aload_n hx hb dX5_narrowest_24 rfl (lv_at hl 4 rfl) ?_
  refine va_get (D := D) (ci := 10) (v := .int 0) (C := RX5) (T := TX5) (N := 4) hx hb hts ax_12 hown hE.1 hP 0 rfl rfl 3 (by decide) (hts _ tw_132) (fun _ h9 => h9) rfl dX5_narrowest_25 ?_
  refine lv_icmp_ge (tgt := 98) hx hb dX5_narrowest_28 (by decide) (fun _ => ?_) (fun z => absurd (by decide) z)
  refine lv_iinc (v := 15) (lv' := [(4, .int 15), (5, .int 7), (3, .int 0), (2, .int 1000), (0, .ref a0), (1, .int x0)]) hx hb dX5_narrowest_98 hl (k := 1) rfl (by decide) (Nat.le_of_ble_eq_true rfl) rfl (fun ls hl => ?_)
  refine lv_goto (tgt := 9) hx hb dX5_narrowest_101 (by decide) ?_
  refine lv_iload hx hb dX5_narrowest_9 (lv_at hl 0 rfl) ?_
  refine lv_bipush (v := 20) hx hb dX5_narrowest_11 (by decide) ?_
  refine lv_icmp_ge (tgt := 104) hx hb dX5_narrowest_13 (by decide) (fun z => absurd z (by decide)) (fun _ => ?_)
  refine lv_iload hx hb dX5_narrowest_16 (lv_at hl 0 rfl) ?_
  refine lv_iconst (v := 2) hx hb dX5_narrowest_18 (by decide) ?_
  refine lv_idiv hx hb dX5_narrowest_19 (by decide) ?_
  refine tp_i 7 (by decide) ?_
  refine lv_istore (lv' := [(5, .int 7), (4, .int 15), (3, .int 0), (2, .int 1000), (0, .ref a0), (1, .int x0)]) hx hb dX5_narrowest_20 hl (Nat.le_of_ble_eq_true rfl) rfl (fun ls hl => ?_)
  refine lv_iload hx hb dX5_narrowest_22 (lv_at hl 0 rfl) ?_
  refine lv_aload_n hx hb dX5_narrowest_24 rfl (lv_at hl 4 rfl) ?_
  refine va_get (D := D) (ci := 10) (v := .int 0) (C := RX5) (T := TX5) (N := 4) hx hb hts ax_12 hown hE.1 hP 0 rfl rfl 3 (by decide) (hts _ tw_132) (fun _ h9 => h9) rfl dX5_narrowest_25 ?_
  refine lv_icmp_ge (tgt := 98) hx hb dX5_narrowest_28 (by decide) (fun _ => ?_) (fun z => absurd (by decide) z)
  refine lv_iinc (v := 16) (lv' := [(4, .int 16), (5, .int 7), (3, .int 0), (2, .int 1000), (0, .ref a0), (1, .int x0)]) hx hb dX5_narrowest_98 hl (k := 1) rfl (by decide) (Nat.le_of_ble_eq_true rfl) rfl (fun ls hl => ?_)
  refine lv_goto (tgt := 9) hx hb dX5_narrowest_101 (by decide) ?_
  refine lv_iload hx hb dX5_narrowest_9 (lv_at hl 0 rfl) ?_
  refine lv_bipush (v := 20) hx hb dX5_narrowest_11 (by decide) ?_
  refine lv_icmp_ge (tgt := 104) hx hb dX5_narrowest_13 (by decide) (fun z => absurd z (by decide)) (fun _ => ?_)
  refine lv_iload hx hb dX5_narrowest_16 (lv_at hl 0 rfl) ?_
  refine lv_iconst (v := 2) hx hb dX5_narrowest_18 (by decide) ?_
  refine lv_idiv hx hb dX5_narrowest_19 (by decide) ?_
  refine tp_i 8 (by decide) ?_
  refine lv_istore (lv' := [(5, .int 8), (4, .int 16), (3, .int 0), (2, .int 1000), (0, .ref a0), (1, .int x0)]) hx hb dX5_narrowest_20 hl (Nat.le_of_ble_eq_true rfl) rfl (fun ls hl => ?_)
  refine lv_iload hx hb dX5_narrowest_22 (lv_at hl 0 rfl) ?_
  refine lv_aload_n hx hb dX5_narrowest_24 rfl (lv_at hl 4 rfl) ?_
  refine va_get (D := D) (ci := 10) (v := .int 0) (C := RX5) (T := TX5) (N := 4) hx hb hts ax_12 hown hE.1 hP 0 rfl rfl 3 (by decide) (hts _ tw_132) (fun _ h9 => h9) rfl dX5_narrowest_25 ?_
  refine lv_icmp_ge (tgt := 98) hx hb dX5_narrowest_28 (by decide) (fun _ => ?_) (fun z => absurd (by decide) z)
  refine lv_iinc (v := 17) (lv' := [(4, .int 17), (5, .int 8), (3, .int 0), (2, .int 1000), (0, .ref a0), (1, .int x0)]) hx hb dX5_narrowest_98 hl (k := 1) rfl (by decide) (Nat.le_of_ble_eq_true rfl) rfl (fun ls hl => ?_)
  refine lv_goto (tgt := 9) hx hb dX5_narrowest_101 (by decide) ?_
  refine lv_iload hx hb dX5_narrowest_9 (lv_at hl 0 rfl) ?_
  refine lv_bipush (v := 20) hx hb dX5_narrowest_11 (by decide) ?_
  refine lv_icmp_ge (tgt := 104) hx hb dX5_narrowest_13 (by decide) (fun z => absurd z (by decide)) (fun _ => ?_)
  refine lv_iload hx hb dX5_narrowest_16 (lv_at hl 0 rfl) ?_
  refine lv_iconst (v := 2) hx hb dX5_narrowest_18 (by decide) ?_
  refine lv_idiv hx hb dX5_narrowest_19 (by decide) ?_
  refine tp_i 8 (by decide) ?_
  refine lv_istore (lv' := [(5, .int 8), (4, .int 17), (3, .int 0), (2, .int 1000), (0, .ref a0), (1, .int x0)]) hx hb dX5_narrowest_20 hl (Nat.le_of_ble_eq_true rfl) rfl (fun ls hl => ?_)
  refine lv_iload hx hb dX5_narrowest_22 (lv_at hl 0 rfl) ?_
  refine lv_aload_n hx hb dX5_narrowest_24 rfl (lv_at hl 4 rfl) ?_
  refine va_get (D := D) (ci := 10) (v := .int 0) (C := RX5) (T := TX5) (N := 4) hx hb hts ax_12 hown hE.1 hP 0 rfl rfl 3 (by decide) (hts _ tw_132) (fun _ h9 => h9) rfl dX5_narrowest_25 ?_
  refine lv_icmp_ge (tgt := 98) hx hb dX5_narrowest_28 (by decide) (fun _ => ?_) (fun z => absurd (by decide) z)
  refine lv_iinc (v := 18) (lv' := [(4, .int 18), (5, .int 8), (3, .int 0), (2, .int 1000), (0, .ref a0), (1, .int x0)]) hx hb dX5_narrowest_98 hl (k := 1) rfl (by decide) (Nat.le_of_ble_eq_true rfl) rfl (fun ls hl => ?_)
  refine lv_goto (tgt := 9) hx hb dX5_narrowest_101 (by decide) ?_
  refine lv_iload hx hb dX5_narrowest_9 (lv_at hl 0 rfl) ?_
  refine lv_bipush (v := 20) hx hb dX5_narrowest_11 (by decide) ?_
  refine lv_icmp_ge (tgt := 104) hx hb dX5_narrowest_13 (by decide) (fun z => absurd z (by decide)) (fun _ => ?_)
  refine lv_iload hx hb dX5_narrowest_16 (lv_at hl 0 rfl) ?_
  refine lv_iconst (v := 2) hx hb dX5_narrowest_18 (by decide) ?_
  refine lv_idiv hx hb dX5_narrowest_19 (by decide) ?_
  refine tp_i 9 (by decide) ?_
  refine lv_istore (lv' := [(5, .int 9), (4, .int 18), (3, .int 0), (2, .int 1000), (0, .ref a0), (1, .int x0)]) hx hb dX5_narrowest_20 hl (Nat.le_of_ble_eq_true rfl) rfl (fun ls hl => ?_)
  refine lv_iload hx hb dX5_narrowest_22 (lv_at hl 0 rfl) ?_
  refine lv_aload_n hx hb dX5_narrowest_24 rfl (lv_at hl 4 rfl) ?_
  refine va_get (D := D) (ci := 10) (v := .int 0) (C := RX5) (T := TX5) (N := 4) hx hb hts ax_12 hown hE.1 hP 0 rfl rfl 3 (by decide) (hts _ tw_132) (fun _ h9 => h9) rfl dX5_narrowest_25 ?_
  refine lv_icmp_ge (tgt := 98) hx hb dX5_narrowest_28 (by decide) (fun _ => ?_) (fun z => absurd (by decide) z)
  refine lv_iinc (v := 19) (lv' := [(4, .int 19), (5, .int 9), (3, .int 0), (2, .int 1000), (0, .ref a0), (1, .int x0)]) hx hb dX5_narrowest_98 hl (k := 1) rfl (by decide) (Nat.le_of_ble_eq_true rfl) rfl (fun ls hl => ?_)
  refine lv_goto (tgt := 9) hx hb dX5_narrowest_101 (by decide) ?_
  refine lv_iload hx hb dX5_narrowest_9 (lv_at hl 0 rfl) ?_
  refine lv_bipush (v := 20) hx hb dX5_narrowest_11 (by decide) ?_
  refine lv_icmp_ge (tgt := 104) hx hb dX5_narrowest_13 (by decide) (fun z => absurd z (by decide)) (fun _ => ?_)
  refine lv_iload hx hb dX5_narrowest_16 (lv_at hl 0 rfl) ?_
  refine lv_iconst (v := 2) hx hb dX5_narrowest_18 (by decide) ?_
  refine lv_idiv hx hb dX5_narrowest_19 (by decide) ?_
  refine tp_i 9 (by decide) ?_
  refine lv_istore (lv' := [(5, .int 9), (4, .int 19), (3, .int 0), (2, .int 1000), (0, .ref a0), (1, .int x0)]) hx hb dX5_narrowest_20 hl (Nat.le_of_ble_eq_true rfl) rfl (fun ls hl => ?_)
  refine lv_iload hx hb dX5_narrowest_22 (lv_at hl 0 rfl) ?_
  refine lv_aload_n hx hb dX5_narrowest_24 rfl (lv_at hl 4 rfl) ?_
  refine va_get (D := D) (ci := 10) (v := .int 0) (C := RX5) (T := TX5) (N := 4) hx hb hts ax_12 hown hE.1 hP 0 rfl rfl 3 (by decide) (hts _ tw_132) (fun _ h9 => h9) rfl dX5_narrowest_25 ?_
  refine lv_icmp_ge (tgt := 98) hx hb dX5_narrowest_28 (by decide) (fun _ => ?_) (fun z => absurd (by decide) z)
  refine lv_iinc (v := 20) (lv' := [(4, .int 20), (5, .int 9), (3, .int 0), (2, .int 1000), (0, .ref a0), (1, .int x0)]) hx hb dX5_narrowest_98 hl (k := 1) rfl (by decide) (Nat.le_of_ble_eq_true rfl) rfl (fun ls hl => ?_)
  refine lv_goto (tgt := 9) hx hb dX5_narrowest_101 (by decide) ?_
  refine lv_iload hx hb dX5_narrowest_9 (lv_at hl 0 rfl) ?_
  refine lv_bipush (v := 20) hx hb dX5_narrowest_11 (by decide) ?_
  refine lv_icmp_ge (tgt := 104) hx hb dX5_narrowest_13 (by decide) (fun _ => ?_) (fun z => absurd (by decide) z)
  refine lv_iload_n hx hb dX5_narrowest_104 rfl (lv_at hl 3 rfl) ?_
  exact en_z hx hb hr hlk hP hD hS rfl (fun _ => 0) (is := [0]) rfl rfl (Nat.le_of_ble_eq_true rfl) (Nat.le_of_ble_eq_true rfl) dX5_narrowest_105
set_option maxHeartbeats 4000000 in
set_option maxRecDepth 100000 in
theorem k541_X5_sumAt (l : Launch) (D : va_G) (cy : Nat → ClassId) (g : Nat → Nat) (x0 : Int32) (a0 : Nat) (v0 : Value) (v1 : Value) (v2 : Value) (sz : Nat)  : Met l yX5_sumAt [.code yX5_sumAt cX5_sumAt 9 (some .int)] ({ frames := 0, cells := 0, slots := 0, locals := 0 }) (PC D cy g [(a0, .inr (10, [v0, v1, v2, .int 0]))] sz [.ref a0, .int 1000, .int x0]) (QI D 0 (fun ad => [(a0, .inr (10, [v0, v1, v2, .int 0]))]) (va_A [(a0, .inr (10, [v0, v1, v2, .int 0]))] sz)) 0 0 (va_A [(a0, .inr (10, [v0, v1, v2, .int 0]))] sz) := by
  refine st_I (by decide) (Nat.le_of_ble_eq_true rfl) ?_
  intro p e s m args below meth c A ls hx hb hr hml hown hlk hnm hsz hP hD hA hE hts hS hl
  have hown : s.vm.findClass RX5 = some m.cls := hown
  have hl : lv_has ls 9 [(0, .ref a0), (1, .int 1000), (2, .int x0)] := hl
  refine lv_iconst (v := 0) hx hb dX5_sumAt_0 (by decide) ?_
  refine lv_istore_n (lv' := [(3, .int 0), (0, .ref a0), (1, .int 1000), (2, .int x0)]) hx hb dX5_sumAt_1 rfl hl (Nat.le_of_ble_eq_true rfl) rfl (fun ls hl => ?_)
  refine lv_iconst (v := 0) hx hb dX5_sumAt_2 (by decide) ?_
  refine lv_istore (lv' := [(4, .int 0), (3, .int 0), (0, .ref a0), (1, .int 1000), (2, .int x0)]) hx hb dX5_sumAt_3 hl (Nat.le_of_ble_eq_true rfl) rfl (fun ls hl => ?_)
  refine lv_iload hx hb dX5_sumAt_5 (lv_at hl 0 rfl) ?_
  refine lv_aload_n hx hb dX5_sumAt_7 rfl (lv_at hl 2 rfl) ?_
  refine va_get (D := D) (ci := 10) (v := .int 0) (C := RX5) (T := TX5) (N := 4) hx hb hts ax_12 hown hE.1 hP 0 rfl rfl 3 (by decide) (hts _ tw_132) (fun _ h9 => h9) rfl dX5_sumAt_8 ?_
  refine lv_icmp_ge (tgt := 123) hx hb dX5_sumAt_11 (by decide) (fun _ => ?_) (fun z => absurd (by decide) z)
  refine lv_iload_n hx hb dX5_sumAt_123 rfl (lv_at hl 1 rfl) ?_
  exact en_z hx hb hr hlk hP hD hS rfl (fun _ => 0) (is := [0]) rfl rfl (Nat.le_of_ble_eq_true rfl) (Nat.le_of_ble_eq_true rfl) dX5_sumAt_124
set_option maxHeartbeats 4000000 in
set_option maxRecDepth 100000 in
theorem k542_X5_leastHeat (l : Launch) (D : va_G) (cy : Nat → ClassId) (g : Nat → Nat) (x0 : Int32) (a0 : Nat) (v0 : Value) (v1 : Value) (v2 : Value) (sz : Nat)  : Met l yX5_leastHeat [.code yX5_leastHeat cX5_leastHeat 2 (some .int)] ({ frames := 1, cells := 0, slots := 0, locals := 28 }) (PC D cy g [(a0, .inr (10, [v0, v1, v2, .int 0]))] sz [.ref a0, .int x0]) (QI D 0 (fun ad => [(a0, .inr (10, [v0, v1, v2, .int 0]))]) (va_A [(a0, .inr (10, [v0, v1, v2, .int 0]))] sz)) 0 0 (va_A [(a0, .inr (10, [v0, v1, v2, .int 0]))] sz) := by
  refine st_I (by decide) (Nat.le_of_ble_eq_true rfl) ?_
  intro p e s m args below meth c A ls hx hb hr hml hown hlk hnm hsz hP hD hA hE hts hS hl
  have hown : s.vm.findClass RX5 = some m.cls := hown
  have hl : lv_has ls 2 [(0, .ref a0), (1, .int x0)] := hl
  refine lv_aload_n hx hb dX5_leastHeat_0 rfl (lv_at hl 0 rfl) ?_
  refine lv_aload_n hx hb dX5_leastHeat_1 rfl (lv_at hl 0 rfl) ?_
  refine lv_iload_n hx hb dX5_leastHeat_2 rfl (lv_at hl 1 rfl) ?_
  refine ca_i (isC := [0]) (isR := []) (wr := []) (rn_V (ci := 10) (q0 := 0) (isC := [0]) (wc := [(a0, .inr (10, [v0, v1, v2, .int 0]))]) (As := [.int x0]) (rest := [.ref a0]) (n := 1) hx hb hml hown hts hE hS hP hD hA hl.1 (k540_X5_narrowest l D cy g x0 a0 (v0) (v1) (v2) s.heap.size ) rfl rfl rfl rfl rfl ax_371 rfl rfl ax_372 ⟨Nat.le_of_ble_eq_true rfl, Nat.le_of_ble_eq_true rfl⟩ rfl rfl (Nat.le_of_ble_eq_true rfl) dX5_leastHeat_3 ⟨(Nat.le_of_ble_eq_true rfl), (Nat.le_of_ble_eq_true rfl)⟩) hP hD hS hA rfl rfl rfl (by decide) (fun ad3 H locs hP hD hS => ?_)
  have hP : va_P D vwCl [(a0, .inr (10, [v0, v1, v2, .int 0]))] H := hP
  have hD : va_D A [(a0, .inr (10, [v0, v1, v2, .int 0]))] := hD
  refine lv_iload_n hx hb dX5_leastHeat_6 rfl (lv_at hl 1 rfl) ?_
  refine ca_i (isC := [0]) (isR := []) (wr := []) (rn_V (ci := 10) (q0 := 0) (isC := [0]) (wc := [(a0, .inr (10, [v0, v1, v2, .int 0]))]) (As := [.int 1000, .int x0]) (rest := []) (n := 2) hx hb hml hown hts hE hS hP hD hA hl.1 (k541_X5_sumAt l D cy g x0 a0 (v0) (v1) (v2) H.size ) rfl rfl rfl rfl rfl ax_373 rfl rfl ax_374 ⟨Nat.le_of_ble_eq_true rfl, Nat.le_of_ble_eq_true rfl⟩ rfl rfl (Nat.le_of_ble_eq_true rfl) dX5_leastHeat_7 ⟨(Nat.le_of_ble_eq_true rfl), (Nat.le_of_ble_eq_true rfl)⟩) hP hD hS hA rfl rfl rfl (by decide) (fun ad7 H locs hP hD hS => ?_)
  have hP : va_P D vwCl [(a0, .inr (10, [v0, v1, v2, .int 0]))] H := hP
  have hD : va_D A [(a0, .inr (10, [v0, v1, v2, .int 0]))] := hD
  refine lv_ineg hx hb dX5_leastHeat_10 ?_
  refine tp_i 0 (by decide) ?_
  exact en_z hx hb hr hlk hP hD hS rfl (fun _ => 0) (is := [0]) rfl rfl (Nat.le_of_ble_eq_true rfl) (Nat.le_of_ble_eq_true rfl) dX5_leastHeat_11
set_option maxHeartbeats 4000000 in
set_option maxRecDepth 100000 in
theorem k543_X9_heatNeeded (l : Launch) (D : va_G) (cy : Nat → ClassId) (g : Nat → Nat) (x0 : Int32) (a0 : Nat) (a1 : Nat) (v0 : Value) (v1 : Value) (v2 : Value) (v3 : Value) (v4 : Value) (v5 : Value) (v6 : Value) (v7 : Value) (v8 : Value) (sz : Nat) (h0 : ¬ x0 < 0) (h1 : ¬ (100 : Int32) < x0) : Met l yX9_heatNeeded [.code yX9_heatNeeded cX9_heatNeeded 2 (some .int)] ({ frames := 2, cells := 0, slots := 0, locals := 49 }) (PC D cy g [(a0, .inr (14, [v0, v1, v2, v3, .ref a1, v4, v5])), (a1, .inr (10, [v6, v7, v8, .int 0]))] sz [.ref a0, .int x0]) (QI D 0 (fun ad => [(a0, .inr (14, [v0, v1, v2, v3, .ref a1, v4, v5])), (a1, .inr (10, [v6, v7, v8, .int 0]))]) (va_A [(a0, .inr (14, [v0, v1, v2, v3, .ref a1, v4, v5])), (a1, .inr (10, [v6, v7, v8, .int 0]))] sz)) 0 0 (va_A [(a0, .inr (14, [v0, v1, v2, v3, .ref a1, v4, v5])), (a1, .inr (10, [v6, v7, v8, .int 0]))] sz) := by
  refine st_I (by decide) (Nat.le_of_ble_eq_true rfl) ?_
  intro p e s m args below meth c A ls hx hb hr hml hown hlk hnm hsz hP hD hA hE hts hS hl
  have hown : s.vm.findClass RX9 = some m.cls := hown
  have hl : lv_has ls 2 [(0, .ref a0), (1, .int x0)] := hl
  refine lv_aload_n hx hb dX9_heatNeeded_0 rfl (lv_at hl 0 rfl) ?_
  refine lv_iload_n hx hb dX9_heatNeeded_1 rfl (lv_at hl 1 rfl) ?_
  refine ca_v (isC := []) (isR := [0, 1]) (wr := [(a0, .inr (14, [v0, v1, v2, v3, .ref a1, v4, v5])), (a1, .inr (10, [v6, v7, v8, .int 0]))]) (rn_V (ci := 14) (q0 := 0) (isC := []) (wc := []) (As := [.int x0]) (rest := []) (n := 1) hx hb hml hown hts hE hS hP hD hA hl.1 (k539_X9_requireApproach l D cy g x0 a0 s.heap.size h0 h1) rfl rfl rfl rfl rfl ax_361 rfl rfl ax_362 ⟨Nat.le_of_ble_eq_true rfl, Nat.le_of_ble_eq_true rfl⟩ rfl rfl (Nat.le_of_ble_eq_true rfl) dX9_heatNeeded_2 ⟨(Nat.le_of_ble_eq_true rfl), (Nat.le_of_ble_eq_true rfl)⟩) hP hD hS hA rfl rfl rfl (by decide) (fun ad2 H locs hP hD hS => ?_)
  have hP : va_P D vwCl [(a0, .inr (14, [v0, v1, v2, v3, .ref a1, v4, v5])), (a1, .inr (10, [v6, v7, v8, .int 0]))] H := hP
  have hD : va_D A [(a0, .inr (14, [v0, v1, v2, v3, .ref a1, v4, v5])), (a1, .inr (10, [v6, v7, v8, .int 0]))] := hD
  refine lv_aload_n hx hb dX9_heatNeeded_5 rfl (lv_at hl 0 rfl) ?_
  refine va_get (D := D) (ci := 14) (v := .ref a1) (C := RX9) (T := TX9) (N := 7) hx hb hts ax_16 hown hE.1 hP 0 rfl rfl 4 (by decide) (hts _ tw_206) (fun _ h9 => h9) rfl dX9_heatNeeded_6 ?_
  refine lv_iload_n hx hb dX9_heatNeeded_9 rfl (lv_at hl 1 rfl) ?_
  refine ca_i (isC := [1]) (isR := [0]) (wr := [(a0, .inr (14, [v0, v1, v2, v3, .ref a1, v4, v5]))]) (rn_V (ci := 10) (q0 := 1) (isC := [1]) (wc := [(a1, .inr (10, [v6, v7, v8, .int 0]))]) (As := [.int x0]) (rest := []) (n := 1) hx hb hml hown hts hE hS hP hD hA hl.1 (k542_X5_leastHeat l D cy g x0 a1 (v6) (v7) (v8) H.size ) rfl rfl rfl rfl rfl ax_375 rfl rfl ax_376 ⟨Nat.le_of_ble_eq_true rfl, Nat.le_of_ble_eq_true rfl⟩ rfl rfl (Nat.le_of_ble_eq_true rfl) dX9_heatNeeded_10 ⟨(Nat.le_of_ble_eq_true rfl), (Nat.le_of_ble_eq_true rfl)⟩) hP hD hS hA rfl rfl rfl (by decide) (fun ad10 H locs hP hD hS => ?_)
  have hP : va_P D vwCl [(a0, .inr (14, [v0, v1, v2, v3, .ref a1, v4, v5])), (a1, .inr (10, [v6, v7, v8, .int 0]))] H := hP
  have hD : va_D A [(a0, .inr (14, [v0, v1, v2, v3, .ref a1, v4, v5])), (a1, .inr (10, [v6, v7, v8, .int 0]))] := hD
  exact en_z hx hb hr hlk hP hD hS rfl (fun _ => 0) (is := [0, 1]) rfl rfl (Nat.le_of_ble_eq_true rfl) (Nat.le_of_ble_eq_true rfl) dX9_heatNeeded_13
set_option maxHeartbeats 4000000 in
set_option maxRecDepth 100000 in
theorem k544_L_heatNeeded (l : Launch) (D : va_G) (cy : Nat → ClassId) (g : Nat → Nat) (x0 : Int32) (a0 : Nat) (a1 : Nat) (a2 : Nat) (v0 : Value) (v1 : Value) (v2 : Value) (v3 : Value) (v4 : Value) (v5 : Value) (v6 : Value) (v7 : Value) (v8 : Value) (f0 : Nat → Int64) (sz : Nat) (h0 : ¬ x0 < 0) (h1 : ¬ (100 : Int32) < x0) : Met l yL_heatNeeded [.codeWith yL_heatNeeded cL_heatNeeded 4 (some .int) [(0, 9, 12, 13)]] ({ frames := 3, cells := 0, slots := 0, locals := 70 }) (PC D cy g [(a0, .inr (14, [v0, v1, v2, v3, .ref a1, v4, v5])), (a1, .inr (10, [v6, v7, v8, .int 0])), (a2, .inl (cy 2, 1, .inr (.inl f0)))] sz [.ref a0, .int x0, .ref a2]) (QI D 0 (fun ad => [(a2, .inl (cy 2, 1, .inr (.inl (vp_updL f0 (0 : Int32).toNatClampNeg 0))))]) (va_A [(a0, .inr (14, [v0, v1, v2, v3, .ref a1, v4, v5])), (a1, .inr (10, [v6, v7, v8, .int 0])), (a2, .inl (cy 2, 1, .inr (.inl f0)))] sz)) 0 0 (va_A [(a0, .inr (14, [v0, v1, v2, v3, .ref a1, v4, v5])), (a1, .inr (10, [v6, v7, v8, .int 0])), (a2, .inl (cy 2, 1, .inr (.inl f0)))] sz) := by
  refine sh_I (by decide) (Nat.le_of_ble_eq_true rfl) ?_
  intro p e s m args below meth c A ls hx hb hr hml hown hlk hnm hsz hP hD hA hE hts hS hl htb
  have hown : s.vm.findClass RL = some m.cls := hown
  have hl : lv_has ls 4 [(0, .ref a0), (1, .int x0), (2, .ref a2)] := hl
  refine lv_aload_n hx hb dL_heatNeeded_0 rfl (lv_at hl 2 rfl) ?_
  refine lv_iconst (v := 0) hx hb dL_heatNeeded_1 (by decide) ?_
  refine lv_aload_n hx hb dL_heatNeeded_2 rfl (lv_at hl 0 rfl) ?_
  refine lv_iload_n hx hb dL_heatNeeded_3 rfl (lv_at hl 1 rfl) ?_
  refine ca_i (isC := [0, 1]) (isR := [2]) (wr := [(a2, .inl (cy 2, 1, .inr (.inl f0)))]) (rn_V (ci := 14) (q0 := 0) (isC := [0, 1]) (wc := [(a0, .inr (14, [v0, v1, v2, v3, .ref a1, v4, v5])), (a1, .inr (10, [v6, v7, v8, .int 0]))]) (As := [.int x0]) (rest := [.int 0, .ref a2]) (n := 1) hx hb hml hown hts hE hS hP hD hA hl.1 (k543_X9_heatNeeded l D cy g x0 a0 a1 (v0) (v1) (v2) (v3) (v4) (v5) (v6) (v7) (v8) s.heap.size h0 h1) rfl rfl rfl rfl rfl ax_363 rfl rfl ax_364 ⟨Nat.le_of_ble_eq_true rfl, Nat.le_of_ble_eq_true rfl⟩ rfl rfl (Nat.le_of_ble_eq_true rfl) dL_heatNeeded_4 ⟨(Nat.le_of_ble_eq_true rfl), (Nat.le_of_ble_eq_true rfl)⟩) hP hD hS hA rfl rfl rfl (by decide) (fun ad4 H locs hP hD hS => ?_)
  have hP : va_P D vwCl [(a2, .inl (cy 2, 1, .inr (.inl f0))), (a0, .inr (14, [v0, v1, v2, v3, .ref a1, v4, v5])), (a1, .inr (10, [v6, v7, v8, .int 0]))] H := hP
  have hD : va_D A [(a2, .inl (cy 2, 1, .inr (.inl f0))), (a0, .inr (14, [v0, v1, v2, v3, .ref a1, v4, v5])), (a1, .inr (10, [v6, v7, v8, .int 0]))] := hD
  refine lv_i2l (v := 0) hx hb dL_heatNeeded_7 (by decide) ?_
  refine va_last hx hb hE.1 hP hD hS 0 2 rfl rfl (by unfold vp_in; decide) dL_heatNeeded_8 (fun H locs hP hD hS => ?_)
  have hP : va_P D vwCl [(a2, .inl (cy 2, 1, .inr (.inl (vp_updL f0 (0 : Int32).toNatClampNeg 0)))), (a0, .inr (14, [v0, v1, v2, v3, .ref a1, v4, v5])), (a1, .inr (10, [v6, v7, v8, .int 0]))] H := hP
  have hD : va_D A [(a2, .inl (cy 2, 1, .inr (.inl (vp_updL f0 (0 : Int32).toNatClampNeg 0)))), (a0, .inr (14, [v0, v1, v2, v3, .ref a1, v4, v5])), (a1, .inr (10, [v6, v7, v8, .int 0]))] := hD
  refine lv_goto (tgt := 15) hx hb dL_heatNeeded_9 (by decide) ?_
  refine lv_iconst (v := 0) hx hb dL_heatNeeded_15 (by decide) ?_
  exact en_z hx hb hr hlk hP hD hS rfl (fun _ => 0) (is := [0]) rfl rfl (Nat.le_of_ble_eq_true rfl) (Nat.le_of_ble_eq_true rfl) dL_heatNeeded_16
set_option maxHeartbeats 4000000 in
set_option maxRecDepth 100000 in
theorem k545_X10_noApproach (l : Launch) (D : va_G) (cy : Nat → ClassId) (g : Nat → Nat) (x0 : Int32) (a0 : Nat) (v0 : Value) (v1 : Value) (v2 : Value) (v3 : Value) (v4 : Value) (v5 : Value) (v6 : Value) (v7 : Value) (v8 : Value) (v9 : Value) (v10 : Value) (v11 : Value) (v12 : Value) (v13 : Value) (v14 : Value) (v15 : Value) (v16 : Value) (v17 : Value) (v18 : Value) (v19 : Value) (v20 : Value) (v21 : Value) (v22 : Value) (v23 : Value) (v24 : Value) (v25 : Value) (v26 : Value) (sz : Nat) (h0 : ¬ x0 < 0) (h1 : ¬ (100 : Int32) < x0) : Met l yX10_noApproach [.code yX10_noApproach cX10_noApproach 2 (some .boolean)] ({ frames := 1, cells := 0, slots := 0, locals := 25 }) (PC D cy g [(a0, .inr (15, [.int 0, v0, v1, v2, v3, v4, v5, v6, v7, v8, v9, v10, v11, v12, v13, v14, v15, v16, v17, v18, v19, v20, v21, v22, v23, v24, v25, v26]))] sz [.ref a0, .int x0]) (QI D 0 (fun ad => [(a0, .inr (15, [.int 0, v0, v1, v2, v3, v4, v5, v6, v7, v8, v9, v10, v11, v12, v13, v14, v15, v16, v17, v18, v19, v20, v21, v22, v23, v24, v25, v26]))]) (va_A [(a0, .inr (15, [.int 0, v0, v1, v2, v3, v4, v5, v6, v7, v8, v9, v10, v11, v12, v13, v14, v15, v16, v17, v18, v19, v20, v21, v22, v23, v24, v25, v26]))] sz)) 0 0 (va_A [(a0, .inr (15, [.int 0, v0, v1, v2, v3, v4, v5, v6, v7, v8, v9, v10, v11, v12, v13, v14, v15, v16, v17, v18, v19, v20, v21, v22, v23, v24, v25, v26]))] sz) := by
  refine st_I (by decide) (Nat.le_of_ble_eq_true rfl) ?_
  intro p e s m args below meth c A ls hx hb hr hml hown hlk hnm hsz hP hD hA hE hts hS hl
  have hown : s.vm.findClass RX10 = some m.cls := hown
  have hl : lv_has ls 2 [(0, .ref a0), (1, .int x0)] := hl
  refine lv_aload_n hx hb dX10_noApproach_0 rfl (lv_at hl 0 rfl) ?_
  refine lv_iload_n hx hb dX10_noApproach_1 rfl (lv_at hl 1 rfl) ?_
  refine lv_i2l (v := x0.toInt64) hx hb dX10_noApproach_2 rfl ?_
  refine lv_lconst (v := 0) hx hb dX10_noApproach_3 (by decide) ?_
  refine lv_ldc2 (v := 100) hx hb hown (hts _ tw_681) dX10_noApproach_4 ?_
  refine ca_i (isC := []) (isR := [0]) (wr := [(a0, .inr (15, [.int 0, v0, v1, v2, v3, v4, v5, v6, v7, v8, v9, v10, v11, v12, v13, v14, v15, v16, v17, v18, v19, v20, v21, v22, v23, v24, v25, v26]))]) (rn_S (isC := []) (wc := []) (As := [.long x0.toInt64, .long 0, .long 100]) (rest := [.ref a0]) (n := 3) hx hb hml hown hts hE hS hP hD hA hl.1 (k33_X10_in l D cy g x0.toInt64 0 100 s.heap.size (wl_nlt rfl (by decide) h0) (wl_nlt (by decide) rfl h1)) rfl rfl ax_39 rfl rfl ax_40 ⟨Nat.le_of_ble_eq_true rfl, Nat.le_of_ble_eq_true rfl⟩ rfl rfl (Nat.le_of_ble_eq_true rfl) dX10_noApproach_7 ⟨(Nat.le_of_ble_eq_true rfl), (Nat.le_of_ble_eq_true rfl)⟩) hP hD hS hA rfl rfl rfl (by decide) (fun ad7 H locs hP hD hS => ?_)
  have hP : va_P D vwCl [(a0, .inr (15, [.int 0, v0, v1, v2, v3, v4, v5, v6, v7, v8, v9, v10, v11, v12, v13, v14, v15, v16, v17, v18, v19, v20, v21, v22, v23, v24, v25, v26]))] H := hP
  have hD : va_D A [(a0, .inr (15, [.int 0, v0, v1, v2, v3, v4, v5, v6, v7, v8, v9, v10, v11, v12, v13, v14, v15, v16, v17, v18, v19, v20, v21, v22, v23, v24, v25, v26]))] := hD
  refine lv_if_ne (tgt := 17) hx hb dX10_noApproach_10 (by decide) (fun _ => ?_) (fun z => absurd z (by decide))
  refine lv_iconst (v := 0) hx hb dX10_noApproach_17 (by decide) ?_
  refine lv_iconst (v := 1) hx hb dX10_noApproach_18 (by decide) ?_
  refine ca_i (isC := [0]) (isR := []) (wr := []) (rn_V (ci := 15) (q0 := 0) (isC := [0]) (wc := [(a0, .inr (15, [.int 0, v0, v1, v2, v3, v4, v5, v6, v7, v8, v9, v10, v11, v12, v13, v14, v15, v16, v17, v18, v19, v20, v21, v22, v23, v24, v25, v26]))]) (As := [.int 0, .int 1]) (rest := []) (n := 2) hx hb hml hown hts hE hS hP hD hA hl.1 (k43_X10_fails l D cy g a0 (v0) (v1) (v2) (v3) (v4) (v5) (v6) (v7) (v8) (v9) (v10) (v11) (v12) (v13) (v14) (v15) (v16) (v17) (v18) (v19) (v20) (v21) (v22) (v23) (v24) (v25) (v26) H.size ) rfl rfl rfl rfl rfl ax_41 rfl rfl ax_42 ⟨Nat.le_of_ble_eq_true rfl, Nat.le_of_ble_eq_true rfl⟩ rfl rfl (Nat.le_of_ble_eq_true rfl) dX10_noApproach_19 ⟨(Nat.le_of_ble_eq_true rfl), (Nat.le_of_ble_eq_true rfl)⟩) hP hD hS hA rfl rfl rfl (by decide) (fun ad19 H locs hP hD hS => ?_)
  have hP : va_P D vwCl [(a0, .inr (15, [.int 0, v0, v1, v2, v3, v4, v5, v6, v7, v8, v9, v10, v11, v12, v13, v14, v15, v16, v17, v18, v19, v20, v21, v22, v23, v24, v25, v26]))] H := hP
  have hD : va_D A [(a0, .inr (15, [.int 0, v0, v1, v2, v3, v4, v5, v6, v7, v8, v9, v10, v11, v12, v13, v14, v15, v16, v17, v18, v19, v20, v21, v22, v23, v24, v25, v26]))] := hD
  exact en_z hx hb hr hlk hP hD hS rfl (fun _ => 0) (is := [0]) rfl rfl (Nat.le_of_ble_eq_true rfl) (Nat.le_of_ble_eq_true rfl) dX10_noApproach_22
set_option maxHeartbeats 4000000 in
set_option maxRecDepth 100000 in
theorem k546_Jx35411_init_45d68 (l : Launch) (D : va_G) (cy : Nat → ClassId) (g : Nat → Nat) (a0 : Nat) (a1 : Nat) (v0 : Value) (v1 : Value) (v2 : Value) (v3 : Value) (v4 : Value) (v5 : Value) (sz : Nat)  : Met l yJx35411_init_45d68 [.code yJx35411_init_45d68 cJx35411_init_45d68 2 none] ({ frames := 1, cells := 0, slots := 0, locals := 12 }) (PC D cy g [(a0, .inr (3, [v0, v1, v2, v3])), (a1, .inr (4, [.int 0, v4, v5]))] sz [.ref a0, .ref a1]) (QV D (fun ad => [(a0, .inr (3, [v0, .int (-1), .int 0, .ref a1])), (a1, .inr (4, [.int 0, v4, v5]))]) (va_A [(a0, .inr (3, [v0, v1, v2, v3])), (a1, .inr (4, [.int 0, v4, v5]))] sz)) 0 0 (va_A [(a0, .inr (3, [v0, v1, v2, v3])), (a1, .inr (4, [.int 0, v4, v5]))] sz) := by
  refine st_V (by decide) (Nat.le_of_ble_eq_true rfl) ?_
  intro p e s m args below meth c A ls hx hb hr hml hown hlk hnm hsz hP hD hA hE hts hS hl
  have hown : s.vm.findClass RJx35411 = some m.cls := hown
  have hl : lv_has ls 2 [(0, .ref a0), (1, .ref a1)] := hl
  refine lv_aload_n hx hb dJx35411_init_45d68_0 rfl (lv_at hl 0 rfl) ?_
  refine lv_aload_n hx hb dJx35411_init_45d68_1 rfl (lv_at hl 1 rfl) ?_
  refine va_putF (D := D) (ci := 3) (v := .ref a1) (ty := (.object "java/util/ArrayList")) (C := RJx35411) (T := TJx35411) (N := 4) hx hb hts ax_377 tyJx35411 tyJx35411_ok nmJx35411 hown hE.1 hP hD hS 0 rfl rfl 3 (by decide) (hts _ tw_1015) (fun _ h9 => h9) rfl hnm rfl (by decide +kernel) rfl rfl (Nat.le_of_ble_eq_true rfl) dJx35411_init_45d68_2 (fun H locs hP hD hS => ?_)
  have hP : va_P D vwCl [(a0, .inr (3, [v0, v1, v2, .ref a1])), (a1, .inr (4, [.int 0, v4, v5]))] H := hP
  have hD : va_D A [(a0, .inr (3, [v0, v1, v2, .ref a1])), (a1, .inr (4, [.int 0, v4, v5]))] := hD
  refine lv_aload_n hx hb dJx35411_init_45d68_5 rfl (lv_at hl 0 rfl) ?_
  refine W.objInit hx hb hown (hts _ tw_1016) (hts _ tw_1) (hts _ tw_2) rfl (by rw [hml]; exact hl.1) rfl dJx35411_init_45d68_6 (Nat.le_of_ble_eq_true rfl) (Nat.le_of_ble_eq_true rfl) ?_
  refine W.eq (g2 := F0 m 9 ls []) rfl ?_
  refine lv_aload_n hx hb dJx35411_init_45d68_9 rfl (lv_at hl 0 rfl) ?_
  refine lv_iconst (v := (-1)) hx hb dJx35411_init_45d68_10 (by decide) ?_
  refine va_put (D := D) (ci := 3) (v := .int (-1)) (ty := .int) (C := RJx35411) (T := TJx35411) (N := 4) hx hb hts ax_377 tyJx35411 tyJx35411_ok nmJx35411 hown hE.1 hP hD hS 0 rfl rfl 1 (by decide) (hts _ tw_1017) (fun _ h9 => h9) rfl (by decide +kernel) rfl rfl (Nat.le_of_ble_eq_true rfl) dJx35411_init_45d68_11 (fun H locs hP hD hS => ?_)
  have hP : va_P D vwCl [(a0, .inr (3, [v0, .int (-1), v2, .ref a1])), (a1, .inr (4, [.int 0, v4, v5]))] H := hP
  have hD : va_D A [(a0, .inr (3, [v0, .int (-1), v2, .ref a1])), (a1, .inr (4, [.int 0, v4, v5]))] := hD
  refine lv_aload_n hx hb dJx35411_init_45d68_14 rfl (lv_at hl 0 rfl) ?_
  refine lv_aload_n hx hb dJx35411_init_45d68_15 rfl (lv_at hl 0 rfl) ?_
  refine va_get (D := D) (ci := 3) (v := .ref a1) (C := RJx35411) (T := TJx35411) (N := 4) hx hb hts ax_377 hown hE.1 hP 0 rfl rfl 3 (by decide) (hts _ tw_1015) (fun _ h9 => h9) rfl dJx35411_init_45d68_16 ?_
  refine va_get (D := D) (ci := 4) (v := .int 0) (C := RJx4a65c) (T := TJx4a65c) (N := 3) hx hb hts ax_26 hown hE.1 hP 1 rfl rfl 0 (by decide) (hts _ tw_1018) (fun x9 h9 => u_same (hts _ tw_358) x9 h9) rfl dJx35411_init_45d68_19 ?_
  refine va_put (D := D) (ci := 3) (v := .int 0) (ty := .int) (C := RJx35411) (T := TJx35411) (N := 4) hx hb hts ax_377 tyJx35411 tyJx35411_ok nmJx35411 hown hE.1 hP hD hS 0 rfl rfl 2 (by decide) (hts _ tw_1019) (fun _ h9 => h9) rfl (by decide +kernel) rfl rfl (Nat.le_of_ble_eq_true rfl) dJx35411_init_45d68_22 (fun H locs hP hD hS => ?_)
  have hP : va_P D vwCl [(a0, .inr (3, [v0, .int (-1), .int 0, .ref a1])), (a1, .inr (4, [.int 0, v4, v5]))] H := hP
  have hD : va_D A [(a0, .inr (3, [v0, .int (-1), .int 0, .ref a1])), (a1, .inr (4, [.int 0, v4, v5]))] := hD
  exact en_v hx hb hr hlk hP hD hS (fun _ => 0) (is := [0, 1]) rfl rfl (Nat.le_of_ble_eq_true rfl) (Nat.le_of_ble_eq_true rfl) dJx35411_init_45d68_25
set_option maxHeartbeats 4000000 in
set_option maxRecDepth 100000 in
theorem k547_Jx4a65c_iterator_32c93 (l : Launch) (D : va_G) (cy : Nat → ClassId) (g : Nat → Nat) (a0 : Nat) (v0 : Value) (v1 : Value) (sz : Nat)  : Met l yJx4a65c_iterator_32c93 [.code yJx4a65c_iterator_32c93 cJx4a65c_iterator_32c93 1 (some (.object "java/util/Iterator"))] ({ frames := 2, cells := 1, slots := 4, locals := 33 }) (PC D cy g [(a0, .inr (4, [.int 0, v0, v1]))] sz [.ref a0]) (QR D (fun ad => (ad 0)) (fun ad => [(a0, .inr (4, [.int 0, v0, v1])), ((ad 0), .inr (3, [.int 0, .int (-1), .int 0, .ref a0]))]) (va_A [(a0, .inr (4, [.int 0, v0, v1]))] sz)) 1 4 (va_A [(a0, .inr (4, [.int 0, v0, v1]))] sz) := by
  refine st_R (by decide) (Nat.le_of_ble_eq_true rfl) ?_
  intro p e s m args below meth c A ls hx hb hr hml hown hlk hnm hsz hP hD hA hE hts hS hl
  have hown : s.vm.findClass RJx4a65c = some m.cls := hown
  have hl : lv_has ls 1 [(0, .ref a0)] := hl
  refine va_new (ci := 3) (fs := [.int 0, .int 0, .int 0, .null]) (C := RJx35411) (T := TJx35411) (N := 4) hx hb hts ax_377 tyJx35411 tyJx35411_ok hown (hts _ tw_1020) (hts _ tw_1021) (hts _ tw_1022) hE.1 hP hD hS hA rfl (fun j hj => by rcases (show j = 0 ∨ j = 1 ∨ j = 2 ∨ j = 3 by omega) with rfl | rfl | rfl | rfl <;> rfl) (Nat.le_of_ble_eq_true rfl) (Nat.le_of_ble_eq_true rfl) dJx4a65c_iterator_32c93_0 (fun q1 H hP hD hS => ?_)
  have hP : va_P D vwCl [(a0, .inr (4, [.int 0, v0, v1])), (q1, .inr (3, [.int 0, .int 0, .int 0, .null]))] H := hP
  have hD : va_D A [(a0, .inr (4, [.int 0, v0, v1])), (q1, .inr (3, [.int 0, .int 0, .int 0, .null]))] := hD
  refine lv_dup hx hb dJx4a65c_iterator_32c93_3 rfl ?_
  refine lv_aload_n hx hb dJx4a65c_iterator_32c93_4 rfl (lv_at hl 0 rfl) ?_
  refine ca_v (isC := [1, 0]) (isR := []) (wr := []) (rn_I (isC := [1, 0]) (wc := [(q1, .inr (3, [.int 0, .int 0, .int 0, .null])), (a0, .inr (4, [.int 0, v0, v1]))]) (As := [.ref a0]) (rest := [.ref q1]) (n := 1) hx hb hml hown hts hE hS hP hD hA hl.1 (k546_Jx35411_init_45d68 l D cy g q1 a0 (.int 0) (.int 0) (.int 0) (.null) (v0) (v1) H.size ) rfl rfl tw_1023 tw_1024 tw_1022 tw_1025 rfl rfl rfl ax_378 ⟨Nat.le_of_ble_eq_true rfl, Nat.le_of_ble_eq_true rfl⟩ rfl rfl (Nat.le_of_ble_eq_true rfl) dJx4a65c_iterator_32c93_5 ⟨(Nat.le_of_ble_eq_true rfl), (Nat.le_of_ble_eq_true rfl)⟩) hP hD hS hA rfl rfl rfl (by decide) (fun ad5 H locs hP hD hS => ?_)
  have hP : va_P D vwCl [(q1, .inr (3, [.int 0, .int (-1), .int 0, .ref a0])), (a0, .inr (4, [.int 0, v0, v1]))] H := hP
  have hD : va_D A [(q1, .inr (3, [.int 0, .int (-1), .int 0, .ref a0])), (a0, .inr (4, [.int 0, v0, v1]))] := hD
  exact en_r hx hb hr (Or.inl ⟨_, rfl⟩) hlk hP hD hS (fun k => [q1].getD k 0) rfl (is := [1, 0]) rfl rfl (Nat.le_of_ble_eq_true rfl) (Nat.le_of_ble_eq_true rfl) dJx4a65c_iterator_32c93_8
set_option maxHeartbeats 4000000 in
set_option maxRecDepth 100000 in
theorem k548_Jx35411_hasNext_aae02 (l : Launch) (D : va_G) (cy : Nat → ClassId) (g : Nat → Nat) (a0 : Nat) (a1 : Nat) (v0 : Value) (v1 : Value) (v2 : Value) (v3 : Value) (sz : Nat)  : Met l yJx35411_hasNext_aae02 [.code yJx35411_hasNext_aae02 cJx35411_hasNext_aae02 1 (some .boolean)] ({ frames := 0, cells := 0, slots := 0, locals := 0 }) (PC D cy g [(a0, .inr (3, [.int 0, v0, v1, .ref a1])), (a1, .inr (4, [v2, v3, .int 0]))] sz [.ref a0]) (QI D 0 (fun ad => [(a0, .inr (3, [.int 0, v0, v1, .ref a1])), (a1, .inr (4, [v2, v3, .int 0]))]) (va_A [(a0, .inr (3, [.int 0, v0, v1, .ref a1])), (a1, .inr (4, [v2, v3, .int 0]))] sz)) 0 0 (va_A [(a0, .inr (3, [.int 0, v0, v1, .ref a1])), (a1, .inr (4, [v2, v3, .int 0]))] sz) := by
  refine st_I (by decide) (Nat.le_of_ble_eq_true rfl) ?_
  intro p e s m args below meth c A ls hx hb hr hml hown hlk hnm hsz hP hD hA hE hts hS hl
  have hown : s.vm.findClass RJx35411 = some m.cls := hown
  have hl : lv_has ls 1 [(0, .ref a0)] := hl
  refine lv_aload_n hx hb dJx35411_hasNext_aae02_0 rfl (lv_at hl 0 rfl) ?_
  refine va_get (D := D) (ci := 3) (v := .int 0) (C := RJx35411) (T := TJx35411) (N := 4) hx hb hts ax_377 hown hE.1 hP 0 rfl rfl 0 (by decide) (hts _ tw_1026) (fun _ h9 => h9) rfl dJx35411_hasNext_aae02_1 ?_
  refine lv_aload_n hx hb dJx35411_hasNext_aae02_4 rfl (lv_at hl 0 rfl) ?_
  refine va_get (D := D) (ci := 3) (v := .ref a1) (C := RJx35411) (T := TJx35411) (N := 4) hx hb hts ax_377 hown hE.1 hP 0 rfl rfl 3 (by decide) (hts _ tw_1015) (fun _ h9 => h9) rfl dJx35411_hasNext_aae02_5 ?_
  refine va_getN (D := D) (ci := 4) (v := .int 0) (C := RJx4a65c) (T := TJx4a65c) (N := 3) hx hb hts ax_26 hown hE.1 hP 1 rfl rfl 2 (by decide) (hts _ tw_1027) (fun _ h9 => h9) rfl dJx35411_hasNext_aae02_8 ?_
  refine lv_icmp_eq (tgt := 18) hx hb dJx35411_hasNext_aae02_11 (by decide) (fun _ => ?_) (fun z => absurd (by decide) z)
  refine lv_iconst (v := 0) hx hb dJx35411_hasNext_aae02_18 (by decide) ?_
  exact en_z hx hb hr hlk hP hD hS rfl (fun _ => 0) (is := [0, 1]) rfl rfl (Nat.le_of_ble_eq_true rfl) (Nat.le_of_ble_eq_true rfl) dJx35411_hasNext_aae02_19
set_option maxHeartbeats 4000000 in
set_option maxRecDepth 100000 in
theorem k549_X10_gives (l : Launch) (D : va_G) (cy : Nat → ClassId) (g : Nat → Nat) (x0 : Int32) (x1 : Int32) (a0 : Nat) (a1 : Nat) (v0 : Value) (v1 : Value) (v2 : Value) (v3 : Value) (v4 : Value) (v5 : Value) (v6 : Value) (v7 : Value) (v8 : Value) (v9 : Value) (v10 : Value) (v11 : Value) (v12 : Value) (v13 : Value) (v14 : Value) (v15 : Value) (v16 : Value) (v17 : Value) (v18 : Value) (v19 : Value) (v20 : Value) (v21 : Value) (v22 : Value) (v23 : Value) (v24 : Value) (v25 : Value) (v26 : Value) (v27 : Value) (sz : Nat)  : Met l yX10_gives [.code yX10_gives cX10_gives 10 (some .int)] ({ frames := 3, cells := 1, slots := 4, locals := 53 }) (PC D cy g [(a0, .inr (15, [v0, v1, v2, v3, v4, v5, v6, v7, v8, v9, v10, v11, v12, v13, v14, v15, v16, .ref a1, v17, v18, v19, v20, v21, v22, v23, v24, v25, v26])), (a1, .inr (4, [.int 0, v27, .int 0]))] sz [.ref a0, .int x0, .int x1]) (QI D 0 (fun ad => [(a0, .inr (15, [v0, v1, v2, v3, v4, v5, v6, v7, v8, v9, v10, v11, v12, v13, v14, v15, v16, .ref a1, v17, v18, v19, v20, v21, v22, v23, v24, v25, v26])), (a1, .inr (4, [.int 0, v27, .int 0]))]) (va_A [(a0, .inr (15, [v0, v1, v2, v3, v4, v5, v6, v7, v8, v9, v10, v11, v12, v13, v14, v15, v16, .ref a1, v17, v18, v19, v20, v21, v22, v23, v24, v25, v26])), (a1, .inr (4, [.int 0, v27, .int 0]))] sz)) 1 4 (va_A [(a0, .inr (15, [v0, v1, v2, v3, v4, v5, v6, v7, v8, v9, v10, v11, v12, v13, v14, v15, v16, .ref a1, v17, v18, v19, v20, v21, v22, v23, v24, v25, v26])), (a1, .inr (4, [.int 0, v27, .int 0]))] sz) := by
  refine st_I (by decide) (Nat.le_of_ble_eq_true rfl) ?_
  intro p e s m args below meth c A ls hx hb hr hml hown hlk hnm hsz hP hD hA hE hts hS hl
  have hown : s.vm.findClass RX10 = some m.cls := hown
  have hl : lv_has ls 10 [(0, .ref a0), (1, .int x0), (2, .int x1)] := hl
  refine lv_iconst (v := 0) hx hb dX10_gives_0 (by decide) ?_
  refine lv_istore_n (lv' := [(3, .int 0), (0, .ref a0), (1, .int x0), (2, .int x1)]) hx hb dX10_gives_1 rfl hl (Nat.le_of_ble_eq_true rfl) rfl (fun ls hl => ?_)
  refine lv_aload_n hx hb dX10_gives_2 rfl (lv_at hl 1 rfl) ?_
  refine va_get (D := D) (ci := 15) (v := .ref a1) (C := RX10) (T := TX10) (N := 28) hx hb hts ax_29 hown hE.1 hP 0 rfl rfl 17 (by decide) (hts _ tw_285) (fun _ h9 => h9) rfl dX10_gives_3 ?_
  refine ca_Fr (isC := [1]) (isR := [0]) (wr := [(a0, .inr (15, [v0, v1, v2, v3, v4, v5, v6, v7, v8, v9, v10, v11, v12, v13, v14, v15, v16, .ref a1, v17, v18, v19, v20, v21, v22, v23, v24, v25, v26]))]) (rn_F (ci := 4) (q0 := 1) (isC := [1]) (wc := [(a1, .inr (4, [.int 0, v27, .int 0]))]) (As := []) (rest := []) (n := 0) hx hb hml hown hts hE hS hP hD hA hl.1 (k547_Jx4a65c_iterator_32c93 l D cy g a1 (v27) (.int 0) s.heap.size ) rfl rfl rfl rfl rfl ax_379 tw_1032 tw_1033 tw_1034 tw_1035 tw_371 rfl rfl ax_380 ⟨Nat.le_of_ble_eq_true rfl, Nat.le_of_ble_eq_true rfl⟩ rfl rfl (Nat.le_of_ble_eq_true rfl) dX10_gives_6 ⟨(Nat.le_of_ble_eq_true rfl), (Nat.le_of_ble_eq_true rfl)⟩) hP hD hS hA rfl rfl rfl (by decide) (fun ad6 H locs hP hD hS => ?_)
  have hP : va_P D vwCl [(a0, .inr (15, [v0, v1, v2, v3, v4, v5, v6, v7, v8, v9, v10, v11, v12, v13, v14, v15, v16, .ref a1, v17, v18, v19, v20, v21, v22, v23, v24, v25, v26])), (a1, .inr (4, [.int 0, v27, .int 0])), ((ad6 0), .inr (3, [.int 0, .int (-1), .int 0, .ref a1]))] H := hP
  have hD : va_D A [(a0, .inr (15, [v0, v1, v2, v3, v4, v5, v6, v7, v8, v9, v10, v11, v12, v13, v14, v15, v16, .ref a1, v17, v18, v19, v20, v21, v22, v23, v24, v25, v26])), (a1, .inr (4, [.int 0, v27, .int 0])), ((ad6 0), .inr (3, [.int 0, .int (-1), .int 0, .ref a1]))] := hD
  refine lv_astore (lv' := [(4, .ref (ad6 0)), (3, .int 0), (0, .ref a0), (1, .int x0), (2, .int x1)]) hx hb dX10_gives_11 hl (Nat.le_of_ble_eq_true rfl) rfl (fun ls hl => ?_)
  refine lv_aload hx hb dX10_gives_13 (lv_at hl 0 rfl) ?_
  refine ca_Fi (isC := [2, 1]) (isR := [0]) (wr := [(a0, .inr (15, [v0, v1, v2, v3, v4, v5, v6, v7, v8, v9, v10, v11, v12, v13, v14, v15, v16, .ref a1, v17, v18, v19, v20, v21, v22, v23, v24, v25, v26]))]) (rn_F (ci := 3) (q0 := 2) (isC := [2, 1]) (wc := [((ad6 0), .inr (3, [.int 0, .int (-1), .int 0, .ref a1])), (a1, .inr (4, [.int 0, v27, .int 0]))]) (As := []) (rest := []) (n := 0) hx hb hml hown hts hE hS hP hD hA hl.1 (k548_Jx35411_hasNext_aae02 l D cy g (ad6 0) a1 (.int (-1)) (.int 0) (.int 0) (v27) H.size ) rfl rfl rfl rfl rfl ax_381 tw_1040 tw_1041 tw_1042 tw_1043 tw_1044 rfl rfl ax_382 ⟨Nat.le_of_ble_eq_true rfl, Nat.le_of_ble_eq_true rfl⟩ rfl rfl (Nat.le_of_ble_eq_true rfl) dX10_gives_15 ⟨(Nat.le_of_ble_eq_true rfl), (Nat.le_of_ble_eq_true rfl)⟩) hP hD hS hA rfl rfl rfl (by decide) (fun ad15 H locs hP hD hS => ?_)
  have hP : va_P D vwCl [(a0, .inr (15, [v0, v1, v2, v3, v4, v5, v6, v7, v8, v9, v10, v11, v12, v13, v14, v15, v16, .ref a1, v17, v18, v19, v20, v21, v22, v23, v24, v25, v26])), ((ad6 0), .inr (3, [.int 0, .int (-1), .int 0, .ref a1])), (a1, .inr (4, [.int 0, v27, .int 0]))] H := hP
  have hD : va_D A [(a0, .inr (15, [v0, v1, v2, v3, v4, v5, v6, v7, v8, v9, v10, v11, v12, v13, v14, v15, v16, .ref a1, v17, v18, v19, v20, v21, v22, v23, v24, v25, v26])), ((ad6 0), .inr (3, [.int 0, .int (-1), .int 0, .ref a1])), (a1, .inr (4, [.int 0, v27, .int 0]))] := hD
  refine lv_if_eq (tgt := 140) hx hb dX10_gives_20 (by decide) (fun _ => ?_) (fun z => absurd (by decide) z)
  refine lv_iload_n hx hb dX10_gives_140 rfl (lv_at hl 1 rfl) ?_
  exact en_z hx hb hr hlk hP hD hS rfl (fun _ => 0) (is := [0, 2]) rfl rfl (Nat.le_of_ble_eq_true rfl) (Nat.le_of_ble_eq_true rfl) dX10_gives_141
set_option maxHeartbeats 4000000 in
set_option maxRecDepth 100000 in
theorem k550_X10_cascade (l : Launch) (D : va_G) (cy : Nat → ClassId) (g : Nat → Nat) (x0 : Int32) (a0 : Nat) (a1 : Nat) (v0 : Value) (v1 : Value) (v2 : Value) (v3 : Value) (v4 : Value) (v5 : Value) (v6 : Value) (v7 : Value) (v8 : Value) (v9 : Value) (v10 : Value) (v11 : Value) (v12 : Value) (v13 : Value) (v14 : Value) (v15 : Value) (v16 : Value) (v17 : Value) (v18 : Value) (v19 : Value) (v20 : Value) (v21 : Value) (v22 : Value) (v23 : Value) (v24 : Value) (v25 : Value) (v26 : Value) (v27 : Value) (sz : Nat)  : Met l yX10_cascade [.code yX10_cascade cX10_cascade 6 (some (.array .int))] ({ frames := 4, cells := 1102, slots := 4407, locals := 82 }) (PC D cy g [(a0, .inr (15, [v0, v1, v2, v3, v4, v5, v6, v7, v8, v9, v10, v11, v12, v13, v14, v15, v16, .ref a1, v17, v18, v19, v20, v21, v22, v23, v24, v25, v26])), (a1, .inr (4, [.int 0, v27, .int 0]))] sz [.ref a0, .int x0]) (QR D (fun ad => (ad 0)) (fun ad => [(a0, .inr (15, [v0, v1, v2, v3, v4, v5, v6, v7, v8, v9, v10, v11, v12, v13, v14, v15, v16, .ref a1, v17, v18, v19, v20, v21, v22, v23, v24, v25, v26])), (a1, .inr (4, [.int 0, v27, .int 0])), ((ad 0), .inl (cy 1, 3, .inl (upd (upd (upd (fun _ => 0) (0 : Int32).toNatClampNeg 0) (1 : Int32).toNatClampNeg 0) (2 : Int32).toNatClampNeg 0)))]) (va_A [(a0, .inr (15, [v0, v1, v2, v3, v4, v5, v6, v7, v8, v9, v10, v11, v12, v13, v14, v15, v16, .ref a1, v17, v18, v19, v20, v21, v22, v23, v24, v25, v26])), (a1, .inr (4, [.int 0, v27, .int 0]))] sz)) 1102 4407 (va_A [(a0, .inr (15, [v0, v1, v2, v3, v4, v5, v6, v7, v8, v9, v10, v11, v12, v13, v14, v15, v16, .ref a1, v17, v18, v19, v20, v21, v22, v23, v24, v25, v26])), (a1, .inr (4, [.int 0, v27, .int 0]))] sz) := by
  refine st_R (by decide) (Nat.le_of_ble_eq_true rfl) ?_
  intro p e s m args below meth c A ls hx hb hr hml hown hlk hnm hsz hP hD hA hE hts hS hl
  have hown : s.vm.findClass RX10 = some m.cls := hown
  have hl : lv_has ls 6 [(0, .ref a0), (1, .int x0)] := hl
  refine lv_iconst (v := 0) hx hb dX10_cascade_0 (by decide) ?_
  refine lv_istore_n (lv' := [(2, .int 0), (0, .ref a0), (1, .int x0)]) hx hb dX10_cascade_1 rfl hl (Nat.le_of_ble_eq_true rfl) rfl (fun ls hl => ?_)
  refine lv_iconst (v := 0) hx hb dX10_cascade_2 (by decide) ?_
  refine lv_istore_n (lv' := [(3, .int 0), (2, .int 0), (0, .ref a0), (1, .int x0)]) hx hb dX10_cascade_3 rfl hl (Nat.le_of_ble_eq_true rfl) rfl (fun ls hl => ?_)
  refine lv_iconst (v := 0) hx hb dX10_cascade_4 (by decide) ?_
  refine lv_istore (lv' := [(4, .int 0), (3, .int 0), (2, .int 0), (0, .ref a0), (1, .int x0)]) hx hb dX10_cascade_5 hl (Nat.le_of_ble_eq_true rfl) rfl (fun ls hl => ?_)
  refine lv_sipush (v := 1000) hx hb dX10_cascade_7 (by decide) ?_
  refine lv_istore (lv' := [(5, .int 1000), (4, .int 0), (3, .int 0), (2, .int 0), (0, .ref a0), (1, .int x0)]) hx hb dX10_cascade_10 hl (Nat.le_of_ble_eq_true rfl) rfl (fun ls hl => ?_)
  have loop : ∀ (n : Nat) (i : Int32), (i.toInt = (n : Int) - 101 ∧ n ≤ 1101) → ∀ (cl sl : Nat), cl + 1 * n ≤ 1101 → sl + 4 * n ≤ 4404 → ∀ (H : Heap) (locs : List Loc) (ls : Array Slot), va_P D vwCl [(a0, .inr (15, [v0, v1, v2, v3, v4, v5, v6, v7, v8, v9, v10, v11, v12, v13, v14, v15, v16, .ref a1, v17, v18, v19, v20, v21, v22, v23, v24, v25, v26])), (a1, .inr (4, [.int 0, v27, .int 0]))] H → va_D A [(a0, .inr (15, [v0, v1, v2, v3, v4, v5, v6, v7, v8, v9, v10, v11, v12, v13, v14, v15, v16, .ref a1, v17, v18, v19, v20, v21, v22, v23, v24, v25, v26])), (a1, .inr (4, [.int 0, v27, .int 0]))] → va_S A s.heap H locs → lv_has ls 6 [(5, .int i), (4, .int 0), (3, .int 0), (2, .int 0), (0, .ref a0), (1, .int x0)] → W p l e ({ frames := 4, cells := 1102, slots := 4407, locals := 82 }) s m args below meth c H locs cl sl (MQ below (QR D (fun ad => (ad 0)) (fun ad => [(a0, .inr (15, [v0, v1, v2, v3, v4, v5, v6, v7, v8, v9, v10, v11, v12, v13, v14, v15, v16, .ref a1, v17, v18, v19, v20, v21, v22, v23, v24, v25, v26])), (a1, .inr (4, [.int 0, v27, .int 0])), ((ad 0), .inl (cy 1, 3, .inl (upd (upd (upd (fun _ => 0) (0 : Int32).toNatClampNeg 0) (1 : Int32).toNatClampNeg 0) (2 : Int32).toNatClampNeg 0)))]) A) args s 1102 4407 A) (F0 m 12 ls []) := by
    intro n
    induction n with
    | zero =>
      intro i hi cl sl hcl hsl H locs ls hP hD hS hl
      have hc0 : i < (-100) := by
        have w0 : (-100 : Int32).toInt = -100 := by decide
        rw [fa_lt]; omega
      refine lv_iload hx hb dX10_cascade_12 (lv_at hl 0 rfl) ?_
      refine lv_bipush (v := (-100)) hx hb dX10_cascade_14 (by decide) ?_
      refine lv_icmp_lt (tgt := 57) hx hb dX10_cascade_16 (by decide) (fun _ => ?_) (fun z => absurd hc0 z)
      refine lv_iconst (v := 3) hx hb dX10_cascade_57 (by decide) ?_
      refine nw_p (atype := .int) (ty := .int) (cA := cy 1) (a0 := (3, .inl (fun _ => 0))) (N' := 3) 1 hx hb rfl hts tw_11 hE rfl hP hD hS hA (fun _ => rfl) (by decide) (by decide) (by decide) (by show _ ≤ 1102; omega) (by show _ ≤ 4407; omega) dX10_cascade_58 (fun q1 H hP hD hS => ?_)
      have hP : va_P D vwCl [(a0, .inr (15, [v0, v1, v2, v3, v4, v5, v6, v7, v8, v9, v10, v11, v12, v13, v14, v15, v16, .ref a1, v17, v18, v19, v20, v21, v22, v23, v24, v25, v26])), (a1, .inr (4, [.int 0, v27, .int 0])), (q1, .inl (cy 1, 3, .inl (fun _ => 0)))] H := hP
      have hD : va_D A [(a0, .inr (15, [v0, v1, v2, v3, v4, v5, v6, v7, v8, v9, v10, v11, v12, v13, v14, v15, v16, .ref a1, v17, v18, v19, v20, v21, v22, v23, v24, v25, v26])), (a1, .inr (4, [.int 0, v27, .int 0])), (q1, .inl (cy 1, 3, .inl (fun _ => 0)))] := hD
      refine lv_dup hx hb dX10_cascade_60 rfl ?_
      refine lv_iconst (v := 0) hx hb dX10_cascade_61 (by decide) ?_
      refine lv_iload_n hx hb dX10_cascade_62 rfl (lv_at hl 3 rfl) ?_
      refine lv_ineg hx hb dX10_cascade_63 ?_
      refine tp_i 0 (by decide) ?_
      refine va_iast hx hb hE.1 hP hD hS 2 1 rfl rfl (by unfold vp_in; decide) dX10_cascade_64 (fun H locs hP hD hS => ?_)
      have hP : va_P D vwCl [(a0, .inr (15, [v0, v1, v2, v3, v4, v5, v6, v7, v8, v9, v10, v11, v12, v13, v14, v15, v16, .ref a1, v17, v18, v19, v20, v21, v22, v23, v24, v25, v26])), (a1, .inr (4, [.int 0, v27, .int 0])), (q1, .inl (cy 1, 3, .inl (upd (fun _ => 0) (0 : Int32).toNatClampNeg 0)))] H := hP
      have hD : va_D A [(a0, .inr (15, [v0, v1, v2, v3, v4, v5, v6, v7, v8, v9, v10, v11, v12, v13, v14, v15, v16, .ref a1, v17, v18, v19, v20, v21, v22, v23, v24, v25, v26])), (a1, .inr (4, [.int 0, v27, .int 0])), (q1, .inl (cy 1, 3, .inl (upd (fun _ => 0) (0 : Int32).toNatClampNeg 0)))] := hD
      refine lv_dup hx hb dX10_cascade_65 rfl ?_
      refine lv_iconst (v := 1) hx hb dX10_cascade_66 (by decide) ?_
      refine lv_iload hx hb dX10_cascade_67 (lv_at hl 1 rfl) ?_
      refine va_iast hx hb hE.1 hP hD hS 2 1 rfl rfl (by unfold vp_in; decide) dX10_cascade_69 (fun H locs hP hD hS => ?_)
      have hP : va_P D vwCl [(a0, .inr (15, [v0, v1, v2, v3, v4, v5, v6, v7, v8, v9, v10, v11, v12, v13, v14, v15, v16, .ref a1, v17, v18, v19, v20, v21, v22, v23, v24, v25, v26])), (a1, .inr (4, [.int 0, v27, .int 0])), (q1, .inl (cy 1, 3, .inl (upd (upd (fun _ => 0) (0 : Int32).toNatClampNeg 0) (1 : Int32).toNatClampNeg 0)))] H := hP
      have hD : va_D A [(a0, .inr (15, [v0, v1, v2, v3, v4, v5, v6, v7, v8, v9, v10, v11, v12, v13, v14, v15, v16, .ref a1, v17, v18, v19, v20, v21, v22, v23, v24, v25, v26])), (a1, .inr (4, [.int 0, v27, .int 0])), (q1, .inl (cy 1, 3, .inl (upd (upd (fun _ => 0) (0 : Int32).toNatClampNeg 0) (1 : Int32).toNatClampNeg 0)))] := hD
      refine lv_dup hx hb dX10_cascade_70 rfl ?_
      refine lv_iconst (v := 2) hx hb dX10_cascade_71 (by decide) ?_
      refine lv_iload_n hx hb dX10_cascade_72 rfl (lv_at hl 2 rfl) ?_
      refine va_iast hx hb hE.1 hP hD hS 2 1 rfl rfl (by unfold vp_in; decide) dX10_cascade_73 (fun H locs hP hD hS => ?_)
      have hP : va_P D vwCl [(a0, .inr (15, [v0, v1, v2, v3, v4, v5, v6, v7, v8, v9, v10, v11, v12, v13, v14, v15, v16, .ref a1, v17, v18, v19, v20, v21, v22, v23, v24, v25, v26])), (a1, .inr (4, [.int 0, v27, .int 0])), (q1, .inl (cy 1, 3, .inl (upd (upd (upd (fun _ => 0) (0 : Int32).toNatClampNeg 0) (1 : Int32).toNatClampNeg 0) (2 : Int32).toNatClampNeg 0)))] H := hP
      have hD : va_D A [(a0, .inr (15, [v0, v1, v2, v3, v4, v5, v6, v7, v8, v9, v10, v11, v12, v13, v14, v15, v16, .ref a1, v17, v18, v19, v20, v21, v22, v23, v24, v25, v26])), (a1, .inr (4, [.int 0, v27, .int 0])), (q1, .inl (cy 1, 3, .inl (upd (upd (upd (fun _ => 0) (0 : Int32).toNatClampNeg 0) (1 : Int32).toNatClampNeg 0) (2 : Int32).toNatClampNeg 0)))] := hD
      exact en_r hx hb hr (Or.inr ⟨_, rfl⟩) hlk hP hD hS (fun k => [q1].getD k 0) rfl (is := [0, 1, 2]) rfl rfl (by show _ ≤ 1102; omega) (by show _ ≤ 4407; omega) dX10_cascade_74
    | succ n ih =>
      intro i hi cl sl hcl hsl H locs ls hP hD hS hl
      have hc0 : ¬ i < (-100) := by
        have w0 : (-100 : Int32).toInt = -100 := by decide
        rw [fa_lt]; omega
      refine lv_iload hx hb dX10_cascade_12 (lv_at hl 0 rfl) ?_
      refine lv_bipush (v := (-100)) hx hb dX10_cascade_14 (by decide) ?_
      refine lv_icmp_lt (tgt := 57) hx hb dX10_cascade_16 (by decide) (fun z => absurd z hc0) (fun _ => ?_)
      refine lv_iload hx hb dX10_cascade_19 (lv_at hl 1 rfl) ?_
      refine lv_aload_n hx hb dX10_cascade_21 rfl (lv_at hl 4 rfl) ?_
      refine lv_iload hx hb dX10_cascade_22 (lv_at hl 0 rfl) ?_
      refine lv_iload_n hx hb dX10_cascade_24 rfl (lv_at hl 5 rfl) ?_
      refine ca_i (isC := [0, 1]) (isR := []) (wr := []) (rn_V (ci := 15) (q0 := 0) (isC := [0, 1]) (wc := [(a0, .inr (15, [v0, v1, v2, v3, v4, v5, v6, v7, v8, v9, v10, v11, v12, v13, v14, v15, v16, .ref a1, v17, v18, v19, v20, v21, v22, v23, v24, v25, v26])), (a1, .inr (4, [.int 0, v27, .int 0]))]) (As := [.int i, .int x0]) (rest := [.int 0]) (n := 2) hx hb hml hown hts hE hS hP hD hA hl.1 (k549_X10_gives l D cy g i x0 a0 a1 (v0) (v1) (v2) (v3) (v4) (v5) (v6) (v7) (v8) (v9) (v10) (v11) (v12) (v13) (v14) (v15) (v16) (v17) (v18) (v19) (v20) (v21) (v22) (v23) (v24) (v25) (v26) (v27) H.size ) rfl rfl rfl rfl rfl ax_383 rfl rfl ax_384 ⟨Nat.le_of_ble_eq_true rfl, Nat.le_of_ble_eq_true rfl⟩ rfl rfl (Nat.le_of_ble_eq_true rfl) dX10_cascade_25 ⟨(by show _ ≤ 1102; omega), (by show _ ≤ 4407; omega)⟩) hP hD hS hA rfl rfl rfl (by decide) (fun ad25 H locs hP hD hS => ?_)
      have hP : va_P D vwCl [(a0, .inr (15, [v0, v1, v2, v3, v4, v5, v6, v7, v8, v9, v10, v11, v12, v13, v14, v15, v16, .ref a1, v17, v18, v19, v20, v21, v22, v23, v24, v25, v26])), (a1, .inr (4, [.int 0, v27, .int 0]))] H := hP
      have hD : va_D A [(a0, .inr (15, [v0, v1, v2, v3, v4, v5, v6, v7, v8, v9, v10, v11, v12, v13, v14, v15, v16, .ref a1, v17, v18, v19, v20, v21, v22, v23, v24, v25, v26])), (a1, .inr (4, [.int 0, v27, .int 0]))] := hD
      refine lv_iadd hx hb dX10_cascade_28 ?_
      refine tp_i 0 (by decide) ?_
      refine lv_istore (lv' := [(4, .int 0), (5, .int i), (3, .int 0), (2, .int 0), (0, .ref a0), (1, .int x0)]) hx hb dX10_cascade_29 hl (Nat.le_of_ble_eq_true rfl) rfl (fun ls hl => ?_)
      refine lv_iload hx hb dX10_cascade_31 (lv_at hl 0 rfl) ?_
      refine lv_iload_n hx hb dX10_cascade_33 rfl (lv_at hl 3 rfl) ?_
      refine lv_icmp_ge (tgt := 42) hx hb dX10_cascade_34 (by decide) (fun _ => ?_) (fun z => absurd (by decide) z)
      refine lv_iload_n hx hb dX10_cascade_42 rfl (lv_at hl 2 rfl) ?_
      refine lv_istore_n (lv' := [(3, .int 0), (4, .int 0), (5, .int i), (2, .int 0), (0, .ref a0), (1, .int x0)]) hx hb dX10_cascade_43 rfl hl (Nat.le_of_ble_eq_true rfl) rfl (fun ls hl => ?_)
      refine lv_iload_n hx hb dX10_cascade_44 rfl (lv_at hl 3 rfl) ?_
      refine lv_iload hx hb dX10_cascade_45 (lv_at hl 1 rfl) ?_
      refine va_mmin hx hb (hml.trans hl.1.symm) hown (hts _ tw_1049) (hts _ tw_644) (hts _ tw_345) (hts _ tw_645) (Nat.le_of_ble_eq_true rfl) (Nat.le_of_ble_eq_true rfl) (by show _ ≤ 1102; omega) (by show _ ≤ 4407; omega) dX10_cascade_47 ?_
      refine tp_i 0 (by decide) ?_
      refine lv_istore_n (lv' := [(2, .int 0), (3, .int 0), (4, .int 0), (5, .int i), (0, .ref a0), (1, .int x0)]) hx hb dX10_cascade_50 rfl hl (Nat.le_of_ble_eq_true rfl) rfl (fun ls hl => ?_)
      refine lv_iinc (v := (i + (-1))) (lv' := [(5, .int (i + (-1))), (2, .int 0), (3, .int 0), (4, .int 0), (0, .ref a0), (1, .int x0)]) hx hb dX10_cascade_51 hl (k := 3) rfl rfl (Nat.le_of_ble_eq_true rfl) rfl (fun ls hl => ?_)
      refine lv_goto (tgt := 12) hx hb dX10_cascade_54 (by decide) ?_
      exact ih _ ⟨by rw [dec_i (by omega) (by omega)]; omega, by omega⟩ _ _ (by omega) (by omega) H locs ls hP hD hS (lv_sub hl [0, 3, 2, 1, 4, 5] rfl)
  exact loop 1101 1000 ⟨by decide, by omega⟩ _ _ (by omega) (by omega) _ _ _ hP hD hS (lv_sub hl [0, 1, 2, 3, 4, 5] rfl)
set_option maxHeartbeats 4000000 in
set_option maxRecDepth 100000 in
theorem k551_X10_heatNeeded (l : Launch) (D : va_G) (cy : Nat → ClassId) (g : Nat → Nat) (x0 : Int32) (a0 : Nat) (a1 : Nat) (v0 : Value) (v1 : Value) (v2 : Value) (v3 : Value) (v4 : Value) (v5 : Value) (v6 : Value) (v7 : Value) (v8 : Value) (v9 : Value) (v10 : Value) (v11 : Value) (v12 : Value) (v13 : Value) (v14 : Value) (v15 : Value) (v16 : Value) (v17 : Value) (v18 : Value) (v19 : Value) (v20 : Value) (v21 : Value) (v22 : Value) (v23 : Value) (v24 : Value) (v25 : Value) (v26 : Value) (v27 : Value) (sz : Nat) (h0 : ¬ x0 < 0) (h1 : ¬ (100 : Int32) < x0) : Met l yX10_heatNeeded [.code yX10_heatNeeded cX10_heatNeeded 2 (some .int)] ({ frames := 5, cells := 1102, slots := 4407, locals := 107 }) (PC D cy g [(a0, .inr (15, [v0, v1, v2, v3, v4, v5, v6, v7, v8, v9, v10, v11, v12, v13, v14, v15, v16, .ref a1, v17, v18, v19, v20, v21, v22, v23, v24, v25, v26])), (a1, .inr (4, [.int 0, v27, .int 0]))] sz [.ref a0, .int x0]) (QI D 0 (fun ad => [(a0, .inr (15, [.int 0, v1, v2, v3, v4, v5, v6, v7, v8, v9, v10, v11, v12, v13, v14, v15, v16, .ref a1, v17, v18, v19, v20, v21, v22, v23, v24, v25, v26]))]) (va_A [(a0, .inr (15, [v0, v1, v2, v3, v4, v5, v6, v7, v8, v9, v10, v11, v12, v13, v14, v15, v16, .ref a1, v17, v18, v19, v20, v21, v22, v23, v24, v25, v26])), (a1, .inr (4, [.int 0, v27, .int 0]))] sz)) 1102 4407 (va_A [(a0, .inr (15, [v0, v1, v2, v3, v4, v5, v6, v7, v8, v9, v10, v11, v12, v13, v14, v15, v16, .ref a1, v17, v18, v19, v20, v21, v22, v23, v24, v25, v26])), (a1, .inr (4, [.int 0, v27, .int 0]))] sz) := by
  refine st_I (by decide) (Nat.le_of_ble_eq_true rfl) ?_
  intro p e s m args below meth c A ls hx hb hr hml hown hlk hnm hsz hP hD hA hE hts hS hl
  have hown : s.vm.findClass RX10 = some m.cls := hown
  have hl : lv_has ls 2 [(0, .ref a0), (1, .int x0)] := hl
  refine lv_aload_n hx hb dX10_heatNeeded_0 rfl (lv_at hl 0 rfl) ?_
  refine ca_v (isC := [0]) (isR := [1]) (wr := [(a1, .inr (4, [.int 0, v27, .int 0]))]) (rn_V (ci := 15) (q0 := 0) (isC := [0]) (wc := [(a0, .inr (15, [v0, v1, v2, v3, v4, v5, v6, v7, v8, v9, v10, v11, v12, v13, v14, v15, v16, .ref a1, v17, v18, v19, v20, v21, v22, v23, v24, v25, v26]))]) (As := []) (rest := []) (n := 0) hx hb hml hown hts hE hS hP hD hA hl.1 (k20_X10_begins l D cy g a0 (v0) (v1) (v2) (v3) (v4) (v5) (v6) (v7) (v8) (v9) (v10) (v11) (v12) (v13) (v14) (v15) (v16) (.ref a1) (v17) (v18) (v19) (v20) (v21) (v22) (v23) (v24) (v25) (v26) s.heap.size ) rfl rfl rfl rfl rfl ax_37 rfl rfl ax_38 ⟨Nat.le_of_ble_eq_true rfl, Nat.le_of_ble_eq_true rfl⟩ rfl rfl (Nat.le_of_ble_eq_true rfl) dX10_heatNeeded_1 ⟨(Nat.le_of_ble_eq_true rfl), (Nat.le_of_ble_eq_true rfl)⟩) hP hD hS hA rfl rfl rfl (by decide) (fun ad1 H locs hP hD hS => ?_)
  have hP : va_P D vwCl [(a1, .inr (4, [.int 0, v27, .int 0])), (a0, .inr (15, [.int 0, v1, v2, v3, v4, v5, v6, v7, v8, v9, v10, v11, v12, v13, v14, v15, v16, .ref a1, v17, v18, v19, v20, v21, v22, v23, v24, v25, v26]))] H := hP
  have hD : va_D A [(a1, .inr (4, [.int 0, v27, .int 0])), (a0, .inr (15, [.int 0, v1, v2, v3, v4, v5, v6, v7, v8, v9, v10, v11, v12, v13, v14, v15, v16, .ref a1, v17, v18, v19, v20, v21, v22, v23, v24, v25, v26]))] := hD
  refine lv_aload_n hx hb dX10_heatNeeded_4 rfl (lv_at hl 0 rfl) ?_
  refine lv_iload_n hx hb dX10_heatNeeded_5 rfl (lv_at hl 1 rfl) ?_
  refine ca_i (isC := [1]) (isR := [0]) (wr := [(a1, .inr (4, [.int 0, v27, .int 0]))]) (rn_V (ci := 15) (q0 := 1) (isC := [1]) (wc := [(a0, .inr (15, [.int 0, v1, v2, v3, v4, v5, v6, v7, v8, v9, v10, v11, v12, v13, v14, v15, v16, .ref a1, v17, v18, v19, v20, v21, v22, v23, v24, v25, v26]))]) (As := [.int x0]) (rest := []) (n := 1) hx hb hml hown hts hE hS hP hD hA hl.1 (k545_X10_noApproach l D cy g x0 a0 (v1) (v2) (v3) (v4) (v5) (v6) (v7) (v8) (v9) (v10) (v11) (v12) (v13) (v14) (v15) (v16) (.ref a1) (v17) (v18) (v19) (v20) (v21) (v22) (v23) (v24) (v25) (v26) H.size h0 h1) rfl rfl rfl rfl rfl ax_367 rfl rfl ax_368 ⟨Nat.le_of_ble_eq_true rfl, Nat.le_of_ble_eq_true rfl⟩ rfl rfl (Nat.le_of_ble_eq_true rfl) dX10_heatNeeded_6 ⟨(Nat.le_of_ble_eq_true rfl), (Nat.le_of_ble_eq_true rfl)⟩) hP hD hS hA rfl rfl rfl (by decide) (fun ad6 H locs hP hD hS => ?_)
  have hP : va_P D vwCl [(a1, .inr (4, [.int 0, v27, .int 0])), (a0, .inr (15, [.int 0, v1, v2, v3, v4, v5, v6, v7, v8, v9, v10, v11, v12, v13, v14, v15, v16, .ref a1, v17, v18, v19, v20, v21, v22, v23, v24, v25, v26]))] H := hP
  have hD : va_D A [(a1, .inr (4, [.int 0, v27, .int 0])), (a0, .inr (15, [.int 0, v1, v2, v3, v4, v5, v6, v7, v8, v9, v10, v11, v12, v13, v14, v15, v16, .ref a1, v17, v18, v19, v20, v21, v22, v23, v24, v25, v26]))] := hD
  refine lv_if_eq (tgt := 16) hx hb dX10_heatNeeded_9 (by decide) (fun _ => ?_) (fun z => absurd (by decide) z)
  refine lv_aload_n hx hb dX10_heatNeeded_16 rfl (lv_at hl 0 rfl) ?_
  refine lv_iload_n hx hb dX10_heatNeeded_17 rfl (lv_at hl 1 rfl) ?_
  refine ca_r (isC := [1, 0]) (isR := []) (wr := []) (rn_V (ci := 15) (q0 := 1) (isC := [1, 0]) (wc := [(a0, .inr (15, [.int 0, v1, v2, v3, v4, v5, v6, v7, v8, v9, v10, v11, v12, v13, v14, v15, v16, .ref a1, v17, v18, v19, v20, v21, v22, v23, v24, v25, v26])), (a1, .inr (4, [.int 0, v27, .int 0]))]) (As := [.int x0]) (rest := []) (n := 1) hx hb hml hown hts hE hS hP hD hA hl.1 (k550_X10_cascade l D cy g x0 a0 a1 (.int 0) (v1) (v2) (v3) (v4) (v5) (v6) (v7) (v8) (v9) (v10) (v11) (v12) (v13) (v14) (v15) (v16) (v17) (v18) (v19) (v20) (v21) (v22) (v23) (v24) (v25) (v26) (v27) H.size ) rfl rfl rfl rfl rfl ax_385 rfl rfl ax_386 ⟨Nat.le_of_ble_eq_true rfl, Nat.le_of_ble_eq_true rfl⟩ rfl rfl (Nat.le_of_ble_eq_true rfl) dX10_heatNeeded_18 ⟨(Nat.le_of_ble_eq_true rfl), (Nat.le_of_ble_eq_true rfl)⟩) hP hD hS hA rfl rfl rfl (by decide) (fun ad18 H locs hP hD hS => ?_)
  have hP : va_P D vwCl [(a0, .inr (15, [.int 0, v1, v2, v3, v4, v5, v6, v7, v8, v9, v10, v11, v12, v13, v14, v15, v16, .ref a1, v17, v18, v19, v20, v21, v22, v23, v24, v25, v26])), (a1, .inr (4, [.int 0, v27, .int 0])), ((ad18 0), .inl (cy 1, 3, .inl (upd (upd (upd (fun _ => 0) (0 : Int32).toNatClampNeg 0) (1 : Int32).toNatClampNeg 0) (2 : Int32).toNatClampNeg 0)))] H := hP
  have hD : va_D A [(a0, .inr (15, [.int 0, v1, v2, v3, v4, v5, v6, v7, v8, v9, v10, v11, v12, v13, v14, v15, v16, .ref a1, v17, v18, v19, v20, v21, v22, v23, v24, v25, v26])), (a1, .inr (4, [.int 0, v27, .int 0])), ((ad18 0), .inl (cy 1, 3, .inl (upd (upd (upd (fun _ => 0) (0 : Int32).toNatClampNeg 0) (1 : Int32).toNatClampNeg 0) (2 : Int32).toNatClampNeg 0)))] := hD
  refine lv_iconst (v := 0) hx hb dX10_heatNeeded_21 (by decide) ?_
  refine va_iald hx hb hE.1 hP 2 1 rfl rfl (by unfold vp_in; decide) dX10_heatNeeded_22 ?_
  refine tp_i 0 rfl ?_
  exact en_z hx hb hr hlk hP hD hS rfl (fun _ => 0) (is := [0]) rfl rfl (Nat.le_of_ble_eq_true rfl) (Nat.le_of_ble_eq_true rfl) dX10_heatNeeded_23
set_option maxHeartbeats 4000000 in
set_option maxRecDepth 100000 in
theorem k552_X9_coldNeeded (l : Launch) (hst : l.stackTraces = false) (D : va_G) (cy : Nat → ClassId) (g : Nat → Nat) (x0 : Int32) (a0 : Nat) (v0 : Value) (v1 : Value) (v2 : Value) (v3 : Value) (v4 : Value) (v5 : Value) (v6 : Value) (sz : Nat) (h0 : x0 < 0) : vx_Met l yX9_coldNeeded [.code yX9_coldNeeded cX9_coldNeeded 2 (some .int)] ({ frames := 7, cells := 1, slots := 6, locals := 103 }) (PC D cy g [(a0, .inr (14, [v0, v1, v2, v3, v4, v5, v6]))] sz [.ref a0, .int x0]) QN (XE "java/lang/IllegalArgumentException" (va_A [(a0, .inr (14, [v0, v1, v2, v3, v4, v5, v6]))] sz)) 1 6 (va_A [(a0, .inr (14, [v0, v1, v2, v3, v4, v5, v6]))] sz) := by
  refine st_X (by decide) (Nat.le_of_ble_eq_true rfl) ?_
  intro p e s m args below meth c A ls hx hb hr hml hown hlk hnm hsz hP hD hA hE hts hS hl hout
  have hown : s.vm.findClass RX9 = some m.cls := hown
  have hl : lv_has ls 2 [(0, .ref a0), (1, .int x0)] := hl
  refine lv_aload_n hx hb dX9_coldNeeded_0 rfl (lv_at hl 0 rfl) ?_
  refine lv_iload_n hx hb dX9_coldNeeded_1 rfl (lv_at hl 1 rfl) ?_
  exact cx_out (isC := []) (rx_V (ci := 14) (q0 := 0) (isC := []) (wc := []) (As := [.int x0]) (rest := []) (n := 1) hx hb hml hown hts hE hS hP hD hA hl.1 (k529_X9_requireApproach l hst D cy g x0 a0 s.heap.size h0) rfl rfl rfl rfl rfl ax_361 rfl rfl ax_362 ⟨Nat.le_of_ble_eq_true rfl, Nat.le_of_ble_eq_true rfl⟩ rfl rfl (Nat.le_of_ble_eq_true rfl) dX9_coldNeeded_2 ⟨(Nat.le_of_ble_eq_true rfl), (Nat.le_of_ble_eq_true rfl)⟩) hD hS hA rfl hout hlk (Nat.le_of_ble_eq_true rfl) (Nat.le_of_ble_eq_true rfl)
set_option maxHeartbeats 4000000 in
set_option maxRecDepth 100000 in
theorem k553_L_coldNeeded (l : Launch) (hst : l.stackTraces = false) (D : va_G) (cy : Nat → ClassId) (g : Nat → Nat) (x0 : Int32) (a0 : Nat) (b0 : Nat) (v0 : Value) (v1 : Value) (v2 : Value) (v3 : Value) (v4 : Value) (v5 : Value) (v6 : Value) (sz : Nat) (h0 : x0 < 0) : Met l yL_coldNeeded [.codeWith yL_coldNeeded cL_coldNeeded 4 (some .int) [(0, 9, 12, 13)]] ({ frames := 8, cells := 1, slots := 6, locals := 124 }) (PC D cy g [(a0, .inr (14, [v0, v1, v2, v3, v4, v5, v6]))] sz [.ref a0, .int x0, .ref b0]) (QI D 1 (fun ad => []) (va_A [(a0, .inr (14, [v0, v1, v2, v3, v4, v5, v6]))] sz)) 1 6 (va_A [(a0, .inr (14, [v0, v1, v2, v3, v4, v5, v6]))] sz) := by
  refine sh_I (by decide) (Nat.le_of_ble_eq_true rfl) ?_
  intro p e s m args below meth c A ls hx hb hr hml hown hlk hnm hsz hP hD hA hE hts hS hl htb
  have hown : s.vm.findClass RL = some m.cls := hown
  have hl : lv_has ls 4 [(0, .ref a0), (1, .int x0), (2, .ref b0)] := hl
  refine lv_aload_n hx hb dL_coldNeeded_0 rfl (lv_at hl 2 rfl) ?_
  refine lv_iconst (v := 0) hx hb dL_coldNeeded_1 (by decide) ?_
  refine lv_aload_n hx hb dL_coldNeeded_2 rfl (lv_at hl 0 rfl) ?_
  refine lv_iload_n hx hb dL_coldNeeded_3 rfl (lv_at hl 1 rfl) ?_
  refine cx_catch (isC := [0]) (isR := []) (wr := []) (hp := []) (z := (0, 9, 12, 13)) (hq := []) (name := "java/lang/IllegalArgumentException") (own := RL) (rx_V (ci := 14) (q0 := 0) (isC := [0]) (wc := [(a0, .inr (14, [v0, v1, v2, v3, v4, v5, v6]))]) (As := [.int x0]) (rest := [.int 0, .ref b0]) (n := 1) hx hb hml hown hts hE hS hP hD hA hl.1 (k552_X9_coldNeeded l hst D cy g x0 a0 (v0) (v1) (v2) (v3) (v4) (v5) (v6) s.heap.size h0) rfl rfl rfl rfl rfl ax_387 rfl rfl ax_388 ⟨Nat.le_of_ble_eq_true rfl, Nat.le_of_ble_eq_true rfl⟩ rfl rfl (Nat.le_of_ble_eq_true rfl) dL_coldNeeded_4 ⟨(Nat.le_of_ble_eq_true rfl), (Nat.le_of_ble_eq_true rfl)⟩) hP hD hS hA hown hts hE htb rfl rfl rfl rfl (by decide) (fun z hz => by cases hz) (by decide) (by decide) tw_302 tw_303 (fun qx H locs hP hD hS => ?_)
  have hP : va_P D vwCl [] H := hP
  have hD : va_D A [] := hD
  refine lv_astore_n (lv' := [(3, .ref qx), (0, .ref a0), (1, .int x0), (2, .ref b0)]) hx hb dL_coldNeeded_12 rfl hl (Nat.le_of_ble_eq_true rfl) rfl (fun ls hl => ?_)
  refine lv_iconst (v := 1) hx hb dL_coldNeeded_13 (by decide) ?_
  exact en_z hx hb hr hlk hP hD hS rfl (fun _ => 0) (is := []) rfl rfl (Nat.le_of_ble_eq_true rfl) (Nat.le_of_ble_eq_true rfl) dL_coldNeeded_14
set_option maxHeartbeats 4000000 in
set_option maxRecDepth 100000 in
theorem k554_X10_coldNeeded (l : Launch) (D : va_G) (cy : Nat → ClassId) (g : Nat → Nat) (x0 : Int32) (a0 : Nat) (v0 : Value) (v1 : Value) (v2 : Value) (v3 : Value) (v4 : Value) (v5 : Value) (v6 : Value) (v7 : Value) (v8 : Value) (v9 : Value) (v10 : Value) (v11 : Value) (v12 : Value) (v13 : Value) (v14 : Value) (v15 : Value) (v16 : Value) (v17 : Value) (v18 : Value) (v19 : Value) (v20 : Value) (v21 : Value) (v22 : Value) (v23 : Value) (v24 : Value) (v25 : Value) (v26 : Value) (v27 : Value) (sz : Nat) (h0 : x0 < 0) : Met l yX10_coldNeeded [.code yX10_coldNeeded cX10_coldNeeded 2 (some .int)] ({ frames := 2, cells := 0, slots := 0, locals := 46 }) (PC D cy g [(a0, .inr (15, [v0, v1, v2, v3, v4, v5, v6, v7, v8, v9, v10, v11, v12, v13, v14, v15, v16, v17, v18, v19, v20, v21, v22, v23, v24, v25, v26, v27]))] sz [.ref a0, .int x0]) (QI D (-1) (fun ad => [(a0, .inr (15, [.int 1, v1, v2, v3, v4, v5, v6, v7, v8, v9, v10, v11, v12, v13, v14, v15, v16, v17, v18, v19, v20, v21, v22, v23, v24, v25, v26, v27]))]) (va_A [(a0, .inr (15, [v0, v1, v2, v3, v4, v5, v6, v7, v8, v9, v10, v11, v12, v13, v14, v15, v16, v17, v18, v19, v20, v21, v22, v23, v24, v25, v26, v27]))] sz)) 0 0 (va_A [(a0, .inr (15, [v0, v1, v2, v3, v4, v5, v6, v7, v8, v9, v10, v11, v12, v13, v14, v15, v16, v17, v18, v19, v20, v21, v22, v23, v24, v25, v26, v27]))] sz) := by
  refine st_I (by decide) (Nat.le_of_ble_eq_true rfl) ?_
  intro p e s m args below meth c A ls hx hb hr hml hown hlk hnm hsz hP hD hA hE hts hS hl
  have hown : s.vm.findClass RX10 = some m.cls := hown
  have hl : lv_has ls 2 [(0, .ref a0), (1, .int x0)] := hl
  refine lv_aload_n hx hb dX10_coldNeeded_0 rfl (lv_at hl 0 rfl) ?_
  refine ca_v (isC := [0]) (isR := []) (wr := []) (rn_V (ci := 15) (q0 := 0) (isC := [0]) (wc := [(a0, .inr (15, [v0, v1, v2, v3, v4, v5, v6, v7, v8, v9, v10, v11, v12, v13, v14, v15, v16, v17, v18, v19, v20, v21, v22, v23, v24, v25, v26, v27]))]) (As := []) (rest := []) (n := 0) hx hb hml hown hts hE hS hP hD hA hl.1 (k20_X10_begins l D cy g a0 (v0) (v1) (v2) (v3) (v4) (v5) (v6) (v7) (v8) (v9) (v10) (v11) (v12) (v13) (v14) (v15) (v16) (v17) (v18) (v19) (v20) (v21) (v22) (v23) (v24) (v25) (v26) (v27) s.heap.size ) rfl rfl rfl rfl rfl ax_37 rfl rfl ax_38 ⟨Nat.le_of_ble_eq_true rfl, Nat.le_of_ble_eq_true rfl⟩ rfl rfl (Nat.le_of_ble_eq_true rfl) dX10_coldNeeded_1 ⟨(Nat.le_of_ble_eq_true rfl), (Nat.le_of_ble_eq_true rfl)⟩) hP hD hS hA rfl rfl rfl (by decide) (fun ad1 H locs hP hD hS => ?_)
  have hP : va_P D vwCl [(a0, .inr (15, [.int 0, v1, v2, v3, v4, v5, v6, v7, v8, v9, v10, v11, v12, v13, v14, v15, v16, v17, v18, v19, v20, v21, v22, v23, v24, v25, v26, v27]))] H := hP
  have hD : va_D A [(a0, .inr (15, [.int 0, v1, v2, v3, v4, v5, v6, v7, v8, v9, v10, v11, v12, v13, v14, v15, v16, v17, v18, v19, v20, v21, v22, v23, v24, v25, v26, v27]))] := hD
  refine lv_aload_n hx hb dX10_coldNeeded_4 rfl (lv_at hl 0 rfl) ?_
  refine lv_iload_n hx hb dX10_coldNeeded_5 rfl (lv_at hl 1 rfl) ?_
  refine ca_i (isC := [0]) (isR := []) (wr := []) (rn_V (ci := 15) (q0 := 0) (isC := [0]) (wc := [(a0, .inr (15, [.int 0, v1, v2, v3, v4, v5, v6, v7, v8, v9, v10, v11, v12, v13, v14, v15, v16, v17, v18, v19, v20, v21, v22, v23, v24, v25, v26, v27]))]) (As := [.int x0]) (rest := []) (n := 1) hx hb hml hown hts hE hS hP hD hA hl.1 (k532_X10_noApproach l D cy g x0 a0 (v1) (v2) (v3) (v4) (v5) (v6) (v7) (v8) (v9) (v10) (v11) (v12) (v13) (v14) (v15) (v16) (v17) (v18) (v19) (v20) (v21) (v22) (v23) (v24) (v25) (v26) (v27) H.size h0) rfl rfl rfl rfl rfl ax_367 rfl rfl ax_368 ⟨Nat.le_of_ble_eq_true rfl, Nat.le_of_ble_eq_true rfl⟩ rfl rfl (Nat.le_of_ble_eq_true rfl) dX10_coldNeeded_6 ⟨(Nat.le_of_ble_eq_true rfl), (Nat.le_of_ble_eq_true rfl)⟩) hP hD hS hA rfl rfl rfl (by decide) (fun ad6 H locs hP hD hS => ?_)
  have hP : va_P D vwCl [(a0, .inr (15, [.int 1, v1, v2, v3, v4, v5, v6, v7, v8, v9, v10, v11, v12, v13, v14, v15, v16, v17, v18, v19, v20, v21, v22, v23, v24, v25, v26, v27]))] H := hP
  have hD : va_D A [(a0, .inr (15, [.int 1, v1, v2, v3, v4, v5, v6, v7, v8, v9, v10, v11, v12, v13, v14, v15, v16, v17, v18, v19, v20, v21, v22, v23, v24, v25, v26, v27]))] := hD
  refine lv_if_eq (tgt := 16) hx hb dX10_coldNeeded_9 (by decide) (fun z => absurd z (by decide)) (fun _ => ?_)
  refine lv_iconst (v := (-1)) hx hb dX10_coldNeeded_12 (by decide) ?_
  refine lv_goto (tgt := 31) hx hb dX10_coldNeeded_13 (by decide) ?_
  exact en_z hx hb hr hlk hP hD hS rfl (fun _ => 0) (is := [0]) rfl rfl (Nat.le_of_ble_eq_true rfl) (Nat.le_of_ble_eq_true rfl) dX10_coldNeeded_31
set_option maxHeartbeats 4000000 in
set_option maxRecDepth 100000 in
theorem k555_X9_coldNeeded (l : Launch) (hst : l.stackTraces = false) (D : va_G) (cy : Nat → ClassId) (g : Nat → Nat) (x0 : Int32) (a0 : Nat) (v0 : Value) (v1 : Value) (v2 : Value) (v3 : Value) (v4 : Value) (v5 : Value) (v6 : Value) (sz : Nat) (h0 : ¬ x0 < 0) (h1 : (100 : Int32) < x0) : vx_Met l yX9_coldNeeded [.code yX9_coldNeeded cX9_coldNeeded 2 (some .int)] ({ frames := 7, cells := 1, slots := 6, locals := 103 }) (PC D cy g [(a0, .inr (14, [v0, v1, v2, v3, v4, v5, v6]))] sz [.ref a0, .int x0]) QN (XE "java/lang/IllegalArgumentException" (va_A [(a0, .inr (14, [v0, v1, v2, v3, v4, v5, v6]))] sz)) 1 6 (va_A [(a0, .inr (14, [v0, v1, v2, v3, v4, v5, v6]))] sz) := by
  refine st_X (by decide) (Nat.le_of_ble_eq_true rfl) ?_
  intro p e s m args below meth c A ls hx hb hr hml hown hlk hnm hsz hP hD hA hE hts hS hl hout
  have hown : s.vm.findClass RX9 = some m.cls := hown
  have hl : lv_has ls 2 [(0, .ref a0), (1, .int x0)] := hl
  refine lv_aload_n hx hb dX9_coldNeeded_0 rfl (lv_at hl 0 rfl) ?_
  refine lv_iload_n hx hb dX9_coldNeeded_1 rfl (lv_at hl 1 rfl) ?_
  exact cx_out (isC := []) (rx_V (ci := 14) (q0 := 0) (isC := []) (wc := []) (As := [.int x0]) (rest := []) (n := 1) hx hb hml hown hts hE hS hP hD hA hl.1 (k534_X9_requireApproach l hst D cy g x0 a0 s.heap.size h0 h1) rfl rfl rfl rfl rfl ax_361 rfl rfl ax_362 ⟨Nat.le_of_ble_eq_true rfl, Nat.le_of_ble_eq_true rfl⟩ rfl rfl (Nat.le_of_ble_eq_true rfl) dX9_coldNeeded_2 ⟨(Nat.le_of_ble_eq_true rfl), (Nat.le_of_ble_eq_true rfl)⟩) hD hS hA rfl hout hlk (Nat.le_of_ble_eq_true rfl) (Nat.le_of_ble_eq_true rfl)
set_option maxHeartbeats 4000000 in
set_option maxRecDepth 100000 in
theorem k556_L_coldNeeded (l : Launch) (hst : l.stackTraces = false) (D : va_G) (cy : Nat → ClassId) (g : Nat → Nat) (x0 : Int32) (a0 : Nat) (b0 : Nat) (v0 : Value) (v1 : Value) (v2 : Value) (v3 : Value) (v4 : Value) (v5 : Value) (v6 : Value) (sz : Nat) (h0 : ¬ x0 < 0) (h1 : (100 : Int32) < x0) : Met l yL_coldNeeded [.codeWith yL_coldNeeded cL_coldNeeded 4 (some .int) [(0, 9, 12, 13)]] ({ frames := 8, cells := 1, slots := 6, locals := 124 }) (PC D cy g [(a0, .inr (14, [v0, v1, v2, v3, v4, v5, v6]))] sz [.ref a0, .int x0, .ref b0]) (QI D 1 (fun ad => []) (va_A [(a0, .inr (14, [v0, v1, v2, v3, v4, v5, v6]))] sz)) 1 6 (va_A [(a0, .inr (14, [v0, v1, v2, v3, v4, v5, v6]))] sz) := by
  refine sh_I (by decide) (Nat.le_of_ble_eq_true rfl) ?_
  intro p e s m args below meth c A ls hx hb hr hml hown hlk hnm hsz hP hD hA hE hts hS hl htb
  have hown : s.vm.findClass RL = some m.cls := hown
  have hl : lv_has ls 4 [(0, .ref a0), (1, .int x0), (2, .ref b0)] := hl
  refine lv_aload_n hx hb dL_coldNeeded_0 rfl (lv_at hl 2 rfl) ?_
  refine lv_iconst (v := 0) hx hb dL_coldNeeded_1 (by decide) ?_
  refine lv_aload_n hx hb dL_coldNeeded_2 rfl (lv_at hl 0 rfl) ?_
  refine lv_iload_n hx hb dL_coldNeeded_3 rfl (lv_at hl 1 rfl) ?_
  refine cx_catch (isC := [0]) (isR := []) (wr := []) (hp := []) (z := (0, 9, 12, 13)) (hq := []) (name := "java/lang/IllegalArgumentException") (own := RL) (rx_V (ci := 14) (q0 := 0) (isC := [0]) (wc := [(a0, .inr (14, [v0, v1, v2, v3, v4, v5, v6]))]) (As := [.int x0]) (rest := [.int 0, .ref b0]) (n := 1) hx hb hml hown hts hE hS hP hD hA hl.1 (k555_X9_coldNeeded l hst D cy g x0 a0 (v0) (v1) (v2) (v3) (v4) (v5) (v6) s.heap.size h0 h1) rfl rfl rfl rfl rfl ax_387 rfl rfl ax_388 ⟨Nat.le_of_ble_eq_true rfl, Nat.le_of_ble_eq_true rfl⟩ rfl rfl (Nat.le_of_ble_eq_true rfl) dL_coldNeeded_4 ⟨(Nat.le_of_ble_eq_true rfl), (Nat.le_of_ble_eq_true rfl)⟩) hP hD hS hA hown hts hE htb rfl rfl rfl rfl (by decide) (fun z hz => by cases hz) (by decide) (by decide) tw_302 tw_303 (fun qx H locs hP hD hS => ?_)
  have hP : va_P D vwCl [] H := hP
  have hD : va_D A [] := hD
  refine lv_astore_n (lv' := [(3, .ref qx), (0, .ref a0), (1, .int x0), (2, .ref b0)]) hx hb dL_coldNeeded_12 rfl hl (Nat.le_of_ble_eq_true rfl) rfl (fun ls hl => ?_)
  refine lv_iconst (v := 1) hx hb dL_coldNeeded_13 (by decide) ?_
  exact en_z hx hb hr hlk hP hD hS rfl (fun _ => 0) (is := []) rfl rfl (Nat.le_of_ble_eq_true rfl) (Nat.le_of_ble_eq_true rfl) dL_coldNeeded_14
set_option maxHeartbeats 4000000 in
set_option maxRecDepth 100000 in
theorem k557_X10_coldNeeded (l : Launch) (D : va_G) (cy : Nat → ClassId) (g : Nat → Nat) (x0 : Int32) (a0 : Nat) (v0 : Value) (v1 : Value) (v2 : Value) (v3 : Value) (v4 : Value) (v5 : Value) (v6 : Value) (v7 : Value) (v8 : Value) (v9 : Value) (v10 : Value) (v11 : Value) (v12 : Value) (v13 : Value) (v14 : Value) (v15 : Value) (v16 : Value) (v17 : Value) (v18 : Value) (v19 : Value) (v20 : Value) (v21 : Value) (v22 : Value) (v23 : Value) (v24 : Value) (v25 : Value) (v26 : Value) (v27 : Value) (sz : Nat) (h0 : ¬ x0 < 0) (h1 : (100 : Int32) < x0) : Met l yX10_coldNeeded [.code yX10_coldNeeded cX10_coldNeeded 2 (some .int)] ({ frames := 2, cells := 0, slots := 0, locals := 46 }) (PC D cy g [(a0, .inr (15, [v0, v1, v2, v3, v4, v5, v6, v7, v8, v9, v10, v11, v12, v13, v14, v15, v16, v17, v18, v19, v20, v21, v22, v23, v24, v25, v26, v27]))] sz [.ref a0, .int x0]) (QI D (-1) (fun ad => [(a0, .inr (15, [.int 1, v1, v2, v3, v4, v5, v6, v7, v8, v9, v10, v11, v12, v13, v14, v15, v16, v17, v18, v19, v20, v21, v22, v23, v24, v25, v26, v27]))]) (va_A [(a0, .inr (15, [v0, v1, v2, v3, v4, v5, v6, v7, v8, v9, v10, v11, v12, v13, v14, v15, v16, v17, v18, v19, v20, v21, v22, v23, v24, v25, v26, v27]))] sz)) 0 0 (va_A [(a0, .inr (15, [v0, v1, v2, v3, v4, v5, v6, v7, v8, v9, v10, v11, v12, v13, v14, v15, v16, v17, v18, v19, v20, v21, v22, v23, v24, v25, v26, v27]))] sz) := by
  refine st_I (by decide) (Nat.le_of_ble_eq_true rfl) ?_
  intro p e s m args below meth c A ls hx hb hr hml hown hlk hnm hsz hP hD hA hE hts hS hl
  have hown : s.vm.findClass RX10 = some m.cls := hown
  have hl : lv_has ls 2 [(0, .ref a0), (1, .int x0)] := hl
  refine lv_aload_n hx hb dX10_coldNeeded_0 rfl (lv_at hl 0 rfl) ?_
  refine ca_v (isC := [0]) (isR := []) (wr := []) (rn_V (ci := 15) (q0 := 0) (isC := [0]) (wc := [(a0, .inr (15, [v0, v1, v2, v3, v4, v5, v6, v7, v8, v9, v10, v11, v12, v13, v14, v15, v16, v17, v18, v19, v20, v21, v22, v23, v24, v25, v26, v27]))]) (As := []) (rest := []) (n := 0) hx hb hml hown hts hE hS hP hD hA hl.1 (k20_X10_begins l D cy g a0 (v0) (v1) (v2) (v3) (v4) (v5) (v6) (v7) (v8) (v9) (v10) (v11) (v12) (v13) (v14) (v15) (v16) (v17) (v18) (v19) (v20) (v21) (v22) (v23) (v24) (v25) (v26) (v27) s.heap.size ) rfl rfl rfl rfl rfl ax_37 rfl rfl ax_38 ⟨Nat.le_of_ble_eq_true rfl, Nat.le_of_ble_eq_true rfl⟩ rfl rfl (Nat.le_of_ble_eq_true rfl) dX10_coldNeeded_1 ⟨(Nat.le_of_ble_eq_true rfl), (Nat.le_of_ble_eq_true rfl)⟩) hP hD hS hA rfl rfl rfl (by decide) (fun ad1 H locs hP hD hS => ?_)
  have hP : va_P D vwCl [(a0, .inr (15, [.int 0, v1, v2, v3, v4, v5, v6, v7, v8, v9, v10, v11, v12, v13, v14, v15, v16, v17, v18, v19, v20, v21, v22, v23, v24, v25, v26, v27]))] H := hP
  have hD : va_D A [(a0, .inr (15, [.int 0, v1, v2, v3, v4, v5, v6, v7, v8, v9, v10, v11, v12, v13, v14, v15, v16, v17, v18, v19, v20, v21, v22, v23, v24, v25, v26, v27]))] := hD
  refine lv_aload_n hx hb dX10_coldNeeded_4 rfl (lv_at hl 0 rfl) ?_
  refine lv_iload_n hx hb dX10_coldNeeded_5 rfl (lv_at hl 1 rfl) ?_
  refine ca_i (isC := [0]) (isR := []) (wr := []) (rn_V (ci := 15) (q0 := 0) (isC := [0]) (wc := [(a0, .inr (15, [.int 0, v1, v2, v3, v4, v5, v6, v7, v8, v9, v10, v11, v12, v13, v14, v15, v16, v17, v18, v19, v20, v21, v22, v23, v24, v25, v26, v27]))]) (As := [.int x0]) (rest := []) (n := 1) hx hb hml hown hts hE hS hP hD hA hl.1 (k537_X10_noApproach l D cy g x0 a0 (v1) (v2) (v3) (v4) (v5) (v6) (v7) (v8) (v9) (v10) (v11) (v12) (v13) (v14) (v15) (v16) (v17) (v18) (v19) (v20) (v21) (v22) (v23) (v24) (v25) (v26) (v27) H.size h0 h1) rfl rfl rfl rfl rfl ax_367 rfl rfl ax_368 ⟨Nat.le_of_ble_eq_true rfl, Nat.le_of_ble_eq_true rfl⟩ rfl rfl (Nat.le_of_ble_eq_true rfl) dX10_coldNeeded_6 ⟨(Nat.le_of_ble_eq_true rfl), (Nat.le_of_ble_eq_true rfl)⟩) hP hD hS hA rfl rfl rfl (by decide) (fun ad6 H locs hP hD hS => ?_)
  have hP : va_P D vwCl [(a0, .inr (15, [.int 1, v1, v2, v3, v4, v5, v6, v7, v8, v9, v10, v11, v12, v13, v14, v15, v16, v17, v18, v19, v20, v21, v22, v23, v24, v25, v26, v27]))] H := hP
  have hD : va_D A [(a0, .inr (15, [.int 1, v1, v2, v3, v4, v5, v6, v7, v8, v9, v10, v11, v12, v13, v14, v15, v16, v17, v18, v19, v20, v21, v22, v23, v24, v25, v26, v27]))] := hD
  refine lv_if_eq (tgt := 16) hx hb dX10_coldNeeded_9 (by decide) (fun z => absurd z (by decide)) (fun _ => ?_)
  refine lv_iconst (v := (-1)) hx hb dX10_coldNeeded_12 (by decide) ?_
  refine lv_goto (tgt := 31) hx hb dX10_coldNeeded_13 (by decide) ?_
  exact en_z hx hb hr hlk hP hD hS rfl (fun _ => 0) (is := [0]) rfl rfl (Nat.le_of_ble_eq_true rfl) (Nat.le_of_ble_eq_true rfl) dX10_coldNeeded_31
set_option maxHeartbeats 4000000 in
set_option maxRecDepth 100000 in
theorem k558_X5_sumAt (l : Launch) (D : va_G) (cy : Nat → ClassId) (g : Nat → Nat) (x0 : Int32) (x1 : Int32) (a0 : Nat) (v0 : Value) (v1 : Value) (v2 : Value) (sz : Nat)  : Met l yX5_sumAt [.code yX5_sumAt cX5_sumAt 9 (some .int)] ({ frames := 0, cells := 0, slots := 0, locals := 0 }) (PC D cy g [(a0, .inr (10, [v0, v1, v2, .int 0]))] sz [.ref a0, .int x0, .int x1]) (QI D 0 (fun ad => [(a0, .inr (10, [v0, v1, v2, .int 0]))]) (va_A [(a0, .inr (10, [v0, v1, v2, .int 0]))] sz)) 0 0 (va_A [(a0, .inr (10, [v0, v1, v2, .int 0]))] sz) := by
  refine st_I (by decide) (Nat.le_of_ble_eq_true rfl) ?_
  intro p e s m args below meth c A ls hx hb hr hml hown hlk hnm hsz hP hD hA hE hts hS hl
  have hown : s.vm.findClass RX5 = some m.cls := hown
  have hl : lv_has ls 9 [(0, .ref a0), (1, .int x0), (2, .int x1)] := hl
  refine lv_iconst (v := 0) hx hb dX5_sumAt_0 (by decide) ?_
  refine lv_istore_n (lv' := [(3, .int 0), (0, .ref a0), (1, .int x0), (2, .int x1)]) hx hb dX5_sumAt_1 rfl hl (Nat.le_of_ble_eq_true rfl) rfl (fun ls hl => ?_)
  refine lv_iconst (v := 0) hx hb dX5_sumAt_2 (by decide) ?_
  refine lv_istore (lv' := [(4, .int 0), (3, .int 0), (0, .ref a0), (1, .int x0), (2, .int x1)]) hx hb dX5_sumAt_3 hl (Nat.le_of_ble_eq_true rfl) rfl (fun ls hl => ?_)
  refine lv_iload hx hb dX5_sumAt_5 (lv_at hl 0 rfl) ?_
  refine lv_aload_n hx hb dX5_sumAt_7 rfl (lv_at hl 2 rfl) ?_
  refine va_get (D := D) (ci := 10) (v := .int 0) (C := RX5) (T := TX5) (N := 4) hx hb hts ax_12 hown hE.1 hP 0 rfl rfl 3 (by decide) (hts _ tw_132) (fun _ h9 => h9) rfl dX5_sumAt_8 ?_
  refine lv_icmp_ge (tgt := 123) hx hb dX5_sumAt_11 (by decide) (fun _ => ?_) (fun z => absurd (by decide) z)
  refine lv_iload_n hx hb dX5_sumAt_123 rfl (lv_at hl 1 rfl) ?_
  exact en_z hx hb hr hlk hP hD hS rfl (fun _ => 0) (is := [0]) rfl rfl (Nat.le_of_ble_eq_true rfl) (Nat.le_of_ble_eq_true rfl) dX5_sumAt_124
set_option maxHeartbeats 4000000 in
set_option maxRecDepth 100000 in
theorem k559_X5_leastCold (l : Launch) (D : va_G) (cy : Nat → ClassId) (g : Nat → Nat) (x0 : Int32) (a0 : Nat) (v0 : Value) (v1 : Value) (v2 : Value) (sz : Nat)  : Met l yX5_leastCold [.code yX5_leastCold cX5_leastCold 2 (some .int)] ({ frames := 2, cells := 0, slots := 0, locals := 49 }) (PC D cy g [(a0, .inr (10, [v0, v1, v2, .int 0]))] sz [.ref a0, .int x0]) (QI D 0 (fun ad => [(a0, .inr (10, [v0, v1, v2, .int 0]))]) (va_A [(a0, .inr (10, [v0, v1, v2, .int 0]))] sz)) 0 0 (va_A [(a0, .inr (10, [v0, v1, v2, .int 0]))] sz) := by
  refine st_I (by decide) (Nat.le_of_ble_eq_true rfl) ?_
  intro p e s m args below meth c A ls hx hb hr hml hown hlk hnm hsz hP hD hA hE hts hS hl
  have hown : s.vm.findClass RX5 = some m.cls := hown
  have hl : lv_has ls 2 [(0, .ref a0), (1, .int x0)] := hl
  refine lv_aload_n hx hb dX5_leastCold_0 rfl (lv_at hl 0 rfl) ?_
  refine lv_iload_n hx hb dX5_leastCold_1 rfl (lv_at hl 1 rfl) ?_
  refine lv_ineg hx hb dX5_leastCold_2 ?_
  refine lv_iload_n hx hb dX5_leastCold_3 rfl (lv_at hl 1 rfl) ?_
  refine ca_i (isC := [0]) (isR := []) (wr := []) (rn_V (ci := 10) (q0 := 0) (isC := [0]) (wc := [(a0, .inr (10, [v0, v1, v2, .int 0]))]) (As := [.int (-x0), .int x0]) (rest := []) (n := 2) hx hb hml hown hts hE hS hP hD hA hl.1 (k558_X5_sumAt l D cy g (-x0) x0 a0 (v0) (v1) (v2) s.heap.size ) rfl rfl rfl rfl rfl ax_373 rfl rfl ax_374 ⟨Nat.le_of_ble_eq_true rfl, Nat.le_of_ble_eq_true rfl⟩ rfl rfl (Nat.le_of_ble_eq_true rfl) dX5_leastCold_4 ⟨(Nat.le_of_ble_eq_true rfl), (Nat.le_of_ble_eq_true rfl)⟩) hP hD hS hA rfl rfl rfl (by decide) (fun ad4 H locs hP hD hS => ?_)
  have hP : va_P D vwCl [(a0, .inr (10, [v0, v1, v2, .int 0]))] H := hP
  have hD : va_D A [(a0, .inr (10, [v0, v1, v2, .int 0]))] := hD
  refine lv_aload_n hx hb dX5_leastCold_7 rfl (lv_at hl 0 rfl) ?_
  refine lv_iload_n hx hb dX5_leastCold_8 rfl (lv_at hl 1 rfl) ?_
  refine ca_i (isC := [0]) (isR := []) (wr := []) (rn_V (ci := 10) (q0 := 0) (isC := [0]) (wc := [(a0, .inr (10, [v0, v1, v2, .int 0]))]) (As := [.int x0]) (rest := [.int 0]) (n := 1) hx hb hml hown hts hE hS hP hD hA hl.1 (k542_X5_leastHeat l D cy g x0 a0 (v0) (v1) (v2) H.size ) rfl rfl rfl rfl rfl ax_393 rfl rfl ax_376 ⟨Nat.le_of_ble_eq_true rfl, Nat.le_of_ble_eq_true rfl⟩ rfl rfl (Nat.le_of_ble_eq_true rfl) dX5_leastCold_9 ⟨(Nat.le_of_ble_eq_true rfl), (Nat.le_of_ble_eq_true rfl)⟩) hP hD hS hA rfl rfl rfl (by decide) (fun ad9 H locs hP hD hS => ?_)
  have hP : va_P D vwCl [(a0, .inr (10, [v0, v1, v2, .int 0]))] H := hP
  have hD : va_D A [(a0, .inr (10, [v0, v1, v2, .int 0]))] := hD
  refine lv_iadd hx hb dX5_leastCold_12 ?_
  refine tp_i 0 (by decide) ?_
  exact en_z hx hb hr hlk hP hD hS rfl (fun _ => 0) (is := [0]) rfl rfl (Nat.le_of_ble_eq_true rfl) (Nat.le_of_ble_eq_true rfl) dX5_leastCold_13
set_option maxHeartbeats 4000000 in
set_option maxRecDepth 100000 in
theorem k560_X9_coldNeeded (l : Launch) (D : va_G) (cy : Nat → ClassId) (g : Nat → Nat) (x0 : Int32) (a0 : Nat) (a1 : Nat) (v0 : Value) (v1 : Value) (v2 : Value) (v3 : Value) (v4 : Value) (v5 : Value) (v6 : Value) (v7 : Value) (v8 : Value) (sz : Nat) (h0 : ¬ x0 < 0) (h1 : ¬ (100 : Int32) < x0) : Met l yX9_coldNeeded [.code yX9_coldNeeded cX9_coldNeeded 2 (some .int)] ({ frames := 3, cells := 0, slots := 0, locals := 70 }) (PC D cy g [(a0, .inr (14, [v0, v1, v2, v3, .ref a1, v4, v5])), (a1, .inr (10, [v6, v7, v8, .int 0]))] sz [.ref a0, .int x0]) (QI D 0 (fun ad => [(a0, .inr (14, [v0, v1, v2, v3, .ref a1, v4, v5])), (a1, .inr (10, [v6, v7, v8, .int 0]))]) (va_A [(a0, .inr (14, [v0, v1, v2, v3, .ref a1, v4, v5])), (a1, .inr (10, [v6, v7, v8, .int 0]))] sz)) 0 0 (va_A [(a0, .inr (14, [v0, v1, v2, v3, .ref a1, v4, v5])), (a1, .inr (10, [v6, v7, v8, .int 0]))] sz) := by
  refine st_I (by decide) (Nat.le_of_ble_eq_true rfl) ?_
  intro p e s m args below meth c A ls hx hb hr hml hown hlk hnm hsz hP hD hA hE hts hS hl
  have hown : s.vm.findClass RX9 = some m.cls := hown
  have hl : lv_has ls 2 [(0, .ref a0), (1, .int x0)] := hl
  refine lv_aload_n hx hb dX9_coldNeeded_0 rfl (lv_at hl 0 rfl) ?_
  refine lv_iload_n hx hb dX9_coldNeeded_1 rfl (lv_at hl 1 rfl) ?_
  refine ca_v (isC := []) (isR := [0, 1]) (wr := [(a0, .inr (14, [v0, v1, v2, v3, .ref a1, v4, v5])), (a1, .inr (10, [v6, v7, v8, .int 0]))]) (rn_V (ci := 14) (q0 := 0) (isC := []) (wc := []) (As := [.int x0]) (rest := []) (n := 1) hx hb hml hown hts hE hS hP hD hA hl.1 (k539_X9_requireApproach l D cy g x0 a0 s.heap.size h0 h1) rfl rfl rfl rfl rfl ax_361 rfl rfl ax_362 ⟨Nat.le_of_ble_eq_true rfl, Nat.le_of_ble_eq_true rfl⟩ rfl rfl (Nat.le_of_ble_eq_true rfl) dX9_coldNeeded_2 ⟨(Nat.le_of_ble_eq_true rfl), (Nat.le_of_ble_eq_true rfl)⟩) hP hD hS hA rfl rfl rfl (by decide) (fun ad2 H locs hP hD hS => ?_)
  have hP : va_P D vwCl [(a0, .inr (14, [v0, v1, v2, v3, .ref a1, v4, v5])), (a1, .inr (10, [v6, v7, v8, .int 0]))] H := hP
  have hD : va_D A [(a0, .inr (14, [v0, v1, v2, v3, .ref a1, v4, v5])), (a1, .inr (10, [v6, v7, v8, .int 0]))] := hD
  refine lv_aload_n hx hb dX9_coldNeeded_5 rfl (lv_at hl 0 rfl) ?_
  refine va_get (D := D) (ci := 14) (v := .ref a1) (C := RX9) (T := TX9) (N := 7) hx hb hts ax_16 hown hE.1 hP 0 rfl rfl 4 (by decide) (hts _ tw_206) (fun _ h9 => h9) rfl dX9_coldNeeded_6 ?_
  refine lv_iload_n hx hb dX9_coldNeeded_9 rfl (lv_at hl 1 rfl) ?_
  refine ca_i (isC := [1]) (isR := [0]) (wr := [(a0, .inr (14, [v0, v1, v2, v3, .ref a1, v4, v5]))]) (rn_V (ci := 10) (q0 := 1) (isC := [1]) (wc := [(a1, .inr (10, [v6, v7, v8, .int 0]))]) (As := [.int x0]) (rest := []) (n := 1) hx hb hml hown hts hE hS hP hD hA hl.1 (k559_X5_leastCold l D cy g x0 a1 (v6) (v7) (v8) H.size ) rfl rfl rfl rfl rfl ax_394 rfl rfl ax_395 ⟨Nat.le_of_ble_eq_true rfl, Nat.le_of_ble_eq_true rfl⟩ rfl rfl (Nat.le_of_ble_eq_true rfl) dX9_coldNeeded_10 ⟨(Nat.le_of_ble_eq_true rfl), (Nat.le_of_ble_eq_true rfl)⟩) hP hD hS hA rfl rfl rfl (by decide) (fun ad10 H locs hP hD hS => ?_)
  have hP : va_P D vwCl [(a0, .inr (14, [v0, v1, v2, v3, .ref a1, v4, v5])), (a1, .inr (10, [v6, v7, v8, .int 0]))] H := hP
  have hD : va_D A [(a0, .inr (14, [v0, v1, v2, v3, .ref a1, v4, v5])), (a1, .inr (10, [v6, v7, v8, .int 0]))] := hD
  exact en_z hx hb hr hlk hP hD hS rfl (fun _ => 0) (is := [0, 1]) rfl rfl (Nat.le_of_ble_eq_true rfl) (Nat.le_of_ble_eq_true rfl) dX9_coldNeeded_13
set_option maxHeartbeats 4000000 in
set_option maxRecDepth 100000 in
theorem k561_L_coldNeeded (l : Launch) (D : va_G) (cy : Nat → ClassId) (g : Nat → Nat) (x0 : Int32) (a0 : Nat) (a1 : Nat) (a2 : Nat) (v0 : Value) (v1 : Value) (v2 : Value) (v3 : Value) (v4 : Value) (v5 : Value) (v6 : Value) (v7 : Value) (v8 : Value) (f0 : Nat → Int64) (sz : Nat) (h0 : ¬ x0 < 0) (h1 : ¬ (100 : Int32) < x0) : Met l yL_coldNeeded [.codeWith yL_coldNeeded cL_coldNeeded 4 (some .int) [(0, 9, 12, 13)]] ({ frames := 4, cells := 0, slots := 0, locals := 91 }) (PC D cy g [(a0, .inr (14, [v0, v1, v2, v3, .ref a1, v4, v5])), (a1, .inr (10, [v6, v7, v8, .int 0])), (a2, .inl (cy 2, 1, .inr (.inl f0)))] sz [.ref a0, .int x0, .ref a2]) (QI D 0 (fun ad => [(a2, .inl (cy 2, 1, .inr (.inl (vp_updL f0 (0 : Int32).toNatClampNeg 0))))]) (va_A [(a0, .inr (14, [v0, v1, v2, v3, .ref a1, v4, v5])), (a1, .inr (10, [v6, v7, v8, .int 0])), (a2, .inl (cy 2, 1, .inr (.inl f0)))] sz)) 0 0 (va_A [(a0, .inr (14, [v0, v1, v2, v3, .ref a1, v4, v5])), (a1, .inr (10, [v6, v7, v8, .int 0])), (a2, .inl (cy 2, 1, .inr (.inl f0)))] sz) := by
  refine sh_I (by decide) (Nat.le_of_ble_eq_true rfl) ?_
  intro p e s m args below meth c A ls hx hb hr hml hown hlk hnm hsz hP hD hA hE hts hS hl htb
  have hown : s.vm.findClass RL = some m.cls := hown
  have hl : lv_has ls 4 [(0, .ref a0), (1, .int x0), (2, .ref a2)] := hl
  refine lv_aload_n hx hb dL_coldNeeded_0 rfl (lv_at hl 2 rfl) ?_
  refine lv_iconst (v := 0) hx hb dL_coldNeeded_1 (by decide) ?_
  refine lv_aload_n hx hb dL_coldNeeded_2 rfl (lv_at hl 0 rfl) ?_
  refine lv_iload_n hx hb dL_coldNeeded_3 rfl (lv_at hl 1 rfl) ?_
  refine ca_i (isC := [0, 1]) (isR := [2]) (wr := [(a2, .inl (cy 2, 1, .inr (.inl f0)))]) (rn_V (ci := 14) (q0 := 0) (isC := [0, 1]) (wc := [(a0, .inr (14, [v0, v1, v2, v3, .ref a1, v4, v5])), (a1, .inr (10, [v6, v7, v8, .int 0]))]) (As := [.int x0]) (rest := [.int 0, .ref a2]) (n := 1) hx hb hml hown hts hE hS hP hD hA hl.1 (k560_X9_coldNeeded l D cy g x0 a0 a1 (v0) (v1) (v2) (v3) (v4) (v5) (v6) (v7) (v8) s.heap.size h0 h1) rfl rfl rfl rfl rfl ax_387 rfl rfl ax_388 ⟨Nat.le_of_ble_eq_true rfl, Nat.le_of_ble_eq_true rfl⟩ rfl rfl (Nat.le_of_ble_eq_true rfl) dL_coldNeeded_4 ⟨(Nat.le_of_ble_eq_true rfl), (Nat.le_of_ble_eq_true rfl)⟩) hP hD hS hA rfl rfl rfl (by decide) (fun ad4 H locs hP hD hS => ?_)
  have hP : va_P D vwCl [(a2, .inl (cy 2, 1, .inr (.inl f0))), (a0, .inr (14, [v0, v1, v2, v3, .ref a1, v4, v5])), (a1, .inr (10, [v6, v7, v8, .int 0]))] H := hP
  have hD : va_D A [(a2, .inl (cy 2, 1, .inr (.inl f0))), (a0, .inr (14, [v0, v1, v2, v3, .ref a1, v4, v5])), (a1, .inr (10, [v6, v7, v8, .int 0]))] := hD
  refine lv_i2l (v := 0) hx hb dL_coldNeeded_7 (by decide) ?_
  refine va_last hx hb hE.1 hP hD hS 0 2 rfl rfl (by unfold vp_in; decide) dL_coldNeeded_8 (fun H locs hP hD hS => ?_)
  have hP : va_P D vwCl [(a2, .inl (cy 2, 1, .inr (.inl (vp_updL f0 (0 : Int32).toNatClampNeg 0)))), (a0, .inr (14, [v0, v1, v2, v3, .ref a1, v4, v5])), (a1, .inr (10, [v6, v7, v8, .int 0]))] H := hP
  have hD : va_D A [(a2, .inl (cy 2, 1, .inr (.inl (vp_updL f0 (0 : Int32).toNatClampNeg 0)))), (a0, .inr (14, [v0, v1, v2, v3, .ref a1, v4, v5])), (a1, .inr (10, [v6, v7, v8, .int 0]))] := hD
  refine lv_goto (tgt := 15) hx hb dL_coldNeeded_9 (by decide) ?_
  refine lv_iconst (v := 0) hx hb dL_coldNeeded_15 (by decide) ?_
  exact en_z hx hb hr hlk hP hD hS rfl (fun _ => 0) (is := [0]) rfl rfl (Nat.le_of_ble_eq_true rfl) (Nat.le_of_ble_eq_true rfl) dL_coldNeeded_16
set_option maxHeartbeats 4000000 in
set_option maxRecDepth 100000 in
theorem k562_X10_coldNeeded (l : Launch) (D : va_G) (cy : Nat → ClassId) (g : Nat → Nat) (x0 : Int32) (a0 : Nat) (a1 : Nat) (v0 : Value) (v1 : Value) (v2 : Value) (v3 : Value) (v4 : Value) (v5 : Value) (v6 : Value) (v7 : Value) (v8 : Value) (v9 : Value) (v10 : Value) (v11 : Value) (v12 : Value) (v13 : Value) (v14 : Value) (v15 : Value) (v16 : Value) (v17 : Value) (v18 : Value) (v19 : Value) (v20 : Value) (v21 : Value) (v22 : Value) (v23 : Value) (v24 : Value) (v25 : Value) (v26 : Value) (v27 : Value) (sz : Nat) (h0 : ¬ x0 < 0) (h1 : ¬ (100 : Int32) < x0) : Met l yX10_coldNeeded [.code yX10_coldNeeded cX10_coldNeeded 2 (some .int)] ({ frames := 5, cells := 2204, slots := 8814, locals := 107 }) (PC D cy g [(a0, .inr (15, [v0, v1, v2, v3, v4, v5, v6, v7, v8, v9, v10, v11, v12, v13, v14, v15, v16, .ref a1, v17, v18, v19, v20, v21, v22, v23, v24, v25, v26])), (a1, .inr (4, [.int 0, v27, .int 0]))] sz [.ref a0, .int x0]) (QI D 0 (fun ad => [(a0, .inr (15, [.int 0, v1, v2, v3, v4, v5, v6, v7, v8, v9, v10, v11, v12, v13, v14, v15, v16, .ref a1, v17, v18, v19, v20, v21, v22, v23, v24, v25, v26]))]) (va_A [(a0, .inr (15, [v0, v1, v2, v3, v4, v5, v6, v7, v8, v9, v10, v11, v12, v13, v14, v15, v16, .ref a1, v17, v18, v19, v20, v21, v22, v23, v24, v25, v26])), (a1, .inr (4, [.int 0, v27, .int 0]))] sz)) 2204 8814 (va_A [(a0, .inr (15, [v0, v1, v2, v3, v4, v5, v6, v7, v8, v9, v10, v11, v12, v13, v14, v15, v16, .ref a1, v17, v18, v19, v20, v21, v22, v23, v24, v25, v26])), (a1, .inr (4, [.int 0, v27, .int 0]))] sz) := by
  refine st_I (by decide) (Nat.le_of_ble_eq_true rfl) ?_
  intro p e s m args below meth c A ls hx hb hr hml hown hlk hnm hsz hP hD hA hE hts hS hl
  have hown : s.vm.findClass RX10 = some m.cls := hown
  have hl : lv_has ls 2 [(0, .ref a0), (1, .int x0)] := hl
  refine lv_aload_n hx hb dX10_coldNeeded_0 rfl (lv_at hl 0 rfl) ?_
  refine ca_v (isC := [0]) (isR := [1]) (wr := [(a1, .inr (4, [.int 0, v27, .int 0]))]) (rn_V (ci := 15) (q0 := 0) (isC := [0]) (wc := [(a0, .inr (15, [v0, v1, v2, v3, v4, v5, v6, v7, v8, v9, v10, v11, v12, v13, v14, v15, v16, .ref a1, v17, v18, v19, v20, v21, v22, v23, v24, v25, v26]))]) (As := []) (rest := []) (n := 0) hx hb hml hown hts hE hS hP hD hA hl.1 (k20_X10_begins l D cy g a0 (v0) (v1) (v2) (v3) (v4) (v5) (v6) (v7) (v8) (v9) (v10) (v11) (v12) (v13) (v14) (v15) (v16) (.ref a1) (v17) (v18) (v19) (v20) (v21) (v22) (v23) (v24) (v25) (v26) s.heap.size ) rfl rfl rfl rfl rfl ax_37 rfl rfl ax_38 ⟨Nat.le_of_ble_eq_true rfl, Nat.le_of_ble_eq_true rfl⟩ rfl rfl (Nat.le_of_ble_eq_true rfl) dX10_coldNeeded_1 ⟨(Nat.le_of_ble_eq_true rfl), (Nat.le_of_ble_eq_true rfl)⟩) hP hD hS hA rfl rfl rfl (by decide) (fun ad1 H locs hP hD hS => ?_)
  have hP : va_P D vwCl [(a1, .inr (4, [.int 0, v27, .int 0])), (a0, .inr (15, [.int 0, v1, v2, v3, v4, v5, v6, v7, v8, v9, v10, v11, v12, v13, v14, v15, v16, .ref a1, v17, v18, v19, v20, v21, v22, v23, v24, v25, v26]))] H := hP
  have hD : va_D A [(a1, .inr (4, [.int 0, v27, .int 0])), (a0, .inr (15, [.int 0, v1, v2, v3, v4, v5, v6, v7, v8, v9, v10, v11, v12, v13, v14, v15, v16, .ref a1, v17, v18, v19, v20, v21, v22, v23, v24, v25, v26]))] := hD
  refine lv_aload_n hx hb dX10_coldNeeded_4 rfl (lv_at hl 0 rfl) ?_
  refine lv_iload_n hx hb dX10_coldNeeded_5 rfl (lv_at hl 1 rfl) ?_
  refine ca_i (isC := [1]) (isR := [0]) (wr := [(a1, .inr (4, [.int 0, v27, .int 0]))]) (rn_V (ci := 15) (q0 := 1) (isC := [1]) (wc := [(a0, .inr (15, [.int 0, v1, v2, v3, v4, v5, v6, v7, v8, v9, v10, v11, v12, v13, v14, v15, v16, .ref a1, v17, v18, v19, v20, v21, v22, v23, v24, v25, v26]))]) (As := [.int x0]) (rest := []) (n := 1) hx hb hml hown hts hE hS hP hD hA hl.1 (k545_X10_noApproach l D cy g x0 a0 (v1) (v2) (v3) (v4) (v5) (v6) (v7) (v8) (v9) (v10) (v11) (v12) (v13) (v14) (v15) (v16) (.ref a1) (v17) (v18) (v19) (v20) (v21) (v22) (v23) (v24) (v25) (v26) H.size h0 h1) rfl rfl rfl rfl rfl ax_367 rfl rfl ax_368 ⟨Nat.le_of_ble_eq_true rfl, Nat.le_of_ble_eq_true rfl⟩ rfl rfl (Nat.le_of_ble_eq_true rfl) dX10_coldNeeded_6 ⟨(Nat.le_of_ble_eq_true rfl), (Nat.le_of_ble_eq_true rfl)⟩) hP hD hS hA rfl rfl rfl (by decide) (fun ad6 H locs hP hD hS => ?_)
  have hP : va_P D vwCl [(a1, .inr (4, [.int 0, v27, .int 0])), (a0, .inr (15, [.int 0, v1, v2, v3, v4, v5, v6, v7, v8, v9, v10, v11, v12, v13, v14, v15, v16, .ref a1, v17, v18, v19, v20, v21, v22, v23, v24, v25, v26]))] H := hP
  have hD : va_D A [(a1, .inr (4, [.int 0, v27, .int 0])), (a0, .inr (15, [.int 0, v1, v2, v3, v4, v5, v6, v7, v8, v9, v10, v11, v12, v13, v14, v15, v16, .ref a1, v17, v18, v19, v20, v21, v22, v23, v24, v25, v26]))] := hD
  refine lv_if_eq (tgt := 16) hx hb dX10_coldNeeded_9 (by decide) (fun _ => ?_) (fun z => absurd (by decide) z)
  refine lv_aload_n hx hb dX10_coldNeeded_16 rfl (lv_at hl 0 rfl) ?_
  refine lv_iload_n hx hb dX10_coldNeeded_17 rfl (lv_at hl 1 rfl) ?_
  refine ca_r (isC := [1, 0]) (isR := []) (wr := []) (rn_V (ci := 15) (q0 := 1) (isC := [1, 0]) (wc := [(a0, .inr (15, [.int 0, v1, v2, v3, v4, v5, v6, v7, v8, v9, v10, v11, v12, v13, v14, v15, v16, .ref a1, v17, v18, v19, v20, v21, v22, v23, v24, v25, v26])), (a1, .inr (4, [.int 0, v27, .int 0]))]) (As := [.int x0]) (rest := []) (n := 1) hx hb hml hown hts hE hS hP hD hA hl.1 (k550_X10_cascade l D cy g x0 a0 a1 (.int 0) (v1) (v2) (v3) (v4) (v5) (v6) (v7) (v8) (v9) (v10) (v11) (v12) (v13) (v14) (v15) (v16) (v17) (v18) (v19) (v20) (v21) (v22) (v23) (v24) (v25) (v26) (v27) H.size ) rfl rfl rfl rfl rfl ax_385 rfl rfl ax_386 ⟨Nat.le_of_ble_eq_true rfl, Nat.le_of_ble_eq_true rfl⟩ rfl rfl (Nat.le_of_ble_eq_true rfl) dX10_coldNeeded_18 ⟨(Nat.le_of_ble_eq_true rfl), (Nat.le_of_ble_eq_true rfl)⟩) hP hD hS hA rfl rfl rfl (by decide) (fun ad18 H locs hP hD hS => ?_)
  have hP : va_P D vwCl [(a0, .inr (15, [.int 0, v1, v2, v3, v4, v5, v6, v7, v8, v9, v10, v11, v12, v13, v14, v15, v16, .ref a1, v17, v18, v19, v20, v21, v22, v23, v24, v25, v26])), (a1, .inr (4, [.int 0, v27, .int 0])), ((ad18 0), .inl (cy 1, 3, .inl (upd (upd (upd (fun _ => 0) (0 : Int32).toNatClampNeg 0) (1 : Int32).toNatClampNeg 0) (2 : Int32).toNatClampNeg 0)))] H := hP
  have hD : va_D A [(a0, .inr (15, [.int 0, v1, v2, v3, v4, v5, v6, v7, v8, v9, v10, v11, v12, v13, v14, v15, v16, .ref a1, v17, v18, v19, v20, v21, v22, v23, v24, v25, v26])), (a1, .inr (4, [.int 0, v27, .int 0])), ((ad18 0), .inl (cy 1, 3, .inl (upd (upd (upd (fun _ => 0) (0 : Int32).toNatClampNeg 0) (1 : Int32).toNatClampNeg 0) (2 : Int32).toNatClampNeg 0)))] := hD
  refine lv_iconst (v := 0) hx hb dX10_coldNeeded_21 (by decide) ?_
  refine va_iald hx hb hE.1 hP 2 1 rfl rfl (by unfold vp_in; decide) dX10_coldNeeded_22 ?_
  refine tp_i 0 rfl ?_
  refine lv_aload_n hx hb dX10_coldNeeded_23 rfl (lv_at hl 0 rfl) ?_
  refine lv_iload_n hx hb dX10_coldNeeded_24 rfl (lv_at hl 1 rfl) ?_
  refine ca_r (isC := [0, 1]) (isR := [2]) (wr := [((ad18 0), .inl (cy 1, 3, .inl (upd (upd (upd (fun _ => 0) (0 : Int32).toNatClampNeg 0) (1 : Int32).toNatClampNeg 0) (2 : Int32).toNatClampNeg 0)))]) (rn_V (ci := 15) (q0 := 0) (isC := [0, 1]) (wc := [(a0, .inr (15, [.int 0, v1, v2, v3, v4, v5, v6, v7, v8, v9, v10, v11, v12, v13, v14, v15, v16, .ref a1, v17, v18, v19, v20, v21, v22, v23, v24, v25, v26])), (a1, .inr (4, [.int 0, v27, .int 0]))]) (As := [.int x0]) (rest := [.int 0]) (n := 1) hx hb hml hown hts hE hS hP hD hA hl.1 (k550_X10_cascade l D cy g x0 a0 a1 (.int 0) (v1) (v2) (v3) (v4) (v5) (v6) (v7) (v8) (v9) (v10) (v11) (v12) (v13) (v14) (v15) (v16) (v17) (v18) (v19) (v20) (v21) (v22) (v23) (v24) (v25) (v26) (v27) H.size ) rfl rfl rfl rfl rfl ax_385 rfl rfl ax_386 ⟨Nat.le_of_ble_eq_true rfl, Nat.le_of_ble_eq_true rfl⟩ rfl rfl (Nat.le_of_ble_eq_true rfl) dX10_coldNeeded_25 ⟨(Nat.le_of_ble_eq_true rfl), (Nat.le_of_ble_eq_true rfl)⟩) hP hD hS hA rfl rfl rfl (by decide) (fun ad25 H locs hP hD hS => ?_)
  have hP : va_P D vwCl [((ad18 0), .inl (cy 1, 3, .inl (upd (upd (upd (fun _ => 0) (0 : Int32).toNatClampNeg 0) (1 : Int32).toNatClampNeg 0) (2 : Int32).toNatClampNeg 0))), (a0, .inr (15, [.int 0, v1, v2, v3, v4, v5, v6, v7, v8, v9, v10, v11, v12, v13, v14, v15, v16, .ref a1, v17, v18, v19, v20, v21, v22, v23, v24, v25, v26])), (a1, .inr (4, [.int 0, v27, .int 0])), ((ad25 0), .inl (cy 1, 3, .inl (upd (upd (upd (fun _ => 0) (0 : Int32).toNatClampNeg 0) (1 : Int32).toNatClampNeg 0) (2 : Int32).toNatClampNeg 0)))] H := hP
  have hD : va_D A [((ad18 0), .inl (cy 1, 3, .inl (upd (upd (upd (fun _ => 0) (0 : Int32).toNatClampNeg 0) (1 : Int32).toNatClampNeg 0) (2 : Int32).toNatClampNeg 0))), (a0, .inr (15, [.int 0, v1, v2, v3, v4, v5, v6, v7, v8, v9, v10, v11, v12, v13, v14, v15, v16, .ref a1, v17, v18, v19, v20, v21, v22, v23, v24, v25, v26])), (a1, .inr (4, [.int 0, v27, .int 0])), ((ad25 0), .inl (cy 1, 3, .inl (upd (upd (upd (fun _ => 0) (0 : Int32).toNatClampNeg 0) (1 : Int32).toNatClampNeg 0) (2 : Int32).toNatClampNeg 0)))] := hD
  refine lv_iconst (v := 1) hx hb dX10_coldNeeded_28 (by decide) ?_
  refine va_iald hx hb hE.1 hP 3 1 rfl rfl (by unfold vp_in; decide) dX10_coldNeeded_29 ?_
  refine tp_i 0 rfl ?_
  refine lv_iadd hx hb dX10_coldNeeded_30 ?_
  refine tp_i 0 (by decide) ?_
  exact en_z hx hb hr hlk hP hD hS rfl (fun _ => 0) (is := [1]) rfl rfl (Nat.le_of_ble_eq_true rfl) (Nat.le_of_ble_eq_true rfl) dX10_coldNeeded_31
set_option maxHeartbeats 4000000 in
set_option maxRecDepth 100000 in
theorem k563_X9_pinch (l : Launch) (hst : l.stackTraces = false) (D : va_G) (cy : Nat → ClassId) (g : Nat → Nat) (x0 : Int32) (a0 : Nat) (v0 : Value) (v1 : Value) (v2 : Value) (v3 : Value) (v4 : Value) (v5 : Value) (v6 : Value) (sz : Nat) (h0 : x0 < 0) : vx_Met l yX9_pinch [.code yX9_pinch cX9_pinch 2 (some .int)] ({ frames := 7, cells := 1, slots := 6, locals := 103 }) (PC D cy g [(a0, .inr (14, [v0, v1, v2, v3, v4, v5, v6]))] sz [.ref a0, .int x0]) QN (XE "java/lang/IllegalArgumentException" (va_A [(a0, .inr (14, [v0, v1, v2, v3, v4, v5, v6]))] sz)) 1 6 (va_A [(a0, .inr (14, [v0, v1, v2, v3, v4, v5, v6]))] sz) := by
  refine st_X (by decide) (Nat.le_of_ble_eq_true rfl) ?_
  intro p e s m args below meth c A ls hx hb hr hml hown hlk hnm hsz hP hD hA hE hts hS hl hout
  have hown : s.vm.findClass RX9 = some m.cls := hown
  have hl : lv_has ls 2 [(0, .ref a0), (1, .int x0)] := hl
  refine lv_aload_n hx hb dX9_pinch_0 rfl (lv_at hl 0 rfl) ?_
  refine lv_iload_n hx hb dX9_pinch_1 rfl (lv_at hl 1 rfl) ?_
  exact cx_out (isC := []) (rx_V (ci := 14) (q0 := 0) (isC := []) (wc := []) (As := [.int x0]) (rest := []) (n := 1) hx hb hml hown hts hE hS hP hD hA hl.1 (k529_X9_requireApproach l hst D cy g x0 a0 s.heap.size h0) rfl rfl rfl rfl rfl ax_361 rfl rfl ax_362 ⟨Nat.le_of_ble_eq_true rfl, Nat.le_of_ble_eq_true rfl⟩ rfl rfl (Nat.le_of_ble_eq_true rfl) dX9_pinch_2 ⟨(Nat.le_of_ble_eq_true rfl), (Nat.le_of_ble_eq_true rfl)⟩) hD hS hA rfl hout hlk (Nat.le_of_ble_eq_true rfl) (Nat.le_of_ble_eq_true rfl)
set_option maxHeartbeats 4000000 in
set_option maxRecDepth 100000 in
theorem k564_L_pinch (l : Launch) (hst : l.stackTraces = false) (D : va_G) (cy : Nat → ClassId) (g : Nat → Nat) (x0 : Int32) (a0 : Nat) (b0 : Nat) (v0 : Value) (v1 : Value) (v2 : Value) (v3 : Value) (v4 : Value) (v5 : Value) (v6 : Value) (sz : Nat) (h0 : x0 < 0) : Met l yL_pinch [.codeWith yL_pinch cL_pinch 4 (some .int) [(0, 9, 12, 13), (0, 9, 15, 45)]] ({ frames := 8, cells := 1, slots := 6, locals := 124 }) (PC D cy g [(a0, .inr (14, [v0, v1, v2, v3, v4, v5, v6]))] sz [.ref a0, .int x0, .ref b0]) (QI D 1 (fun ad => []) (va_A [(a0, .inr (14, [v0, v1, v2, v3, v4, v5, v6]))] sz)) 1 6 (va_A [(a0, .inr (14, [v0, v1, v2, v3, v4, v5, v6]))] sz) := by
  refine sh_I (by decide) (Nat.le_of_ble_eq_true rfl) ?_
  intro p e s m args below meth c A ls hx hb hr hml hown hlk hnm hsz hP hD hA hE hts hS hl htb
  have hown : s.vm.findClass RL = some m.cls := hown
  have hl : lv_has ls 4 [(0, .ref a0), (1, .int x0), (2, .ref b0)] := hl
  refine lv_aload_n hx hb dL_pinch_0 rfl (lv_at hl 2 rfl) ?_
  refine lv_iconst (v := 0) hx hb dL_pinch_1 (by decide) ?_
  refine lv_aload_n hx hb dL_pinch_2 rfl (lv_at hl 0 rfl) ?_
  refine lv_iload_n hx hb dL_pinch_3 rfl (lv_at hl 1 rfl) ?_
  refine cx_catch (isC := [0]) (isR := []) (wr := []) (hp := []) (z := (0, 9, 12, 13)) (hq := [(0, 9, 15, 45)]) (name := "java/lang/IllegalArgumentException") (own := RL) (rx_V (ci := 14) (q0 := 0) (isC := [0]) (wc := [(a0, .inr (14, [v0, v1, v2, v3, v4, v5, v6]))]) (As := [.int x0]) (rest := [.int 0, .ref b0]) (n := 1) hx hb hml hown hts hE hS hP hD hA hl.1 (k563_X9_pinch l hst D cy g x0 a0 (v0) (v1) (v2) (v3) (v4) (v5) (v6) s.heap.size h0) rfl rfl rfl rfl rfl ax_396 rfl rfl ax_397 ⟨Nat.le_of_ble_eq_true rfl, Nat.le_of_ble_eq_true rfl⟩ rfl rfl (Nat.le_of_ble_eq_true rfl) dL_pinch_4 ⟨(Nat.le_of_ble_eq_true rfl), (Nat.le_of_ble_eq_true rfl)⟩) hP hD hS hA hown hts hE htb rfl rfl rfl rfl (by decide) (fun z hz => by cases hz) (by decide) (by decide) tw_302 tw_303 (fun qx H locs hP hD hS => ?_)
  have hP : va_P D vwCl [] H := hP
  have hD : va_D A [] := hD
  refine lv_astore_n (lv' := [(3, .ref qx), (0, .ref a0), (1, .int x0), (2, .ref b0)]) hx hb dL_pinch_12 rfl hl (Nat.le_of_ble_eq_true rfl) rfl (fun ls hl => ?_)
  refine lv_iconst (v := 1) hx hb dL_pinch_13 (by decide) ?_
  exact en_z hx hb hr hlk hP hD hS rfl (fun _ => 0) (is := []) rfl rfl (Nat.le_of_ble_eq_true rfl) (Nat.le_of_ble_eq_true rfl) dL_pinch_14
set_option maxHeartbeats 4000000 in
set_option maxRecDepth 100000 in
theorem k565_X10_pinch (l : Launch) (D : va_G) (cy : Nat → ClassId) (g : Nat → Nat) (x0 : Int32) (a0 : Nat) (v0 : Value) (v1 : Value) (v2 : Value) (v3 : Value) (v4 : Value) (v5 : Value) (v6 : Value) (v7 : Value) (v8 : Value) (v9 : Value) (v10 : Value) (v11 : Value) (v12 : Value) (v13 : Value) (v14 : Value) (v15 : Value) (v16 : Value) (v17 : Value) (v18 : Value) (v19 : Value) (v20 : Value) (v21 : Value) (v22 : Value) (v23 : Value) (v24 : Value) (v25 : Value) (v26 : Value) (v27 : Value) (sz : Nat) (h0 : x0 < 0) : Met l yX10_pinch [.code yX10_pinch cX10_pinch 2 (some .int)] ({ frames := 2, cells := 0, slots := 0, locals := 46 }) (PC D cy g [(a0, .inr (15, [v0, v1, v2, v3, v4, v5, v6, v7, v8, v9, v10, v11, v12, v13, v14, v15, v16, v17, v18, v19, v20, v21, v22, v23, v24, v25, v26, v27]))] sz [.ref a0, .int x0]) (QI D (-1) (fun ad => [(a0, .inr (15, [.int 1, v1, v2, v3, v4, v5, v6, v7, v8, v9, v10, v11, v12, v13, v14, v15, v16, v17, v18, v19, v20, v21, v22, v23, v24, v25, v26, v27]))]) (va_A [(a0, .inr (15, [v0, v1, v2, v3, v4, v5, v6, v7, v8, v9, v10, v11, v12, v13, v14, v15, v16, v17, v18, v19, v20, v21, v22, v23, v24, v25, v26, v27]))] sz)) 0 0 (va_A [(a0, .inr (15, [v0, v1, v2, v3, v4, v5, v6, v7, v8, v9, v10, v11, v12, v13, v14, v15, v16, v17, v18, v19, v20, v21, v22, v23, v24, v25, v26, v27]))] sz) := by
  refine st_I (by decide) (Nat.le_of_ble_eq_true rfl) ?_
  intro p e s m args below meth c A ls hx hb hr hml hown hlk hnm hsz hP hD hA hE hts hS hl
  have hown : s.vm.findClass RX10 = some m.cls := hown
  have hl : lv_has ls 2 [(0, .ref a0), (1, .int x0)] := hl
  refine lv_aload_n hx hb dX10_pinch_0 rfl (lv_at hl 0 rfl) ?_
  refine ca_v (isC := [0]) (isR := []) (wr := []) (rn_V (ci := 15) (q0 := 0) (isC := [0]) (wc := [(a0, .inr (15, [v0, v1, v2, v3, v4, v5, v6, v7, v8, v9, v10, v11, v12, v13, v14, v15, v16, v17, v18, v19, v20, v21, v22, v23, v24, v25, v26, v27]))]) (As := []) (rest := []) (n := 0) hx hb hml hown hts hE hS hP hD hA hl.1 (k20_X10_begins l D cy g a0 (v0) (v1) (v2) (v3) (v4) (v5) (v6) (v7) (v8) (v9) (v10) (v11) (v12) (v13) (v14) (v15) (v16) (v17) (v18) (v19) (v20) (v21) (v22) (v23) (v24) (v25) (v26) (v27) s.heap.size ) rfl rfl rfl rfl rfl ax_37 rfl rfl ax_38 ⟨Nat.le_of_ble_eq_true rfl, Nat.le_of_ble_eq_true rfl⟩ rfl rfl (Nat.le_of_ble_eq_true rfl) dX10_pinch_1 ⟨(Nat.le_of_ble_eq_true rfl), (Nat.le_of_ble_eq_true rfl)⟩) hP hD hS hA rfl rfl rfl (by decide) (fun ad1 H locs hP hD hS => ?_)
  have hP : va_P D vwCl [(a0, .inr (15, [.int 0, v1, v2, v3, v4, v5, v6, v7, v8, v9, v10, v11, v12, v13, v14, v15, v16, v17, v18, v19, v20, v21, v22, v23, v24, v25, v26, v27]))] H := hP
  have hD : va_D A [(a0, .inr (15, [.int 0, v1, v2, v3, v4, v5, v6, v7, v8, v9, v10, v11, v12, v13, v14, v15, v16, v17, v18, v19, v20, v21, v22, v23, v24, v25, v26, v27]))] := hD
  refine lv_aload_n hx hb dX10_pinch_4 rfl (lv_at hl 0 rfl) ?_
  refine lv_iload_n hx hb dX10_pinch_5 rfl (lv_at hl 1 rfl) ?_
  refine ca_i (isC := [0]) (isR := []) (wr := []) (rn_V (ci := 15) (q0 := 0) (isC := [0]) (wc := [(a0, .inr (15, [.int 0, v1, v2, v3, v4, v5, v6, v7, v8, v9, v10, v11, v12, v13, v14, v15, v16, v17, v18, v19, v20, v21, v22, v23, v24, v25, v26, v27]))]) (As := [.int x0]) (rest := []) (n := 1) hx hb hml hown hts hE hS hP hD hA hl.1 (k532_X10_noApproach l D cy g x0 a0 (v1) (v2) (v3) (v4) (v5) (v6) (v7) (v8) (v9) (v10) (v11) (v12) (v13) (v14) (v15) (v16) (v17) (v18) (v19) (v20) (v21) (v22) (v23) (v24) (v25) (v26) (v27) H.size h0) rfl rfl rfl rfl rfl ax_367 rfl rfl ax_368 ⟨Nat.le_of_ble_eq_true rfl, Nat.le_of_ble_eq_true rfl⟩ rfl rfl (Nat.le_of_ble_eq_true rfl) dX10_pinch_6 ⟨(Nat.le_of_ble_eq_true rfl), (Nat.le_of_ble_eq_true rfl)⟩) hP hD hS hA rfl rfl rfl (by decide) (fun ad6 H locs hP hD hS => ?_)
  have hP : va_P D vwCl [(a0, .inr (15, [.int 1, v1, v2, v3, v4, v5, v6, v7, v8, v9, v10, v11, v12, v13, v14, v15, v16, v17, v18, v19, v20, v21, v22, v23, v24, v25, v26, v27]))] H := hP
  have hD : va_D A [(a0, .inr (15, [.int 1, v1, v2, v3, v4, v5, v6, v7, v8, v9, v10, v11, v12, v13, v14, v15, v16, v17, v18, v19, v20, v21, v22, v23, v24, v25, v26, v27]))] := hD
  refine lv_if_ne (tgt := 35) hx hb dX10_pinch_9 (by decide) (fun _ => ?_) (fun z => absurd z (by decide))
  refine lv_iconst (v := (-1)) hx hb dX10_pinch_35 (by decide) ?_
  refine lv_goto (tgt := 46) hx hb dX10_pinch_36 (by decide) ?_
  exact en_z hx hb hr hlk hP hD hS rfl (fun _ => 0) (is := [0]) rfl rfl (Nat.le_of_ble_eq_true rfl) (Nat.le_of_ble_eq_true rfl) dX10_pinch_46
set_option maxHeartbeats 4000000 in
set_option maxRecDepth 100000 in
theorem k566_X9_pinch (l : Launch) (hst : l.stackTraces = false) (D : va_G) (cy : Nat → ClassId) (g : Nat → Nat) (x0 : Int32) (a0 : Nat) (v0 : Value) (v1 : Value) (v2 : Value) (v3 : Value) (v4 : Value) (v5 : Value) (v6 : Value) (sz : Nat) (h0 : ¬ x0 < 0) (h1 : (100 : Int32) < x0) : vx_Met l yX9_pinch [.code yX9_pinch cX9_pinch 2 (some .int)] ({ frames := 7, cells := 1, slots := 6, locals := 103 }) (PC D cy g [(a0, .inr (14, [v0, v1, v2, v3, v4, v5, v6]))] sz [.ref a0, .int x0]) QN (XE "java/lang/IllegalArgumentException" (va_A [(a0, .inr (14, [v0, v1, v2, v3, v4, v5, v6]))] sz)) 1 6 (va_A [(a0, .inr (14, [v0, v1, v2, v3, v4, v5, v6]))] sz) := by
  refine st_X (by decide) (Nat.le_of_ble_eq_true rfl) ?_
  intro p e s m args below meth c A ls hx hb hr hml hown hlk hnm hsz hP hD hA hE hts hS hl hout
  have hown : s.vm.findClass RX9 = some m.cls := hown
  have hl : lv_has ls 2 [(0, .ref a0), (1, .int x0)] := hl
  refine lv_aload_n hx hb dX9_pinch_0 rfl (lv_at hl 0 rfl) ?_
  refine lv_iload_n hx hb dX9_pinch_1 rfl (lv_at hl 1 rfl) ?_
  exact cx_out (isC := []) (rx_V (ci := 14) (q0 := 0) (isC := []) (wc := []) (As := [.int x0]) (rest := []) (n := 1) hx hb hml hown hts hE hS hP hD hA hl.1 (k534_X9_requireApproach l hst D cy g x0 a0 s.heap.size h0 h1) rfl rfl rfl rfl rfl ax_361 rfl rfl ax_362 ⟨Nat.le_of_ble_eq_true rfl, Nat.le_of_ble_eq_true rfl⟩ rfl rfl (Nat.le_of_ble_eq_true rfl) dX9_pinch_2 ⟨(Nat.le_of_ble_eq_true rfl), (Nat.le_of_ble_eq_true rfl)⟩) hD hS hA rfl hout hlk (Nat.le_of_ble_eq_true rfl) (Nat.le_of_ble_eq_true rfl)
set_option maxHeartbeats 4000000 in
set_option maxRecDepth 100000 in
theorem k567_L_pinch (l : Launch) (hst : l.stackTraces = false) (D : va_G) (cy : Nat → ClassId) (g : Nat → Nat) (x0 : Int32) (a0 : Nat) (b0 : Nat) (v0 : Value) (v1 : Value) (v2 : Value) (v3 : Value) (v4 : Value) (v5 : Value) (v6 : Value) (sz : Nat) (h0 : ¬ x0 < 0) (h1 : (100 : Int32) < x0) : Met l yL_pinch [.codeWith yL_pinch cL_pinch 4 (some .int) [(0, 9, 12, 13), (0, 9, 15, 45)]] ({ frames := 8, cells := 1, slots := 6, locals := 124 }) (PC D cy g [(a0, .inr (14, [v0, v1, v2, v3, v4, v5, v6]))] sz [.ref a0, .int x0, .ref b0]) (QI D 1 (fun ad => []) (va_A [(a0, .inr (14, [v0, v1, v2, v3, v4, v5, v6]))] sz)) 1 6 (va_A [(a0, .inr (14, [v0, v1, v2, v3, v4, v5, v6]))] sz) := by
  refine sh_I (by decide) (Nat.le_of_ble_eq_true rfl) ?_
  intro p e s m args below meth c A ls hx hb hr hml hown hlk hnm hsz hP hD hA hE hts hS hl htb
  have hown : s.vm.findClass RL = some m.cls := hown
  have hl : lv_has ls 4 [(0, .ref a0), (1, .int x0), (2, .ref b0)] := hl
  refine lv_aload_n hx hb dL_pinch_0 rfl (lv_at hl 2 rfl) ?_
  refine lv_iconst (v := 0) hx hb dL_pinch_1 (by decide) ?_
  refine lv_aload_n hx hb dL_pinch_2 rfl (lv_at hl 0 rfl) ?_
  refine lv_iload_n hx hb dL_pinch_3 rfl (lv_at hl 1 rfl) ?_
  refine cx_catch (isC := [0]) (isR := []) (wr := []) (hp := []) (z := (0, 9, 12, 13)) (hq := [(0, 9, 15, 45)]) (name := "java/lang/IllegalArgumentException") (own := RL) (rx_V (ci := 14) (q0 := 0) (isC := [0]) (wc := [(a0, .inr (14, [v0, v1, v2, v3, v4, v5, v6]))]) (As := [.int x0]) (rest := [.int 0, .ref b0]) (n := 1) hx hb hml hown hts hE hS hP hD hA hl.1 (k566_X9_pinch l hst D cy g x0 a0 (v0) (v1) (v2) (v3) (v4) (v5) (v6) s.heap.size h0 h1) rfl rfl rfl rfl rfl ax_396 rfl rfl ax_397 ⟨Nat.le_of_ble_eq_true rfl, Nat.le_of_ble_eq_true rfl⟩ rfl rfl (Nat.le_of_ble_eq_true rfl) dL_pinch_4 ⟨(Nat.le_of_ble_eq_true rfl), (Nat.le_of_ble_eq_true rfl)⟩) hP hD hS hA hown hts hE htb rfl rfl rfl rfl (by decide) (fun z hz => by cases hz) (by decide) (by decide) tw_302 tw_303 (fun qx H locs hP hD hS => ?_)
  have hP : va_P D vwCl [] H := hP
  have hD : va_D A [] := hD
  refine lv_astore_n (lv' := [(3, .ref qx), (0, .ref a0), (1, .int x0), (2, .ref b0)]) hx hb dL_pinch_12 rfl hl (Nat.le_of_ble_eq_true rfl) rfl (fun ls hl => ?_)
  refine lv_iconst (v := 1) hx hb dL_pinch_13 (by decide) ?_
  exact en_z hx hb hr hlk hP hD hS rfl (fun _ => 0) (is := []) rfl rfl (Nat.le_of_ble_eq_true rfl) (Nat.le_of_ble_eq_true rfl) dL_pinch_14
set_option maxHeartbeats 4000000 in
set_option maxRecDepth 100000 in
theorem k568_X10_pinch (l : Launch) (D : va_G) (cy : Nat → ClassId) (g : Nat → Nat) (x0 : Int32) (a0 : Nat) (v0 : Value) (v1 : Value) (v2 : Value) (v3 : Value) (v4 : Value) (v5 : Value) (v6 : Value) (v7 : Value) (v8 : Value) (v9 : Value) (v10 : Value) (v11 : Value) (v12 : Value) (v13 : Value) (v14 : Value) (v15 : Value) (v16 : Value) (v17 : Value) (v18 : Value) (v19 : Value) (v20 : Value) (v21 : Value) (v22 : Value) (v23 : Value) (v24 : Value) (v25 : Value) (v26 : Value) (v27 : Value) (sz : Nat) (h0 : ¬ x0 < 0) (h1 : (100 : Int32) < x0) : Met l yX10_pinch [.code yX10_pinch cX10_pinch 2 (some .int)] ({ frames := 2, cells := 0, slots := 0, locals := 46 }) (PC D cy g [(a0, .inr (15, [v0, v1, v2, v3, v4, v5, v6, v7, v8, v9, v10, v11, v12, v13, v14, v15, v16, v17, v18, v19, v20, v21, v22, v23, v24, v25, v26, v27]))] sz [.ref a0, .int x0]) (QI D (-1) (fun ad => [(a0, .inr (15, [.int 1, v1, v2, v3, v4, v5, v6, v7, v8, v9, v10, v11, v12, v13, v14, v15, v16, v17, v18, v19, v20, v21, v22, v23, v24, v25, v26, v27]))]) (va_A [(a0, .inr (15, [v0, v1, v2, v3, v4, v5, v6, v7, v8, v9, v10, v11, v12, v13, v14, v15, v16, v17, v18, v19, v20, v21, v22, v23, v24, v25, v26, v27]))] sz)) 0 0 (va_A [(a0, .inr (15, [v0, v1, v2, v3, v4, v5, v6, v7, v8, v9, v10, v11, v12, v13, v14, v15, v16, v17, v18, v19, v20, v21, v22, v23, v24, v25, v26, v27]))] sz) := by
  refine st_I (by decide) (Nat.le_of_ble_eq_true rfl) ?_
  intro p e s m args below meth c A ls hx hb hr hml hown hlk hnm hsz hP hD hA hE hts hS hl
  have hown : s.vm.findClass RX10 = some m.cls := hown
  have hl : lv_has ls 2 [(0, .ref a0), (1, .int x0)] := hl
  refine lv_aload_n hx hb dX10_pinch_0 rfl (lv_at hl 0 rfl) ?_
  refine ca_v (isC := [0]) (isR := []) (wr := []) (rn_V (ci := 15) (q0 := 0) (isC := [0]) (wc := [(a0, .inr (15, [v0, v1, v2, v3, v4, v5, v6, v7, v8, v9, v10, v11, v12, v13, v14, v15, v16, v17, v18, v19, v20, v21, v22, v23, v24, v25, v26, v27]))]) (As := []) (rest := []) (n := 0) hx hb hml hown hts hE hS hP hD hA hl.1 (k20_X10_begins l D cy g a0 (v0) (v1) (v2) (v3) (v4) (v5) (v6) (v7) (v8) (v9) (v10) (v11) (v12) (v13) (v14) (v15) (v16) (v17) (v18) (v19) (v20) (v21) (v22) (v23) (v24) (v25) (v26) (v27) s.heap.size ) rfl rfl rfl rfl rfl ax_37 rfl rfl ax_38 ⟨Nat.le_of_ble_eq_true rfl, Nat.le_of_ble_eq_true rfl⟩ rfl rfl (Nat.le_of_ble_eq_true rfl) dX10_pinch_1 ⟨(Nat.le_of_ble_eq_true rfl), (Nat.le_of_ble_eq_true rfl)⟩) hP hD hS hA rfl rfl rfl (by decide) (fun ad1 H locs hP hD hS => ?_)
  have hP : va_P D vwCl [(a0, .inr (15, [.int 0, v1, v2, v3, v4, v5, v6, v7, v8, v9, v10, v11, v12, v13, v14, v15, v16, v17, v18, v19, v20, v21, v22, v23, v24, v25, v26, v27]))] H := hP
  have hD : va_D A [(a0, .inr (15, [.int 0, v1, v2, v3, v4, v5, v6, v7, v8, v9, v10, v11, v12, v13, v14, v15, v16, v17, v18, v19, v20, v21, v22, v23, v24, v25, v26, v27]))] := hD
  refine lv_aload_n hx hb dX10_pinch_4 rfl (lv_at hl 0 rfl) ?_
  refine lv_iload_n hx hb dX10_pinch_5 rfl (lv_at hl 1 rfl) ?_
  refine ca_i (isC := [0]) (isR := []) (wr := []) (rn_V (ci := 15) (q0 := 0) (isC := [0]) (wc := [(a0, .inr (15, [.int 0, v1, v2, v3, v4, v5, v6, v7, v8, v9, v10, v11, v12, v13, v14, v15, v16, v17, v18, v19, v20, v21, v22, v23, v24, v25, v26, v27]))]) (As := [.int x0]) (rest := []) (n := 1) hx hb hml hown hts hE hS hP hD hA hl.1 (k537_X10_noApproach l D cy g x0 a0 (v1) (v2) (v3) (v4) (v5) (v6) (v7) (v8) (v9) (v10) (v11) (v12) (v13) (v14) (v15) (v16) (v17) (v18) (v19) (v20) (v21) (v22) (v23) (v24) (v25) (v26) (v27) H.size h0 h1) rfl rfl rfl rfl rfl ax_367 rfl rfl ax_368 ⟨Nat.le_of_ble_eq_true rfl, Nat.le_of_ble_eq_true rfl⟩ rfl rfl (Nat.le_of_ble_eq_true rfl) dX10_pinch_6 ⟨(Nat.le_of_ble_eq_true rfl), (Nat.le_of_ble_eq_true rfl)⟩) hP hD hS hA rfl rfl rfl (by decide) (fun ad6 H locs hP hD hS => ?_)
  have hP : va_P D vwCl [(a0, .inr (15, [.int 1, v1, v2, v3, v4, v5, v6, v7, v8, v9, v10, v11, v12, v13, v14, v15, v16, v17, v18, v19, v20, v21, v22, v23, v24, v25, v26, v27]))] H := hP
  have hD : va_D A [(a0, .inr (15, [.int 1, v1, v2, v3, v4, v5, v6, v7, v8, v9, v10, v11, v12, v13, v14, v15, v16, v17, v18, v19, v20, v21, v22, v23, v24, v25, v26, v27]))] := hD
  refine lv_if_ne (tgt := 35) hx hb dX10_pinch_9 (by decide) (fun _ => ?_) (fun z => absurd z (by decide))
  refine lv_iconst (v := (-1)) hx hb dX10_pinch_35 (by decide) ?_
  refine lv_goto (tgt := 46) hx hb dX10_pinch_36 (by decide) ?_
  exact en_z hx hb hr hlk hP hD hS rfl (fun _ => 0) (is := [0]) rfl rfl (Nat.le_of_ble_eq_true rfl) (Nat.le_of_ble_eq_true rfl) dX10_pinch_46
set_option maxHeartbeats 4000000 in
set_option maxRecDepth 100000 in
theorem k569_X9_pinch (l : Launch) (hst : l.stackTraces = false) (D : va_G) (cy : Nat → ClassId) (g : Nat → Nat) (x0 : Int32) (a0 : Nat) (a1 : Nat) (v0 : Value) (v1 : Value) (v2 : Value) (v3 : Value) (v4 : Value) (v5 : Value) (v6 : Value) (v7 : Value) (v8 : Value) (sz : Nat) (h0 : ¬ x0 < 0) (h1 : ¬ (100 : Int32) < x0) : vx_Met l yX9_pinch [.code yX9_pinch cX9_pinch 2 (some .int)] ({ frames := 6, cells := 1, slots := 6, locals := 82 }) (PC D cy g [(a0, .inr (14, [v0, v1, v2, v3, .ref a1, v4, v5])), (a1, .inr (10, [v6, v7, v8, .int 0]))] sz [.ref a0, .int x0]) QN (XE "java/util/NoSuchElementException" (va_A [(a0, .inr (14, [v0, v1, v2, v3, .ref a1, v4, v5])), (a1, .inr (10, [v6, v7, v8, .int 0]))] sz)) 1 6 (va_A [(a0, .inr (14, [v0, v1, v2, v3, .ref a1, v4, v5])), (a1, .inr (10, [v6, v7, v8, .int 0]))] sz) := by
  refine st_X (by decide) (Nat.le_of_ble_eq_true rfl) ?_
  intro p e s m args below meth c A ls hx hb hr hml hown hlk hnm hsz hP hD hA hE hts hS hl hout
  have hown : s.vm.findClass RX9 = some m.cls := hown
  have hl : lv_has ls 2 [(0, .ref a0), (1, .int x0)] := hl
  refine lv_aload_n hx hb dX9_pinch_0 rfl (lv_at hl 0 rfl) ?_
  refine lv_iload_n hx hb dX9_pinch_1 rfl (lv_at hl 1 rfl) ?_
  refine ca_v (isC := []) (isR := [0, 1]) (wr := [(a0, .inr (14, [v0, v1, v2, v3, .ref a1, v4, v5])), (a1, .inr (10, [v6, v7, v8, .int 0]))]) (rn_V (ci := 14) (q0 := 0) (isC := []) (wc := []) (As := [.int x0]) (rest := []) (n := 1) hx hb hml hown hts hE hS hP hD hA hl.1 (k539_X9_requireApproach l D cy g x0 a0 s.heap.size h0 h1) rfl rfl rfl rfl rfl ax_361 rfl rfl ax_362 ⟨Nat.le_of_ble_eq_true rfl, Nat.le_of_ble_eq_true rfl⟩ rfl rfl (Nat.le_of_ble_eq_true rfl) dX9_pinch_2 ⟨(Nat.le_of_ble_eq_true rfl), (Nat.le_of_ble_eq_true rfl)⟩) hP hD hS hA rfl rfl rfl (by decide) (fun ad2 H locs hP hD hS => ?_)
  have hP : va_P D vwCl [(a0, .inr (14, [v0, v1, v2, v3, .ref a1, v4, v5])), (a1, .inr (10, [v6, v7, v8, .int 0]))] H := hP
  have hD : va_D A [(a0, .inr (14, [v0, v1, v2, v3, .ref a1, v4, v5])), (a1, .inr (10, [v6, v7, v8, .int 0]))] := hD
  refine lv_aload_n hx hb dX9_pinch_5 rfl (lv_at hl 0 rfl) ?_
  refine va_get (D := D) (ci := 14) (v := .ref a1) (C := RX9) (T := TX9) (N := 7) hx hb hts ax_16 hown hE.1 hP 0 rfl rfl 4 (by decide) (hts _ tw_206) (fun _ h9 => h9) rfl dX9_pinch_6 ?_
  refine lv_iload_n hx hb dX9_pinch_9 rfl (lv_at hl 1 rfl) ?_
  refine ca_i (isC := [1]) (isR := [0]) (wr := [(a0, .inr (14, [v0, v1, v2, v3, .ref a1, v4, v5]))]) (rn_V (ci := 10) (q0 := 1) (isC := [1]) (wc := [(a1, .inr (10, [v6, v7, v8, .int 0]))]) (As := [.int x0]) (rest := []) (n := 1) hx hb hml hown hts hE hS hP hD hA hl.1 (k542_X5_leastHeat l D cy g x0 a1 (v6) (v7) (v8) H.size ) rfl rfl rfl rfl rfl ax_375 rfl rfl ax_376 ⟨Nat.le_of_ble_eq_true rfl, Nat.le_of_ble_eq_true rfl⟩ rfl rfl (Nat.le_of_ble_eq_true rfl) dX9_pinch_10 ⟨(Nat.le_of_ble_eq_true rfl), (Nat.le_of_ble_eq_true rfl)⟩) hP hD hS hA rfl rfl rfl (by decide) (fun ad10 H locs hP hD hS => ?_)
  have hP : va_P D vwCl [(a0, .inr (14, [v0, v1, v2, v3, .ref a1, v4, v5])), (a1, .inr (10, [v6, v7, v8, .int 0]))] H := hP
  have hD : va_D A [(a0, .inr (14, [v0, v1, v2, v3, .ref a1, v4, v5])), (a1, .inr (10, [v6, v7, v8, .int 0]))] := hD
  refine lv_if_ne (tgt := 27) hx hb dX9_pinch_13 (by decide) (fun z => absurd (by decide) z) (fun _ => ?_)
  exact th_NW (text := "no heat is needed") hx hb hst hown hts hE hS (hl.1.trans hml.symm) hout hlk tw_524 tw_525 (by decide +kernel) dX9_pinch_16 dX9_pinch_19 dX9_pinch_20 dX9_pinch_23 dX9_pinch_26 ⟨Nat.le_of_ble_eq_true rfl, Nat.le_of_ble_eq_true rfl, Nat.le_of_ble_eq_true rfl, Nat.le_of_ble_eq_true rfl⟩ (Nat.le_of_ble_eq_true rfl) (Nat.le_of_ble_eq_true rfl)
set_option maxHeartbeats 4000000 in
set_option maxRecDepth 100000 in
theorem k570_L_pinch (l : Launch) (hst : l.stackTraces = false) (D : va_G) (cy : Nat → ClassId) (g : Nat → Nat) (x0 : Int32) (a0 : Nat) (a1 : Nat) (b0 : Nat) (v0 : Value) (v1 : Value) (v2 : Value) (v3 : Value) (v4 : Value) (v5 : Value) (v6 : Value) (v7 : Value) (v8 : Value) (sz : Nat) (h0 : ¬ x0 < 0) (h1 : ¬ (100 : Int32) < x0) : Met l yL_pinch [.codeWith yL_pinch cL_pinch 4 (some .int) [(0, 9, 12, 13), (0, 9, 15, 45)]] ({ frames := 7, cells := 1, slots := 6, locals := 103 }) (PC D cy g [(a0, .inr (14, [v0, v1, v2, v3, .ref a1, v4, v5])), (a1, .inr (10, [v6, v7, v8, .int 0]))] sz [.ref a0, .int x0, .ref b0]) (QI D 2 (fun ad => []) (va_A [(a0, .inr (14, [v0, v1, v2, v3, .ref a1, v4, v5])), (a1, .inr (10, [v6, v7, v8, .int 0]))] sz)) 1 6 (va_A [(a0, .inr (14, [v0, v1, v2, v3, .ref a1, v4, v5])), (a1, .inr (10, [v6, v7, v8, .int 0]))] sz) := by
  refine sh_I (by decide) (Nat.le_of_ble_eq_true rfl) ?_
  intro p e s m args below meth c A ls hx hb hr hml hown hlk hnm hsz hP hD hA hE hts hS hl htb
  have hown : s.vm.findClass RL = some m.cls := hown
  have hl : lv_has ls 4 [(0, .ref a0), (1, .int x0), (2, .ref b0)] := hl
  refine lv_aload_n hx hb dL_pinch_0 rfl (lv_at hl 2 rfl) ?_
  refine lv_iconst (v := 0) hx hb dL_pinch_1 (by decide) ?_
  refine lv_aload_n hx hb dL_pinch_2 rfl (lv_at hl 0 rfl) ?_
  refine lv_iload_n hx hb dL_pinch_3 rfl (lv_at hl 1 rfl) ?_
  refine cx_catch (isC := [0, 1]) (isR := []) (wr := []) (hp := [(0, 9, 12, 13)]) (z := (0, 9, 15, 45)) (hq := []) (name := "java/util/NoSuchElementException") (own := RL) (rx_V (ci := 14) (q0 := 0) (isC := [0, 1]) (wc := [(a0, .inr (14, [v0, v1, v2, v3, .ref a1, v4, v5])), (a1, .inr (10, [v6, v7, v8, .int 0]))]) (As := [.int x0]) (rest := [.int 0, .ref b0]) (n := 1) hx hb hml hown hts hE hS hP hD hA hl.1 (k569_X9_pinch l hst D cy g x0 a0 a1 (v0) (v1) (v2) (v3) (v4) (v5) (v6) (v7) (v8) s.heap.size h0 h1) rfl rfl rfl rfl rfl ax_396 rfl rfl ax_397 ⟨Nat.le_of_ble_eq_true rfl, Nat.le_of_ble_eq_true rfl⟩ rfl rfl (Nat.le_of_ble_eq_true rfl) dL_pinch_4 ⟨(Nat.le_of_ble_eq_true rfl), (Nat.le_of_ble_eq_true rfl)⟩) hP hD hS hA hown hts hE htb rfl rfl rfl rfl (by decide) (fun z hz => by rcases List.mem_singleton.mp hz with rfl; exact ⟨by decide, "java/lang/IllegalArgumentException", tw_302, by decide +kernel⟩) (by decide) (by decide) tw_534 tw_535 (fun qx H locs hP hD hS => ?_)
  have hP : va_P D vwCl [] H := hP
  have hD : va_D A [] := hD
  refine lv_astore_n (lv' := [(3, .ref qx), (0, .ref a0), (1, .int x0), (2, .ref b0)]) hx hb dL_pinch_15 rfl hl (Nat.le_of_ble_eq_true rfl) rfl (fun ls hl => ?_)
  refine lv_iconst (v := 2) hx hb dL_pinch_16 (by decide) ?_
  exact en_z hx hb hr hlk hP hD hS rfl (fun _ => 0) (is := []) rfl rfl (Nat.le_of_ble_eq_true rfl) (Nat.le_of_ble_eq_true rfl) dL_pinch_17
set_option maxHeartbeats 4000000 in
set_option maxRecDepth 100000 in
theorem k571_X10_pinch (l : Launch) (D : va_G) (cy : Nat → ClassId) (g : Nat → Nat) (x0 : Int32) (a0 : Nat) (a1 : Nat) (v0 : Value) (v1 : Value) (v2 : Value) (v3 : Value) (v4 : Value) (v5 : Value) (v6 : Value) (v7 : Value) (v8 : Value) (v9 : Value) (v10 : Value) (v11 : Value) (v12 : Value) (v13 : Value) (v14 : Value) (v15 : Value) (v16 : Value) (v17 : Value) (v18 : Value) (v19 : Value) (v20 : Value) (v21 : Value) (v22 : Value) (v23 : Value) (v24 : Value) (v25 : Value) (v26 : Value) (v27 : Value) (sz : Nat) (h0 : ¬ x0 < 0) (h1 : ¬ (100 : Int32) < x0) : Met l yX10_pinch [.code yX10_pinch cX10_pinch 2 (some .int)] ({ frames := 5, cells := 1102, slots := 4407, locals := 107 }) (PC D cy g [(a0, .inr (15, [v0, v1, v2, v3, v4, v5, v6, v7, v8, v9, v10, v11, v12, v13, v14, v15, v16, .ref a1, v17, v18, v19, v20, v21, v22, v23, v24, v25, v26])), (a1, .inr (4, [.int 0, v27, .int 0]))] sz [.ref a0, .int x0]) (QI D (-1) (fun ad => [(a0, .inr (15, [.int 2, v1, v2, v3, v4, v5, v6, v7, v8, v9, v10, v11, v12, v13, v14, v15, v16, .ref a1, v17, v18, v19, v20, v21, v22, v23, v24, v25, v26]))]) (va_A [(a0, .inr (15, [v0, v1, v2, v3, v4, v5, v6, v7, v8, v9, v10, v11, v12, v13, v14, v15, v16, .ref a1, v17, v18, v19, v20, v21, v22, v23, v24, v25, v26])), (a1, .inr (4, [.int 0, v27, .int 0]))] sz)) 1102 4407 (va_A [(a0, .inr (15, [v0, v1, v2, v3, v4, v5, v6, v7, v8, v9, v10, v11, v12, v13, v14, v15, v16, .ref a1, v17, v18, v19, v20, v21, v22, v23, v24, v25, v26])), (a1, .inr (4, [.int 0, v27, .int 0]))] sz) := by
  refine st_I (by decide) (Nat.le_of_ble_eq_true rfl) ?_
  intro p e s m args below meth c A ls hx hb hr hml hown hlk hnm hsz hP hD hA hE hts hS hl
  have hown : s.vm.findClass RX10 = some m.cls := hown
  have hl : lv_has ls 2 [(0, .ref a0), (1, .int x0)] := hl
  refine lv_aload_n hx hb dX10_pinch_0 rfl (lv_at hl 0 rfl) ?_
  refine ca_v (isC := [0]) (isR := [1]) (wr := [(a1, .inr (4, [.int 0, v27, .int 0]))]) (rn_V (ci := 15) (q0 := 0) (isC := [0]) (wc := [(a0, .inr (15, [v0, v1, v2, v3, v4, v5, v6, v7, v8, v9, v10, v11, v12, v13, v14, v15, v16, .ref a1, v17, v18, v19, v20, v21, v22, v23, v24, v25, v26]))]) (As := []) (rest := []) (n := 0) hx hb hml hown hts hE hS hP hD hA hl.1 (k20_X10_begins l D cy g a0 (v0) (v1) (v2) (v3) (v4) (v5) (v6) (v7) (v8) (v9) (v10) (v11) (v12) (v13) (v14) (v15) (v16) (.ref a1) (v17) (v18) (v19) (v20) (v21) (v22) (v23) (v24) (v25) (v26) s.heap.size ) rfl rfl rfl rfl rfl ax_37 rfl rfl ax_38 ⟨Nat.le_of_ble_eq_true rfl, Nat.le_of_ble_eq_true rfl⟩ rfl rfl (Nat.le_of_ble_eq_true rfl) dX10_pinch_1 ⟨(Nat.le_of_ble_eq_true rfl), (Nat.le_of_ble_eq_true rfl)⟩) hP hD hS hA rfl rfl rfl (by decide) (fun ad1 H locs hP hD hS => ?_)
  have hP : va_P D vwCl [(a1, .inr (4, [.int 0, v27, .int 0])), (a0, .inr (15, [.int 0, v1, v2, v3, v4, v5, v6, v7, v8, v9, v10, v11, v12, v13, v14, v15, v16, .ref a1, v17, v18, v19, v20, v21, v22, v23, v24, v25, v26]))] H := hP
  have hD : va_D A [(a1, .inr (4, [.int 0, v27, .int 0])), (a0, .inr (15, [.int 0, v1, v2, v3, v4, v5, v6, v7, v8, v9, v10, v11, v12, v13, v14, v15, v16, .ref a1, v17, v18, v19, v20, v21, v22, v23, v24, v25, v26]))] := hD
  refine lv_aload_n hx hb dX10_pinch_4 rfl (lv_at hl 0 rfl) ?_
  refine lv_iload_n hx hb dX10_pinch_5 rfl (lv_at hl 1 rfl) ?_
  refine ca_i (isC := [1]) (isR := [0]) (wr := [(a1, .inr (4, [.int 0, v27, .int 0]))]) (rn_V (ci := 15) (q0 := 1) (isC := [1]) (wc := [(a0, .inr (15, [.int 0, v1, v2, v3, v4, v5, v6, v7, v8, v9, v10, v11, v12, v13, v14, v15, v16, .ref a1, v17, v18, v19, v20, v21, v22, v23, v24, v25, v26]))]) (As := [.int x0]) (rest := []) (n := 1) hx hb hml hown hts hE hS hP hD hA hl.1 (k545_X10_noApproach l D cy g x0 a0 (v1) (v2) (v3) (v4) (v5) (v6) (v7) (v8) (v9) (v10) (v11) (v12) (v13) (v14) (v15) (v16) (.ref a1) (v17) (v18) (v19) (v20) (v21) (v22) (v23) (v24) (v25) (v26) H.size h0 h1) rfl rfl rfl rfl rfl ax_367 rfl rfl ax_368 ⟨Nat.le_of_ble_eq_true rfl, Nat.le_of_ble_eq_true rfl⟩ rfl rfl (Nat.le_of_ble_eq_true rfl) dX10_pinch_6 ⟨(Nat.le_of_ble_eq_true rfl), (Nat.le_of_ble_eq_true rfl)⟩) hP hD hS hA rfl rfl rfl (by decide) (fun ad6 H locs hP hD hS => ?_)
  have hP : va_P D vwCl [(a1, .inr (4, [.int 0, v27, .int 0])), (a0, .inr (15, [.int 0, v1, v2, v3, v4, v5, v6, v7, v8, v9, v10, v11, v12, v13, v14, v15, v16, .ref a1, v17, v18, v19, v20, v21, v22, v23, v24, v25, v26]))] H := hP
  have hD : va_D A [(a1, .inr (4, [.int 0, v27, .int 0])), (a0, .inr (15, [.int 0, v1, v2, v3, v4, v5, v6, v7, v8, v9, v10, v11, v12, v13, v14, v15, v16, .ref a1, v17, v18, v19, v20, v21, v22, v23, v24, v25, v26]))] := hD
  refine lv_if_ne (tgt := 35) hx hb dX10_pinch_9 (by decide) (fun z => absurd (by decide) z) (fun _ => ?_)
  refine lv_aload_n hx hb dX10_pinch_12 rfl (lv_at hl 0 rfl) ?_
  refine lv_aload_n hx hb dX10_pinch_13 rfl (lv_at hl 0 rfl) ?_
  refine lv_iload_n hx hb dX10_pinch_14 rfl (lv_at hl 1 rfl) ?_
  refine ca_r (isC := [1, 0]) (isR := []) (wr := []) (rn_V (ci := 15) (q0 := 1) (isC := [1, 0]) (wc := [(a0, .inr (15, [.int 0, v1, v2, v3, v4, v5, v6, v7, v8, v9, v10, v11, v12, v13, v14, v15, v16, .ref a1, v17, v18, v19, v20, v21, v22, v23, v24, v25, v26])), (a1, .inr (4, [.int 0, v27, .int 0]))]) (As := [.int x0]) (rest := [.ref a0]) (n := 1) hx hb hml hown hts hE hS hP hD hA hl.1 (k550_X10_cascade l D cy g x0 a0 a1 (.int 0) (v1) (v2) (v3) (v4) (v5) (v6) (v7) (v8) (v9) (v10) (v11) (v12) (v13) (v14) (v15) (v16) (v17) (v18) (v19) (v20) (v21) (v22) (v23) (v24) (v25) (v26) (v27) H.size ) rfl rfl rfl rfl rfl ax_385 rfl rfl ax_386 ⟨Nat.le_of_ble_eq_true rfl, Nat.le_of_ble_eq_true rfl⟩ rfl rfl (Nat.le_of_ble_eq_true rfl) dX10_pinch_15 ⟨(Nat.le_of_ble_eq_true rfl), (Nat.le_of_ble_eq_true rfl)⟩) hP hD hS hA rfl rfl rfl (by decide) (fun ad15 H locs hP hD hS => ?_)
  have hP : va_P D vwCl [(a0, .inr (15, [.int 0, v1, v2, v3, v4, v5, v6, v7, v8, v9, v10, v11, v12, v13, v14, v15, v16, .ref a1, v17, v18, v19, v20, v21, v22, v23, v24, v25, v26])), (a1, .inr (4, [.int 0, v27, .int 0])), ((ad15 0), .inl (cy 1, 3, .inl (upd (upd (upd (fun _ => 0) (0 : Int32).toNatClampNeg 0) (1 : Int32).toNatClampNeg 0) (2 : Int32).toNatClampNeg 0)))] H := hP
  have hD : va_D A [(a0, .inr (15, [.int 0, v1, v2, v3, v4, v5, v6, v7, v8, v9, v10, v11, v12, v13, v14, v15, v16, .ref a1, v17, v18, v19, v20, v21, v22, v23, v24, v25, v26])), (a1, .inr (4, [.int 0, v27, .int 0])), ((ad15 0), .inl (cy 1, 3, .inl (upd (upd (upd (fun _ => 0) (0 : Int32).toNatClampNeg 0) (1 : Int32).toNatClampNeg 0) (2 : Int32).toNatClampNeg 0)))] := hD
  refine lv_iconst (v := 0) hx hb dX10_pinch_18 (by decide) ?_
  refine va_iald hx hb hE.1 hP 2 1 rfl rfl (by unfold vp_in; decide) dX10_pinch_19 ?_
  refine tp_i 0 rfl ?_
  refine lv_if_ne (tgt := 27) hx hb dX10_pinch_20 (by decide) (fun z => absurd (by decide) z) (fun _ => ?_)
  refine lv_iconst (v := 1) hx hb dX10_pinch_23 (by decide) ?_
  refine lv_goto (tgt := 28) hx hb dX10_pinch_24 (by decide) ?_
  refine lv_iconst (v := 2) hx hb dX10_pinch_28 (by decide) ?_
  refine ca_i (isC := [0]) (isR := [1, 2]) (wr := [(a1, .inr (4, [.int 0, v27, .int 0])), ((ad15 0), .inl (cy 1, 3, .inl (upd (upd (upd (fun _ => 0) (0 : Int32).toNatClampNeg 0) (1 : Int32).toNatClampNeg 0) (2 : Int32).toNatClampNeg 0)))]) (rn_V (ci := 15) (q0 := 0) (isC := [0]) (wc := [(a0, .inr (15, [.int 0, v1, v2, v3, v4, v5, v6, v7, v8, v9, v10, v11, v12, v13, v14, v15, v16, .ref a1, v17, v18, v19, v20, v21, v22, v23, v24, v25, v26]))]) (As := [.int 1, .int 2]) (rest := []) (n := 2) hx hb hml hown hts hE hS hP hD hA hl.1 (k146_X10_fails l D cy g a0 (v1) (v2) (v3) (v4) (v5) (v6) (v7) (v8) (v9) (v10) (v11) (v12) (v13) (v14) (v15) (v16) (.ref a1) (v17) (v18) (v19) (v20) (v21) (v22) (v23) (v24) (v25) (v26) H.size ) rfl rfl rfl rfl rfl ax_41 rfl rfl ax_42 ⟨Nat.le_of_ble_eq_true rfl, Nat.le_of_ble_eq_true rfl⟩ rfl rfl (Nat.le_of_ble_eq_true rfl) dX10_pinch_29 ⟨(Nat.le_of_ble_eq_true rfl), (Nat.le_of_ble_eq_true rfl)⟩) hP hD hS hA rfl rfl rfl (by decide) (fun ad29 H locs hP hD hS => ?_)
  have hP : va_P D vwCl [(a1, .inr (4, [.int 0, v27, .int 0])), ((ad15 0), .inl (cy 1, 3, .inl (upd (upd (upd (fun _ => 0) (0 : Int32).toNatClampNeg 0) (1 : Int32).toNatClampNeg 0) (2 : Int32).toNatClampNeg 0))), (a0, .inr (15, [.int 2, v1, v2, v3, v4, v5, v6, v7, v8, v9, v10, v11, v12, v13, v14, v15, v16, .ref a1, v17, v18, v19, v20, v21, v22, v23, v24, v25, v26]))] H := hP
  have hD : va_D A [(a1, .inr (4, [.int 0, v27, .int 0])), ((ad15 0), .inl (cy 1, 3, .inl (upd (upd (upd (fun _ => 0) (0 : Int32).toNatClampNeg 0) (1 : Int32).toNatClampNeg 0) (2 : Int32).toNatClampNeg 0))), (a0, .inr (15, [.int 2, v1, v2, v3, v4, v5, v6, v7, v8, v9, v10, v11, v12, v13, v14, v15, v16, .ref a1, v17, v18, v19, v20, v21, v22, v23, v24, v25, v26]))] := hD
  refine lv_if_eq (tgt := 39) hx hb dX10_pinch_32 (by decide) (fun z => absurd z (by decide)) (fun _ => ?_)
  refine lv_iconst (v := (-1)) hx hb dX10_pinch_35 (by decide) ?_
  refine lv_goto (tgt := 46) hx hb dX10_pinch_36 (by decide) ?_
  exact en_z hx hb hr hlk hP hD hS rfl (fun _ => 0) (is := [2]) rfl rfl (Nat.le_of_ble_eq_true rfl) (Nat.le_of_ble_eq_true rfl) dX10_pinch_46
set_option maxHeartbeats 4000000 in
set_option maxRecDepth 100000 in
theorem k572_X9_setGovernor (l : Launch) (hst : l.stackTraces = false) (D : va_G) (cy : Nat → ClassId) (g : Nat → Nat) (x0 : Int32) (x1 : Int32) (x2 : Int32) (x3 : Int32) (b0 : Nat) (sz : Nat) (h0 : x0 < 0) : vx_Met l yX9_setGovernor [.code yX9_setGovernor cX9_setGovernor 6 (some .int)] ({ frames := 6, cells := 1, slots := 6, locals := 82 }) (PC D cy g [] sz [.ref b0, .int x0, .int x1, .int x2, .int x3]) QN (XE "java/lang/IllegalArgumentException" (va_A [] sz)) 1 6 (va_A [] sz) := by
  refine st_X (by decide) (Nat.le_of_ble_eq_true rfl) ?_
  intro p e s m args below meth c A ls hx hb hr hml hown hlk hnm hsz hP hD hA hE hts hS hl hout
  have hown : s.vm.findClass RX9 = some m.cls := hown
  have hl : lv_has ls 6 [(0, .ref b0), (1, .int x0), (2, .int x1), (3, .int x2), (4, .int x3)] := hl
  refine lv_iload_n hx hb dX9_setGovernor_0 rfl (lv_at hl 1 rfl) ?_
  refine lv_iconst (v := 0) hx hb dX9_setGovernor_1 (by decide) ?_
  refine lv_sipush (v := 3000) hx hb dX9_setGovernor_2 (by decide) ?_
  refine ca_i (isC := []) (isR := []) (wr := []) (rn_S (isC := []) (wc := []) (As := [.int x0, .int 0, .int 3000]) (rest := []) (n := 3) hx hb hml hown hts hE hS hP hD hA hl.1 (k17_X9_isOutside l D cy g x0 0 3000 s.heap.size h0) rfl rfl ax_30 rfl rfl ax_31 ⟨Nat.le_of_ble_eq_true rfl, Nat.le_of_ble_eq_true rfl⟩ rfl rfl (Nat.le_of_ble_eq_true rfl) dX9_setGovernor_5 ⟨(Nat.le_of_ble_eq_true rfl), (Nat.le_of_ble_eq_true rfl)⟩) hP hD hS hA rfl rfl rfl (by decide) (fun ad5 H locs hP hD hS => ?_)
  have hP : va_P D vwCl [] H := hP
  have hD : va_D A [] := hD
  refine lv_if_ne (tgt := 43) hx hb dX9_setGovernor_8 (by decide) (fun _ => ?_) (fun z => absurd z (by decide))
  exact th_S (text := "a number is out of range") hx hb hst hown hts hE hS (hl.1.trans hml.symm) hout hlk (by decide +kernel) tw_296 tw_297 ax_32 (by decide +kernel) dX9_setGovernor_43 dX9_setGovernor_46 dX9_setGovernor_47 dX9_setGovernor_49 dX9_setGovernor_52 ⟨Nat.le_of_ble_eq_true rfl, Nat.le_of_ble_eq_true rfl, Nat.le_of_ble_eq_true rfl, Nat.le_of_ble_eq_true rfl⟩ (Nat.le_of_ble_eq_true rfl) (Nat.le_of_ble_eq_true rfl)
set_option maxHeartbeats 4000000 in
set_option maxRecDepth 100000 in
theorem k573_L_setGovernor (l : Launch) (hst : l.stackTraces = false) (D : va_G) (cy : Nat → ClassId) (g : Nat → Nat) (x0 : Int32) (x1 : Int32) (x2 : Int32) (x3 : Int32) (a0 : Nat) (b0 : Nat) (v0 : Value) (v1 : Value) (v2 : Value) (v3 : Value) (v4 : Value) (v5 : Value) (v6 : Value) (sz : Nat) (h0 : x0 < 0) : Met l yL_setGovernor [.codeWith yL_setGovernor cL_setGovernor 7 (some .int) [(0, 14, 17, 13)]] ({ frames := 7, cells := 1, slots := 6, locals := 107 }) (PC D cy g [(a0, .inr (14, [v0, v1, v2, v3, v4, v5, v6]))] sz [.ref a0, .int x0, .int x1, .int x2, .int x3, .ref b0]) (QI D 1 (fun ad => []) (va_A [(a0, .inr (14, [v0, v1, v2, v3, v4, v5, v6]))] sz)) 1 6 (va_A [(a0, .inr (14, [v0, v1, v2, v3, v4, v5, v6]))] sz) := by
  refine sh_I (by decide) (Nat.le_of_ble_eq_true rfl) ?_
  intro p e s m args below meth c A ls hx hb hr hml hown hlk hnm hsz hP hD hA hE hts hS hl htb
  have hown : s.vm.findClass RL = some m.cls := hown
  have hl : lv_has ls 7 [(0, .ref a0), (1, .int x0), (2, .int x1), (3, .int x2), (4, .int x3), (5, .ref b0)] := hl
  refine lv_aload hx hb dL_setGovernor_0 (lv_at hl 5 rfl) ?_
  refine lv_iconst (v := 0) hx hb dL_setGovernor_2 (by decide) ?_
  refine lv_aload_n hx hb dL_setGovernor_3 rfl (lv_at hl 0 rfl) ?_
  refine lv_iload_n hx hb dL_setGovernor_4 rfl (lv_at hl 1 rfl) ?_
  refine lv_iload_n hx hb dL_setGovernor_5 rfl (lv_at hl 2 rfl) ?_
  refine lv_iload_n hx hb dL_setGovernor_6 rfl (lv_at hl 3 rfl) ?_
  refine lv_iload hx hb dL_setGovernor_7 (lv_at hl 4 rfl) ?_
  refine cx_catch (isC := []) (isR := [0]) (wr := [(a0, .inr (14, [v0, v1, v2, v3, v4, v5, v6]))]) (hp := []) (z := (0, 14, 17, 13)) (hq := []) (name := "java/lang/IllegalArgumentException") (own := RL) (rx_V (ci := 14) (q0 := 0) (isC := []) (wc := []) (As := [.int x0, .int x1, .int x2, .int x3]) (rest := [.int 0, .ref b0]) (n := 4) hx hb hml hown hts hE hS hP hD hA hl.1 (k572_X9_setGovernor l hst D cy g x0 x1 x2 x3 a0 s.heap.size h0) rfl rfl rfl rfl rfl ax_402 rfl rfl ax_403 ⟨Nat.le_of_ble_eq_true rfl, Nat.le_of_ble_eq_true rfl⟩ rfl rfl (Nat.le_of_ble_eq_true rfl) dL_setGovernor_9 ⟨(Nat.le_of_ble_eq_true rfl), (Nat.le_of_ble_eq_true rfl)⟩) hP hD hS hA hown hts hE htb rfl rfl rfl rfl (by decide) (fun z hz => by cases hz) (by decide) (by decide) tw_302 tw_303 (fun qx H locs hP hD hS => ?_)
  have hP : va_P D vwCl [(a0, .inr (14, [v0, v1, v2, v3, v4, v5, v6]))] H := hP
  have hD : va_D A [(a0, .inr (14, [v0, v1, v2, v3, v4, v5, v6]))] := hD
  refine lv_astore (lv' := [(6, .ref qx), (0, .ref a0), (1, .int x0), (2, .int x1), (3, .int x2), (4, .int x3), (5, .ref b0)]) hx hb dL_setGovernor_17 hl (Nat.le_of_ble_eq_true rfl) rfl (fun ls hl => ?_)
  refine lv_iconst (v := 1) hx hb dL_setGovernor_19 (by decide) ?_
  exact en_z hx hb hr hlk hP hD hS rfl (fun _ => 0) (is := []) rfl rfl (Nat.le_of_ble_eq_true rfl) (Nat.le_of_ble_eq_true rfl) dL_setGovernor_20
set_option maxHeartbeats 4000000 in
set_option maxRecDepth 100000 in
theorem k574_X10_setGovernor (l : Launch) (D : va_G) (cy : Nat → ClassId) (g : Nat → Nat) (x0 : Int32) (x1 : Int32) (x2 : Int32) (x3 : Int32) (a0 : Nat) (v0 : Value) (v1 : Value) (v2 : Value) (v3 : Value) (v4 : Value) (v5 : Value) (v6 : Value) (v7 : Value) (v8 : Value) (v9 : Value) (v10 : Value) (v11 : Value) (v12 : Value) (v13 : Value) (v14 : Value) (v15 : Value) (v16 : Value) (v17 : Value) (v18 : Value) (v19 : Value) (v20 : Value) (v21 : Value) (v22 : Value) (v23 : Value) (v24 : Value) (v25 : Value) (v26 : Value) (v27 : Value) (sz : Nat) (h0 : x0 < 0) : Met l yX10_setGovernor [.code yX10_setGovernor cX10_setGovernor 6 (some .int)] ({ frames := 1, cells := 0, slots := 0, locals := 25 }) (PC D cy g [(a0, .inr (15, [v0, v1, v2, v3, v4, v5, v6, v7, v8, v9, v10, v11, v12, v13, v14, v15, v16, v17, v18, v19, v20, v21, v22, v23, v24, v25, v26, v27]))] sz [.ref a0, .int x0, .int x1, .int x2, .int x3]) (QI D (-1) (fun ad => [(a0, .inr (15, [.int 1, v1, v2, v3, v4, v5, v6, v7, v8, v9, v10, v11, v12, v13, v14, v15, v16, v17, v18, v19, v20, v21, v22, v23, v24, v25, v26, v27]))]) (va_A [(a0, .inr (15, [v0, v1, v2, v3, v4, v5, v6, v7, v8, v9, v10, v11, v12, v13, v14, v15, v16, v17, v18, v19, v20, v21, v22, v23, v24, v25, v26, v27]))] sz)) 0 0 (va_A [(a0, .inr (15, [v0, v1, v2, v3, v4, v5, v6, v7, v8, v9, v10, v11, v12, v13, v14, v15, v16, v17, v18, v19, v20, v21, v22, v23, v24, v25, v26, v27]))] sz) := by
  refine st_I (by decide) (Nat.le_of_ble_eq_true rfl) ?_
  intro p e s m args below meth c A ls hx hb hr hml hown hlk hnm hsz hP hD hA hE hts hS hl
  have hown : s.vm.findClass RX10 = some m.cls := hown
  have hl : lv_has ls 6 [(0, .ref a0), (1, .int x0), (2, .int x1), (3, .int x2), (4, .int x3)] := hl
  refine lv_aload_n hx hb dX10_setGovernor_0 rfl (lv_at hl 0 rfl) ?_
  refine ca_v (isC := [0]) (isR := []) (wr := []) (rn_V (ci := 15) (q0 := 0) (isC := [0]) (wc := [(a0, .inr (15, [v0, v1, v2, v3, v4, v5, v6, v7, v8, v9, v10, v11, v12, v13, v14, v15, v16, v17, v18, v19, v20, v21, v22, v23, v24, v25, v26, v27]))]) (As := []) (rest := []) (n := 0) hx hb hml hown hts hE hS hP hD hA hl.1 (k20_X10_begins l D cy g a0 (v0) (v1) (v2) (v3) (v4) (v5) (v6) (v7) (v8) (v9) (v10) (v11) (v12) (v13) (v14) (v15) (v16) (v17) (v18) (v19) (v20) (v21) (v22) (v23) (v24) (v25) (v26) (v27) s.heap.size ) rfl rfl rfl rfl rfl ax_37 rfl rfl ax_38 ⟨Nat.le_of_ble_eq_true rfl, Nat.le_of_ble_eq_true rfl⟩ rfl rfl (Nat.le_of_ble_eq_true rfl) dX10_setGovernor_1 ⟨(Nat.le_of_ble_eq_true rfl), (Nat.le_of_ble_eq_true rfl)⟩) hP hD hS hA rfl rfl rfl (by decide) (fun ad1 H locs hP hD hS => ?_)
  have hP : va_P D vwCl [(a0, .inr (15, [.int 0, v1, v2, v3, v4, v5, v6, v7, v8, v9, v10, v11, v12, v13, v14, v15, v16, v17, v18, v19, v20, v21, v22, v23, v24, v25, v26, v27]))] H := hP
  have hD : va_D A [(a0, .inr (15, [.int 0, v1, v2, v3, v4, v5, v6, v7, v8, v9, v10, v11, v12, v13, v14, v15, v16, v17, v18, v19, v20, v21, v22, v23, v24, v25, v26, v27]))] := hD
  refine lv_aload_n hx hb dX10_setGovernor_4 rfl (lv_at hl 0 rfl) ?_
  refine lv_iload_n hx hb dX10_setGovernor_5 rfl (lv_at hl 1 rfl) ?_
  refine lv_i2l (v := x0.toInt64) hx hb dX10_setGovernor_6 rfl ?_
  refine lv_lconst (v := 0) hx hb dX10_setGovernor_7 (by decide) ?_
  refine lv_ldc2 (v := 3000) hx hb hown (hts _ tw_1088) dX10_setGovernor_8 ?_
  refine ca_i (isC := []) (isR := [0]) (wr := [(a0, .inr (15, [.int 0, v1, v2, v3, v4, v5, v6, v7, v8, v9, v10, v11, v12, v13, v14, v15, v16, v17, v18, v19, v20, v21, v22, v23, v24, v25, v26, v27]))]) (rn_S (isC := []) (wc := []) (As := [.long x0.toInt64, .long 0, .long 3000]) (rest := [.ref a0]) (n := 3) hx hb hml hown hts hE hS hP hD hA hl.1 (k21_X10_in l D cy g x0.toInt64 0 3000 H.size (wl_lt rfl (by decide) h0)) rfl rfl ax_39 rfl rfl ax_40 ⟨Nat.le_of_ble_eq_true rfl, Nat.le_of_ble_eq_true rfl⟩ rfl rfl (Nat.le_of_ble_eq_true rfl) dX10_setGovernor_11 ⟨(Nat.le_of_ble_eq_true rfl), (Nat.le_of_ble_eq_true rfl)⟩) hP hD hS hA rfl rfl rfl (by decide) (fun ad11 H locs hP hD hS => ?_)
  have hP : va_P D vwCl [(a0, .inr (15, [.int 0, v1, v2, v3, v4, v5, v6, v7, v8, v9, v10, v11, v12, v13, v14, v15, v16, v17, v18, v19, v20, v21, v22, v23, v24, v25, v26, v27]))] H := hP
  have hD : va_D A [(a0, .inr (15, [.int 0, v1, v2, v3, v4, v5, v6, v7, v8, v9, v10, v11, v12, v13, v14, v15, v16, v17, v18, v19, v20, v21, v22, v23, v24, v25, v26, v27]))] := hD
  refine lv_if_eq (tgt := 54) hx hb dX10_setGovernor_14 (by decide) (fun _ => ?_) (fun z => absurd (by decide) z)
  refine lv_iconst (v := 1) hx hb dX10_setGovernor_54 (by decide) ?_
  refine lv_goto (tgt := 59) hx hb dX10_setGovernor_55 (by decide) ?_
  refine lv_iconst (v := 1) hx hb dX10_setGovernor_59 (by decide) ?_
  refine ca_i (isC := [0]) (isR := []) (wr := []) (rn_V (ci := 15) (q0 := 0) (isC := [0]) (wc := [(a0, .inr (15, [.int 0, v1, v2, v3, v4, v5, v6, v7, v8, v9, v10, v11, v12, v13, v14, v15, v16, v17, v18, v19, v20, v21, v22, v23, v24, v25, v26, v27]))]) (As := [.int 1, .int 1]) (rest := []) (n := 2) hx hb hml hown hts hE hS hP hD hA hl.1 (k22_X10_fails l D cy g a0 (v1) (v2) (v3) (v4) (v5) (v6) (v7) (v8) (v9) (v10) (v11) (v12) (v13) (v14) (v15) (v16) (v17) (v18) (v19) (v20) (v21) (v22) (v23) (v24) (v25) (v26) (v27) H.size ) rfl rfl rfl rfl rfl ax_41 rfl rfl ax_42 ⟨Nat.le_of_ble_eq_true rfl, Nat.le_of_ble_eq_true rfl⟩ rfl rfl (Nat.le_of_ble_eq_true rfl) dX10_setGovernor_60 ⟨(Nat.le_of_ble_eq_true rfl), (Nat.le_of_ble_eq_true rfl)⟩) hP hD hS hA rfl rfl rfl (by decide) (fun ad60 H locs hP hD hS => ?_)
  have hP : va_P D vwCl [(a0, .inr (15, [.int 1, v1, v2, v3, v4, v5, v6, v7, v8, v9, v10, v11, v12, v13, v14, v15, v16, v17, v18, v19, v20, v21, v22, v23, v24, v25, v26, v27]))] H := hP
  have hD : va_D A [(a0, .inr (15, [.int 1, v1, v2, v3, v4, v5, v6, v7, v8, v9, v10, v11, v12, v13, v14, v15, v16, v17, v18, v19, v20, v21, v22, v23, v24, v25, v26, v27]))] := hD
  refine lv_if_eq (tgt := 68) hx hb dX10_setGovernor_63 (by decide) (fun z => absurd z (by decide)) (fun _ => ?_)
  refine lv_iconst (v := (-1)) hx hb dX10_setGovernor_66 (by decide) ?_
  exact en_z hx hb hr hlk hP hD hS rfl (fun _ => 0) (is := [0]) rfl rfl (Nat.le_of_ble_eq_true rfl) (Nat.le_of_ble_eq_true rfl) dX10_setGovernor_67
set_option maxHeartbeats 4000000 in
set_option maxRecDepth 100000 in
theorem k575_X9_setGovernor (l : Launch) (hst : l.stackTraces = false) (D : va_G) (cy : Nat → ClassId) (g : Nat → Nat) (x0 : Int32) (x1 : Int32) (x2 : Int32) (x3 : Int32) (b0 : Nat) (sz : Nat) (h0 : ¬ x0 < 0) (h1 : (3000 : Int32) < x0) : vx_Met l yX9_setGovernor [.code yX9_setGovernor cX9_setGovernor 6 (some .int)] ({ frames := 6, cells := 1, slots := 6, locals := 82 }) (PC D cy g [] sz [.ref b0, .int x0, .int x1, .int x2, .int x3]) QN (XE "java/lang/IllegalArgumentException" (va_A [] sz)) 1 6 (va_A [] sz) := by
  refine st_X (by decide) (Nat.le_of_ble_eq_true rfl) ?_
  intro p e s m args below meth c A ls hx hb hr hml hown hlk hnm hsz hP hD hA hE hts hS hl hout
  have hown : s.vm.findClass RX9 = some m.cls := hown
  have hl : lv_has ls 6 [(0, .ref b0), (1, .int x0), (2, .int x1), (3, .int x2), (4, .int x3)] := hl
  refine lv_iload_n hx hb dX9_setGovernor_0 rfl (lv_at hl 1 rfl) ?_
  refine lv_iconst (v := 0) hx hb dX9_setGovernor_1 (by decide) ?_
  refine lv_sipush (v := 3000) hx hb dX9_setGovernor_2 (by decide) ?_
  refine ca_i (isC := []) (isR := []) (wr := []) (rn_S (isC := []) (wc := []) (As := [.int x0, .int 0, .int 3000]) (rest := []) (n := 3) hx hb hml hown hts hE hS hP hD hA hl.1 (k25_X9_isOutside l D cy g x0 0 3000 s.heap.size h0 h1) rfl rfl ax_30 rfl rfl ax_31 ⟨Nat.le_of_ble_eq_true rfl, Nat.le_of_ble_eq_true rfl⟩ rfl rfl (Nat.le_of_ble_eq_true rfl) dX9_setGovernor_5 ⟨(Nat.le_of_ble_eq_true rfl), (Nat.le_of_ble_eq_true rfl)⟩) hP hD hS hA rfl rfl rfl (by decide) (fun ad5 H locs hP hD hS => ?_)
  have hP : va_P D vwCl [] H := hP
  have hD : va_D A [] := hD
  refine lv_if_ne (tgt := 43) hx hb dX9_setGovernor_8 (by decide) (fun _ => ?_) (fun z => absurd z (by decide))
  exact th_S (text := "a number is out of range") hx hb hst hown hts hE hS (hl.1.trans hml.symm) hout hlk (by decide +kernel) tw_296 tw_297 ax_32 (by decide +kernel) dX9_setGovernor_43 dX9_setGovernor_46 dX9_setGovernor_47 dX9_setGovernor_49 dX9_setGovernor_52 ⟨Nat.le_of_ble_eq_true rfl, Nat.le_of_ble_eq_true rfl, Nat.le_of_ble_eq_true rfl, Nat.le_of_ble_eq_true rfl⟩ (Nat.le_of_ble_eq_true rfl) (Nat.le_of_ble_eq_true rfl)
set_option maxHeartbeats 4000000 in
set_option maxRecDepth 100000 in
theorem k576_L_setGovernor (l : Launch) (hst : l.stackTraces = false) (D : va_G) (cy : Nat → ClassId) (g : Nat → Nat) (x0 : Int32) (x1 : Int32) (x2 : Int32) (x3 : Int32) (a0 : Nat) (b0 : Nat) (v0 : Value) (v1 : Value) (v2 : Value) (v3 : Value) (v4 : Value) (v5 : Value) (v6 : Value) (sz : Nat) (h0 : ¬ x0 < 0) (h1 : (3000 : Int32) < x0) : Met l yL_setGovernor [.codeWith yL_setGovernor cL_setGovernor 7 (some .int) [(0, 14, 17, 13)]] ({ frames := 7, cells := 1, slots := 6, locals := 107 }) (PC D cy g [(a0, .inr (14, [v0, v1, v2, v3, v4, v5, v6]))] sz [.ref a0, .int x0, .int x1, .int x2, .int x3, .ref b0]) (QI D 1 (fun ad => []) (va_A [(a0, .inr (14, [v0, v1, v2, v3, v4, v5, v6]))] sz)) 1 6 (va_A [(a0, .inr (14, [v0, v1, v2, v3, v4, v5, v6]))] sz) := by
  refine sh_I (by decide) (Nat.le_of_ble_eq_true rfl) ?_
  intro p e s m args below meth c A ls hx hb hr hml hown hlk hnm hsz hP hD hA hE hts hS hl htb
  have hown : s.vm.findClass RL = some m.cls := hown
  have hl : lv_has ls 7 [(0, .ref a0), (1, .int x0), (2, .int x1), (3, .int x2), (4, .int x3), (5, .ref b0)] := hl
  refine lv_aload hx hb dL_setGovernor_0 (lv_at hl 5 rfl) ?_
  refine lv_iconst (v := 0) hx hb dL_setGovernor_2 (by decide) ?_
  refine lv_aload_n hx hb dL_setGovernor_3 rfl (lv_at hl 0 rfl) ?_
  refine lv_iload_n hx hb dL_setGovernor_4 rfl (lv_at hl 1 rfl) ?_
  refine lv_iload_n hx hb dL_setGovernor_5 rfl (lv_at hl 2 rfl) ?_
  refine lv_iload_n hx hb dL_setGovernor_6 rfl (lv_at hl 3 rfl) ?_
  refine lv_iload hx hb dL_setGovernor_7 (lv_at hl 4 rfl) ?_
  refine cx_catch (isC := []) (isR := [0]) (wr := [(a0, .inr (14, [v0, v1, v2, v3, v4, v5, v6]))]) (hp := []) (z := (0, 14, 17, 13)) (hq := []) (name := "java/lang/IllegalArgumentException") (own := RL) (rx_V (ci := 14) (q0 := 0) (isC := []) (wc := []) (As := [.int x0, .int x1, .int x2, .int x3]) (rest := [.int 0, .ref b0]) (n := 4) hx hb hml hown hts hE hS hP hD hA hl.1 (k575_X9_setGovernor l hst D cy g x0 x1 x2 x3 a0 s.heap.size h0 h1) rfl rfl rfl rfl rfl ax_402 rfl rfl ax_403 ⟨Nat.le_of_ble_eq_true rfl, Nat.le_of_ble_eq_true rfl⟩ rfl rfl (Nat.le_of_ble_eq_true rfl) dL_setGovernor_9 ⟨(Nat.le_of_ble_eq_true rfl), (Nat.le_of_ble_eq_true rfl)⟩) hP hD hS hA hown hts hE htb rfl rfl rfl rfl (by decide) (fun z hz => by cases hz) (by decide) (by decide) tw_302 tw_303 (fun qx H locs hP hD hS => ?_)
  have hP : va_P D vwCl [(a0, .inr (14, [v0, v1, v2, v3, v4, v5, v6]))] H := hP
  have hD : va_D A [(a0, .inr (14, [v0, v1, v2, v3, v4, v5, v6]))] := hD
  refine lv_astore (lv' := [(6, .ref qx), (0, .ref a0), (1, .int x0), (2, .int x1), (3, .int x2), (4, .int x3), (5, .ref b0)]) hx hb dL_setGovernor_17 hl (Nat.le_of_ble_eq_true rfl) rfl (fun ls hl => ?_)
  refine lv_iconst (v := 1) hx hb dL_setGovernor_19 (by decide) ?_
  exact en_z hx hb hr hlk hP hD hS rfl (fun _ => 0) (is := []) rfl rfl (Nat.le_of_ble_eq_true rfl) (Nat.le_of_ble_eq_true rfl) dL_setGovernor_20
set_option maxHeartbeats 4000000 in
set_option maxRecDepth 100000 in
theorem k577_X10_setGovernor (l : Launch) (D : va_G) (cy : Nat → ClassId) (g : Nat → Nat) (x0 : Int32) (x1 : Int32) (x2 : Int32) (x3 : Int32) (a0 : Nat) (v0 : Value) (v1 : Value) (v2 : Value) (v3 : Value) (v4 : Value) (v5 : Value) (v6 : Value) (v7 : Value) (v8 : Value) (v9 : Value) (v10 : Value) (v11 : Value) (v12 : Value) (v13 : Value) (v14 : Value) (v15 : Value) (v16 : Value) (v17 : Value) (v18 : Value) (v19 : Value) (v20 : Value) (v21 : Value) (v22 : Value) (v23 : Value) (v24 : Value) (v25 : Value) (v26 : Value) (v27 : Value) (sz : Nat) (h0 : ¬ x0 < 0) (h1 : (3000 : Int32) < x0) : Met l yX10_setGovernor [.code yX10_setGovernor cX10_setGovernor 6 (some .int)] ({ frames := 1, cells := 0, slots := 0, locals := 25 }) (PC D cy g [(a0, .inr (15, [v0, v1, v2, v3, v4, v5, v6, v7, v8, v9, v10, v11, v12, v13, v14, v15, v16, v17, v18, v19, v20, v21, v22, v23, v24, v25, v26, v27]))] sz [.ref a0, .int x0, .int x1, .int x2, .int x3]) (QI D (-1) (fun ad => [(a0, .inr (15, [.int 1, v1, v2, v3, v4, v5, v6, v7, v8, v9, v10, v11, v12, v13, v14, v15, v16, v17, v18, v19, v20, v21, v22, v23, v24, v25, v26, v27]))]) (va_A [(a0, .inr (15, [v0, v1, v2, v3, v4, v5, v6, v7, v8, v9, v10, v11, v12, v13, v14, v15, v16, v17, v18, v19, v20, v21, v22, v23, v24, v25, v26, v27]))] sz)) 0 0 (va_A [(a0, .inr (15, [v0, v1, v2, v3, v4, v5, v6, v7, v8, v9, v10, v11, v12, v13, v14, v15, v16, v17, v18, v19, v20, v21, v22, v23, v24, v25, v26, v27]))] sz) := by
  refine st_I (by decide) (Nat.le_of_ble_eq_true rfl) ?_
  intro p e s m args below meth c A ls hx hb hr hml hown hlk hnm hsz hP hD hA hE hts hS hl
  have hown : s.vm.findClass RX10 = some m.cls := hown
  have hl : lv_has ls 6 [(0, .ref a0), (1, .int x0), (2, .int x1), (3, .int x2), (4, .int x3)] := hl
  refine lv_aload_n hx hb dX10_setGovernor_0 rfl (lv_at hl 0 rfl) ?_
  refine ca_v (isC := [0]) (isR := []) (wr := []) (rn_V (ci := 15) (q0 := 0) (isC := [0]) (wc := [(a0, .inr (15, [v0, v1, v2, v3, v4, v5, v6, v7, v8, v9, v10, v11, v12, v13, v14, v15, v16, v17, v18, v19, v20, v21, v22, v23, v24, v25, v26, v27]))]) (As := []) (rest := []) (n := 0) hx hb hml hown hts hE hS hP hD hA hl.1 (k20_X10_begins l D cy g a0 (v0) (v1) (v2) (v3) (v4) (v5) (v6) (v7) (v8) (v9) (v10) (v11) (v12) (v13) (v14) (v15) (v16) (v17) (v18) (v19) (v20) (v21) (v22) (v23) (v24) (v25) (v26) (v27) s.heap.size ) rfl rfl rfl rfl rfl ax_37 rfl rfl ax_38 ⟨Nat.le_of_ble_eq_true rfl, Nat.le_of_ble_eq_true rfl⟩ rfl rfl (Nat.le_of_ble_eq_true rfl) dX10_setGovernor_1 ⟨(Nat.le_of_ble_eq_true rfl), (Nat.le_of_ble_eq_true rfl)⟩) hP hD hS hA rfl rfl rfl (by decide) (fun ad1 H locs hP hD hS => ?_)
  have hP : va_P D vwCl [(a0, .inr (15, [.int 0, v1, v2, v3, v4, v5, v6, v7, v8, v9, v10, v11, v12, v13, v14, v15, v16, v17, v18, v19, v20, v21, v22, v23, v24, v25, v26, v27]))] H := hP
  have hD : va_D A [(a0, .inr (15, [.int 0, v1, v2, v3, v4, v5, v6, v7, v8, v9, v10, v11, v12, v13, v14, v15, v16, v17, v18, v19, v20, v21, v22, v23, v24, v25, v26, v27]))] := hD
  refine lv_aload_n hx hb dX10_setGovernor_4 rfl (lv_at hl 0 rfl) ?_
  refine lv_iload_n hx hb dX10_setGovernor_5 rfl (lv_at hl 1 rfl) ?_
  refine lv_i2l (v := x0.toInt64) hx hb dX10_setGovernor_6 rfl ?_
  refine lv_lconst (v := 0) hx hb dX10_setGovernor_7 (by decide) ?_
  refine lv_ldc2 (v := 3000) hx hb hown (hts _ tw_1088) dX10_setGovernor_8 ?_
  refine ca_i (isC := []) (isR := [0]) (wr := [(a0, .inr (15, [.int 0, v1, v2, v3, v4, v5, v6, v7, v8, v9, v10, v11, v12, v13, v14, v15, v16, v17, v18, v19, v20, v21, v22, v23, v24, v25, v26, v27]))]) (rn_S (isC := []) (wc := []) (As := [.long x0.toInt64, .long 0, .long 3000]) (rest := [.ref a0]) (n := 3) hx hb hml hown hts hE hS hP hD hA hl.1 (k28_X10_in l D cy g x0.toInt64 0 3000 H.size (wl_nlt rfl (by decide) h0) (wl_lt (by decide) rfl h1)) rfl rfl ax_39 rfl rfl ax_40 ⟨Nat.le_of_ble_eq_true rfl, Nat.le_of_ble_eq_true rfl⟩ rfl rfl (Nat.le_of_ble_eq_true rfl) dX10_setGovernor_11 ⟨(Nat.le_of_ble_eq_true rfl), (Nat.le_of_ble_eq_true rfl)⟩) hP hD hS hA rfl rfl rfl (by decide) (fun ad11 H locs hP hD hS => ?_)
  have hP : va_P D vwCl [(a0, .inr (15, [.int 0, v1, v2, v3, v4, v5, v6, v7, v8, v9, v10, v11, v12, v13, v14, v15, v16, v17, v18, v19, v20, v21, v22, v23, v24, v25, v26, v27]))] H := hP
  have hD : va_D A [(a0, .inr (15, [.int 0, v1, v2, v3, v4, v5, v6, v7, v8, v9, v10, v11, v12, v13, v14, v15, v16, v17, v18, v19, v20, v21, v22, v23, v24, v25, v26, v27]))] := hD
  refine lv_if_eq (tgt := 54) hx hb dX10_setGovernor_14 (by decide) (fun _ => ?_) (fun z => absurd (by decide) z)
  refine lv_iconst (v := 1) hx hb dX10_setGovernor_54 (by decide) ?_
  refine lv_goto (tgt := 59) hx hb dX10_setGovernor_55 (by decide) ?_
  refine lv_iconst (v := 1) hx hb dX10_setGovernor_59 (by decide) ?_
  refine ca_i (isC := [0]) (isR := []) (wr := []) (rn_V (ci := 15) (q0 := 0) (isC := [0]) (wc := [(a0, .inr (15, [.int 0, v1, v2, v3, v4, v5, v6, v7, v8, v9, v10, v11, v12, v13, v14, v15, v16, v17, v18, v19, v20, v21, v22, v23, v24, v25, v26, v27]))]) (As := [.int 1, .int 1]) (rest := []) (n := 2) hx hb hml hown hts hE hS hP hD hA hl.1 (k22_X10_fails l D cy g a0 (v1) (v2) (v3) (v4) (v5) (v6) (v7) (v8) (v9) (v10) (v11) (v12) (v13) (v14) (v15) (v16) (v17) (v18) (v19) (v20) (v21) (v22) (v23) (v24) (v25) (v26) (v27) H.size ) rfl rfl rfl rfl rfl ax_41 rfl rfl ax_42 ⟨Nat.le_of_ble_eq_true rfl, Nat.le_of_ble_eq_true rfl⟩ rfl rfl (Nat.le_of_ble_eq_true rfl) dX10_setGovernor_60 ⟨(Nat.le_of_ble_eq_true rfl), (Nat.le_of_ble_eq_true rfl)⟩) hP hD hS hA rfl rfl rfl (by decide) (fun ad60 H locs hP hD hS => ?_)
  have hP : va_P D vwCl [(a0, .inr (15, [.int 1, v1, v2, v3, v4, v5, v6, v7, v8, v9, v10, v11, v12, v13, v14, v15, v16, v17, v18, v19, v20, v21, v22, v23, v24, v25, v26, v27]))] H := hP
  have hD : va_D A [(a0, .inr (15, [.int 1, v1, v2, v3, v4, v5, v6, v7, v8, v9, v10, v11, v12, v13, v14, v15, v16, v17, v18, v19, v20, v21, v22, v23, v24, v25, v26, v27]))] := hD
  refine lv_if_eq (tgt := 68) hx hb dX10_setGovernor_63 (by decide) (fun z => absurd z (by decide)) (fun _ => ?_)
  refine lv_iconst (v := (-1)) hx hb dX10_setGovernor_66 (by decide) ?_
  exact en_z hx hb hr hlk hP hD hS rfl (fun _ => 0) (is := [0]) rfl rfl (Nat.le_of_ble_eq_true rfl) (Nat.le_of_ble_eq_true rfl) dX10_setGovernor_67
set_option maxHeartbeats 4000000 in
set_option maxRecDepth 100000 in
theorem k578_X9_setGovernor (l : Launch) (hst : l.stackTraces = false) (D : va_G) (cy : Nat → ClassId) (g : Nat → Nat) (x0 : Int32) (x1 : Int32) (x2 : Int32) (x3 : Int32) (b0 : Nat) (sz : Nat) (h0 : ¬ x0 < 0) (h1 : ¬ (3000 : Int32) < x0) (h2 : x1 < 0) : vx_Met l yX9_setGovernor [.code yX9_setGovernor cX9_setGovernor 6 (some .int)] ({ frames := 6, cells := 1, slots := 6, locals := 82 }) (PC D cy g [] sz [.ref b0, .int x0, .int x1, .int x2, .int x3]) QN (XE "java/lang/IllegalArgumentException" (va_A [] sz)) 1 6 (va_A [] sz) := by
  refine st_X (by decide) (Nat.le_of_ble_eq_true rfl) ?_
  intro p e s m args below meth c A ls hx hb hr hml hown hlk hnm hsz hP hD hA hE hts hS hl hout
  have hown : s.vm.findClass RX9 = some m.cls := hown
  have hl : lv_has ls 6 [(0, .ref b0), (1, .int x0), (2, .int x1), (3, .int x2), (4, .int x3)] := hl
  refine lv_iload_n hx hb dX9_setGovernor_0 rfl (lv_at hl 1 rfl) ?_
  refine lv_iconst (v := 0) hx hb dX9_setGovernor_1 (by decide) ?_
  refine lv_sipush (v := 3000) hx hb dX9_setGovernor_2 (by decide) ?_
  refine ca_i (isC := []) (isR := []) (wr := []) (rn_S (isC := []) (wc := []) (As := [.int x0, .int 0, .int 3000]) (rest := []) (n := 3) hx hb hml hown hts hE hS hP hD hA hl.1 (k30_X9_isOutside l D cy g x0 0 3000 s.heap.size h0 h1) rfl rfl ax_30 rfl rfl ax_31 ⟨Nat.le_of_ble_eq_true rfl, Nat.le_of_ble_eq_true rfl⟩ rfl rfl (Nat.le_of_ble_eq_true rfl) dX9_setGovernor_5 ⟨(Nat.le_of_ble_eq_true rfl), (Nat.le_of_ble_eq_true rfl)⟩) hP hD hS hA rfl rfl rfl (by decide) (fun ad5 H locs hP hD hS => ?_)
  have hP : va_P D vwCl [] H := hP
  have hD : va_D A [] := hD
  refine lv_if_ne (tgt := 43) hx hb dX9_setGovernor_8 (by decide) (fun z => absurd (by decide) z) (fun _ => ?_)
  refine lv_iload_n hx hb dX9_setGovernor_11 rfl (lv_at hl 2 rfl) ?_
  refine lv_iconst (v := 0) hx hb dX9_setGovernor_12 (by decide) ?_
  refine lv_bipush (v := 100) hx hb dX9_setGovernor_13 (by decide) ?_
  refine ca_i (isC := []) (isR := []) (wr := []) (rn_S (isC := []) (wc := []) (As := [.int x1, .int 0, .int 100]) (rest := []) (n := 3) hx hb hml hown hts hE hS hP hD hA hl.1 (k17_X9_isOutside l D cy g x1 0 100 H.size h2) rfl rfl ax_30 rfl rfl ax_31 ⟨Nat.le_of_ble_eq_true rfl, Nat.le_of_ble_eq_true rfl⟩ rfl rfl (Nat.le_of_ble_eq_true rfl) dX9_setGovernor_15 ⟨(Nat.le_of_ble_eq_true rfl), (Nat.le_of_ble_eq_true rfl)⟩) hP hD hS hA rfl rfl rfl (by decide) (fun ad15 H locs hP hD hS => ?_)
  have hP : va_P D vwCl [] H := hP
  have hD : va_D A [] := hD
  refine lv_if_ne (tgt := 43) hx hb dX9_setGovernor_18 (by decide) (fun _ => ?_) (fun z => absurd z (by decide))
  exact th_S (text := "a number is out of range") hx hb hst hown hts hE hS (hl.1.trans hml.symm) hout hlk (by decide +kernel) tw_296 tw_297 ax_32 (by decide +kernel) dX9_setGovernor_43 dX9_setGovernor_46 dX9_setGovernor_47 dX9_setGovernor_49 dX9_setGovernor_52 ⟨Nat.le_of_ble_eq_true rfl, Nat.le_of_ble_eq_true rfl, Nat.le_of_ble_eq_true rfl, Nat.le_of_ble_eq_true rfl⟩ (Nat.le_of_ble_eq_true rfl) (Nat.le_of_ble_eq_true rfl)
set_option maxHeartbeats 4000000 in
set_option maxRecDepth 100000 in
theorem k579_L_setGovernor (l : Launch) (hst : l.stackTraces = false) (D : va_G) (cy : Nat → ClassId) (g : Nat → Nat) (x0 : Int32) (x1 : Int32) (x2 : Int32) (x3 : Int32) (a0 : Nat) (b0 : Nat) (v0 : Value) (v1 : Value) (v2 : Value) (v3 : Value) (v4 : Value) (v5 : Value) (v6 : Value) (sz : Nat) (h0 : ¬ x0 < 0) (h1 : ¬ (3000 : Int32) < x0) (h2 : x1 < 0) : Met l yL_setGovernor [.codeWith yL_setGovernor cL_setGovernor 7 (some .int) [(0, 14, 17, 13)]] ({ frames := 7, cells := 1, slots := 6, locals := 107 }) (PC D cy g [(a0, .inr (14, [v0, v1, v2, v3, v4, v5, v6]))] sz [.ref a0, .int x0, .int x1, .int x2, .int x3, .ref b0]) (QI D 1 (fun ad => []) (va_A [(a0, .inr (14, [v0, v1, v2, v3, v4, v5, v6]))] sz)) 1 6 (va_A [(a0, .inr (14, [v0, v1, v2, v3, v4, v5, v6]))] sz) := by
  refine sh_I (by decide) (Nat.le_of_ble_eq_true rfl) ?_
  intro p e s m args below meth c A ls hx hb hr hml hown hlk hnm hsz hP hD hA hE hts hS hl htb
  have hown : s.vm.findClass RL = some m.cls := hown
  have hl : lv_has ls 7 [(0, .ref a0), (1, .int x0), (2, .int x1), (3, .int x2), (4, .int x3), (5, .ref b0)] := hl
  refine lv_aload hx hb dL_setGovernor_0 (lv_at hl 5 rfl) ?_
  refine lv_iconst (v := 0) hx hb dL_setGovernor_2 (by decide) ?_
  refine lv_aload_n hx hb dL_setGovernor_3 rfl (lv_at hl 0 rfl) ?_
  refine lv_iload_n hx hb dL_setGovernor_4 rfl (lv_at hl 1 rfl) ?_
  refine lv_iload_n hx hb dL_setGovernor_5 rfl (lv_at hl 2 rfl) ?_
  refine lv_iload_n hx hb dL_setGovernor_6 rfl (lv_at hl 3 rfl) ?_
  refine lv_iload hx hb dL_setGovernor_7 (lv_at hl 4 rfl) ?_
  refine cx_catch (isC := []) (isR := [0]) (wr := [(a0, .inr (14, [v0, v1, v2, v3, v4, v5, v6]))]) (hp := []) (z := (0, 14, 17, 13)) (hq := []) (name := "java/lang/IllegalArgumentException") (own := RL) (rx_V (ci := 14) (q0 := 0) (isC := []) (wc := []) (As := [.int x0, .int x1, .int x2, .int x3]) (rest := [.int 0, .ref b0]) (n := 4) hx hb hml hown hts hE hS hP hD hA hl.1 (k578_X9_setGovernor l hst D cy g x0 x1 x2 x3 a0 s.heap.size h0 h1 h2) rfl rfl rfl rfl rfl ax_402 rfl rfl ax_403 ⟨Nat.le_of_ble_eq_true rfl, Nat.le_of_ble_eq_true rfl⟩ rfl rfl (Nat.le_of_ble_eq_true rfl) dL_setGovernor_9 ⟨(Nat.le_of_ble_eq_true rfl), (Nat.le_of_ble_eq_true rfl)⟩) hP hD hS hA hown hts hE htb rfl rfl rfl rfl (by decide) (fun z hz => by cases hz) (by decide) (by decide) tw_302 tw_303 (fun qx H locs hP hD hS => ?_)
  have hP : va_P D vwCl [(a0, .inr (14, [v0, v1, v2, v3, v4, v5, v6]))] H := hP
  have hD : va_D A [(a0, .inr (14, [v0, v1, v2, v3, v4, v5, v6]))] := hD
  refine lv_astore (lv' := [(6, .ref qx), (0, .ref a0), (1, .int x0), (2, .int x1), (3, .int x2), (4, .int x3), (5, .ref b0)]) hx hb dL_setGovernor_17 hl (Nat.le_of_ble_eq_true rfl) rfl (fun ls hl => ?_)
  refine lv_iconst (v := 1) hx hb dL_setGovernor_19 (by decide) ?_
  exact en_z hx hb hr hlk hP hD hS rfl (fun _ => 0) (is := []) rfl rfl (Nat.le_of_ble_eq_true rfl) (Nat.le_of_ble_eq_true rfl) dL_setGovernor_20
set_option maxHeartbeats 4000000 in
set_option maxRecDepth 100000 in
theorem k580_X10_setGovernor (l : Launch) (D : va_G) (cy : Nat → ClassId) (g : Nat → Nat) (x0 : Int32) (x1 : Int32) (x2 : Int32) (x3 : Int32) (a0 : Nat) (v0 : Value) (v1 : Value) (v2 : Value) (v3 : Value) (v4 : Value) (v5 : Value) (v6 : Value) (v7 : Value) (v8 : Value) (v9 : Value) (v10 : Value) (v11 : Value) (v12 : Value) (v13 : Value) (v14 : Value) (v15 : Value) (v16 : Value) (v17 : Value) (v18 : Value) (v19 : Value) (v20 : Value) (v21 : Value) (v22 : Value) (v23 : Value) (v24 : Value) (v25 : Value) (v26 : Value) (v27 : Value) (sz : Nat) (h0 : ¬ x0 < 0) (h1 : ¬ (3000 : Int32) < x0) (h2 : x1 < 0) : Met l yX10_setGovernor [.code yX10_setGovernor cX10_setGovernor 6 (some .int)] ({ frames := 1, cells := 0, slots := 0, locals := 25 }) (PC D cy g [(a0, .inr (15, [v0, v1, v2, v3, v4, v5, v6, v7, v8, v9, v10, v11, v12, v13, v14, v15, v16, v17, v18, v19, v20, v21, v22, v23, v24, v25, v26, v27]))] sz [.ref a0, .int x0, .int x1, .int x2, .int x3]) (QI D (-1) (fun ad => [(a0, .inr (15, [.int 1, v1, v2, v3, v4, v5, v6, v7, v8, v9, v10, v11, v12, v13, v14, v15, v16, v17, v18, v19, v20, v21, v22, v23, v24, v25, v26, v27]))]) (va_A [(a0, .inr (15, [v0, v1, v2, v3, v4, v5, v6, v7, v8, v9, v10, v11, v12, v13, v14, v15, v16, v17, v18, v19, v20, v21, v22, v23, v24, v25, v26, v27]))] sz)) 0 0 (va_A [(a0, .inr (15, [v0, v1, v2, v3, v4, v5, v6, v7, v8, v9, v10, v11, v12, v13, v14, v15, v16, v17, v18, v19, v20, v21, v22, v23, v24, v25, v26, v27]))] sz) := by
  refine st_I (by decide) (Nat.le_of_ble_eq_true rfl) ?_
  intro p e s m args below meth c A ls hx hb hr hml hown hlk hnm hsz hP hD hA hE hts hS hl
  have hown : s.vm.findClass RX10 = some m.cls := hown
  have hl : lv_has ls 6 [(0, .ref a0), (1, .int x0), (2, .int x1), (3, .int x2), (4, .int x3)] := hl
  refine lv_aload_n hx hb dX10_setGovernor_0 rfl (lv_at hl 0 rfl) ?_
  refine ca_v (isC := [0]) (isR := []) (wr := []) (rn_V (ci := 15) (q0 := 0) (isC := [0]) (wc := [(a0, .inr (15, [v0, v1, v2, v3, v4, v5, v6, v7, v8, v9, v10, v11, v12, v13, v14, v15, v16, v17, v18, v19, v20, v21, v22, v23, v24, v25, v26, v27]))]) (As := []) (rest := []) (n := 0) hx hb hml hown hts hE hS hP hD hA hl.1 (k20_X10_begins l D cy g a0 (v0) (v1) (v2) (v3) (v4) (v5) (v6) (v7) (v8) (v9) (v10) (v11) (v12) (v13) (v14) (v15) (v16) (v17) (v18) (v19) (v20) (v21) (v22) (v23) (v24) (v25) (v26) (v27) s.heap.size ) rfl rfl rfl rfl rfl ax_37 rfl rfl ax_38 ⟨Nat.le_of_ble_eq_true rfl, Nat.le_of_ble_eq_true rfl⟩ rfl rfl (Nat.le_of_ble_eq_true rfl) dX10_setGovernor_1 ⟨(Nat.le_of_ble_eq_true rfl), (Nat.le_of_ble_eq_true rfl)⟩) hP hD hS hA rfl rfl rfl (by decide) (fun ad1 H locs hP hD hS => ?_)
  have hP : va_P D vwCl [(a0, .inr (15, [.int 0, v1, v2, v3, v4, v5, v6, v7, v8, v9, v10, v11, v12, v13, v14, v15, v16, v17, v18, v19, v20, v21, v22, v23, v24, v25, v26, v27]))] H := hP
  have hD : va_D A [(a0, .inr (15, [.int 0, v1, v2, v3, v4, v5, v6, v7, v8, v9, v10, v11, v12, v13, v14, v15, v16, v17, v18, v19, v20, v21, v22, v23, v24, v25, v26, v27]))] := hD
  refine lv_aload_n hx hb dX10_setGovernor_4 rfl (lv_at hl 0 rfl) ?_
  refine lv_iload_n hx hb dX10_setGovernor_5 rfl (lv_at hl 1 rfl) ?_
  refine lv_i2l (v := x0.toInt64) hx hb dX10_setGovernor_6 rfl ?_
  refine lv_lconst (v := 0) hx hb dX10_setGovernor_7 (by decide) ?_
  refine lv_ldc2 (v := 3000) hx hb hown (hts _ tw_1088) dX10_setGovernor_8 ?_
  refine ca_i (isC := []) (isR := [0]) (wr := [(a0, .inr (15, [.int 0, v1, v2, v3, v4, v5, v6, v7, v8, v9, v10, v11, v12, v13, v14, v15, v16, v17, v18, v19, v20, v21, v22, v23, v24, v25, v26, v27]))]) (rn_S (isC := []) (wc := []) (As := [.long x0.toInt64, .long 0, .long 3000]) (rest := [.ref a0]) (n := 3) hx hb hml hown hts hE hS hP hD hA hl.1 (k33_X10_in l D cy g x0.toInt64 0 3000 H.size (wl_nlt rfl (by decide) h0) (wl_nlt (by decide) rfl h1)) rfl rfl ax_39 rfl rfl ax_40 ⟨Nat.le_of_ble_eq_true rfl, Nat.le_of_ble_eq_true rfl⟩ rfl rfl (Nat.le_of_ble_eq_true rfl) dX10_setGovernor_11 ⟨(Nat.le_of_ble_eq_true rfl), (Nat.le_of_ble_eq_true rfl)⟩) hP hD hS hA rfl rfl rfl (by decide) (fun ad11 H locs hP hD hS => ?_)
  have hP : va_P D vwCl [(a0, .inr (15, [.int 0, v1, v2, v3, v4, v5, v6, v7, v8, v9, v10, v11, v12, v13, v14, v15, v16, v17, v18, v19, v20, v21, v22, v23, v24, v25, v26, v27]))] H := hP
  have hD : va_D A [(a0, .inr (15, [.int 0, v1, v2, v3, v4, v5, v6, v7, v8, v9, v10, v11, v12, v13, v14, v15, v16, v17, v18, v19, v20, v21, v22, v23, v24, v25, v26, v27]))] := hD
  refine lv_if_eq (tgt := 54) hx hb dX10_setGovernor_14 (by decide) (fun z => absurd z (by decide)) (fun _ => ?_)
  refine lv_iload_n hx hb dX10_setGovernor_17 rfl (lv_at hl 2 rfl) ?_
  refine lv_i2l (v := x1.toInt64) hx hb dX10_setGovernor_18 rfl ?_
  refine lv_lconst (v := 0) hx hb dX10_setGovernor_19 (by decide) ?_
  refine lv_ldc2 (v := 100) hx hb hown (hts _ tw_681) dX10_setGovernor_20 ?_
  refine ca_i (isC := []) (isR := [0]) (wr := [(a0, .inr (15, [.int 0, v1, v2, v3, v4, v5, v6, v7, v8, v9, v10, v11, v12, v13, v14, v15, v16, v17, v18, v19, v20, v21, v22, v23, v24, v25, v26, v27]))]) (rn_S (isC := []) (wc := []) (As := [.long x1.toInt64, .long 0, .long 100]) (rest := [.ref a0]) (n := 3) hx hb hml hown hts hE hS hP hD hA hl.1 (k21_X10_in l D cy g x1.toInt64 0 100 H.size (wl_lt rfl (by decide) h2)) rfl rfl ax_39 rfl rfl ax_40 ⟨Nat.le_of_ble_eq_true rfl, Nat.le_of_ble_eq_true rfl⟩ rfl rfl (Nat.le_of_ble_eq_true rfl) dX10_setGovernor_23 ⟨(Nat.le_of_ble_eq_true rfl), (Nat.le_of_ble_eq_true rfl)⟩) hP hD hS hA rfl rfl rfl (by decide) (fun ad23 H locs hP hD hS => ?_)
  have hP : va_P D vwCl [(a0, .inr (15, [.int 0, v1, v2, v3, v4, v5, v6, v7, v8, v9, v10, v11, v12, v13, v14, v15, v16, v17, v18, v19, v20, v21, v22, v23, v24, v25, v26, v27]))] H := hP
  have hD : va_D A [(a0, .inr (15, [.int 0, v1, v2, v3, v4, v5, v6, v7, v8, v9, v10, v11, v12, v13, v14, v15, v16, v17, v18, v19, v20, v21, v22, v23, v24, v25, v26, v27]))] := hD
  refine lv_if_eq (tgt := 54) hx hb dX10_setGovernor_26 (by decide) (fun _ => ?_) (fun z => absurd (by decide) z)
  refine lv_iconst (v := 1) hx hb dX10_setGovernor_54 (by decide) ?_
  refine lv_goto (tgt := 59) hx hb dX10_setGovernor_55 (by decide) ?_
  refine lv_iconst (v := 1) hx hb dX10_setGovernor_59 (by decide) ?_
  refine ca_i (isC := [0]) (isR := []) (wr := []) (rn_V (ci := 15) (q0 := 0) (isC := [0]) (wc := [(a0, .inr (15, [.int 0, v1, v2, v3, v4, v5, v6, v7, v8, v9, v10, v11, v12, v13, v14, v15, v16, v17, v18, v19, v20, v21, v22, v23, v24, v25, v26, v27]))]) (As := [.int 1, .int 1]) (rest := []) (n := 2) hx hb hml hown hts hE hS hP hD hA hl.1 (k22_X10_fails l D cy g a0 (v1) (v2) (v3) (v4) (v5) (v6) (v7) (v8) (v9) (v10) (v11) (v12) (v13) (v14) (v15) (v16) (v17) (v18) (v19) (v20) (v21) (v22) (v23) (v24) (v25) (v26) (v27) H.size ) rfl rfl rfl rfl rfl ax_41 rfl rfl ax_42 ⟨Nat.le_of_ble_eq_true rfl, Nat.le_of_ble_eq_true rfl⟩ rfl rfl (Nat.le_of_ble_eq_true rfl) dX10_setGovernor_60 ⟨(Nat.le_of_ble_eq_true rfl), (Nat.le_of_ble_eq_true rfl)⟩) hP hD hS hA rfl rfl rfl (by decide) (fun ad60 H locs hP hD hS => ?_)
  have hP : va_P D vwCl [(a0, .inr (15, [.int 1, v1, v2, v3, v4, v5, v6, v7, v8, v9, v10, v11, v12, v13, v14, v15, v16, v17, v18, v19, v20, v21, v22, v23, v24, v25, v26, v27]))] H := hP
  have hD : va_D A [(a0, .inr (15, [.int 1, v1, v2, v3, v4, v5, v6, v7, v8, v9, v10, v11, v12, v13, v14, v15, v16, v17, v18, v19, v20, v21, v22, v23, v24, v25, v26, v27]))] := hD
  refine lv_if_eq (tgt := 68) hx hb dX10_setGovernor_63 (by decide) (fun z => absurd z (by decide)) (fun _ => ?_)
  refine lv_iconst (v := (-1)) hx hb dX10_setGovernor_66 (by decide) ?_
  exact en_z hx hb hr hlk hP hD hS rfl (fun _ => 0) (is := [0]) rfl rfl (Nat.le_of_ble_eq_true rfl) (Nat.le_of_ble_eq_true rfl) dX10_setGovernor_67
set_option maxHeartbeats 4000000 in
set_option maxRecDepth 100000 in
theorem k581_X9_setGovernor (l : Launch) (hst : l.stackTraces = false) (D : va_G) (cy : Nat → ClassId) (g : Nat → Nat) (x0 : Int32) (x1 : Int32) (x2 : Int32) (x3 : Int32) (b0 : Nat) (sz : Nat) (h0 : ¬ x0 < 0) (h1 : ¬ (3000 : Int32) < x0) (h2 : ¬ x1 < 0) (h3 : (100 : Int32) < x1) : vx_Met l yX9_setGovernor [.code yX9_setGovernor cX9_setGovernor 6 (some .int)] ({ frames := 6, cells := 1, slots := 6, locals := 82 }) (PC D cy g [] sz [.ref b0, .int x0, .int x1, .int x2, .int x3]) QN (XE "java/lang/IllegalArgumentException" (va_A [] sz)) 1 6 (va_A [] sz) := by
  refine st_X (by decide) (Nat.le_of_ble_eq_true rfl) ?_
  intro p e s m args below meth c A ls hx hb hr hml hown hlk hnm hsz hP hD hA hE hts hS hl hout
  have hown : s.vm.findClass RX9 = some m.cls := hown
  have hl : lv_has ls 6 [(0, .ref b0), (1, .int x0), (2, .int x1), (3, .int x2), (4, .int x3)] := hl
  refine lv_iload_n hx hb dX9_setGovernor_0 rfl (lv_at hl 1 rfl) ?_
  refine lv_iconst (v := 0) hx hb dX9_setGovernor_1 (by decide) ?_
  refine lv_sipush (v := 3000) hx hb dX9_setGovernor_2 (by decide) ?_
  refine ca_i (isC := []) (isR := []) (wr := []) (rn_S (isC := []) (wc := []) (As := [.int x0, .int 0, .int 3000]) (rest := []) (n := 3) hx hb hml hown hts hE hS hP hD hA hl.1 (k30_X9_isOutside l D cy g x0 0 3000 s.heap.size h0 h1) rfl rfl ax_30 rfl rfl ax_31 ⟨Nat.le_of_ble_eq_true rfl, Nat.le_of_ble_eq_true rfl⟩ rfl rfl (Nat.le_of_ble_eq_true rfl) dX9_setGovernor_5 ⟨(Nat.le_of_ble_eq_true rfl), (Nat.le_of_ble_eq_true rfl)⟩) hP hD hS hA rfl rfl rfl (by decide) (fun ad5 H locs hP hD hS => ?_)
  have hP : va_P D vwCl [] H := hP
  have hD : va_D A [] := hD
  refine lv_if_ne (tgt := 43) hx hb dX9_setGovernor_8 (by decide) (fun z => absurd (by decide) z) (fun _ => ?_)
  refine lv_iload_n hx hb dX9_setGovernor_11 rfl (lv_at hl 2 rfl) ?_
  refine lv_iconst (v := 0) hx hb dX9_setGovernor_12 (by decide) ?_
  refine lv_bipush (v := 100) hx hb dX9_setGovernor_13 (by decide) ?_
  refine ca_i (isC := []) (isR := []) (wr := []) (rn_S (isC := []) (wc := []) (As := [.int x1, .int 0, .int 100]) (rest := []) (n := 3) hx hb hml hown hts hE hS hP hD hA hl.1 (k25_X9_isOutside l D cy g x1 0 100 H.size h2 h3) rfl rfl ax_30 rfl rfl ax_31 ⟨Nat.le_of_ble_eq_true rfl, Nat.le_of_ble_eq_true rfl⟩ rfl rfl (Nat.le_of_ble_eq_true rfl) dX9_setGovernor_15 ⟨(Nat.le_of_ble_eq_true rfl), (Nat.le_of_ble_eq_true rfl)⟩) hP hD hS hA rfl rfl rfl (by decide) (fun ad15 H locs hP hD hS => ?_)
  have hP : va_P D vwCl [] H := hP
  have hD : va_D A [] := hD
  refine lv_if_ne (tgt := 43) hx hb dX9_setGovernor_18 (by decide) (fun _ => ?_) (fun z => absurd z (by decide))
  exact th_S (text := "a number is out of range") hx hb hst hown hts hE hS (hl.1.trans hml.symm) hout hlk (by decide +kernel) tw_296 tw_297 ax_32 (by decide +kernel) dX9_setGovernor_43 dX9_setGovernor_46 dX9_setGovernor_47 dX9_setGovernor_49 dX9_setGovernor_52 ⟨Nat.le_of_ble_eq_true rfl, Nat.le_of_ble_eq_true rfl, Nat.le_of_ble_eq_true rfl, Nat.le_of_ble_eq_true rfl⟩ (Nat.le_of_ble_eq_true rfl) (Nat.le_of_ble_eq_true rfl)
set_option maxHeartbeats 4000000 in
set_option maxRecDepth 100000 in
theorem k582_L_setGovernor (l : Launch) (hst : l.stackTraces = false) (D : va_G) (cy : Nat → ClassId) (g : Nat → Nat) (x0 : Int32) (x1 : Int32) (x2 : Int32) (x3 : Int32) (a0 : Nat) (b0 : Nat) (v0 : Value) (v1 : Value) (v2 : Value) (v3 : Value) (v4 : Value) (v5 : Value) (v6 : Value) (sz : Nat) (h0 : ¬ x0 < 0) (h1 : ¬ (3000 : Int32) < x0) (h2 : ¬ x1 < 0) (h3 : (100 : Int32) < x1) : Met l yL_setGovernor [.codeWith yL_setGovernor cL_setGovernor 7 (some .int) [(0, 14, 17, 13)]] ({ frames := 7, cells := 1, slots := 6, locals := 107 }) (PC D cy g [(a0, .inr (14, [v0, v1, v2, v3, v4, v5, v6]))] sz [.ref a0, .int x0, .int x1, .int x2, .int x3, .ref b0]) (QI D 1 (fun ad => []) (va_A [(a0, .inr (14, [v0, v1, v2, v3, v4, v5, v6]))] sz)) 1 6 (va_A [(a0, .inr (14, [v0, v1, v2, v3, v4, v5, v6]))] sz) := by
  refine sh_I (by decide) (Nat.le_of_ble_eq_true rfl) ?_
  intro p e s m args below meth c A ls hx hb hr hml hown hlk hnm hsz hP hD hA hE hts hS hl htb
  have hown : s.vm.findClass RL = some m.cls := hown
  have hl : lv_has ls 7 [(0, .ref a0), (1, .int x0), (2, .int x1), (3, .int x2), (4, .int x3), (5, .ref b0)] := hl
  refine lv_aload hx hb dL_setGovernor_0 (lv_at hl 5 rfl) ?_
  refine lv_iconst (v := 0) hx hb dL_setGovernor_2 (by decide) ?_
  refine lv_aload_n hx hb dL_setGovernor_3 rfl (lv_at hl 0 rfl) ?_
  refine lv_iload_n hx hb dL_setGovernor_4 rfl (lv_at hl 1 rfl) ?_
  refine lv_iload_n hx hb dL_setGovernor_5 rfl (lv_at hl 2 rfl) ?_
  refine lv_iload_n hx hb dL_setGovernor_6 rfl (lv_at hl 3 rfl) ?_
  refine lv_iload hx hb dL_setGovernor_7 (lv_at hl 4 rfl) ?_
  refine cx_catch (isC := []) (isR := [0]) (wr := [(a0, .inr (14, [v0, v1, v2, v3, v4, v5, v6]))]) (hp := []) (z := (0, 14, 17, 13)) (hq := []) (name := "java/lang/IllegalArgumentException") (own := RL) (rx_V (ci := 14) (q0 := 0) (isC := []) (wc := []) (As := [.int x0, .int x1, .int x2, .int x3]) (rest := [.int 0, .ref b0]) (n := 4) hx hb hml hown hts hE hS hP hD hA hl.1 (k581_X9_setGovernor l hst D cy g x0 x1 x2 x3 a0 s.heap.size h0 h1 h2 h3) rfl rfl rfl rfl rfl ax_402 rfl rfl ax_403 ⟨Nat.le_of_ble_eq_true rfl, Nat.le_of_ble_eq_true rfl⟩ rfl rfl (Nat.le_of_ble_eq_true rfl) dL_setGovernor_9 ⟨(Nat.le_of_ble_eq_true rfl), (Nat.le_of_ble_eq_true rfl)⟩) hP hD hS hA hown hts hE htb rfl rfl rfl rfl (by decide) (fun z hz => by cases hz) (by decide) (by decide) tw_302 tw_303 (fun qx H locs hP hD hS => ?_)
  have hP : va_P D vwCl [(a0, .inr (14, [v0, v1, v2, v3, v4, v5, v6]))] H := hP
  have hD : va_D A [(a0, .inr (14, [v0, v1, v2, v3, v4, v5, v6]))] := hD
  refine lv_astore (lv' := [(6, .ref qx), (0, .ref a0), (1, .int x0), (2, .int x1), (3, .int x2), (4, .int x3), (5, .ref b0)]) hx hb dL_setGovernor_17 hl (Nat.le_of_ble_eq_true rfl) rfl (fun ls hl => ?_)
  refine lv_iconst (v := 1) hx hb dL_setGovernor_19 (by decide) ?_
  exact en_z hx hb hr hlk hP hD hS rfl (fun _ => 0) (is := []) rfl rfl (Nat.le_of_ble_eq_true rfl) (Nat.le_of_ble_eq_true rfl) dL_setGovernor_20
set_option maxHeartbeats 4000000 in
set_option maxRecDepth 100000 in
theorem k583_X10_setGovernor (l : Launch) (D : va_G) (cy : Nat → ClassId) (g : Nat → Nat) (x0 : Int32) (x1 : Int32) (x2 : Int32) (x3 : Int32) (a0 : Nat) (v0 : Value) (v1 : Value) (v2 : Value) (v3 : Value) (v4 : Value) (v5 : Value) (v6 : Value) (v7 : Value) (v8 : Value) (v9 : Value) (v10 : Value) (v11 : Value) (v12 : Value) (v13 : Value) (v14 : Value) (v15 : Value) (v16 : Value) (v17 : Value) (v18 : Value) (v19 : Value) (v20 : Value) (v21 : Value) (v22 : Value) (v23 : Value) (v24 : Value) (v25 : Value) (v26 : Value) (v27 : Value) (sz : Nat) (h0 : ¬ x0 < 0) (h1 : ¬ (3000 : Int32) < x0) (h2 : ¬ x1 < 0) (h3 : (100 : Int32) < x1) : Met l yX10_setGovernor [.code yX10_setGovernor cX10_setGovernor 6 (some .int)] ({ frames := 1, cells := 0, slots := 0, locals := 25 }) (PC D cy g [(a0, .inr (15, [v0, v1, v2, v3, v4, v5, v6, v7, v8, v9, v10, v11, v12, v13, v14, v15, v16, v17, v18, v19, v20, v21, v22, v23, v24, v25, v26, v27]))] sz [.ref a0, .int x0, .int x1, .int x2, .int x3]) (QI D (-1) (fun ad => [(a0, .inr (15, [.int 1, v1, v2, v3, v4, v5, v6, v7, v8, v9, v10, v11, v12, v13, v14, v15, v16, v17, v18, v19, v20, v21, v22, v23, v24, v25, v26, v27]))]) (va_A [(a0, .inr (15, [v0, v1, v2, v3, v4, v5, v6, v7, v8, v9, v10, v11, v12, v13, v14, v15, v16, v17, v18, v19, v20, v21, v22, v23, v24, v25, v26, v27]))] sz)) 0 0 (va_A [(a0, .inr (15, [v0, v1, v2, v3, v4, v5, v6, v7, v8, v9, v10, v11, v12, v13, v14, v15, v16, v17, v18, v19, v20, v21, v22, v23, v24, v25, v26, v27]))] sz) := by
  refine st_I (by decide) (Nat.le_of_ble_eq_true rfl) ?_
  intro p e s m args below meth c A ls hx hb hr hml hown hlk hnm hsz hP hD hA hE hts hS hl
  have hown : s.vm.findClass RX10 = some m.cls := hown
  have hl : lv_has ls 6 [(0, .ref a0), (1, .int x0), (2, .int x1), (3, .int x2), (4, .int x3)] := hl
  refine lv_aload_n hx hb dX10_setGovernor_0 rfl (lv_at hl 0 rfl) ?_
  refine ca_v (isC := [0]) (isR := []) (wr := []) (rn_V (ci := 15) (q0 := 0) (isC := [0]) (wc := [(a0, .inr (15, [v0, v1, v2, v3, v4, v5, v6, v7, v8, v9, v10, v11, v12, v13, v14, v15, v16, v17, v18, v19, v20, v21, v22, v23, v24, v25, v26, v27]))]) (As := []) (rest := []) (n := 0) hx hb hml hown hts hE hS hP hD hA hl.1 (k20_X10_begins l D cy g a0 (v0) (v1) (v2) (v3) (v4) (v5) (v6) (v7) (v8) (v9) (v10) (v11) (v12) (v13) (v14) (v15) (v16) (v17) (v18) (v19) (v20) (v21) (v22) (v23) (v24) (v25) (v26) (v27) s.heap.size ) rfl rfl rfl rfl rfl ax_37 rfl rfl ax_38 ⟨Nat.le_of_ble_eq_true rfl, Nat.le_of_ble_eq_true rfl⟩ rfl rfl (Nat.le_of_ble_eq_true rfl) dX10_setGovernor_1 ⟨(Nat.le_of_ble_eq_true rfl), (Nat.le_of_ble_eq_true rfl)⟩) hP hD hS hA rfl rfl rfl (by decide) (fun ad1 H locs hP hD hS => ?_)
  have hP : va_P D vwCl [(a0, .inr (15, [.int 0, v1, v2, v3, v4, v5, v6, v7, v8, v9, v10, v11, v12, v13, v14, v15, v16, v17, v18, v19, v20, v21, v22, v23, v24, v25, v26, v27]))] H := hP
  have hD : va_D A [(a0, .inr (15, [.int 0, v1, v2, v3, v4, v5, v6, v7, v8, v9, v10, v11, v12, v13, v14, v15, v16, v17, v18, v19, v20, v21, v22, v23, v24, v25, v26, v27]))] := hD
  refine lv_aload_n hx hb dX10_setGovernor_4 rfl (lv_at hl 0 rfl) ?_
  refine lv_iload_n hx hb dX10_setGovernor_5 rfl (lv_at hl 1 rfl) ?_
  refine lv_i2l (v := x0.toInt64) hx hb dX10_setGovernor_6 rfl ?_
  refine lv_lconst (v := 0) hx hb dX10_setGovernor_7 (by decide) ?_
  refine lv_ldc2 (v := 3000) hx hb hown (hts _ tw_1088) dX10_setGovernor_8 ?_
  refine ca_i (isC := []) (isR := [0]) (wr := [(a0, .inr (15, [.int 0, v1, v2, v3, v4, v5, v6, v7, v8, v9, v10, v11, v12, v13, v14, v15, v16, v17, v18, v19, v20, v21, v22, v23, v24, v25, v26, v27]))]) (rn_S (isC := []) (wc := []) (As := [.long x0.toInt64, .long 0, .long 3000]) (rest := [.ref a0]) (n := 3) hx hb hml hown hts hE hS hP hD hA hl.1 (k33_X10_in l D cy g x0.toInt64 0 3000 H.size (wl_nlt rfl (by decide) h0) (wl_nlt (by decide) rfl h1)) rfl rfl ax_39 rfl rfl ax_40 ⟨Nat.le_of_ble_eq_true rfl, Nat.le_of_ble_eq_true rfl⟩ rfl rfl (Nat.le_of_ble_eq_true rfl) dX10_setGovernor_11 ⟨(Nat.le_of_ble_eq_true rfl), (Nat.le_of_ble_eq_true rfl)⟩) hP hD hS hA rfl rfl rfl (by decide) (fun ad11 H locs hP hD hS => ?_)
  have hP : va_P D vwCl [(a0, .inr (15, [.int 0, v1, v2, v3, v4, v5, v6, v7, v8, v9, v10, v11, v12, v13, v14, v15, v16, v17, v18, v19, v20, v21, v22, v23, v24, v25, v26, v27]))] H := hP
  have hD : va_D A [(a0, .inr (15, [.int 0, v1, v2, v3, v4, v5, v6, v7, v8, v9, v10, v11, v12, v13, v14, v15, v16, v17, v18, v19, v20, v21, v22, v23, v24, v25, v26, v27]))] := hD
  refine lv_if_eq (tgt := 54) hx hb dX10_setGovernor_14 (by decide) (fun z => absurd z (by decide)) (fun _ => ?_)
  refine lv_iload_n hx hb dX10_setGovernor_17 rfl (lv_at hl 2 rfl) ?_
  refine lv_i2l (v := x1.toInt64) hx hb dX10_setGovernor_18 rfl ?_
  refine lv_lconst (v := 0) hx hb dX10_setGovernor_19 (by decide) ?_
  refine lv_ldc2 (v := 100) hx hb hown (hts _ tw_681) dX10_setGovernor_20 ?_
  refine ca_i (isC := []) (isR := [0]) (wr := [(a0, .inr (15, [.int 0, v1, v2, v3, v4, v5, v6, v7, v8, v9, v10, v11, v12, v13, v14, v15, v16, v17, v18, v19, v20, v21, v22, v23, v24, v25, v26, v27]))]) (rn_S (isC := []) (wc := []) (As := [.long x1.toInt64, .long 0, .long 100]) (rest := [.ref a0]) (n := 3) hx hb hml hown hts hE hS hP hD hA hl.1 (k28_X10_in l D cy g x1.toInt64 0 100 H.size (wl_nlt rfl (by decide) h2) (wl_lt (by decide) rfl h3)) rfl rfl ax_39 rfl rfl ax_40 ⟨Nat.le_of_ble_eq_true rfl, Nat.le_of_ble_eq_true rfl⟩ rfl rfl (Nat.le_of_ble_eq_true rfl) dX10_setGovernor_23 ⟨(Nat.le_of_ble_eq_true rfl), (Nat.le_of_ble_eq_true rfl)⟩) hP hD hS hA rfl rfl rfl (by decide) (fun ad23 H locs hP hD hS => ?_)
  have hP : va_P D vwCl [(a0, .inr (15, [.int 0, v1, v2, v3, v4, v5, v6, v7, v8, v9, v10, v11, v12, v13, v14, v15, v16, v17, v18, v19, v20, v21, v22, v23, v24, v25, v26, v27]))] H := hP
  have hD : va_D A [(a0, .inr (15, [.int 0, v1, v2, v3, v4, v5, v6, v7, v8, v9, v10, v11, v12, v13, v14, v15, v16, v17, v18, v19, v20, v21, v22, v23, v24, v25, v26, v27]))] := hD
  refine lv_if_eq (tgt := 54) hx hb dX10_setGovernor_26 (by decide) (fun _ => ?_) (fun z => absurd (by decide) z)
  refine lv_iconst (v := 1) hx hb dX10_setGovernor_54 (by decide) ?_
  refine lv_goto (tgt := 59) hx hb dX10_setGovernor_55 (by decide) ?_
  refine lv_iconst (v := 1) hx hb dX10_setGovernor_59 (by decide) ?_
  refine ca_i (isC := [0]) (isR := []) (wr := []) (rn_V (ci := 15) (q0 := 0) (isC := [0]) (wc := [(a0, .inr (15, [.int 0, v1, v2, v3, v4, v5, v6, v7, v8, v9, v10, v11, v12, v13, v14, v15, v16, v17, v18, v19, v20, v21, v22, v23, v24, v25, v26, v27]))]) (As := [.int 1, .int 1]) (rest := []) (n := 2) hx hb hml hown hts hE hS hP hD hA hl.1 (k22_X10_fails l D cy g a0 (v1) (v2) (v3) (v4) (v5) (v6) (v7) (v8) (v9) (v10) (v11) (v12) (v13) (v14) (v15) (v16) (v17) (v18) (v19) (v20) (v21) (v22) (v23) (v24) (v25) (v26) (v27) H.size ) rfl rfl rfl rfl rfl ax_41 rfl rfl ax_42 ⟨Nat.le_of_ble_eq_true rfl, Nat.le_of_ble_eq_true rfl⟩ rfl rfl (Nat.le_of_ble_eq_true rfl) dX10_setGovernor_60 ⟨(Nat.le_of_ble_eq_true rfl), (Nat.le_of_ble_eq_true rfl)⟩) hP hD hS hA rfl rfl rfl (by decide) (fun ad60 H locs hP hD hS => ?_)
  have hP : va_P D vwCl [(a0, .inr (15, [.int 1, v1, v2, v3, v4, v5, v6, v7, v8, v9, v10, v11, v12, v13, v14, v15, v16, v17, v18, v19, v20, v21, v22, v23, v24, v25, v26, v27]))] H := hP
  have hD : va_D A [(a0, .inr (15, [.int 1, v1, v2, v3, v4, v5, v6, v7, v8, v9, v10, v11, v12, v13, v14, v15, v16, v17, v18, v19, v20, v21, v22, v23, v24, v25, v26, v27]))] := hD
  refine lv_if_eq (tgt := 68) hx hb dX10_setGovernor_63 (by decide) (fun z => absurd z (by decide)) (fun _ => ?_)
  refine lv_iconst (v := (-1)) hx hb dX10_setGovernor_66 (by decide) ?_
  exact en_z hx hb hr hlk hP hD hS rfl (fun _ => 0) (is := [0]) rfl rfl (Nat.le_of_ble_eq_true rfl) (Nat.le_of_ble_eq_true rfl) dX10_setGovernor_67
set_option maxHeartbeats 4000000 in
set_option maxRecDepth 100000 in
theorem k584_X9_setGovernor (l : Launch) (hst : l.stackTraces = false) (D : va_G) (cy : Nat → ClassId) (g : Nat → Nat) (x0 : Int32) (x1 : Int32) (x2 : Int32) (x3 : Int32) (b0 : Nat) (sz : Nat) (h0 : ¬ x0 < 0) (h1 : ¬ (3000 : Int32) < x0) (h2 : ¬ x1 < 0) (h3 : ¬ (100 : Int32) < x1) (h4 : x2 < 0) : vx_Met l yX9_setGovernor [.code yX9_setGovernor cX9_setGovernor 6 (some .int)] ({ frames := 6, cells := 1, slots := 6, locals := 82 }) (PC D cy g [] sz [.ref b0, .int x0, .int x1, .int x2, .int x3]) QN (XE "java/lang/IllegalArgumentException" (va_A [] sz)) 1 6 (va_A [] sz) := by
  refine st_X (by decide) (Nat.le_of_ble_eq_true rfl) ?_
  intro p e s m args below meth c A ls hx hb hr hml hown hlk hnm hsz hP hD hA hE hts hS hl hout
  have hown : s.vm.findClass RX9 = some m.cls := hown
  have hl : lv_has ls 6 [(0, .ref b0), (1, .int x0), (2, .int x1), (3, .int x2), (4, .int x3)] := hl
  refine lv_iload_n hx hb dX9_setGovernor_0 rfl (lv_at hl 1 rfl) ?_
  refine lv_iconst (v := 0) hx hb dX9_setGovernor_1 (by decide) ?_
  refine lv_sipush (v := 3000) hx hb dX9_setGovernor_2 (by decide) ?_
  refine ca_i (isC := []) (isR := []) (wr := []) (rn_S (isC := []) (wc := []) (As := [.int x0, .int 0, .int 3000]) (rest := []) (n := 3) hx hb hml hown hts hE hS hP hD hA hl.1 (k30_X9_isOutside l D cy g x0 0 3000 s.heap.size h0 h1) rfl rfl ax_30 rfl rfl ax_31 ⟨Nat.le_of_ble_eq_true rfl, Nat.le_of_ble_eq_true rfl⟩ rfl rfl (Nat.le_of_ble_eq_true rfl) dX9_setGovernor_5 ⟨(Nat.le_of_ble_eq_true rfl), (Nat.le_of_ble_eq_true rfl)⟩) hP hD hS hA rfl rfl rfl (by decide) (fun ad5 H locs hP hD hS => ?_)
  have hP : va_P D vwCl [] H := hP
  have hD : va_D A [] := hD
  refine lv_if_ne (tgt := 43) hx hb dX9_setGovernor_8 (by decide) (fun z => absurd (by decide) z) (fun _ => ?_)
  refine lv_iload_n hx hb dX9_setGovernor_11 rfl (lv_at hl 2 rfl) ?_
  refine lv_iconst (v := 0) hx hb dX9_setGovernor_12 (by decide) ?_
  refine lv_bipush (v := 100) hx hb dX9_setGovernor_13 (by decide) ?_
  refine ca_i (isC := []) (isR := []) (wr := []) (rn_S (isC := []) (wc := []) (As := [.int x1, .int 0, .int 100]) (rest := []) (n := 3) hx hb hml hown hts hE hS hP hD hA hl.1 (k30_X9_isOutside l D cy g x1 0 100 H.size h2 h3) rfl rfl ax_30 rfl rfl ax_31 ⟨Nat.le_of_ble_eq_true rfl, Nat.le_of_ble_eq_true rfl⟩ rfl rfl (Nat.le_of_ble_eq_true rfl) dX9_setGovernor_15 ⟨(Nat.le_of_ble_eq_true rfl), (Nat.le_of_ble_eq_true rfl)⟩) hP hD hS hA rfl rfl rfl (by decide) (fun ad15 H locs hP hD hS => ?_)
  have hP : va_P D vwCl [] H := hP
  have hD : va_D A [] := hD
  refine lv_if_ne (tgt := 43) hx hb dX9_setGovernor_18 (by decide) (fun z => absurd (by decide) z) (fun _ => ?_)
  refine lv_iload_n hx hb dX9_setGovernor_21 rfl (lv_at hl 3 rfl) ?_
  refine lv_iconst (v := 0) hx hb dX9_setGovernor_22 (by decide) ?_
  refine lv_bipush (v := 50) hx hb dX9_setGovernor_23 (by decide) ?_
  refine ca_i (isC := []) (isR := []) (wr := []) (rn_S (isC := []) (wc := []) (As := [.int x2, .int 0, .int 50]) (rest := []) (n := 3) hx hb hml hown hts hE hS hP hD hA hl.1 (k17_X9_isOutside l D cy g x2 0 50 H.size h4) rfl rfl ax_30 rfl rfl ax_31 ⟨Nat.le_of_ble_eq_true rfl, Nat.le_of_ble_eq_true rfl⟩ rfl rfl (Nat.le_of_ble_eq_true rfl) dX9_setGovernor_25 ⟨(Nat.le_of_ble_eq_true rfl), (Nat.le_of_ble_eq_true rfl)⟩) hP hD hS hA rfl rfl rfl (by decide) (fun ad25 H locs hP hD hS => ?_)
  have hP : va_P D vwCl [] H := hP
  have hD : va_D A [] := hD
  refine lv_if_ne (tgt := 43) hx hb dX9_setGovernor_28 (by decide) (fun _ => ?_) (fun z => absurd z (by decide))
  exact th_S (text := "a number is out of range") hx hb hst hown hts hE hS (hl.1.trans hml.symm) hout hlk (by decide +kernel) tw_296 tw_297 ax_32 (by decide +kernel) dX9_setGovernor_43 dX9_setGovernor_46 dX9_setGovernor_47 dX9_setGovernor_49 dX9_setGovernor_52 ⟨Nat.le_of_ble_eq_true rfl, Nat.le_of_ble_eq_true rfl, Nat.le_of_ble_eq_true rfl, Nat.le_of_ble_eq_true rfl⟩ (Nat.le_of_ble_eq_true rfl) (Nat.le_of_ble_eq_true rfl)
set_option maxHeartbeats 4000000 in
set_option maxRecDepth 100000 in
theorem k585_L_setGovernor (l : Launch) (hst : l.stackTraces = false) (D : va_G) (cy : Nat → ClassId) (g : Nat → Nat) (x0 : Int32) (x1 : Int32) (x2 : Int32) (x3 : Int32) (a0 : Nat) (b0 : Nat) (v0 : Value) (v1 : Value) (v2 : Value) (v3 : Value) (v4 : Value) (v5 : Value) (v6 : Value) (sz : Nat) (h0 : ¬ x0 < 0) (h1 : ¬ (3000 : Int32) < x0) (h2 : ¬ x1 < 0) (h3 : ¬ (100 : Int32) < x1) (h4 : x2 < 0) : Met l yL_setGovernor [.codeWith yL_setGovernor cL_setGovernor 7 (some .int) [(0, 14, 17, 13)]] ({ frames := 7, cells := 1, slots := 6, locals := 107 }) (PC D cy g [(a0, .inr (14, [v0, v1, v2, v3, v4, v5, v6]))] sz [.ref a0, .int x0, .int x1, .int x2, .int x3, .ref b0]) (QI D 1 (fun ad => []) (va_A [(a0, .inr (14, [v0, v1, v2, v3, v4, v5, v6]))] sz)) 1 6 (va_A [(a0, .inr (14, [v0, v1, v2, v3, v4, v5, v6]))] sz) := by
  refine sh_I (by decide) (Nat.le_of_ble_eq_true rfl) ?_
  intro p e s m args below meth c A ls hx hb hr hml hown hlk hnm hsz hP hD hA hE hts hS hl htb
  have hown : s.vm.findClass RL = some m.cls := hown
  have hl : lv_has ls 7 [(0, .ref a0), (1, .int x0), (2, .int x1), (3, .int x2), (4, .int x3), (5, .ref b0)] := hl
  refine lv_aload hx hb dL_setGovernor_0 (lv_at hl 5 rfl) ?_
  refine lv_iconst (v := 0) hx hb dL_setGovernor_2 (by decide) ?_
  refine lv_aload_n hx hb dL_setGovernor_3 rfl (lv_at hl 0 rfl) ?_
  refine lv_iload_n hx hb dL_setGovernor_4 rfl (lv_at hl 1 rfl) ?_
  refine lv_iload_n hx hb dL_setGovernor_5 rfl (lv_at hl 2 rfl) ?_
  refine lv_iload_n hx hb dL_setGovernor_6 rfl (lv_at hl 3 rfl) ?_
  refine lv_iload hx hb dL_setGovernor_7 (lv_at hl 4 rfl) ?_
  refine cx_catch (isC := []) (isR := [0]) (wr := [(a0, .inr (14, [v0, v1, v2, v3, v4, v5, v6]))]) (hp := []) (z := (0, 14, 17, 13)) (hq := []) (name := "java/lang/IllegalArgumentException") (own := RL) (rx_V (ci := 14) (q0 := 0) (isC := []) (wc := []) (As := [.int x0, .int x1, .int x2, .int x3]) (rest := [.int 0, .ref b0]) (n := 4) hx hb hml hown hts hE hS hP hD hA hl.1 (k584_X9_setGovernor l hst D cy g x0 x1 x2 x3 a0 s.heap.size h0 h1 h2 h3 h4) rfl rfl rfl rfl rfl ax_402 rfl rfl ax_403 ⟨Nat.le_of_ble_eq_true rfl, Nat.le_of_ble_eq_true rfl⟩ rfl rfl (Nat.le_of_ble_eq_true rfl) dL_setGovernor_9 ⟨(Nat.le_of_ble_eq_true rfl), (Nat.le_of_ble_eq_true rfl)⟩) hP hD hS hA hown hts hE htb rfl rfl rfl rfl (by decide) (fun z hz => by cases hz) (by decide) (by decide) tw_302 tw_303 (fun qx H locs hP hD hS => ?_)
  have hP : va_P D vwCl [(a0, .inr (14, [v0, v1, v2, v3, v4, v5, v6]))] H := hP
  have hD : va_D A [(a0, .inr (14, [v0, v1, v2, v3, v4, v5, v6]))] := hD
  refine lv_astore (lv' := [(6, .ref qx), (0, .ref a0), (1, .int x0), (2, .int x1), (3, .int x2), (4, .int x3), (5, .ref b0)]) hx hb dL_setGovernor_17 hl (Nat.le_of_ble_eq_true rfl) rfl (fun ls hl => ?_)
  refine lv_iconst (v := 1) hx hb dL_setGovernor_19 (by decide) ?_
  exact en_z hx hb hr hlk hP hD hS rfl (fun _ => 0) (is := []) rfl rfl (Nat.le_of_ble_eq_true rfl) (Nat.le_of_ble_eq_true rfl) dL_setGovernor_20
set_option maxHeartbeats 4000000 in
set_option maxRecDepth 100000 in
theorem k586_X10_setGovernor (l : Launch) (D : va_G) (cy : Nat → ClassId) (g : Nat → Nat) (x0 : Int32) (x1 : Int32) (x2 : Int32) (x3 : Int32) (a0 : Nat) (v0 : Value) (v1 : Value) (v2 : Value) (v3 : Value) (v4 : Value) (v5 : Value) (v6 : Value) (v7 : Value) (v8 : Value) (v9 : Value) (v10 : Value) (v11 : Value) (v12 : Value) (v13 : Value) (v14 : Value) (v15 : Value) (v16 : Value) (v17 : Value) (v18 : Value) (v19 : Value) (v20 : Value) (v21 : Value) (v22 : Value) (v23 : Value) (v24 : Value) (v25 : Value) (v26 : Value) (v27 : Value) (sz : Nat) (h0 : ¬ x0 < 0) (h1 : ¬ (3000 : Int32) < x0) (h2 : ¬ x1 < 0) (h3 : ¬ (100 : Int32) < x1) (h4 : x2 < 0) : Met l yX10_setGovernor [.code yX10_setGovernor cX10_setGovernor 6 (some .int)] ({ frames := 1, cells := 0, slots := 0, locals := 25 }) (PC D cy g [(a0, .inr (15, [v0, v1, v2, v3, v4, v5, v6, v7, v8, v9, v10, v11, v12, v13, v14, v15, v16, v17, v18, v19, v20, v21, v22, v23, v24, v25, v26, v27]))] sz [.ref a0, .int x0, .int x1, .int x2, .int x3]) (QI D (-1) (fun ad => [(a0, .inr (15, [.int 1, v1, v2, v3, v4, v5, v6, v7, v8, v9, v10, v11, v12, v13, v14, v15, v16, v17, v18, v19, v20, v21, v22, v23, v24, v25, v26, v27]))]) (va_A [(a0, .inr (15, [v0, v1, v2, v3, v4, v5, v6, v7, v8, v9, v10, v11, v12, v13, v14, v15, v16, v17, v18, v19, v20, v21, v22, v23, v24, v25, v26, v27]))] sz)) 0 0 (va_A [(a0, .inr (15, [v0, v1, v2, v3, v4, v5, v6, v7, v8, v9, v10, v11, v12, v13, v14, v15, v16, v17, v18, v19, v20, v21, v22, v23, v24, v25, v26, v27]))] sz) := by
  refine st_I (by decide) (Nat.le_of_ble_eq_true rfl) ?_
  intro p e s m args below meth c A ls hx hb hr hml hown hlk hnm hsz hP hD hA hE hts hS hl
  have hown : s.vm.findClass RX10 = some m.cls := hown
  have hl : lv_has ls 6 [(0, .ref a0), (1, .int x0), (2, .int x1), (3, .int x2), (4, .int x3)] := hl
  refine lv_aload_n hx hb dX10_setGovernor_0 rfl (lv_at hl 0 rfl) ?_
  refine ca_v (isC := [0]) (isR := []) (wr := []) (rn_V (ci := 15) (q0 := 0) (isC := [0]) (wc := [(a0, .inr (15, [v0, v1, v2, v3, v4, v5, v6, v7, v8, v9, v10, v11, v12, v13, v14, v15, v16, v17, v18, v19, v20, v21, v22, v23, v24, v25, v26, v27]))]) (As := []) (rest := []) (n := 0) hx hb hml hown hts hE hS hP hD hA hl.1 (k20_X10_begins l D cy g a0 (v0) (v1) (v2) (v3) (v4) (v5) (v6) (v7) (v8) (v9) (v10) (v11) (v12) (v13) (v14) (v15) (v16) (v17) (v18) (v19) (v20) (v21) (v22) (v23) (v24) (v25) (v26) (v27) s.heap.size ) rfl rfl rfl rfl rfl ax_37 rfl rfl ax_38 ⟨Nat.le_of_ble_eq_true rfl, Nat.le_of_ble_eq_true rfl⟩ rfl rfl (Nat.le_of_ble_eq_true rfl) dX10_setGovernor_1 ⟨(Nat.le_of_ble_eq_true rfl), (Nat.le_of_ble_eq_true rfl)⟩) hP hD hS hA rfl rfl rfl (by decide) (fun ad1 H locs hP hD hS => ?_)
  have hP : va_P D vwCl [(a0, .inr (15, [.int 0, v1, v2, v3, v4, v5, v6, v7, v8, v9, v10, v11, v12, v13, v14, v15, v16, v17, v18, v19, v20, v21, v22, v23, v24, v25, v26, v27]))] H := hP
  have hD : va_D A [(a0, .inr (15, [.int 0, v1, v2, v3, v4, v5, v6, v7, v8, v9, v10, v11, v12, v13, v14, v15, v16, v17, v18, v19, v20, v21, v22, v23, v24, v25, v26, v27]))] := hD
  refine lv_aload_n hx hb dX10_setGovernor_4 rfl (lv_at hl 0 rfl) ?_
  refine lv_iload_n hx hb dX10_setGovernor_5 rfl (lv_at hl 1 rfl) ?_
  refine lv_i2l (v := x0.toInt64) hx hb dX10_setGovernor_6 rfl ?_
  refine lv_lconst (v := 0) hx hb dX10_setGovernor_7 (by decide) ?_
  refine lv_ldc2 (v := 3000) hx hb hown (hts _ tw_1088) dX10_setGovernor_8 ?_
  refine ca_i (isC := []) (isR := [0]) (wr := [(a0, .inr (15, [.int 0, v1, v2, v3, v4, v5, v6, v7, v8, v9, v10, v11, v12, v13, v14, v15, v16, v17, v18, v19, v20, v21, v22, v23, v24, v25, v26, v27]))]) (rn_S (isC := []) (wc := []) (As := [.long x0.toInt64, .long 0, .long 3000]) (rest := [.ref a0]) (n := 3) hx hb hml hown hts hE hS hP hD hA hl.1 (k33_X10_in l D cy g x0.toInt64 0 3000 H.size (wl_nlt rfl (by decide) h0) (wl_nlt (by decide) rfl h1)) rfl rfl ax_39 rfl rfl ax_40 ⟨Nat.le_of_ble_eq_true rfl, Nat.le_of_ble_eq_true rfl⟩ rfl rfl (Nat.le_of_ble_eq_true rfl) dX10_setGovernor_11 ⟨(Nat.le_of_ble_eq_true rfl), (Nat.le_of_ble_eq_true rfl)⟩) hP hD hS hA rfl rfl rfl (by decide) (fun ad11 H locs hP hD hS => ?_)
  have hP : va_P D vwCl [(a0, .inr (15, [.int 0, v1, v2, v3, v4, v5, v6, v7, v8, v9, v10, v11, v12, v13, v14, v15, v16, v17, v18, v19, v20, v21, v22, v23, v24, v25, v26, v27]))] H := hP
  have hD : va_D A [(a0, .inr (15, [.int 0, v1, v2, v3, v4, v5, v6, v7, v8, v9, v10, v11, v12, v13, v14, v15, v16, v17, v18, v19, v20, v21, v22, v23, v24, v25, v26, v27]))] := hD
  refine lv_if_eq (tgt := 54) hx hb dX10_setGovernor_14 (by decide) (fun z => absurd z (by decide)) (fun _ => ?_)
  refine lv_iload_n hx hb dX10_setGovernor_17 rfl (lv_at hl 2 rfl) ?_
  refine lv_i2l (v := x1.toInt64) hx hb dX10_setGovernor_18 rfl ?_
  refine lv_lconst (v := 0) hx hb dX10_setGovernor_19 (by decide) ?_
  refine lv_ldc2 (v := 100) hx hb hown (hts _ tw_681) dX10_setGovernor_20 ?_
  refine ca_i (isC := []) (isR := [0]) (wr := [(a0, .inr (15, [.int 0, v1, v2, v3, v4, v5, v6, v7, v8, v9, v10, v11, v12, v13, v14, v15, v16, v17, v18, v19, v20, v21, v22, v23, v24, v25, v26, v27]))]) (rn_S (isC := []) (wc := []) (As := [.long x1.toInt64, .long 0, .long 100]) (rest := [.ref a0]) (n := 3) hx hb hml hown hts hE hS hP hD hA hl.1 (k33_X10_in l D cy g x1.toInt64 0 100 H.size (wl_nlt rfl (by decide) h2) (wl_nlt (by decide) rfl h3)) rfl rfl ax_39 rfl rfl ax_40 ⟨Nat.le_of_ble_eq_true rfl, Nat.le_of_ble_eq_true rfl⟩ rfl rfl (Nat.le_of_ble_eq_true rfl) dX10_setGovernor_23 ⟨(Nat.le_of_ble_eq_true rfl), (Nat.le_of_ble_eq_true rfl)⟩) hP hD hS hA rfl rfl rfl (by decide) (fun ad23 H locs hP hD hS => ?_)
  have hP : va_P D vwCl [(a0, .inr (15, [.int 0, v1, v2, v3, v4, v5, v6, v7, v8, v9, v10, v11, v12, v13, v14, v15, v16, v17, v18, v19, v20, v21, v22, v23, v24, v25, v26, v27]))] H := hP
  have hD : va_D A [(a0, .inr (15, [.int 0, v1, v2, v3, v4, v5, v6, v7, v8, v9, v10, v11, v12, v13, v14, v15, v16, v17, v18, v19, v20, v21, v22, v23, v24, v25, v26, v27]))] := hD
  refine lv_if_eq (tgt := 54) hx hb dX10_setGovernor_26 (by decide) (fun z => absurd z (by decide)) (fun _ => ?_)
  refine lv_iload_n hx hb dX10_setGovernor_29 rfl (lv_at hl 3 rfl) ?_
  refine lv_i2l (v := x2.toInt64) hx hb dX10_setGovernor_30 rfl ?_
  refine lv_lconst (v := 0) hx hb dX10_setGovernor_31 (by decide) ?_
  refine lv_ldc2 (v := 50) hx hb hown (hts _ tw_314) dX10_setGovernor_32 ?_
  refine ca_i (isC := []) (isR := [0]) (wr := [(a0, .inr (15, [.int 0, v1, v2, v3, v4, v5, v6, v7, v8, v9, v10, v11, v12, v13, v14, v15, v16, v17, v18, v19, v20, v21, v22, v23, v24, v25, v26, v27]))]) (rn_S (isC := []) (wc := []) (As := [.long x2.toInt64, .long 0, .long 50]) (rest := [.ref a0]) (n := 3) hx hb hml hown hts hE hS hP hD hA hl.1 (k21_X10_in l D cy g x2.toInt64 0 50 H.size (wl_lt rfl (by decide) h4)) rfl rfl ax_39 rfl rfl ax_40 ⟨Nat.le_of_ble_eq_true rfl, Nat.le_of_ble_eq_true rfl⟩ rfl rfl (Nat.le_of_ble_eq_true rfl) dX10_setGovernor_35 ⟨(Nat.le_of_ble_eq_true rfl), (Nat.le_of_ble_eq_true rfl)⟩) hP hD hS hA rfl rfl rfl (by decide) (fun ad35 H locs hP hD hS => ?_)
  have hP : va_P D vwCl [(a0, .inr (15, [.int 0, v1, v2, v3, v4, v5, v6, v7, v8, v9, v10, v11, v12, v13, v14, v15, v16, v17, v18, v19, v20, v21, v22, v23, v24, v25, v26, v27]))] H := hP
  have hD : va_D A [(a0, .inr (15, [.int 0, v1, v2, v3, v4, v5, v6, v7, v8, v9, v10, v11, v12, v13, v14, v15, v16, v17, v18, v19, v20, v21, v22, v23, v24, v25, v26, v27]))] := hD
  refine lv_if_eq (tgt := 54) hx hb dX10_setGovernor_38 (by decide) (fun _ => ?_) (fun z => absurd (by decide) z)
  refine lv_iconst (v := 1) hx hb dX10_setGovernor_54 (by decide) ?_
  refine lv_goto (tgt := 59) hx hb dX10_setGovernor_55 (by decide) ?_
  refine lv_iconst (v := 1) hx hb dX10_setGovernor_59 (by decide) ?_
  refine ca_i (isC := [0]) (isR := []) (wr := []) (rn_V (ci := 15) (q0 := 0) (isC := [0]) (wc := [(a0, .inr (15, [.int 0, v1, v2, v3, v4, v5, v6, v7, v8, v9, v10, v11, v12, v13, v14, v15, v16, v17, v18, v19, v20, v21, v22, v23, v24, v25, v26, v27]))]) (As := [.int 1, .int 1]) (rest := []) (n := 2) hx hb hml hown hts hE hS hP hD hA hl.1 (k22_X10_fails l D cy g a0 (v1) (v2) (v3) (v4) (v5) (v6) (v7) (v8) (v9) (v10) (v11) (v12) (v13) (v14) (v15) (v16) (v17) (v18) (v19) (v20) (v21) (v22) (v23) (v24) (v25) (v26) (v27) H.size ) rfl rfl rfl rfl rfl ax_41 rfl rfl ax_42 ⟨Nat.le_of_ble_eq_true rfl, Nat.le_of_ble_eq_true rfl⟩ rfl rfl (Nat.le_of_ble_eq_true rfl) dX10_setGovernor_60 ⟨(Nat.le_of_ble_eq_true rfl), (Nat.le_of_ble_eq_true rfl)⟩) hP hD hS hA rfl rfl rfl (by decide) (fun ad60 H locs hP hD hS => ?_)
  have hP : va_P D vwCl [(a0, .inr (15, [.int 1, v1, v2, v3, v4, v5, v6, v7, v8, v9, v10, v11, v12, v13, v14, v15, v16, v17, v18, v19, v20, v21, v22, v23, v24, v25, v26, v27]))] H := hP
  have hD : va_D A [(a0, .inr (15, [.int 1, v1, v2, v3, v4, v5, v6, v7, v8, v9, v10, v11, v12, v13, v14, v15, v16, v17, v18, v19, v20, v21, v22, v23, v24, v25, v26, v27]))] := hD
  refine lv_if_eq (tgt := 68) hx hb dX10_setGovernor_63 (by decide) (fun z => absurd z (by decide)) (fun _ => ?_)
  refine lv_iconst (v := (-1)) hx hb dX10_setGovernor_66 (by decide) ?_
  exact en_z hx hb hr hlk hP hD hS rfl (fun _ => 0) (is := [0]) rfl rfl (Nat.le_of_ble_eq_true rfl) (Nat.le_of_ble_eq_true rfl) dX10_setGovernor_67
set_option maxHeartbeats 4000000 in
set_option maxRecDepth 100000 in
theorem k587_X9_setGovernor (l : Launch) (hst : l.stackTraces = false) (D : va_G) (cy : Nat → ClassId) (g : Nat → Nat) (x0 : Int32) (x1 : Int32) (x2 : Int32) (x3 : Int32) (b0 : Nat) (sz : Nat) (h0 : ¬ x0 < 0) (h1 : ¬ (3000 : Int32) < x0) (h2 : ¬ x1 < 0) (h3 : ¬ (100 : Int32) < x1) (h4 : ¬ x2 < 0) (h5 : (50 : Int32) < x2) : vx_Met l yX9_setGovernor [.code yX9_setGovernor cX9_setGovernor 6 (some .int)] ({ frames := 6, cells := 1, slots := 6, locals := 82 }) (PC D cy g [] sz [.ref b0, .int x0, .int x1, .int x2, .int x3]) QN (XE "java/lang/IllegalArgumentException" (va_A [] sz)) 1 6 (va_A [] sz) := by
  refine st_X (by decide) (Nat.le_of_ble_eq_true rfl) ?_
  intro p e s m args below meth c A ls hx hb hr hml hown hlk hnm hsz hP hD hA hE hts hS hl hout
  have hown : s.vm.findClass RX9 = some m.cls := hown
  have hl : lv_has ls 6 [(0, .ref b0), (1, .int x0), (2, .int x1), (3, .int x2), (4, .int x3)] := hl
  refine lv_iload_n hx hb dX9_setGovernor_0 rfl (lv_at hl 1 rfl) ?_
  refine lv_iconst (v := 0) hx hb dX9_setGovernor_1 (by decide) ?_
  refine lv_sipush (v := 3000) hx hb dX9_setGovernor_2 (by decide) ?_
  refine ca_i (isC := []) (isR := []) (wr := []) (rn_S (isC := []) (wc := []) (As := [.int x0, .int 0, .int 3000]) (rest := []) (n := 3) hx hb hml hown hts hE hS hP hD hA hl.1 (k30_X9_isOutside l D cy g x0 0 3000 s.heap.size h0 h1) rfl rfl ax_30 rfl rfl ax_31 ⟨Nat.le_of_ble_eq_true rfl, Nat.le_of_ble_eq_true rfl⟩ rfl rfl (Nat.le_of_ble_eq_true rfl) dX9_setGovernor_5 ⟨(Nat.le_of_ble_eq_true rfl), (Nat.le_of_ble_eq_true rfl)⟩) hP hD hS hA rfl rfl rfl (by decide) (fun ad5 H locs hP hD hS => ?_)
  have hP : va_P D vwCl [] H := hP
  have hD : va_D A [] := hD
  refine lv_if_ne (tgt := 43) hx hb dX9_setGovernor_8 (by decide) (fun z => absurd (by decide) z) (fun _ => ?_)
  refine lv_iload_n hx hb dX9_setGovernor_11 rfl (lv_at hl 2 rfl) ?_
  refine lv_iconst (v := 0) hx hb dX9_setGovernor_12 (by decide) ?_
  refine lv_bipush (v := 100) hx hb dX9_setGovernor_13 (by decide) ?_
  refine ca_i (isC := []) (isR := []) (wr := []) (rn_S (isC := []) (wc := []) (As := [.int x1, .int 0, .int 100]) (rest := []) (n := 3) hx hb hml hown hts hE hS hP hD hA hl.1 (k30_X9_isOutside l D cy g x1 0 100 H.size h2 h3) rfl rfl ax_30 rfl rfl ax_31 ⟨Nat.le_of_ble_eq_true rfl, Nat.le_of_ble_eq_true rfl⟩ rfl rfl (Nat.le_of_ble_eq_true rfl) dX9_setGovernor_15 ⟨(Nat.le_of_ble_eq_true rfl), (Nat.le_of_ble_eq_true rfl)⟩) hP hD hS hA rfl rfl rfl (by decide) (fun ad15 H locs hP hD hS => ?_)
  have hP : va_P D vwCl [] H := hP
  have hD : va_D A [] := hD
  refine lv_if_ne (tgt := 43) hx hb dX9_setGovernor_18 (by decide) (fun z => absurd (by decide) z) (fun _ => ?_)
  refine lv_iload_n hx hb dX9_setGovernor_21 rfl (lv_at hl 3 rfl) ?_
  refine lv_iconst (v := 0) hx hb dX9_setGovernor_22 (by decide) ?_
  refine lv_bipush (v := 50) hx hb dX9_setGovernor_23 (by decide) ?_
  refine ca_i (isC := []) (isR := []) (wr := []) (rn_S (isC := []) (wc := []) (As := [.int x2, .int 0, .int 50]) (rest := []) (n := 3) hx hb hml hown hts hE hS hP hD hA hl.1 (k25_X9_isOutside l D cy g x2 0 50 H.size h4 h5) rfl rfl ax_30 rfl rfl ax_31 ⟨Nat.le_of_ble_eq_true rfl, Nat.le_of_ble_eq_true rfl⟩ rfl rfl (Nat.le_of_ble_eq_true rfl) dX9_setGovernor_25 ⟨(Nat.le_of_ble_eq_true rfl), (Nat.le_of_ble_eq_true rfl)⟩) hP hD hS hA rfl rfl rfl (by decide) (fun ad25 H locs hP hD hS => ?_)
  have hP : va_P D vwCl [] H := hP
  have hD : va_D A [] := hD
  refine lv_if_ne (tgt := 43) hx hb dX9_setGovernor_28 (by decide) (fun _ => ?_) (fun z => absurd z (by decide))
  exact th_S (text := "a number is out of range") hx hb hst hown hts hE hS (hl.1.trans hml.symm) hout hlk (by decide +kernel) tw_296 tw_297 ax_32 (by decide +kernel) dX9_setGovernor_43 dX9_setGovernor_46 dX9_setGovernor_47 dX9_setGovernor_49 dX9_setGovernor_52 ⟨Nat.le_of_ble_eq_true rfl, Nat.le_of_ble_eq_true rfl, Nat.le_of_ble_eq_true rfl, Nat.le_of_ble_eq_true rfl⟩ (Nat.le_of_ble_eq_true rfl) (Nat.le_of_ble_eq_true rfl)
set_option maxHeartbeats 4000000 in
set_option maxRecDepth 100000 in
theorem k588_L_setGovernor (l : Launch) (hst : l.stackTraces = false) (D : va_G) (cy : Nat → ClassId) (g : Nat → Nat) (x0 : Int32) (x1 : Int32) (x2 : Int32) (x3 : Int32) (a0 : Nat) (b0 : Nat) (v0 : Value) (v1 : Value) (v2 : Value) (v3 : Value) (v4 : Value) (v5 : Value) (v6 : Value) (sz : Nat) (h0 : ¬ x0 < 0) (h1 : ¬ (3000 : Int32) < x0) (h2 : ¬ x1 < 0) (h3 : ¬ (100 : Int32) < x1) (h4 : ¬ x2 < 0) (h5 : (50 : Int32) < x2) : Met l yL_setGovernor [.codeWith yL_setGovernor cL_setGovernor 7 (some .int) [(0, 14, 17, 13)]] ({ frames := 7, cells := 1, slots := 6, locals := 107 }) (PC D cy g [(a0, .inr (14, [v0, v1, v2, v3, v4, v5, v6]))] sz [.ref a0, .int x0, .int x1, .int x2, .int x3, .ref b0]) (QI D 1 (fun ad => []) (va_A [(a0, .inr (14, [v0, v1, v2, v3, v4, v5, v6]))] sz)) 1 6 (va_A [(a0, .inr (14, [v0, v1, v2, v3, v4, v5, v6]))] sz) := by
  refine sh_I (by decide) (Nat.le_of_ble_eq_true rfl) ?_
  intro p e s m args below meth c A ls hx hb hr hml hown hlk hnm hsz hP hD hA hE hts hS hl htb
  have hown : s.vm.findClass RL = some m.cls := hown
  have hl : lv_has ls 7 [(0, .ref a0), (1, .int x0), (2, .int x1), (3, .int x2), (4, .int x3), (5, .ref b0)] := hl
  refine lv_aload hx hb dL_setGovernor_0 (lv_at hl 5 rfl) ?_
  refine lv_iconst (v := 0) hx hb dL_setGovernor_2 (by decide) ?_
  refine lv_aload_n hx hb dL_setGovernor_3 rfl (lv_at hl 0 rfl) ?_
  refine lv_iload_n hx hb dL_setGovernor_4 rfl (lv_at hl 1 rfl) ?_
  refine lv_iload_n hx hb dL_setGovernor_5 rfl (lv_at hl 2 rfl) ?_
  refine lv_iload_n hx hb dL_setGovernor_6 rfl (lv_at hl 3 rfl) ?_
  refine lv_iload hx hb dL_setGovernor_7 (lv_at hl 4 rfl) ?_
  refine cx_catch (isC := []) (isR := [0]) (wr := [(a0, .inr (14, [v0, v1, v2, v3, v4, v5, v6]))]) (hp := []) (z := (0, 14, 17, 13)) (hq := []) (name := "java/lang/IllegalArgumentException") (own := RL) (rx_V (ci := 14) (q0 := 0) (isC := []) (wc := []) (As := [.int x0, .int x1, .int x2, .int x3]) (rest := [.int 0, .ref b0]) (n := 4) hx hb hml hown hts hE hS hP hD hA hl.1 (k587_X9_setGovernor l hst D cy g x0 x1 x2 x3 a0 s.heap.size h0 h1 h2 h3 h4 h5) rfl rfl rfl rfl rfl ax_402 rfl rfl ax_403 ⟨Nat.le_of_ble_eq_true rfl, Nat.le_of_ble_eq_true rfl⟩ rfl rfl (Nat.le_of_ble_eq_true rfl) dL_setGovernor_9 ⟨(Nat.le_of_ble_eq_true rfl), (Nat.le_of_ble_eq_true rfl)⟩) hP hD hS hA hown hts hE htb rfl rfl rfl rfl (by decide) (fun z hz => by cases hz) (by decide) (by decide) tw_302 tw_303 (fun qx H locs hP hD hS => ?_)
  have hP : va_P D vwCl [(a0, .inr (14, [v0, v1, v2, v3, v4, v5, v6]))] H := hP
  have hD : va_D A [(a0, .inr (14, [v0, v1, v2, v3, v4, v5, v6]))] := hD
  refine lv_astore (lv' := [(6, .ref qx), (0, .ref a0), (1, .int x0), (2, .int x1), (3, .int x2), (4, .int x3), (5, .ref b0)]) hx hb dL_setGovernor_17 hl (Nat.le_of_ble_eq_true rfl) rfl (fun ls hl => ?_)
  refine lv_iconst (v := 1) hx hb dL_setGovernor_19 (by decide) ?_
  exact en_z hx hb hr hlk hP hD hS rfl (fun _ => 0) (is := []) rfl rfl (Nat.le_of_ble_eq_true rfl) (Nat.le_of_ble_eq_true rfl) dL_setGovernor_20
set_option maxHeartbeats 4000000 in
set_option maxRecDepth 100000 in
theorem k589_X10_setGovernor (l : Launch) (D : va_G) (cy : Nat → ClassId) (g : Nat → Nat) (x0 : Int32) (x1 : Int32) (x2 : Int32) (x3 : Int32) (a0 : Nat) (v0 : Value) (v1 : Value) (v2 : Value) (v3 : Value) (v4 : Value) (v5 : Value) (v6 : Value) (v7 : Value) (v8 : Value) (v9 : Value) (v10 : Value) (v11 : Value) (v12 : Value) (v13 : Value) (v14 : Value) (v15 : Value) (v16 : Value) (v17 : Value) (v18 : Value) (v19 : Value) (v20 : Value) (v21 : Value) (v22 : Value) (v23 : Value) (v24 : Value) (v25 : Value) (v26 : Value) (v27 : Value) (sz : Nat) (h0 : ¬ x0 < 0) (h1 : ¬ (3000 : Int32) < x0) (h2 : ¬ x1 < 0) (h3 : ¬ (100 : Int32) < x1) (h4 : ¬ x2 < 0) (h5 : (50 : Int32) < x2) : Met l yX10_setGovernor [.code yX10_setGovernor cX10_setGovernor 6 (some .int)] ({ frames := 1, cells := 0, slots := 0, locals := 25 }) (PC D cy g [(a0, .inr (15, [v0, v1, v2, v3, v4, v5, v6, v7, v8, v9, v10, v11, v12, v13, v14, v15, v16, v17, v18, v19, v20, v21, v22, v23, v24, v25, v26, v27]))] sz [.ref a0, .int x0, .int x1, .int x2, .int x3]) (QI D (-1) (fun ad => [(a0, .inr (15, [.int 1, v1, v2, v3, v4, v5, v6, v7, v8, v9, v10, v11, v12, v13, v14, v15, v16, v17, v18, v19, v20, v21, v22, v23, v24, v25, v26, v27]))]) (va_A [(a0, .inr (15, [v0, v1, v2, v3, v4, v5, v6, v7, v8, v9, v10, v11, v12, v13, v14, v15, v16, v17, v18, v19, v20, v21, v22, v23, v24, v25, v26, v27]))] sz)) 0 0 (va_A [(a0, .inr (15, [v0, v1, v2, v3, v4, v5, v6, v7, v8, v9, v10, v11, v12, v13, v14, v15, v16, v17, v18, v19, v20, v21, v22, v23, v24, v25, v26, v27]))] sz) := by
  refine st_I (by decide) (Nat.le_of_ble_eq_true rfl) ?_
  intro p e s m args below meth c A ls hx hb hr hml hown hlk hnm hsz hP hD hA hE hts hS hl
  have hown : s.vm.findClass RX10 = some m.cls := hown
  have hl : lv_has ls 6 [(0, .ref a0), (1, .int x0), (2, .int x1), (3, .int x2), (4, .int x3)] := hl
  refine lv_aload_n hx hb dX10_setGovernor_0 rfl (lv_at hl 0 rfl) ?_
  refine ca_v (isC := [0]) (isR := []) (wr := []) (rn_V (ci := 15) (q0 := 0) (isC := [0]) (wc := [(a0, .inr (15, [v0, v1, v2, v3, v4, v5, v6, v7, v8, v9, v10, v11, v12, v13, v14, v15, v16, v17, v18, v19, v20, v21, v22, v23, v24, v25, v26, v27]))]) (As := []) (rest := []) (n := 0) hx hb hml hown hts hE hS hP hD hA hl.1 (k20_X10_begins l D cy g a0 (v0) (v1) (v2) (v3) (v4) (v5) (v6) (v7) (v8) (v9) (v10) (v11) (v12) (v13) (v14) (v15) (v16) (v17) (v18) (v19) (v20) (v21) (v22) (v23) (v24) (v25) (v26) (v27) s.heap.size ) rfl rfl rfl rfl rfl ax_37 rfl rfl ax_38 ⟨Nat.le_of_ble_eq_true rfl, Nat.le_of_ble_eq_true rfl⟩ rfl rfl (Nat.le_of_ble_eq_true rfl) dX10_setGovernor_1 ⟨(Nat.le_of_ble_eq_true rfl), (Nat.le_of_ble_eq_true rfl)⟩) hP hD hS hA rfl rfl rfl (by decide) (fun ad1 H locs hP hD hS => ?_)
  have hP : va_P D vwCl [(a0, .inr (15, [.int 0, v1, v2, v3, v4, v5, v6, v7, v8, v9, v10, v11, v12, v13, v14, v15, v16, v17, v18, v19, v20, v21, v22, v23, v24, v25, v26, v27]))] H := hP
  have hD : va_D A [(a0, .inr (15, [.int 0, v1, v2, v3, v4, v5, v6, v7, v8, v9, v10, v11, v12, v13, v14, v15, v16, v17, v18, v19, v20, v21, v22, v23, v24, v25, v26, v27]))] := hD
  refine lv_aload_n hx hb dX10_setGovernor_4 rfl (lv_at hl 0 rfl) ?_
  refine lv_iload_n hx hb dX10_setGovernor_5 rfl (lv_at hl 1 rfl) ?_
  refine lv_i2l (v := x0.toInt64) hx hb dX10_setGovernor_6 rfl ?_
  refine lv_lconst (v := 0) hx hb dX10_setGovernor_7 (by decide) ?_
  refine lv_ldc2 (v := 3000) hx hb hown (hts _ tw_1088) dX10_setGovernor_8 ?_
  refine ca_i (isC := []) (isR := [0]) (wr := [(a0, .inr (15, [.int 0, v1, v2, v3, v4, v5, v6, v7, v8, v9, v10, v11, v12, v13, v14, v15, v16, v17, v18, v19, v20, v21, v22, v23, v24, v25, v26, v27]))]) (rn_S (isC := []) (wc := []) (As := [.long x0.toInt64, .long 0, .long 3000]) (rest := [.ref a0]) (n := 3) hx hb hml hown hts hE hS hP hD hA hl.1 (k33_X10_in l D cy g x0.toInt64 0 3000 H.size (wl_nlt rfl (by decide) h0) (wl_nlt (by decide) rfl h1)) rfl rfl ax_39 rfl rfl ax_40 ⟨Nat.le_of_ble_eq_true rfl, Nat.le_of_ble_eq_true rfl⟩ rfl rfl (Nat.le_of_ble_eq_true rfl) dX10_setGovernor_11 ⟨(Nat.le_of_ble_eq_true rfl), (Nat.le_of_ble_eq_true rfl)⟩) hP hD hS hA rfl rfl rfl (by decide) (fun ad11 H locs hP hD hS => ?_)
  have hP : va_P D vwCl [(a0, .inr (15, [.int 0, v1, v2, v3, v4, v5, v6, v7, v8, v9, v10, v11, v12, v13, v14, v15, v16, v17, v18, v19, v20, v21, v22, v23, v24, v25, v26, v27]))] H := hP
  have hD : va_D A [(a0, .inr (15, [.int 0, v1, v2, v3, v4, v5, v6, v7, v8, v9, v10, v11, v12, v13, v14, v15, v16, v17, v18, v19, v20, v21, v22, v23, v24, v25, v26, v27]))] := hD
  refine lv_if_eq (tgt := 54) hx hb dX10_setGovernor_14 (by decide) (fun z => absurd z (by decide)) (fun _ => ?_)
  refine lv_iload_n hx hb dX10_setGovernor_17 rfl (lv_at hl 2 rfl) ?_
  refine lv_i2l (v := x1.toInt64) hx hb dX10_setGovernor_18 rfl ?_
  refine lv_lconst (v := 0) hx hb dX10_setGovernor_19 (by decide) ?_
  refine lv_ldc2 (v := 100) hx hb hown (hts _ tw_681) dX10_setGovernor_20 ?_
  refine ca_i (isC := []) (isR := [0]) (wr := [(a0, .inr (15, [.int 0, v1, v2, v3, v4, v5, v6, v7, v8, v9, v10, v11, v12, v13, v14, v15, v16, v17, v18, v19, v20, v21, v22, v23, v24, v25, v26, v27]))]) (rn_S (isC := []) (wc := []) (As := [.long x1.toInt64, .long 0, .long 100]) (rest := [.ref a0]) (n := 3) hx hb hml hown hts hE hS hP hD hA hl.1 (k33_X10_in l D cy g x1.toInt64 0 100 H.size (wl_nlt rfl (by decide) h2) (wl_nlt (by decide) rfl h3)) rfl rfl ax_39 rfl rfl ax_40 ⟨Nat.le_of_ble_eq_true rfl, Nat.le_of_ble_eq_true rfl⟩ rfl rfl (Nat.le_of_ble_eq_true rfl) dX10_setGovernor_23 ⟨(Nat.le_of_ble_eq_true rfl), (Nat.le_of_ble_eq_true rfl)⟩) hP hD hS hA rfl rfl rfl (by decide) (fun ad23 H locs hP hD hS => ?_)
  have hP : va_P D vwCl [(a0, .inr (15, [.int 0, v1, v2, v3, v4, v5, v6, v7, v8, v9, v10, v11, v12, v13, v14, v15, v16, v17, v18, v19, v20, v21, v22, v23, v24, v25, v26, v27]))] H := hP
  have hD : va_D A [(a0, .inr (15, [.int 0, v1, v2, v3, v4, v5, v6, v7, v8, v9, v10, v11, v12, v13, v14, v15, v16, v17, v18, v19, v20, v21, v22, v23, v24, v25, v26, v27]))] := hD
  refine lv_if_eq (tgt := 54) hx hb dX10_setGovernor_26 (by decide) (fun z => absurd z (by decide)) (fun _ => ?_)
  refine lv_iload_n hx hb dX10_setGovernor_29 rfl (lv_at hl 3 rfl) ?_
  refine lv_i2l (v := x2.toInt64) hx hb dX10_setGovernor_30 rfl ?_
  refine lv_lconst (v := 0) hx hb dX10_setGovernor_31 (by decide) ?_
  refine lv_ldc2 (v := 50) hx hb hown (hts _ tw_314) dX10_setGovernor_32 ?_
  refine ca_i (isC := []) (isR := [0]) (wr := [(a0, .inr (15, [.int 0, v1, v2, v3, v4, v5, v6, v7, v8, v9, v10, v11, v12, v13, v14, v15, v16, v17, v18, v19, v20, v21, v22, v23, v24, v25, v26, v27]))]) (rn_S (isC := []) (wc := []) (As := [.long x2.toInt64, .long 0, .long 50]) (rest := [.ref a0]) (n := 3) hx hb hml hown hts hE hS hP hD hA hl.1 (k28_X10_in l D cy g x2.toInt64 0 50 H.size (wl_nlt rfl (by decide) h4) (wl_lt (by decide) rfl h5)) rfl rfl ax_39 rfl rfl ax_40 ⟨Nat.le_of_ble_eq_true rfl, Nat.le_of_ble_eq_true rfl⟩ rfl rfl (Nat.le_of_ble_eq_true rfl) dX10_setGovernor_35 ⟨(Nat.le_of_ble_eq_true rfl), (Nat.le_of_ble_eq_true rfl)⟩) hP hD hS hA rfl rfl rfl (by decide) (fun ad35 H locs hP hD hS => ?_)
  have hP : va_P D vwCl [(a0, .inr (15, [.int 0, v1, v2, v3, v4, v5, v6, v7, v8, v9, v10, v11, v12, v13, v14, v15, v16, v17, v18, v19, v20, v21, v22, v23, v24, v25, v26, v27]))] H := hP
  have hD : va_D A [(a0, .inr (15, [.int 0, v1, v2, v3, v4, v5, v6, v7, v8, v9, v10, v11, v12, v13, v14, v15, v16, v17, v18, v19, v20, v21, v22, v23, v24, v25, v26, v27]))] := hD
  refine lv_if_eq (tgt := 54) hx hb dX10_setGovernor_38 (by decide) (fun _ => ?_) (fun z => absurd (by decide) z)
  refine lv_iconst (v := 1) hx hb dX10_setGovernor_54 (by decide) ?_
  refine lv_goto (tgt := 59) hx hb dX10_setGovernor_55 (by decide) ?_
  refine lv_iconst (v := 1) hx hb dX10_setGovernor_59 (by decide) ?_
  refine ca_i (isC := [0]) (isR := []) (wr := []) (rn_V (ci := 15) (q0 := 0) (isC := [0]) (wc := [(a0, .inr (15, [.int 0, v1, v2, v3, v4, v5, v6, v7, v8, v9, v10, v11, v12, v13, v14, v15, v16, v17, v18, v19, v20, v21, v22, v23, v24, v25, v26, v27]))]) (As := [.int 1, .int 1]) (rest := []) (n := 2) hx hb hml hown hts hE hS hP hD hA hl.1 (k22_X10_fails l D cy g a0 (v1) (v2) (v3) (v4) (v5) (v6) (v7) (v8) (v9) (v10) (v11) (v12) (v13) (v14) (v15) (v16) (v17) (v18) (v19) (v20) (v21) (v22) (v23) (v24) (v25) (v26) (v27) H.size ) rfl rfl rfl rfl rfl ax_41 rfl rfl ax_42 ⟨Nat.le_of_ble_eq_true rfl, Nat.le_of_ble_eq_true rfl⟩ rfl rfl (Nat.le_of_ble_eq_true rfl) dX10_setGovernor_60 ⟨(Nat.le_of_ble_eq_true rfl), (Nat.le_of_ble_eq_true rfl)⟩) hP hD hS hA rfl rfl rfl (by decide) (fun ad60 H locs hP hD hS => ?_)
  have hP : va_P D vwCl [(a0, .inr (15, [.int 1, v1, v2, v3, v4, v5, v6, v7, v8, v9, v10, v11, v12, v13, v14, v15, v16, v17, v18, v19, v20, v21, v22, v23, v24, v25, v26, v27]))] H := hP
  have hD : va_D A [(a0, .inr (15, [.int 1, v1, v2, v3, v4, v5, v6, v7, v8, v9, v10, v11, v12, v13, v14, v15, v16, v17, v18, v19, v20, v21, v22, v23, v24, v25, v26, v27]))] := hD
  refine lv_if_eq (tgt := 68) hx hb dX10_setGovernor_63 (by decide) (fun z => absurd z (by decide)) (fun _ => ?_)
  refine lv_iconst (v := (-1)) hx hb dX10_setGovernor_66 (by decide) ?_
  exact en_z hx hb hr hlk hP hD hS rfl (fun _ => 0) (is := [0]) rfl rfl (Nat.le_of_ble_eq_true rfl) (Nat.le_of_ble_eq_true rfl) dX10_setGovernor_67
set_option maxHeartbeats 4000000 in
set_option maxRecDepth 100000 in
theorem k590_X9_setGovernor (l : Launch) (hst : l.stackTraces = false) (D : va_G) (cy : Nat → ClassId) (g : Nat → Nat) (x0 : Int32) (x1 : Int32) (x2 : Int32) (x3 : Int32) (b0 : Nat) (sz : Nat) (h0 : ¬ x0 < 0) (h1 : ¬ (3000 : Int32) < x0) (h2 : ¬ x1 < 0) (h3 : ¬ (100 : Int32) < x1) (h4 : ¬ x2 < 0) (h5 : ¬ (50 : Int32) < x2) (h6 : x3 < 0) : vx_Met l yX9_setGovernor [.code yX9_setGovernor cX9_setGovernor 6 (some .int)] ({ frames := 6, cells := 1, slots := 6, locals := 82 }) (PC D cy g [] sz [.ref b0, .int x0, .int x1, .int x2, .int x3]) QN (XE "java/lang/IllegalArgumentException" (va_A [] sz)) 1 6 (va_A [] sz) := by
  refine st_X (by decide) (Nat.le_of_ble_eq_true rfl) ?_
  intro p e s m args below meth c A ls hx hb hr hml hown hlk hnm hsz hP hD hA hE hts hS hl hout
  have hown : s.vm.findClass RX9 = some m.cls := hown
  have hl : lv_has ls 6 [(0, .ref b0), (1, .int x0), (2, .int x1), (3, .int x2), (4, .int x3)] := hl
  refine lv_iload_n hx hb dX9_setGovernor_0 rfl (lv_at hl 1 rfl) ?_
  refine lv_iconst (v := 0) hx hb dX9_setGovernor_1 (by decide) ?_
  refine lv_sipush (v := 3000) hx hb dX9_setGovernor_2 (by decide) ?_
  refine ca_i (isC := []) (isR := []) (wr := []) (rn_S (isC := []) (wc := []) (As := [.int x0, .int 0, .int 3000]) (rest := []) (n := 3) hx hb hml hown hts hE hS hP hD hA hl.1 (k30_X9_isOutside l D cy g x0 0 3000 s.heap.size h0 h1) rfl rfl ax_30 rfl rfl ax_31 ⟨Nat.le_of_ble_eq_true rfl, Nat.le_of_ble_eq_true rfl⟩ rfl rfl (Nat.le_of_ble_eq_true rfl) dX9_setGovernor_5 ⟨(Nat.le_of_ble_eq_true rfl), (Nat.le_of_ble_eq_true rfl)⟩) hP hD hS hA rfl rfl rfl (by decide) (fun ad5 H locs hP hD hS => ?_)
  have hP : va_P D vwCl [] H := hP
  have hD : va_D A [] := hD
  refine lv_if_ne (tgt := 43) hx hb dX9_setGovernor_8 (by decide) (fun z => absurd (by decide) z) (fun _ => ?_)
  refine lv_iload_n hx hb dX9_setGovernor_11 rfl (lv_at hl 2 rfl) ?_
  refine lv_iconst (v := 0) hx hb dX9_setGovernor_12 (by decide) ?_
  refine lv_bipush (v := 100) hx hb dX9_setGovernor_13 (by decide) ?_
  refine ca_i (isC := []) (isR := []) (wr := []) (rn_S (isC := []) (wc := []) (As := [.int x1, .int 0, .int 100]) (rest := []) (n := 3) hx hb hml hown hts hE hS hP hD hA hl.1 (k30_X9_isOutside l D cy g x1 0 100 H.size h2 h3) rfl rfl ax_30 rfl rfl ax_31 ⟨Nat.le_of_ble_eq_true rfl, Nat.le_of_ble_eq_true rfl⟩ rfl rfl (Nat.le_of_ble_eq_true rfl) dX9_setGovernor_15 ⟨(Nat.le_of_ble_eq_true rfl), (Nat.le_of_ble_eq_true rfl)⟩) hP hD hS hA rfl rfl rfl (by decide) (fun ad15 H locs hP hD hS => ?_)
  have hP : va_P D vwCl [] H := hP
  have hD : va_D A [] := hD
  refine lv_if_ne (tgt := 43) hx hb dX9_setGovernor_18 (by decide) (fun z => absurd (by decide) z) (fun _ => ?_)
  refine lv_iload_n hx hb dX9_setGovernor_21 rfl (lv_at hl 3 rfl) ?_
  refine lv_iconst (v := 0) hx hb dX9_setGovernor_22 (by decide) ?_
  refine lv_bipush (v := 50) hx hb dX9_setGovernor_23 (by decide) ?_
  refine ca_i (isC := []) (isR := []) (wr := []) (rn_S (isC := []) (wc := []) (As := [.int x2, .int 0, .int 50]) (rest := []) (n := 3) hx hb hml hown hts hE hS hP hD hA hl.1 (k30_X9_isOutside l D cy g x2 0 50 H.size h4 h5) rfl rfl ax_30 rfl rfl ax_31 ⟨Nat.le_of_ble_eq_true rfl, Nat.le_of_ble_eq_true rfl⟩ rfl rfl (Nat.le_of_ble_eq_true rfl) dX9_setGovernor_25 ⟨(Nat.le_of_ble_eq_true rfl), (Nat.le_of_ble_eq_true rfl)⟩) hP hD hS hA rfl rfl rfl (by decide) (fun ad25 H locs hP hD hS => ?_)
  have hP : va_P D vwCl [] H := hP
  have hD : va_D A [] := hD
  refine lv_if_ne (tgt := 43) hx hb dX9_setGovernor_28 (by decide) (fun z => absurd (by decide) z) (fun _ => ?_)
  refine lv_iload hx hb dX9_setGovernor_31 (lv_at hl 4 rfl) ?_
  refine lv_iconst (v := 0) hx hb dX9_setGovernor_33 (by decide) ?_
  refine lv_sipush (v := 5000) hx hb dX9_setGovernor_34 (by decide) ?_
  refine ca_i (isC := []) (isR := []) (wr := []) (rn_S (isC := []) (wc := []) (As := [.int x3, .int 0, .int 5000]) (rest := []) (n := 3) hx hb hml hown hts hE hS hP hD hA hl.1 (k17_X9_isOutside l D cy g x3 0 5000 H.size h6) rfl rfl ax_30 rfl rfl ax_31 ⟨Nat.le_of_ble_eq_true rfl, Nat.le_of_ble_eq_true rfl⟩ rfl rfl (Nat.le_of_ble_eq_true rfl) dX9_setGovernor_37 ⟨(Nat.le_of_ble_eq_true rfl), (Nat.le_of_ble_eq_true rfl)⟩) hP hD hS hA rfl rfl rfl (by decide) (fun ad37 H locs hP hD hS => ?_)
  have hP : va_P D vwCl [] H := hP
  have hD : va_D A [] := hD
  refine lv_if_eq (tgt := 53) hx hb dX9_setGovernor_40 (by decide) (fun z => absurd z (by decide)) (fun _ => ?_)
  exact th_S (text := "a number is out of range") hx hb hst hown hts hE hS (hl.1.trans hml.symm) hout hlk (by decide +kernel) tw_296 tw_297 ax_32 (by decide +kernel) dX9_setGovernor_43 dX9_setGovernor_46 dX9_setGovernor_47 dX9_setGovernor_49 dX9_setGovernor_52 ⟨Nat.le_of_ble_eq_true rfl, Nat.le_of_ble_eq_true rfl, Nat.le_of_ble_eq_true rfl, Nat.le_of_ble_eq_true rfl⟩ (Nat.le_of_ble_eq_true rfl) (Nat.le_of_ble_eq_true rfl)
set_option maxHeartbeats 4000000 in
set_option maxRecDepth 100000 in
theorem k591_L_setGovernor (l : Launch) (hst : l.stackTraces = false) (D : va_G) (cy : Nat → ClassId) (g : Nat → Nat) (x0 : Int32) (x1 : Int32) (x2 : Int32) (x3 : Int32) (a0 : Nat) (b0 : Nat) (v0 : Value) (v1 : Value) (v2 : Value) (v3 : Value) (v4 : Value) (v5 : Value) (v6 : Value) (sz : Nat) (h0 : ¬ x0 < 0) (h1 : ¬ (3000 : Int32) < x0) (h2 : ¬ x1 < 0) (h3 : ¬ (100 : Int32) < x1) (h4 : ¬ x2 < 0) (h5 : ¬ (50 : Int32) < x2) (h6 : x3 < 0) : Met l yL_setGovernor [.codeWith yL_setGovernor cL_setGovernor 7 (some .int) [(0, 14, 17, 13)]] ({ frames := 7, cells := 1, slots := 6, locals := 107 }) (PC D cy g [(a0, .inr (14, [v0, v1, v2, v3, v4, v5, v6]))] sz [.ref a0, .int x0, .int x1, .int x2, .int x3, .ref b0]) (QI D 1 (fun ad => []) (va_A [(a0, .inr (14, [v0, v1, v2, v3, v4, v5, v6]))] sz)) 1 6 (va_A [(a0, .inr (14, [v0, v1, v2, v3, v4, v5, v6]))] sz) := by
  refine sh_I (by decide) (Nat.le_of_ble_eq_true rfl) ?_
  intro p e s m args below meth c A ls hx hb hr hml hown hlk hnm hsz hP hD hA hE hts hS hl htb
  have hown : s.vm.findClass RL = some m.cls := hown
  have hl : lv_has ls 7 [(0, .ref a0), (1, .int x0), (2, .int x1), (3, .int x2), (4, .int x3), (5, .ref b0)] := hl
  refine lv_aload hx hb dL_setGovernor_0 (lv_at hl 5 rfl) ?_
  refine lv_iconst (v := 0) hx hb dL_setGovernor_2 (by decide) ?_
  refine lv_aload_n hx hb dL_setGovernor_3 rfl (lv_at hl 0 rfl) ?_
  refine lv_iload_n hx hb dL_setGovernor_4 rfl (lv_at hl 1 rfl) ?_
  refine lv_iload_n hx hb dL_setGovernor_5 rfl (lv_at hl 2 rfl) ?_
  refine lv_iload_n hx hb dL_setGovernor_6 rfl (lv_at hl 3 rfl) ?_
  refine lv_iload hx hb dL_setGovernor_7 (lv_at hl 4 rfl) ?_
  refine cx_catch (isC := []) (isR := [0]) (wr := [(a0, .inr (14, [v0, v1, v2, v3, v4, v5, v6]))]) (hp := []) (z := (0, 14, 17, 13)) (hq := []) (name := "java/lang/IllegalArgumentException") (own := RL) (rx_V (ci := 14) (q0 := 0) (isC := []) (wc := []) (As := [.int x0, .int x1, .int x2, .int x3]) (rest := [.int 0, .ref b0]) (n := 4) hx hb hml hown hts hE hS hP hD hA hl.1 (k590_X9_setGovernor l hst D cy g x0 x1 x2 x3 a0 s.heap.size h0 h1 h2 h3 h4 h5 h6) rfl rfl rfl rfl rfl ax_402 rfl rfl ax_403 ⟨Nat.le_of_ble_eq_true rfl, Nat.le_of_ble_eq_true rfl⟩ rfl rfl (Nat.le_of_ble_eq_true rfl) dL_setGovernor_9 ⟨(Nat.le_of_ble_eq_true rfl), (Nat.le_of_ble_eq_true rfl)⟩) hP hD hS hA hown hts hE htb rfl rfl rfl rfl (by decide) (fun z hz => by cases hz) (by decide) (by decide) tw_302 tw_303 (fun qx H locs hP hD hS => ?_)
  have hP : va_P D vwCl [(a0, .inr (14, [v0, v1, v2, v3, v4, v5, v6]))] H := hP
  have hD : va_D A [(a0, .inr (14, [v0, v1, v2, v3, v4, v5, v6]))] := hD
  refine lv_astore (lv' := [(6, .ref qx), (0, .ref a0), (1, .int x0), (2, .int x1), (3, .int x2), (4, .int x3), (5, .ref b0)]) hx hb dL_setGovernor_17 hl (Nat.le_of_ble_eq_true rfl) rfl (fun ls hl => ?_)
  refine lv_iconst (v := 1) hx hb dL_setGovernor_19 (by decide) ?_
  exact en_z hx hb hr hlk hP hD hS rfl (fun _ => 0) (is := []) rfl rfl (Nat.le_of_ble_eq_true rfl) (Nat.le_of_ble_eq_true rfl) dL_setGovernor_20
set_option maxHeartbeats 4000000 in
set_option maxRecDepth 100000 in
theorem k592_X10_setGovernor (l : Launch) (D : va_G) (cy : Nat → ClassId) (g : Nat → Nat) (x0 : Int32) (x1 : Int32) (x2 : Int32) (x3 : Int32) (a0 : Nat) (v0 : Value) (v1 : Value) (v2 : Value) (v3 : Value) (v4 : Value) (v5 : Value) (v6 : Value) (v7 : Value) (v8 : Value) (v9 : Value) (v10 : Value) (v11 : Value) (v12 : Value) (v13 : Value) (v14 : Value) (v15 : Value) (v16 : Value) (v17 : Value) (v18 : Value) (v19 : Value) (v20 : Value) (v21 : Value) (v22 : Value) (v23 : Value) (v24 : Value) (v25 : Value) (v26 : Value) (v27 : Value) (sz : Nat) (h0 : ¬ x0 < 0) (h1 : ¬ (3000 : Int32) < x0) (h2 : ¬ x1 < 0) (h3 : ¬ (100 : Int32) < x1) (h4 : ¬ x2 < 0) (h5 : ¬ (50 : Int32) < x2) (h6 : x3 < 0) : Met l yX10_setGovernor [.code yX10_setGovernor cX10_setGovernor 6 (some .int)] ({ frames := 1, cells := 0, slots := 0, locals := 25 }) (PC D cy g [(a0, .inr (15, [v0, v1, v2, v3, v4, v5, v6, v7, v8, v9, v10, v11, v12, v13, v14, v15, v16, v17, v18, v19, v20, v21, v22, v23, v24, v25, v26, v27]))] sz [.ref a0, .int x0, .int x1, .int x2, .int x3]) (QI D (-1) (fun ad => [(a0, .inr (15, [.int 1, v1, v2, v3, v4, v5, v6, v7, v8, v9, v10, v11, v12, v13, v14, v15, v16, v17, v18, v19, v20, v21, v22, v23, v24, v25, v26, v27]))]) (va_A [(a0, .inr (15, [v0, v1, v2, v3, v4, v5, v6, v7, v8, v9, v10, v11, v12, v13, v14, v15, v16, v17, v18, v19, v20, v21, v22, v23, v24, v25, v26, v27]))] sz)) 0 0 (va_A [(a0, .inr (15, [v0, v1, v2, v3, v4, v5, v6, v7, v8, v9, v10, v11, v12, v13, v14, v15, v16, v17, v18, v19, v20, v21, v22, v23, v24, v25, v26, v27]))] sz) := by
  refine st_I (by decide) (Nat.le_of_ble_eq_true rfl) ?_
  intro p e s m args below meth c A ls hx hb hr hml hown hlk hnm hsz hP hD hA hE hts hS hl
  have hown : s.vm.findClass RX10 = some m.cls := hown
  have hl : lv_has ls 6 [(0, .ref a0), (1, .int x0), (2, .int x1), (3, .int x2), (4, .int x3)] := hl
  refine lv_aload_n hx hb dX10_setGovernor_0 rfl (lv_at hl 0 rfl) ?_
  refine ca_v (isC := [0]) (isR := []) (wr := []) (rn_V (ci := 15) (q0 := 0) (isC := [0]) (wc := [(a0, .inr (15, [v0, v1, v2, v3, v4, v5, v6, v7, v8, v9, v10, v11, v12, v13, v14, v15, v16, v17, v18, v19, v20, v21, v22, v23, v24, v25, v26, v27]))]) (As := []) (rest := []) (n := 0) hx hb hml hown hts hE hS hP hD hA hl.1 (k20_X10_begins l D cy g a0 (v0) (v1) (v2) (v3) (v4) (v5) (v6) (v7) (v8) (v9) (v10) (v11) (v12) (v13) (v14) (v15) (v16) (v17) (v18) (v19) (v20) (v21) (v22) (v23) (v24) (v25) (v26) (v27) s.heap.size ) rfl rfl rfl rfl rfl ax_37 rfl rfl ax_38 ⟨Nat.le_of_ble_eq_true rfl, Nat.le_of_ble_eq_true rfl⟩ rfl rfl (Nat.le_of_ble_eq_true rfl) dX10_setGovernor_1 ⟨(Nat.le_of_ble_eq_true rfl), (Nat.le_of_ble_eq_true rfl)⟩) hP hD hS hA rfl rfl rfl (by decide) (fun ad1 H locs hP hD hS => ?_)
  have hP : va_P D vwCl [(a0, .inr (15, [.int 0, v1, v2, v3, v4, v5, v6, v7, v8, v9, v10, v11, v12, v13, v14, v15, v16, v17, v18, v19, v20, v21, v22, v23, v24, v25, v26, v27]))] H := hP
  have hD : va_D A [(a0, .inr (15, [.int 0, v1, v2, v3, v4, v5, v6, v7, v8, v9, v10, v11, v12, v13, v14, v15, v16, v17, v18, v19, v20, v21, v22, v23, v24, v25, v26, v27]))] := hD
  refine lv_aload_n hx hb dX10_setGovernor_4 rfl (lv_at hl 0 rfl) ?_
  refine lv_iload_n hx hb dX10_setGovernor_5 rfl (lv_at hl 1 rfl) ?_
  refine lv_i2l (v := x0.toInt64) hx hb dX10_setGovernor_6 rfl ?_
  refine lv_lconst (v := 0) hx hb dX10_setGovernor_7 (by decide) ?_
  refine lv_ldc2 (v := 3000) hx hb hown (hts _ tw_1088) dX10_setGovernor_8 ?_
  refine ca_i (isC := []) (isR := [0]) (wr := [(a0, .inr (15, [.int 0, v1, v2, v3, v4, v5, v6, v7, v8, v9, v10, v11, v12, v13, v14, v15, v16, v17, v18, v19, v20, v21, v22, v23, v24, v25, v26, v27]))]) (rn_S (isC := []) (wc := []) (As := [.long x0.toInt64, .long 0, .long 3000]) (rest := [.ref a0]) (n := 3) hx hb hml hown hts hE hS hP hD hA hl.1 (k33_X10_in l D cy g x0.toInt64 0 3000 H.size (wl_nlt rfl (by decide) h0) (wl_nlt (by decide) rfl h1)) rfl rfl ax_39 rfl rfl ax_40 ⟨Nat.le_of_ble_eq_true rfl, Nat.le_of_ble_eq_true rfl⟩ rfl rfl (Nat.le_of_ble_eq_true rfl) dX10_setGovernor_11 ⟨(Nat.le_of_ble_eq_true rfl), (Nat.le_of_ble_eq_true rfl)⟩) hP hD hS hA rfl rfl rfl (by decide) (fun ad11 H locs hP hD hS => ?_)
  have hP : va_P D vwCl [(a0, .inr (15, [.int 0, v1, v2, v3, v4, v5, v6, v7, v8, v9, v10, v11, v12, v13, v14, v15, v16, v17, v18, v19, v20, v21, v22, v23, v24, v25, v26, v27]))] H := hP
  have hD : va_D A [(a0, .inr (15, [.int 0, v1, v2, v3, v4, v5, v6, v7, v8, v9, v10, v11, v12, v13, v14, v15, v16, v17, v18, v19, v20, v21, v22, v23, v24, v25, v26, v27]))] := hD
  refine lv_if_eq (tgt := 54) hx hb dX10_setGovernor_14 (by decide) (fun z => absurd z (by decide)) (fun _ => ?_)
  refine lv_iload_n hx hb dX10_setGovernor_17 rfl (lv_at hl 2 rfl) ?_
  refine lv_i2l (v := x1.toInt64) hx hb dX10_setGovernor_18 rfl ?_
  refine lv_lconst (v := 0) hx hb dX10_setGovernor_19 (by decide) ?_
  refine lv_ldc2 (v := 100) hx hb hown (hts _ tw_681) dX10_setGovernor_20 ?_
  refine ca_i (isC := []) (isR := [0]) (wr := [(a0, .inr (15, [.int 0, v1, v2, v3, v4, v5, v6, v7, v8, v9, v10, v11, v12, v13, v14, v15, v16, v17, v18, v19, v20, v21, v22, v23, v24, v25, v26, v27]))]) (rn_S (isC := []) (wc := []) (As := [.long x1.toInt64, .long 0, .long 100]) (rest := [.ref a0]) (n := 3) hx hb hml hown hts hE hS hP hD hA hl.1 (k33_X10_in l D cy g x1.toInt64 0 100 H.size (wl_nlt rfl (by decide) h2) (wl_nlt (by decide) rfl h3)) rfl rfl ax_39 rfl rfl ax_40 ⟨Nat.le_of_ble_eq_true rfl, Nat.le_of_ble_eq_true rfl⟩ rfl rfl (Nat.le_of_ble_eq_true rfl) dX10_setGovernor_23 ⟨(Nat.le_of_ble_eq_true rfl), (Nat.le_of_ble_eq_true rfl)⟩) hP hD hS hA rfl rfl rfl (by decide) (fun ad23 H locs hP hD hS => ?_)
  have hP : va_P D vwCl [(a0, .inr (15, [.int 0, v1, v2, v3, v4, v5, v6, v7, v8, v9, v10, v11, v12, v13, v14, v15, v16, v17, v18, v19, v20, v21, v22, v23, v24, v25, v26, v27]))] H := hP
  have hD : va_D A [(a0, .inr (15, [.int 0, v1, v2, v3, v4, v5, v6, v7, v8, v9, v10, v11, v12, v13, v14, v15, v16, v17, v18, v19, v20, v21, v22, v23, v24, v25, v26, v27]))] := hD
  refine lv_if_eq (tgt := 54) hx hb dX10_setGovernor_26 (by decide) (fun z => absurd z (by decide)) (fun _ => ?_)
  refine lv_iload_n hx hb dX10_setGovernor_29 rfl (lv_at hl 3 rfl) ?_
  refine lv_i2l (v := x2.toInt64) hx hb dX10_setGovernor_30 rfl ?_
  refine lv_lconst (v := 0) hx hb dX10_setGovernor_31 (by decide) ?_
  refine lv_ldc2 (v := 50) hx hb hown (hts _ tw_314) dX10_setGovernor_32 ?_
  refine ca_i (isC := []) (isR := [0]) (wr := [(a0, .inr (15, [.int 0, v1, v2, v3, v4, v5, v6, v7, v8, v9, v10, v11, v12, v13, v14, v15, v16, v17, v18, v19, v20, v21, v22, v23, v24, v25, v26, v27]))]) (rn_S (isC := []) (wc := []) (As := [.long x2.toInt64, .long 0, .long 50]) (rest := [.ref a0]) (n := 3) hx hb hml hown hts hE hS hP hD hA hl.1 (k33_X10_in l D cy g x2.toInt64 0 50 H.size (wl_nlt rfl (by decide) h4) (wl_nlt (by decide) rfl h5)) rfl rfl ax_39 rfl rfl ax_40 ⟨Nat.le_of_ble_eq_true rfl, Nat.le_of_ble_eq_true rfl⟩ rfl rfl (Nat.le_of_ble_eq_true rfl) dX10_setGovernor_35 ⟨(Nat.le_of_ble_eq_true rfl), (Nat.le_of_ble_eq_true rfl)⟩) hP hD hS hA rfl rfl rfl (by decide) (fun ad35 H locs hP hD hS => ?_)
  have hP : va_P D vwCl [(a0, .inr (15, [.int 0, v1, v2, v3, v4, v5, v6, v7, v8, v9, v10, v11, v12, v13, v14, v15, v16, v17, v18, v19, v20, v21, v22, v23, v24, v25, v26, v27]))] H := hP
  have hD : va_D A [(a0, .inr (15, [.int 0, v1, v2, v3, v4, v5, v6, v7, v8, v9, v10, v11, v12, v13, v14, v15, v16, v17, v18, v19, v20, v21, v22, v23, v24, v25, v26, v27]))] := hD
  refine lv_if_eq (tgt := 54) hx hb dX10_setGovernor_38 (by decide) (fun z => absurd z (by decide)) (fun _ => ?_)
  refine lv_iload hx hb dX10_setGovernor_41 (lv_at hl 4 rfl) ?_
  refine lv_i2l (v := x3.toInt64) hx hb dX10_setGovernor_43 rfl ?_
  refine lv_lconst (v := 0) hx hb dX10_setGovernor_44 (by decide) ?_
  refine lv_ldc2 (v := 5000) hx hb hown (hts _ tw_1093) dX10_setGovernor_45 ?_
  refine ca_i (isC := []) (isR := [0]) (wr := [(a0, .inr (15, [.int 0, v1, v2, v3, v4, v5, v6, v7, v8, v9, v10, v11, v12, v13, v14, v15, v16, v17, v18, v19, v20, v21, v22, v23, v24, v25, v26, v27]))]) (rn_S (isC := []) (wc := []) (As := [.long x3.toInt64, .long 0, .long 5000]) (rest := [.ref a0]) (n := 3) hx hb hml hown hts hE hS hP hD hA hl.1 (k21_X10_in l D cy g x3.toInt64 0 5000 H.size (wl_lt rfl (by decide) h6)) rfl rfl ax_39 rfl rfl ax_40 ⟨Nat.le_of_ble_eq_true rfl, Nat.le_of_ble_eq_true rfl⟩ rfl rfl (Nat.le_of_ble_eq_true rfl) dX10_setGovernor_48 ⟨(Nat.le_of_ble_eq_true rfl), (Nat.le_of_ble_eq_true rfl)⟩) hP hD hS hA rfl rfl rfl (by decide) (fun ad48 H locs hP hD hS => ?_)
  have hP : va_P D vwCl [(a0, .inr (15, [.int 0, v1, v2, v3, v4, v5, v6, v7, v8, v9, v10, v11, v12, v13, v14, v15, v16, v17, v18, v19, v20, v21, v22, v23, v24, v25, v26, v27]))] H := hP
  have hD : va_D A [(a0, .inr (15, [.int 0, v1, v2, v3, v4, v5, v6, v7, v8, v9, v10, v11, v12, v13, v14, v15, v16, v17, v18, v19, v20, v21, v22, v23, v24, v25, v26, v27]))] := hD
  refine lv_if_ne (tgt := 58) hx hb dX10_setGovernor_51 (by decide) (fun z => absurd (by decide) z) (fun _ => ?_)
  refine lv_iconst (v := 1) hx hb dX10_setGovernor_54 (by decide) ?_
  refine lv_goto (tgt := 59) hx hb dX10_setGovernor_55 (by decide) ?_
  refine lv_iconst (v := 1) hx hb dX10_setGovernor_59 (by decide) ?_
  refine ca_i (isC := [0]) (isR := []) (wr := []) (rn_V (ci := 15) (q0 := 0) (isC := [0]) (wc := [(a0, .inr (15, [.int 0, v1, v2, v3, v4, v5, v6, v7, v8, v9, v10, v11, v12, v13, v14, v15, v16, v17, v18, v19, v20, v21, v22, v23, v24, v25, v26, v27]))]) (As := [.int 1, .int 1]) (rest := []) (n := 2) hx hb hml hown hts hE hS hP hD hA hl.1 (k22_X10_fails l D cy g a0 (v1) (v2) (v3) (v4) (v5) (v6) (v7) (v8) (v9) (v10) (v11) (v12) (v13) (v14) (v15) (v16) (v17) (v18) (v19) (v20) (v21) (v22) (v23) (v24) (v25) (v26) (v27) H.size ) rfl rfl rfl rfl rfl ax_41 rfl rfl ax_42 ⟨Nat.le_of_ble_eq_true rfl, Nat.le_of_ble_eq_true rfl⟩ rfl rfl (Nat.le_of_ble_eq_true rfl) dX10_setGovernor_60 ⟨(Nat.le_of_ble_eq_true rfl), (Nat.le_of_ble_eq_true rfl)⟩) hP hD hS hA rfl rfl rfl (by decide) (fun ad60 H locs hP hD hS => ?_)
  have hP : va_P D vwCl [(a0, .inr (15, [.int 1, v1, v2, v3, v4, v5, v6, v7, v8, v9, v10, v11, v12, v13, v14, v15, v16, v17, v18, v19, v20, v21, v22, v23, v24, v25, v26, v27]))] H := hP
  have hD : va_D A [(a0, .inr (15, [.int 1, v1, v2, v3, v4, v5, v6, v7, v8, v9, v10, v11, v12, v13, v14, v15, v16, v17, v18, v19, v20, v21, v22, v23, v24, v25, v26, v27]))] := hD
  refine lv_if_eq (tgt := 68) hx hb dX10_setGovernor_63 (by decide) (fun z => absurd z (by decide)) (fun _ => ?_)
  refine lv_iconst (v := (-1)) hx hb dX10_setGovernor_66 (by decide) ?_
  exact en_z hx hb hr hlk hP hD hS rfl (fun _ => 0) (is := [0]) rfl rfl (Nat.le_of_ble_eq_true rfl) (Nat.le_of_ble_eq_true rfl) dX10_setGovernor_67
set_option maxHeartbeats 4000000 in
set_option maxRecDepth 100000 in
theorem k593_X9_setGovernor (l : Launch) (hst : l.stackTraces = false) (D : va_G) (cy : Nat → ClassId) (g : Nat → Nat) (x0 : Int32) (x1 : Int32) (x2 : Int32) (x3 : Int32) (b0 : Nat) (sz : Nat) (h0 : ¬ x0 < 0) (h1 : ¬ (3000 : Int32) < x0) (h2 : ¬ x1 < 0) (h3 : ¬ (100 : Int32) < x1) (h4 : ¬ x2 < 0) (h5 : ¬ (50 : Int32) < x2) (h6 : ¬ x3 < 0) (h7 : (5000 : Int32) < x3) : vx_Met l yX9_setGovernor [.code yX9_setGovernor cX9_setGovernor 6 (some .int)] ({ frames := 6, cells := 1, slots := 6, locals := 82 }) (PC D cy g [] sz [.ref b0, .int x0, .int x1, .int x2, .int x3]) QN (XE "java/lang/IllegalArgumentException" (va_A [] sz)) 1 6 (va_A [] sz) := by
  refine st_X (by decide) (Nat.le_of_ble_eq_true rfl) ?_
  intro p e s m args below meth c A ls hx hb hr hml hown hlk hnm hsz hP hD hA hE hts hS hl hout
  have hown : s.vm.findClass RX9 = some m.cls := hown
  have hl : lv_has ls 6 [(0, .ref b0), (1, .int x0), (2, .int x1), (3, .int x2), (4, .int x3)] := hl
  refine lv_iload_n hx hb dX9_setGovernor_0 rfl (lv_at hl 1 rfl) ?_
  refine lv_iconst (v := 0) hx hb dX9_setGovernor_1 (by decide) ?_
  refine lv_sipush (v := 3000) hx hb dX9_setGovernor_2 (by decide) ?_
  refine ca_i (isC := []) (isR := []) (wr := []) (rn_S (isC := []) (wc := []) (As := [.int x0, .int 0, .int 3000]) (rest := []) (n := 3) hx hb hml hown hts hE hS hP hD hA hl.1 (k30_X9_isOutside l D cy g x0 0 3000 s.heap.size h0 h1) rfl rfl ax_30 rfl rfl ax_31 ⟨Nat.le_of_ble_eq_true rfl, Nat.le_of_ble_eq_true rfl⟩ rfl rfl (Nat.le_of_ble_eq_true rfl) dX9_setGovernor_5 ⟨(Nat.le_of_ble_eq_true rfl), (Nat.le_of_ble_eq_true rfl)⟩) hP hD hS hA rfl rfl rfl (by decide) (fun ad5 H locs hP hD hS => ?_)
  have hP : va_P D vwCl [] H := hP
  have hD : va_D A [] := hD
  refine lv_if_ne (tgt := 43) hx hb dX9_setGovernor_8 (by decide) (fun z => absurd (by decide) z) (fun _ => ?_)
  refine lv_iload_n hx hb dX9_setGovernor_11 rfl (lv_at hl 2 rfl) ?_
  refine lv_iconst (v := 0) hx hb dX9_setGovernor_12 (by decide) ?_
  refine lv_bipush (v := 100) hx hb dX9_setGovernor_13 (by decide) ?_
  refine ca_i (isC := []) (isR := []) (wr := []) (rn_S (isC := []) (wc := []) (As := [.int x1, .int 0, .int 100]) (rest := []) (n := 3) hx hb hml hown hts hE hS hP hD hA hl.1 (k30_X9_isOutside l D cy g x1 0 100 H.size h2 h3) rfl rfl ax_30 rfl rfl ax_31 ⟨Nat.le_of_ble_eq_true rfl, Nat.le_of_ble_eq_true rfl⟩ rfl rfl (Nat.le_of_ble_eq_true rfl) dX9_setGovernor_15 ⟨(Nat.le_of_ble_eq_true rfl), (Nat.le_of_ble_eq_true rfl)⟩) hP hD hS hA rfl rfl rfl (by decide) (fun ad15 H locs hP hD hS => ?_)
  have hP : va_P D vwCl [] H := hP
  have hD : va_D A [] := hD
  refine lv_if_ne (tgt := 43) hx hb dX9_setGovernor_18 (by decide) (fun z => absurd (by decide) z) (fun _ => ?_)
  refine lv_iload_n hx hb dX9_setGovernor_21 rfl (lv_at hl 3 rfl) ?_
  refine lv_iconst (v := 0) hx hb dX9_setGovernor_22 (by decide) ?_
  refine lv_bipush (v := 50) hx hb dX9_setGovernor_23 (by decide) ?_
  refine ca_i (isC := []) (isR := []) (wr := []) (rn_S (isC := []) (wc := []) (As := [.int x2, .int 0, .int 50]) (rest := []) (n := 3) hx hb hml hown hts hE hS hP hD hA hl.1 (k30_X9_isOutside l D cy g x2 0 50 H.size h4 h5) rfl rfl ax_30 rfl rfl ax_31 ⟨Nat.le_of_ble_eq_true rfl, Nat.le_of_ble_eq_true rfl⟩ rfl rfl (Nat.le_of_ble_eq_true rfl) dX9_setGovernor_25 ⟨(Nat.le_of_ble_eq_true rfl), (Nat.le_of_ble_eq_true rfl)⟩) hP hD hS hA rfl rfl rfl (by decide) (fun ad25 H locs hP hD hS => ?_)
  have hP : va_P D vwCl [] H := hP
  have hD : va_D A [] := hD
  refine lv_if_ne (tgt := 43) hx hb dX9_setGovernor_28 (by decide) (fun z => absurd (by decide) z) (fun _ => ?_)
  refine lv_iload hx hb dX9_setGovernor_31 (lv_at hl 4 rfl) ?_
  refine lv_iconst (v := 0) hx hb dX9_setGovernor_33 (by decide) ?_
  refine lv_sipush (v := 5000) hx hb dX9_setGovernor_34 (by decide) ?_
  refine ca_i (isC := []) (isR := []) (wr := []) (rn_S (isC := []) (wc := []) (As := [.int x3, .int 0, .int 5000]) (rest := []) (n := 3) hx hb hml hown hts hE hS hP hD hA hl.1 (k25_X9_isOutside l D cy g x3 0 5000 H.size h6 h7) rfl rfl ax_30 rfl rfl ax_31 ⟨Nat.le_of_ble_eq_true rfl, Nat.le_of_ble_eq_true rfl⟩ rfl rfl (Nat.le_of_ble_eq_true rfl) dX9_setGovernor_37 ⟨(Nat.le_of_ble_eq_true rfl), (Nat.le_of_ble_eq_true rfl)⟩) hP hD hS hA rfl rfl rfl (by decide) (fun ad37 H locs hP hD hS => ?_)
  have hP : va_P D vwCl [] H := hP
  have hD : va_D A [] := hD
  refine lv_if_eq (tgt := 53) hx hb dX9_setGovernor_40 (by decide) (fun z => absurd z (by decide)) (fun _ => ?_)
  exact th_S (text := "a number is out of range") hx hb hst hown hts hE hS (hl.1.trans hml.symm) hout hlk (by decide +kernel) tw_296 tw_297 ax_32 (by decide +kernel) dX9_setGovernor_43 dX9_setGovernor_46 dX9_setGovernor_47 dX9_setGovernor_49 dX9_setGovernor_52 ⟨Nat.le_of_ble_eq_true rfl, Nat.le_of_ble_eq_true rfl, Nat.le_of_ble_eq_true rfl, Nat.le_of_ble_eq_true rfl⟩ (Nat.le_of_ble_eq_true rfl) (Nat.le_of_ble_eq_true rfl)
set_option maxHeartbeats 4000000 in
set_option maxRecDepth 100000 in
theorem k594_L_setGovernor (l : Launch) (hst : l.stackTraces = false) (D : va_G) (cy : Nat → ClassId) (g : Nat → Nat) (x0 : Int32) (x1 : Int32) (x2 : Int32) (x3 : Int32) (a0 : Nat) (b0 : Nat) (v0 : Value) (v1 : Value) (v2 : Value) (v3 : Value) (v4 : Value) (v5 : Value) (v6 : Value) (sz : Nat) (h0 : ¬ x0 < 0) (h1 : ¬ (3000 : Int32) < x0) (h2 : ¬ x1 < 0) (h3 : ¬ (100 : Int32) < x1) (h4 : ¬ x2 < 0) (h5 : ¬ (50 : Int32) < x2) (h6 : ¬ x3 < 0) (h7 : (5000 : Int32) < x3) : Met l yL_setGovernor [.codeWith yL_setGovernor cL_setGovernor 7 (some .int) [(0, 14, 17, 13)]] ({ frames := 7, cells := 1, slots := 6, locals := 107 }) (PC D cy g [(a0, .inr (14, [v0, v1, v2, v3, v4, v5, v6]))] sz [.ref a0, .int x0, .int x1, .int x2, .int x3, .ref b0]) (QI D 1 (fun ad => []) (va_A [(a0, .inr (14, [v0, v1, v2, v3, v4, v5, v6]))] sz)) 1 6 (va_A [(a0, .inr (14, [v0, v1, v2, v3, v4, v5, v6]))] sz) := by
  refine sh_I (by decide) (Nat.le_of_ble_eq_true rfl) ?_
  intro p e s m args below meth c A ls hx hb hr hml hown hlk hnm hsz hP hD hA hE hts hS hl htb
  have hown : s.vm.findClass RL = some m.cls := hown
  have hl : lv_has ls 7 [(0, .ref a0), (1, .int x0), (2, .int x1), (3, .int x2), (4, .int x3), (5, .ref b0)] := hl
  refine lv_aload hx hb dL_setGovernor_0 (lv_at hl 5 rfl) ?_
  refine lv_iconst (v := 0) hx hb dL_setGovernor_2 (by decide) ?_
  refine lv_aload_n hx hb dL_setGovernor_3 rfl (lv_at hl 0 rfl) ?_
  refine lv_iload_n hx hb dL_setGovernor_4 rfl (lv_at hl 1 rfl) ?_
  refine lv_iload_n hx hb dL_setGovernor_5 rfl (lv_at hl 2 rfl) ?_
  refine lv_iload_n hx hb dL_setGovernor_6 rfl (lv_at hl 3 rfl) ?_
  refine lv_iload hx hb dL_setGovernor_7 (lv_at hl 4 rfl) ?_
  refine cx_catch (isC := []) (isR := [0]) (wr := [(a0, .inr (14, [v0, v1, v2, v3, v4, v5, v6]))]) (hp := []) (z := (0, 14, 17, 13)) (hq := []) (name := "java/lang/IllegalArgumentException") (own := RL) (rx_V (ci := 14) (q0 := 0) (isC := []) (wc := []) (As := [.int x0, .int x1, .int x2, .int x3]) (rest := [.int 0, .ref b0]) (n := 4) hx hb hml hown hts hE hS hP hD hA hl.1 (k593_X9_setGovernor l hst D cy g x0 x1 x2 x3 a0 s.heap.size h0 h1 h2 h3 h4 h5 h6 h7) rfl rfl rfl rfl rfl ax_402 rfl rfl ax_403 ⟨Nat.le_of_ble_eq_true rfl, Nat.le_of_ble_eq_true rfl⟩ rfl rfl (Nat.le_of_ble_eq_true rfl) dL_setGovernor_9 ⟨(Nat.le_of_ble_eq_true rfl), (Nat.le_of_ble_eq_true rfl)⟩) hP hD hS hA hown hts hE htb rfl rfl rfl rfl (by decide) (fun z hz => by cases hz) (by decide) (by decide) tw_302 tw_303 (fun qx H locs hP hD hS => ?_)
  have hP : va_P D vwCl [(a0, .inr (14, [v0, v1, v2, v3, v4, v5, v6]))] H := hP
  have hD : va_D A [(a0, .inr (14, [v0, v1, v2, v3, v4, v5, v6]))] := hD
  refine lv_astore (lv' := [(6, .ref qx), (0, .ref a0), (1, .int x0), (2, .int x1), (3, .int x2), (4, .int x3), (5, .ref b0)]) hx hb dL_setGovernor_17 hl (Nat.le_of_ble_eq_true rfl) rfl (fun ls hl => ?_)
  refine lv_iconst (v := 1) hx hb dL_setGovernor_19 (by decide) ?_
  exact en_z hx hb hr hlk hP hD hS rfl (fun _ => 0) (is := []) rfl rfl (Nat.le_of_ble_eq_true rfl) (Nat.le_of_ble_eq_true rfl) dL_setGovernor_20
set_option maxHeartbeats 4000000 in
set_option maxRecDepth 100000 in
theorem k595_X10_setGovernor (l : Launch) (D : va_G) (cy : Nat → ClassId) (g : Nat → Nat) (x0 : Int32) (x1 : Int32) (x2 : Int32) (x3 : Int32) (a0 : Nat) (v0 : Value) (v1 : Value) (v2 : Value) (v3 : Value) (v4 : Value) (v5 : Value) (v6 : Value) (v7 : Value) (v8 : Value) (v9 : Value) (v10 : Value) (v11 : Value) (v12 : Value) (v13 : Value) (v14 : Value) (v15 : Value) (v16 : Value) (v17 : Value) (v18 : Value) (v19 : Value) (v20 : Value) (v21 : Value) (v22 : Value) (v23 : Value) (v24 : Value) (v25 : Value) (v26 : Value) (v27 : Value) (sz : Nat) (h0 : ¬ x0 < 0) (h1 : ¬ (3000 : Int32) < x0) (h2 : ¬ x1 < 0) (h3 : ¬ (100 : Int32) < x1) (h4 : ¬ x2 < 0) (h5 : ¬ (50 : Int32) < x2) (h6 : ¬ x3 < 0) (h7 : (5000 : Int32) < x3) : Met l yX10_setGovernor [.code yX10_setGovernor cX10_setGovernor 6 (some .int)] ({ frames := 1, cells := 0, slots := 0, locals := 25 }) (PC D cy g [(a0, .inr (15, [v0, v1, v2, v3, v4, v5, v6, v7, v8, v9, v10, v11, v12, v13, v14, v15, v16, v17, v18, v19, v20, v21, v22, v23, v24, v25, v26, v27]))] sz [.ref a0, .int x0, .int x1, .int x2, .int x3]) (QI D (-1) (fun ad => [(a0, .inr (15, [.int 1, v1, v2, v3, v4, v5, v6, v7, v8, v9, v10, v11, v12, v13, v14, v15, v16, v17, v18, v19, v20, v21, v22, v23, v24, v25, v26, v27]))]) (va_A [(a0, .inr (15, [v0, v1, v2, v3, v4, v5, v6, v7, v8, v9, v10, v11, v12, v13, v14, v15, v16, v17, v18, v19, v20, v21, v22, v23, v24, v25, v26, v27]))] sz)) 0 0 (va_A [(a0, .inr (15, [v0, v1, v2, v3, v4, v5, v6, v7, v8, v9, v10, v11, v12, v13, v14, v15, v16, v17, v18, v19, v20, v21, v22, v23, v24, v25, v26, v27]))] sz) := by
  refine st_I (by decide) (Nat.le_of_ble_eq_true rfl) ?_
  intro p e s m args below meth c A ls hx hb hr hml hown hlk hnm hsz hP hD hA hE hts hS hl
  have hown : s.vm.findClass RX10 = some m.cls := hown
  have hl : lv_has ls 6 [(0, .ref a0), (1, .int x0), (2, .int x1), (3, .int x2), (4, .int x3)] := hl
  refine lv_aload_n hx hb dX10_setGovernor_0 rfl (lv_at hl 0 rfl) ?_
  refine ca_v (isC := [0]) (isR := []) (wr := []) (rn_V (ci := 15) (q0 := 0) (isC := [0]) (wc := [(a0, .inr (15, [v0, v1, v2, v3, v4, v5, v6, v7, v8, v9, v10, v11, v12, v13, v14, v15, v16, v17, v18, v19, v20, v21, v22, v23, v24, v25, v26, v27]))]) (As := []) (rest := []) (n := 0) hx hb hml hown hts hE hS hP hD hA hl.1 (k20_X10_begins l D cy g a0 (v0) (v1) (v2) (v3) (v4) (v5) (v6) (v7) (v8) (v9) (v10) (v11) (v12) (v13) (v14) (v15) (v16) (v17) (v18) (v19) (v20) (v21) (v22) (v23) (v24) (v25) (v26) (v27) s.heap.size ) rfl rfl rfl rfl rfl ax_37 rfl rfl ax_38 ⟨Nat.le_of_ble_eq_true rfl, Nat.le_of_ble_eq_true rfl⟩ rfl rfl (Nat.le_of_ble_eq_true rfl) dX10_setGovernor_1 ⟨(Nat.le_of_ble_eq_true rfl), (Nat.le_of_ble_eq_true rfl)⟩) hP hD hS hA rfl rfl rfl (by decide) (fun ad1 H locs hP hD hS => ?_)
  have hP : va_P D vwCl [(a0, .inr (15, [.int 0, v1, v2, v3, v4, v5, v6, v7, v8, v9, v10, v11, v12, v13, v14, v15, v16, v17, v18, v19, v20, v21, v22, v23, v24, v25, v26, v27]))] H := hP
  have hD : va_D A [(a0, .inr (15, [.int 0, v1, v2, v3, v4, v5, v6, v7, v8, v9, v10, v11, v12, v13, v14, v15, v16, v17, v18, v19, v20, v21, v22, v23, v24, v25, v26, v27]))] := hD
  refine lv_aload_n hx hb dX10_setGovernor_4 rfl (lv_at hl 0 rfl) ?_
  refine lv_iload_n hx hb dX10_setGovernor_5 rfl (lv_at hl 1 rfl) ?_
  refine lv_i2l (v := x0.toInt64) hx hb dX10_setGovernor_6 rfl ?_
  refine lv_lconst (v := 0) hx hb dX10_setGovernor_7 (by decide) ?_
  refine lv_ldc2 (v := 3000) hx hb hown (hts _ tw_1088) dX10_setGovernor_8 ?_
  refine ca_i (isC := []) (isR := [0]) (wr := [(a0, .inr (15, [.int 0, v1, v2, v3, v4, v5, v6, v7, v8, v9, v10, v11, v12, v13, v14, v15, v16, v17, v18, v19, v20, v21, v22, v23, v24, v25, v26, v27]))]) (rn_S (isC := []) (wc := []) (As := [.long x0.toInt64, .long 0, .long 3000]) (rest := [.ref a0]) (n := 3) hx hb hml hown hts hE hS hP hD hA hl.1 (k33_X10_in l D cy g x0.toInt64 0 3000 H.size (wl_nlt rfl (by decide) h0) (wl_nlt (by decide) rfl h1)) rfl rfl ax_39 rfl rfl ax_40 ⟨Nat.le_of_ble_eq_true rfl, Nat.le_of_ble_eq_true rfl⟩ rfl rfl (Nat.le_of_ble_eq_true rfl) dX10_setGovernor_11 ⟨(Nat.le_of_ble_eq_true rfl), (Nat.le_of_ble_eq_true rfl)⟩) hP hD hS hA rfl rfl rfl (by decide) (fun ad11 H locs hP hD hS => ?_)
  have hP : va_P D vwCl [(a0, .inr (15, [.int 0, v1, v2, v3, v4, v5, v6, v7, v8, v9, v10, v11, v12, v13, v14, v15, v16, v17, v18, v19, v20, v21, v22, v23, v24, v25, v26, v27]))] H := hP
  have hD : va_D A [(a0, .inr (15, [.int 0, v1, v2, v3, v4, v5, v6, v7, v8, v9, v10, v11, v12, v13, v14, v15, v16, v17, v18, v19, v20, v21, v22, v23, v24, v25, v26, v27]))] := hD
  refine lv_if_eq (tgt := 54) hx hb dX10_setGovernor_14 (by decide) (fun z => absurd z (by decide)) (fun _ => ?_)
  refine lv_iload_n hx hb dX10_setGovernor_17 rfl (lv_at hl 2 rfl) ?_
  refine lv_i2l (v := x1.toInt64) hx hb dX10_setGovernor_18 rfl ?_
  refine lv_lconst (v := 0) hx hb dX10_setGovernor_19 (by decide) ?_
  refine lv_ldc2 (v := 100) hx hb hown (hts _ tw_681) dX10_setGovernor_20 ?_
  refine ca_i (isC := []) (isR := [0]) (wr := [(a0, .inr (15, [.int 0, v1, v2, v3, v4, v5, v6, v7, v8, v9, v10, v11, v12, v13, v14, v15, v16, v17, v18, v19, v20, v21, v22, v23, v24, v25, v26, v27]))]) (rn_S (isC := []) (wc := []) (As := [.long x1.toInt64, .long 0, .long 100]) (rest := [.ref a0]) (n := 3) hx hb hml hown hts hE hS hP hD hA hl.1 (k33_X10_in l D cy g x1.toInt64 0 100 H.size (wl_nlt rfl (by decide) h2) (wl_nlt (by decide) rfl h3)) rfl rfl ax_39 rfl rfl ax_40 ⟨Nat.le_of_ble_eq_true rfl, Nat.le_of_ble_eq_true rfl⟩ rfl rfl (Nat.le_of_ble_eq_true rfl) dX10_setGovernor_23 ⟨(Nat.le_of_ble_eq_true rfl), (Nat.le_of_ble_eq_true rfl)⟩) hP hD hS hA rfl rfl rfl (by decide) (fun ad23 H locs hP hD hS => ?_)
  have hP : va_P D vwCl [(a0, .inr (15, [.int 0, v1, v2, v3, v4, v5, v6, v7, v8, v9, v10, v11, v12, v13, v14, v15, v16, v17, v18, v19, v20, v21, v22, v23, v24, v25, v26, v27]))] H := hP
  have hD : va_D A [(a0, .inr (15, [.int 0, v1, v2, v3, v4, v5, v6, v7, v8, v9, v10, v11, v12, v13, v14, v15, v16, v17, v18, v19, v20, v21, v22, v23, v24, v25, v26, v27]))] := hD
  refine lv_if_eq (tgt := 54) hx hb dX10_setGovernor_26 (by decide) (fun z => absurd z (by decide)) (fun _ => ?_)
  refine lv_iload_n hx hb dX10_setGovernor_29 rfl (lv_at hl 3 rfl) ?_
  refine lv_i2l (v := x2.toInt64) hx hb dX10_setGovernor_30 rfl ?_
  refine lv_lconst (v := 0) hx hb dX10_setGovernor_31 (by decide) ?_
  refine lv_ldc2 (v := 50) hx hb hown (hts _ tw_314) dX10_setGovernor_32 ?_
  refine ca_i (isC := []) (isR := [0]) (wr := [(a0, .inr (15, [.int 0, v1, v2, v3, v4, v5, v6, v7, v8, v9, v10, v11, v12, v13, v14, v15, v16, v17, v18, v19, v20, v21, v22, v23, v24, v25, v26, v27]))]) (rn_S (isC := []) (wc := []) (As := [.long x2.toInt64, .long 0, .long 50]) (rest := [.ref a0]) (n := 3) hx hb hml hown hts hE hS hP hD hA hl.1 (k33_X10_in l D cy g x2.toInt64 0 50 H.size (wl_nlt rfl (by decide) h4) (wl_nlt (by decide) rfl h5)) rfl rfl ax_39 rfl rfl ax_40 ⟨Nat.le_of_ble_eq_true rfl, Nat.le_of_ble_eq_true rfl⟩ rfl rfl (Nat.le_of_ble_eq_true rfl) dX10_setGovernor_35 ⟨(Nat.le_of_ble_eq_true rfl), (Nat.le_of_ble_eq_true rfl)⟩) hP hD hS hA rfl rfl rfl (by decide) (fun ad35 H locs hP hD hS => ?_)
  have hP : va_P D vwCl [(a0, .inr (15, [.int 0, v1, v2, v3, v4, v5, v6, v7, v8, v9, v10, v11, v12, v13, v14, v15, v16, v17, v18, v19, v20, v21, v22, v23, v24, v25, v26, v27]))] H := hP
  have hD : va_D A [(a0, .inr (15, [.int 0, v1, v2, v3, v4, v5, v6, v7, v8, v9, v10, v11, v12, v13, v14, v15, v16, v17, v18, v19, v20, v21, v22, v23, v24, v25, v26, v27]))] := hD
  refine lv_if_eq (tgt := 54) hx hb dX10_setGovernor_38 (by decide) (fun z => absurd z (by decide)) (fun _ => ?_)
  refine lv_iload hx hb dX10_setGovernor_41 (lv_at hl 4 rfl) ?_
  refine lv_i2l (v := x3.toInt64) hx hb dX10_setGovernor_43 rfl ?_
  refine lv_lconst (v := 0) hx hb dX10_setGovernor_44 (by decide) ?_
  refine lv_ldc2 (v := 5000) hx hb hown (hts _ tw_1093) dX10_setGovernor_45 ?_
  refine ca_i (isC := []) (isR := [0]) (wr := [(a0, .inr (15, [.int 0, v1, v2, v3, v4, v5, v6, v7, v8, v9, v10, v11, v12, v13, v14, v15, v16, v17, v18, v19, v20, v21, v22, v23, v24, v25, v26, v27]))]) (rn_S (isC := []) (wc := []) (As := [.long x3.toInt64, .long 0, .long 5000]) (rest := [.ref a0]) (n := 3) hx hb hml hown hts hE hS hP hD hA hl.1 (k28_X10_in l D cy g x3.toInt64 0 5000 H.size (wl_nlt rfl (by decide) h6) (wl_lt (by decide) rfl h7)) rfl rfl ax_39 rfl rfl ax_40 ⟨Nat.le_of_ble_eq_true rfl, Nat.le_of_ble_eq_true rfl⟩ rfl rfl (Nat.le_of_ble_eq_true rfl) dX10_setGovernor_48 ⟨(Nat.le_of_ble_eq_true rfl), (Nat.le_of_ble_eq_true rfl)⟩) hP hD hS hA rfl rfl rfl (by decide) (fun ad48 H locs hP hD hS => ?_)
  have hP : va_P D vwCl [(a0, .inr (15, [.int 0, v1, v2, v3, v4, v5, v6, v7, v8, v9, v10, v11, v12, v13, v14, v15, v16, v17, v18, v19, v20, v21, v22, v23, v24, v25, v26, v27]))] H := hP
  have hD : va_D A [(a0, .inr (15, [.int 0, v1, v2, v3, v4, v5, v6, v7, v8, v9, v10, v11, v12, v13, v14, v15, v16, v17, v18, v19, v20, v21, v22, v23, v24, v25, v26, v27]))] := hD
  refine lv_if_ne (tgt := 58) hx hb dX10_setGovernor_51 (by decide) (fun z => absurd (by decide) z) (fun _ => ?_)
  refine lv_iconst (v := 1) hx hb dX10_setGovernor_54 (by decide) ?_
  refine lv_goto (tgt := 59) hx hb dX10_setGovernor_55 (by decide) ?_
  refine lv_iconst (v := 1) hx hb dX10_setGovernor_59 (by decide) ?_
  refine ca_i (isC := [0]) (isR := []) (wr := []) (rn_V (ci := 15) (q0 := 0) (isC := [0]) (wc := [(a0, .inr (15, [.int 0, v1, v2, v3, v4, v5, v6, v7, v8, v9, v10, v11, v12, v13, v14, v15, v16, v17, v18, v19, v20, v21, v22, v23, v24, v25, v26, v27]))]) (As := [.int 1, .int 1]) (rest := []) (n := 2) hx hb hml hown hts hE hS hP hD hA hl.1 (k22_X10_fails l D cy g a0 (v1) (v2) (v3) (v4) (v5) (v6) (v7) (v8) (v9) (v10) (v11) (v12) (v13) (v14) (v15) (v16) (v17) (v18) (v19) (v20) (v21) (v22) (v23) (v24) (v25) (v26) (v27) H.size ) rfl rfl rfl rfl rfl ax_41 rfl rfl ax_42 ⟨Nat.le_of_ble_eq_true rfl, Nat.le_of_ble_eq_true rfl⟩ rfl rfl (Nat.le_of_ble_eq_true rfl) dX10_setGovernor_60 ⟨(Nat.le_of_ble_eq_true rfl), (Nat.le_of_ble_eq_true rfl)⟩) hP hD hS hA rfl rfl rfl (by decide) (fun ad60 H locs hP hD hS => ?_)
  have hP : va_P D vwCl [(a0, .inr (15, [.int 1, v1, v2, v3, v4, v5, v6, v7, v8, v9, v10, v11, v12, v13, v14, v15, v16, v17, v18, v19, v20, v21, v22, v23, v24, v25, v26, v27]))] H := hP
  have hD : va_D A [(a0, .inr (15, [.int 1, v1, v2, v3, v4, v5, v6, v7, v8, v9, v10, v11, v12, v13, v14, v15, v16, v17, v18, v19, v20, v21, v22, v23, v24, v25, v26, v27]))] := hD
  refine lv_if_eq (tgt := 68) hx hb dX10_setGovernor_63 (by decide) (fun z => absurd z (by decide)) (fun _ => ?_)
  refine lv_iconst (v := (-1)) hx hb dX10_setGovernor_66 (by decide) ?_
  exact en_z hx hb hr hlk hP hD hS rfl (fun _ => 0) (is := [0]) rfl rfl (Nat.le_of_ble_eq_true rfl) (Nat.le_of_ble_eq_true rfl) dX10_setGovernor_67
set_option maxHeartbeats 4000000 in
set_option maxRecDepth 100000 in
theorem k596_X2_adjust (l : Launch) (D : va_G) (cy : Nat → ClassId) (g : Nat → Nat) (x0 : Int32) (x1 : Int32) (x2 : Int32) (x3 : Int32) (a0 : Nat) (v0 : Value) (v1 : Value) (v2 : Value) (v3 : Value) (v4 : Value) (v5 : Value) (v6 : Value) (v7 : Value) (v8 : Value) (v9 : Value) (sz : Nat)  : Met l yX2_adjust [.code yX2_adjust cX2_adjust 5 none] ({ frames := 0, cells := 0, slots := 0, locals := 0 }) (PC D cy g [(a0, .inr (7, [v0, v1, v2, v3, v4, v5, v6, v7, v8, v9]))] sz [.ref a0, .int x0, .int x1, .int x2, .int x3]) (QV D (fun ad => [(a0, .inr (7, [.int x0, .int x1, .int x2, .int x3, v4, v5, v6, v7, v8, v9]))]) (va_A [(a0, .inr (7, [v0, v1, v2, v3, v4, v5, v6, v7, v8, v9]))] sz)) 0 0 (va_A [(a0, .inr (7, [v0, v1, v2, v3, v4, v5, v6, v7, v8, v9]))] sz) := by
  refine st_V (by decide) (Nat.le_of_ble_eq_true rfl) ?_
  intro p e s m args below meth c A ls hx hb hr hml hown hlk hnm hsz hP hD hA hE hts hS hl
  have hown : s.vm.findClass RX2 = some m.cls := hown
  have hl : lv_has ls 5 [(0, .ref a0), (1, .int x0), (2, .int x1), (3, .int x2), (4, .int x3)] := hl
  refine lv_aload_n hx hb dX2_adjust_0 rfl (lv_at hl 0 rfl) ?_
  refine lv_iload_n hx hb dX2_adjust_1 rfl (lv_at hl 1 rfl) ?_
  refine va_put (D := D) (ci := 7) (v := .int x0) (ty := .int) (C := RX2) (T := TX2) (N := 10) hx hb hts ax_13 tyX2 tyX2_ok nmX2 hown hE.1 hP hD hS 0 rfl rfl 0 (by decide) (hts _ tw_144) (fun _ h9 => h9) rfl (by decide +kernel) rfl rfl (Nat.le_of_ble_eq_true rfl) dX2_adjust_2 (fun H locs hP hD hS => ?_)
  have hP : va_P D vwCl [(a0, .inr (7, [.int x0, v1, v2, v3, v4, v5, v6, v7, v8, v9]))] H := hP
  have hD : va_D A [(a0, .inr (7, [.int x0, v1, v2, v3, v4, v5, v6, v7, v8, v9]))] := hD
  refine lv_aload_n hx hb dX2_adjust_5 rfl (lv_at hl 0 rfl) ?_
  refine lv_iload_n hx hb dX2_adjust_6 rfl (lv_at hl 2 rfl) ?_
  refine va_put (D := D) (ci := 7) (v := .int x1) (ty := .int) (C := RX2) (T := TX2) (N := 10) hx hb hts ax_13 tyX2 tyX2_ok nmX2 hown hE.1 hP hD hS 0 rfl rfl 1 (by decide) (hts _ tw_145) (fun _ h9 => h9) rfl (by decide +kernel) rfl rfl (Nat.le_of_ble_eq_true rfl) dX2_adjust_7 (fun H locs hP hD hS => ?_)
  have hP : va_P D vwCl [(a0, .inr (7, [.int x0, .int x1, v2, v3, v4, v5, v6, v7, v8, v9]))] H := hP
  have hD : va_D A [(a0, .inr (7, [.int x0, .int x1, v2, v3, v4, v5, v6, v7, v8, v9]))] := hD
  refine lv_aload_n hx hb dX2_adjust_10 rfl (lv_at hl 0 rfl) ?_
  refine lv_iload_n hx hb dX2_adjust_11 rfl (lv_at hl 3 rfl) ?_
  refine va_put (D := D) (ci := 7) (v := .int x2) (ty := .int) (C := RX2) (T := TX2) (N := 10) hx hb hts ax_13 tyX2 tyX2_ok nmX2 hown hE.1 hP hD hS 0 rfl rfl 2 (by decide) (hts _ tw_146) (fun _ h9 => h9) rfl (by decide +kernel) rfl rfl (Nat.le_of_ble_eq_true rfl) dX2_adjust_12 (fun H locs hP hD hS => ?_)
  have hP : va_P D vwCl [(a0, .inr (7, [.int x0, .int x1, .int x2, v3, v4, v5, v6, v7, v8, v9]))] H := hP
  have hD : va_D A [(a0, .inr (7, [.int x0, .int x1, .int x2, v3, v4, v5, v6, v7, v8, v9]))] := hD
  refine lv_aload_n hx hb dX2_adjust_15 rfl (lv_at hl 0 rfl) ?_
  refine lv_iload hx hb dX2_adjust_16 (lv_at hl 4 rfl) ?_
  refine va_put (D := D) (ci := 7) (v := .int x3) (ty := .int) (C := RX2) (T := TX2) (N := 10) hx hb hts ax_13 tyX2 tyX2_ok nmX2 hown hE.1 hP hD hS 0 rfl rfl 3 (by decide) (hts _ tw_147) (fun _ h9 => h9) rfl (by decide +kernel) rfl rfl (Nat.le_of_ble_eq_true rfl) dX2_adjust_18 (fun H locs hP hD hS => ?_)
  have hP : va_P D vwCl [(a0, .inr (7, [.int x0, .int x1, .int x2, .int x3, v4, v5, v6, v7, v8, v9]))] H := hP
  have hD : va_D A [(a0, .inr (7, [.int x0, .int x1, .int x2, .int x3, v4, v5, v6, v7, v8, v9]))] := hD
  exact en_v hx hb hr hlk hP hD hS (fun _ => 0) (is := [0]) rfl rfl (Nat.le_of_ble_eq_true rfl) (Nat.le_of_ble_eq_true rfl) dX2_adjust_21
set_option maxHeartbeats 4000000 in
set_option maxRecDepth 100000 in
theorem k597_X9_setGovernor (l : Launch) (D : va_G) (cy : Nat → ClassId) (g : Nat → Nat) (x0 : Int32) (x1 : Int32) (x2 : Int32) (x3 : Int32) (a0 : Nat) (a1 : Nat) (v0 : Value) (v1 : Value) (v2 : Value) (v3 : Value) (v4 : Value) (v5 : Value) (v6 : Value) (v7 : Value) (v8 : Value) (v9 : Value) (v10 : Value) (v11 : Value) (v12 : Value) (v13 : Value) (v14 : Value) (sz : Nat) (h0 : ¬ x0 < 0) (h1 : ¬ (3000 : Int32) < x0) (h2 : ¬ x1 < 0) (h3 : ¬ (100 : Int32) < x1) (h4 : ¬ x2 < 0) (h5 : ¬ (50 : Int32) < x2) (h6 : ¬ x3 < 0) (h7 : ¬ (5000 : Int32) < x3) : Met l yX9_setGovernor [.code yX9_setGovernor cX9_setGovernor 6 (some .int)] ({ frames := 1, cells := 0, slots := 0, locals := 24 }) (PC D cy g [(a0, .inr (14, [v0, v1, v2, v3, v4, .ref a1, v5])), (a1, .inr (7, [.int 1000, v6, v7, v8, v9, v10, v11, v12, v13, v14]))] sz [.ref a0, .int x0, .int x1, .int x2, .int x3]) (QI D 1000 (fun ad => [(a0, .inr (14, [v0, v1, v2, v3, v4, .ref a1, v5])), (a1, .inr (7, [.int x0, .int x1, .int x2, .int x3, v9, v10, v11, v12, v13, v14]))]) (va_A [(a0, .inr (14, [v0, v1, v2, v3, v4, .ref a1, v5])), (a1, .inr (7, [.int 1000, v6, v7, v8, v9, v10, v11, v12, v13, v14]))] sz)) 0 0 (va_A [(a0, .inr (14, [v0, v1, v2, v3, v4, .ref a1, v5])), (a1, .inr (7, [.int 1000, v6, v7, v8, v9, v10, v11, v12, v13, v14]))] sz) := by
  refine st_I (by decide) (Nat.le_of_ble_eq_true rfl) ?_
  intro p e s m args below meth c A ls hx hb hr hml hown hlk hnm hsz hP hD hA hE hts hS hl
  have hown : s.vm.findClass RX9 = some m.cls := hown
  have hl : lv_has ls 6 [(0, .ref a0), (1, .int x0), (2, .int x1), (3, .int x2), (4, .int x3)] := hl
  refine lv_iload_n hx hb dX9_setGovernor_0 rfl (lv_at hl 1 rfl) ?_
  refine lv_iconst (v := 0) hx hb dX9_setGovernor_1 (by decide) ?_
  refine lv_sipush (v := 3000) hx hb dX9_setGovernor_2 (by decide) ?_
  refine ca_i (isC := []) (isR := [0, 1]) (wr := [(a0, .inr (14, [v0, v1, v2, v3, v4, .ref a1, v5])), (a1, .inr (7, [.int 1000, v6, v7, v8, v9, v10, v11, v12, v13, v14]))]) (rn_S (isC := []) (wc := []) (As := [.int x0, .int 0, .int 3000]) (rest := []) (n := 3) hx hb hml hown hts hE hS hP hD hA hl.1 (k30_X9_isOutside l D cy g x0 0 3000 s.heap.size h0 h1) rfl rfl ax_30 rfl rfl ax_31 ⟨Nat.le_of_ble_eq_true rfl, Nat.le_of_ble_eq_true rfl⟩ rfl rfl (Nat.le_of_ble_eq_true rfl) dX9_setGovernor_5 ⟨(Nat.le_of_ble_eq_true rfl), (Nat.le_of_ble_eq_true rfl)⟩) hP hD hS hA rfl rfl rfl (by decide) (fun ad5 H locs hP hD hS => ?_)
  have hP : va_P D vwCl [(a0, .inr (14, [v0, v1, v2, v3, v4, .ref a1, v5])), (a1, .inr (7, [.int 1000, v6, v7, v8, v9, v10, v11, v12, v13, v14]))] H := hP
  have hD : va_D A [(a0, .inr (14, [v0, v1, v2, v3, v4, .ref a1, v5])), (a1, .inr (7, [.int 1000, v6, v7, v8, v9, v10, v11, v12, v13, v14]))] := hD
  refine lv_if_ne (tgt := 43) hx hb dX9_setGovernor_8 (by decide) (fun z => absurd (by decide) z) (fun _ => ?_)
  refine lv_iload_n hx hb dX9_setGovernor_11 rfl (lv_at hl 2 rfl) ?_
  refine lv_iconst (v := 0) hx hb dX9_setGovernor_12 (by decide) ?_
  refine lv_bipush (v := 100) hx hb dX9_setGovernor_13 (by decide) ?_
  refine ca_i (isC := []) (isR := [0, 1]) (wr := [(a0, .inr (14, [v0, v1, v2, v3, v4, .ref a1, v5])), (a1, .inr (7, [.int 1000, v6, v7, v8, v9, v10, v11, v12, v13, v14]))]) (rn_S (isC := []) (wc := []) (As := [.int x1, .int 0, .int 100]) (rest := []) (n := 3) hx hb hml hown hts hE hS hP hD hA hl.1 (k30_X9_isOutside l D cy g x1 0 100 H.size h2 h3) rfl rfl ax_30 rfl rfl ax_31 ⟨Nat.le_of_ble_eq_true rfl, Nat.le_of_ble_eq_true rfl⟩ rfl rfl (Nat.le_of_ble_eq_true rfl) dX9_setGovernor_15 ⟨(Nat.le_of_ble_eq_true rfl), (Nat.le_of_ble_eq_true rfl)⟩) hP hD hS hA rfl rfl rfl (by decide) (fun ad15 H locs hP hD hS => ?_)
  have hP : va_P D vwCl [(a0, .inr (14, [v0, v1, v2, v3, v4, .ref a1, v5])), (a1, .inr (7, [.int 1000, v6, v7, v8, v9, v10, v11, v12, v13, v14]))] H := hP
  have hD : va_D A [(a0, .inr (14, [v0, v1, v2, v3, v4, .ref a1, v5])), (a1, .inr (7, [.int 1000, v6, v7, v8, v9, v10, v11, v12, v13, v14]))] := hD
  refine lv_if_ne (tgt := 43) hx hb dX9_setGovernor_18 (by decide) (fun z => absurd (by decide) z) (fun _ => ?_)
  refine lv_iload_n hx hb dX9_setGovernor_21 rfl (lv_at hl 3 rfl) ?_
  refine lv_iconst (v := 0) hx hb dX9_setGovernor_22 (by decide) ?_
  refine lv_bipush (v := 50) hx hb dX9_setGovernor_23 (by decide) ?_
  refine ca_i (isC := []) (isR := [0, 1]) (wr := [(a0, .inr (14, [v0, v1, v2, v3, v4, .ref a1, v5])), (a1, .inr (7, [.int 1000, v6, v7, v8, v9, v10, v11, v12, v13, v14]))]) (rn_S (isC := []) (wc := []) (As := [.int x2, .int 0, .int 50]) (rest := []) (n := 3) hx hb hml hown hts hE hS hP hD hA hl.1 (k30_X9_isOutside l D cy g x2 0 50 H.size h4 h5) rfl rfl ax_30 rfl rfl ax_31 ⟨Nat.le_of_ble_eq_true rfl, Nat.le_of_ble_eq_true rfl⟩ rfl rfl (Nat.le_of_ble_eq_true rfl) dX9_setGovernor_25 ⟨(Nat.le_of_ble_eq_true rfl), (Nat.le_of_ble_eq_true rfl)⟩) hP hD hS hA rfl rfl rfl (by decide) (fun ad25 H locs hP hD hS => ?_)
  have hP : va_P D vwCl [(a0, .inr (14, [v0, v1, v2, v3, v4, .ref a1, v5])), (a1, .inr (7, [.int 1000, v6, v7, v8, v9, v10, v11, v12, v13, v14]))] H := hP
  have hD : va_D A [(a0, .inr (14, [v0, v1, v2, v3, v4, .ref a1, v5])), (a1, .inr (7, [.int 1000, v6, v7, v8, v9, v10, v11, v12, v13, v14]))] := hD
  refine lv_if_ne (tgt := 43) hx hb dX9_setGovernor_28 (by decide) (fun z => absurd (by decide) z) (fun _ => ?_)
  refine lv_iload hx hb dX9_setGovernor_31 (lv_at hl 4 rfl) ?_
  refine lv_iconst (v := 0) hx hb dX9_setGovernor_33 (by decide) ?_
  refine lv_sipush (v := 5000) hx hb dX9_setGovernor_34 (by decide) ?_
  refine ca_i (isC := []) (isR := [0, 1]) (wr := [(a0, .inr (14, [v0, v1, v2, v3, v4, .ref a1, v5])), (a1, .inr (7, [.int 1000, v6, v7, v8, v9, v10, v11, v12, v13, v14]))]) (rn_S (isC := []) (wc := []) (As := [.int x3, .int 0, .int 5000]) (rest := []) (n := 3) hx hb hml hown hts hE hS hP hD hA hl.1 (k30_X9_isOutside l D cy g x3 0 5000 H.size h6 h7) rfl rfl ax_30 rfl rfl ax_31 ⟨Nat.le_of_ble_eq_true rfl, Nat.le_of_ble_eq_true rfl⟩ rfl rfl (Nat.le_of_ble_eq_true rfl) dX9_setGovernor_37 ⟨(Nat.le_of_ble_eq_true rfl), (Nat.le_of_ble_eq_true rfl)⟩) hP hD hS hA rfl rfl rfl (by decide) (fun ad37 H locs hP hD hS => ?_)
  have hP : va_P D vwCl [(a0, .inr (14, [v0, v1, v2, v3, v4, .ref a1, v5])), (a1, .inr (7, [.int 1000, v6, v7, v8, v9, v10, v11, v12, v13, v14]))] H := hP
  have hD : va_D A [(a0, .inr (14, [v0, v1, v2, v3, v4, .ref a1, v5])), (a1, .inr (7, [.int 1000, v6, v7, v8, v9, v10, v11, v12, v13, v14]))] := hD
  refine lv_if_eq (tgt := 53) hx hb dX9_setGovernor_40 (by decide) (fun _ => ?_) (fun z => absurd (by decide) z)
  refine lv_aload_n hx hb dX9_setGovernor_53 rfl (lv_at hl 0 rfl) ?_
  refine va_get (D := D) (ci := 14) (v := .ref a1) (C := RX9) (T := TX9) (N := 7) hx hb hts ax_16 hown hE.1 hP 0 rfl rfl 5 (by decide) (hts _ tw_213) (fun _ h9 => h9) rfl dX9_setGovernor_54 ?_
  refine va_getN (D := D) (ci := 7) (v := .int 1000) (C := RX2) (T := TX2) (N := 10) hx hb hts ax_13 hown hE.1 hP 1 rfl rfl 0 (by decide) (hts _ tw_1094) (fun _ h9 => h9) rfl dX9_setGovernor_57 ?_
  refine lv_istore (lv' := [(5, .int 1000), (0, .ref a0), (1, .int x0), (2, .int x1), (3, .int x2), (4, .int x3)]) hx hb dX9_setGovernor_60 hl (Nat.le_of_ble_eq_true rfl) rfl (fun ls hl => ?_)
  refine lv_aload_n hx hb dX9_setGovernor_62 rfl (lv_at hl 1 rfl) ?_
  refine va_get (D := D) (ci := 14) (v := .ref a1) (C := RX9) (T := TX9) (N := 7) hx hb hts ax_16 hown hE.1 hP 0 rfl rfl 5 (by decide) (hts _ tw_213) (fun _ h9 => h9) rfl dX9_setGovernor_63 ?_
  refine lv_iload_n hx hb dX9_setGovernor_66 rfl (lv_at hl 2 rfl) ?_
  refine lv_iload_n hx hb dX9_setGovernor_67 rfl (lv_at hl 3 rfl) ?_
  refine lv_iload_n hx hb dX9_setGovernor_68 rfl (lv_at hl 4 rfl) ?_
  refine lv_iload hx hb dX9_setGovernor_69 (lv_at hl 5 rfl) ?_
  refine ca_v (isC := [1]) (isR := [0]) (wr := [(a0, .inr (14, [v0, v1, v2, v3, v4, .ref a1, v5]))]) (rn_V (ci := 7) (q0 := 1) (isC := [1]) (wc := [(a1, .inr (7, [.int 1000, v6, v7, v8, v9, v10, v11, v12, v13, v14]))]) (As := [.int x0, .int x1, .int x2, .int x3]) (rest := []) (n := 4) hx hb hml hown hts hE hS hP hD hA hl.1 (k596_X2_adjust l D cy g x0 x1 x2 x3 a1 (.int 1000) (v6) (v7) (v8) (v9) (v10) (v11) (v12) (v13) (v14) H.size ) rfl rfl rfl rfl rfl ax_408 rfl rfl ax_409 ⟨Nat.le_of_ble_eq_true rfl, Nat.le_of_ble_eq_true rfl⟩ rfl rfl (Nat.le_of_ble_eq_true rfl) dX9_setGovernor_71 ⟨(Nat.le_of_ble_eq_true rfl), (Nat.le_of_ble_eq_true rfl)⟩) hP hD hS hA rfl rfl rfl (by decide) (fun ad71 H locs hP hD hS => ?_)
  have hP : va_P D vwCl [(a0, .inr (14, [v0, v1, v2, v3, v4, .ref a1, v5])), (a1, .inr (7, [.int x0, .int x1, .int x2, .int x3, v9, v10, v11, v12, v13, v14]))] H := hP
  have hD : va_D A [(a0, .inr (14, [v0, v1, v2, v3, v4, .ref a1, v5])), (a1, .inr (7, [.int x0, .int x1, .int x2, .int x3, v9, v10, v11, v12, v13, v14]))] := hD
  refine lv_iload hx hb dX9_setGovernor_74 (lv_at hl 0 rfl) ?_
  exact en_z hx hb hr hlk hP hD hS rfl (fun _ => 0) (is := [0, 1]) rfl rfl (Nat.le_of_ble_eq_true rfl) (Nat.le_of_ble_eq_true rfl) dX9_setGovernor_76
set_option maxHeartbeats 4000000 in
set_option maxRecDepth 100000 in
theorem k598_L_setGovernor (l : Launch) (D : va_G) (cy : Nat → ClassId) (g : Nat → Nat) (x0 : Int32) (x1 : Int32) (x2 : Int32) (x3 : Int32) (a0 : Nat) (a1 : Nat) (a2 : Nat) (v0 : Value) (v1 : Value) (v2 : Value) (v3 : Value) (v4 : Value) (v5 : Value) (v6 : Value) (v7 : Value) (v8 : Value) (v9 : Value) (v10 : Value) (v11 : Value) (v12 : Value) (v13 : Value) (v14 : Value) (f0 : Nat → Int64) (sz : Nat) (h0 : ¬ x0 < 0) (h1 : ¬ (3000 : Int32) < x0) (h2 : ¬ x1 < 0) (h3 : ¬ (100 : Int32) < x1) (h4 : ¬ x2 < 0) (h5 : ¬ (50 : Int32) < x2) (h6 : ¬ x3 < 0) (h7 : ¬ (5000 : Int32) < x3) : Met l yL_setGovernor [.codeWith yL_setGovernor cL_setGovernor 7 (some .int) [(0, 14, 17, 13)]] ({ frames := 2, cells := 0, slots := 0, locals := 49 }) (PC D cy g [(a0, .inr (14, [v0, v1, v2, v3, v4, .ref a1, v5])), (a1, .inr (7, [.int 1000, v6, v7, v8, v9, v10, v11, v12, v13, v14])), (a2, .inl (cy 2, 1, .inr (.inl f0)))] sz [.ref a0, .int x0, .int x1, .int x2, .int x3, .ref a2]) (QI D 0 (fun ad => [(a2, .inl (cy 2, 1, .inr (.inl (vp_updL f0 (0 : Int32).toNatClampNeg 1000))))]) (va_A [(a0, .inr (14, [v0, v1, v2, v3, v4, .ref a1, v5])), (a1, .inr (7, [.int 1000, v6, v7, v8, v9, v10, v11, v12, v13, v14])), (a2, .inl (cy 2, 1, .inr (.inl f0)))] sz)) 0 0 (va_A [(a0, .inr (14, [v0, v1, v2, v3, v4, .ref a1, v5])), (a1, .inr (7, [.int 1000, v6, v7, v8, v9, v10, v11, v12, v13, v14])), (a2, .inl (cy 2, 1, .inr (.inl f0)))] sz) := by
  refine sh_I (by decide) (Nat.le_of_ble_eq_true rfl) ?_
  intro p e s m args below meth c A ls hx hb hr hml hown hlk hnm hsz hP hD hA hE hts hS hl htb
  have hown : s.vm.findClass RL = some m.cls := hown
  have hl : lv_has ls 7 [(0, .ref a0), (1, .int x0), (2, .int x1), (3, .int x2), (4, .int x3), (5, .ref a2)] := hl
  refine lv_aload hx hb dL_setGovernor_0 (lv_at hl 5 rfl) ?_
  refine lv_iconst (v := 0) hx hb dL_setGovernor_2 (by decide) ?_
  refine lv_aload_n hx hb dL_setGovernor_3 rfl (lv_at hl 0 rfl) ?_
  refine lv_iload_n hx hb dL_setGovernor_4 rfl (lv_at hl 1 rfl) ?_
  refine lv_iload_n hx hb dL_setGovernor_5 rfl (lv_at hl 2 rfl) ?_
  refine lv_iload_n hx hb dL_setGovernor_6 rfl (lv_at hl 3 rfl) ?_
  refine lv_iload hx hb dL_setGovernor_7 (lv_at hl 4 rfl) ?_
  refine ca_i (isC := [0, 1]) (isR := [2]) (wr := [(a2, .inl (cy 2, 1, .inr (.inl f0)))]) (rn_V (ci := 14) (q0 := 0) (isC := [0, 1]) (wc := [(a0, .inr (14, [v0, v1, v2, v3, v4, .ref a1, v5])), (a1, .inr (7, [.int 1000, v6, v7, v8, v9, v10, v11, v12, v13, v14]))]) (As := [.int x0, .int x1, .int x2, .int x3]) (rest := [.int 0, .ref a2]) (n := 4) hx hb hml hown hts hE hS hP hD hA hl.1 (k597_X9_setGovernor l D cy g x0 x1 x2 x3 a0 a1 (v0) (v1) (v2) (v3) (v4) (v5) (v6) (v7) (v8) (v9) (v10) (v11) (v12) (v13) (v14) s.heap.size h0 h1 h2 h3 h4 h5 h6 h7) rfl rfl rfl rfl rfl ax_402 rfl rfl ax_403 ⟨Nat.le_of_ble_eq_true rfl, Nat.le_of_ble_eq_true rfl⟩ rfl rfl (Nat.le_of_ble_eq_true rfl) dL_setGovernor_9 ⟨(Nat.le_of_ble_eq_true rfl), (Nat.le_of_ble_eq_true rfl)⟩) hP hD hS hA rfl rfl rfl (by decide) (fun ad9 H locs hP hD hS => ?_)
  have hP : va_P D vwCl [(a2, .inl (cy 2, 1, .inr (.inl f0))), (a0, .inr (14, [v0, v1, v2, v3, v4, .ref a1, v5])), (a1, .inr (7, [.int x0, .int x1, .int x2, .int x3, v9, v10, v11, v12, v13, v14]))] H := hP
  have hD : va_D A [(a2, .inl (cy 2, 1, .inr (.inl f0))), (a0, .inr (14, [v0, v1, v2, v3, v4, .ref a1, v5])), (a1, .inr (7, [.int x0, .int x1, .int x2, .int x3, v9, v10, v11, v12, v13, v14]))] := hD
  refine lv_i2l (v := 1000) hx hb dL_setGovernor_12 (by decide) ?_
  refine va_last hx hb hE.1 hP hD hS 0 2 rfl rfl (by unfold vp_in; decide) dL_setGovernor_13 (fun H locs hP hD hS => ?_)
  have hP : va_P D vwCl [(a2, .inl (cy 2, 1, .inr (.inl (vp_updL f0 (0 : Int32).toNatClampNeg 1000)))), (a0, .inr (14, [v0, v1, v2, v3, v4, .ref a1, v5])), (a1, .inr (7, [.int x0, .int x1, .int x2, .int x3, v9, v10, v11, v12, v13, v14]))] H := hP
  have hD : va_D A [(a2, .inl (cy 2, 1, .inr (.inl (vp_updL f0 (0 : Int32).toNatClampNeg 1000)))), (a0, .inr (14, [v0, v1, v2, v3, v4, .ref a1, v5])), (a1, .inr (7, [.int x0, .int x1, .int x2, .int x3, v9, v10, v11, v12, v13, v14]))] := hD
  refine lv_goto (tgt := 21) hx hb dL_setGovernor_14 (by decide) ?_
  refine lv_iconst (v := 0) hx hb dL_setGovernor_21 (by decide) ?_
  exact en_z hx hb hr hlk hP hD hS rfl (fun _ => 0) (is := [0]) rfl rfl (Nat.le_of_ble_eq_true rfl) (Nat.le_of_ble_eq_true rfl) dL_setGovernor_22
set_option maxHeartbeats 4000000 in
set_option maxRecDepth 100000 in
theorem k599_X10_setGovernor (l : Launch) (D : va_G) (cy : Nat → ClassId) (g : Nat → Nat) (x0 : Int32) (x1 : Int32) (x2 : Int32) (x3 : Int32) (a0 : Nat) (v0 : Value) (v1 : Value) (v2 : Value) (v3 : Value) (v4 : Value) (v5 : Value) (v6 : Value) (v7 : Value) (v8 : Value) (v9 : Value) (v10 : Value) (v11 : Value) (v12 : Value) (v13 : Value) (v14 : Value) (v15 : Value) (v16 : Value) (v17 : Value) (v18 : Value) (v19 : Value) (v20 : Value) (v21 : Value) (v22 : Value) (v23 : Value) (v24 : Value) (v25 : Value) (v26 : Value) (sz : Nat) (h0 : ¬ x0 < 0) (h1 : ¬ (3000 : Int32) < x0) (h2 : ¬ x1 < 0) (h3 : ¬ (100 : Int32) < x1) (h4 : ¬ x2 < 0) (h5 : ¬ (50 : Int32) < x2) (h6 : ¬ x3 < 0) (h7 : ¬ (5000 : Int32) < x3) : Met l yX10_setGovernor [.code yX10_setGovernor cX10_setGovernor 6 (some .int)] ({ frames := 1, cells := 0, slots := 0, locals := 25 }) (PC D cy g [(a0, .inr (15, [v0, v1, v2, v3, v4, v5, v6, v7, v8, v9, v10, v11, v12, v13, v14, v15, v16, v17, v18, v19, v20, .int 1000, v21, v22, v23, v24, v25, v26]))] sz [.ref a0, .int x0, .int x1, .int x2, .int x3]) (QI D 1000 (fun ad => [(a0, .inr (15, [.int 0, v1, v2, v3, v4, v5, v6, v7, v8, v9, v10, v11, v12, v13, v14, v15, v16, v17, v18, v19, v20, .int x0, .int x1, .int x2, .int x3, v24, v25, v26]))]) (va_A [(a0, .inr (15, [v0, v1, v2, v3, v4, v5, v6, v7, v8, v9, v10, v11, v12, v13, v14, v15, v16, v17, v18, v19, v20, .int 1000, v21, v22, v23, v24, v25, v26]))] sz)) 0 0 (va_A [(a0, .inr (15, [v0, v1, v2, v3, v4, v5, v6, v7, v8, v9, v10, v11, v12, v13, v14, v15, v16, v17, v18, v19, v20, .int 1000, v21, v22, v23, v24, v25, v26]))] sz) := by
  refine st_I (by decide) (Nat.le_of_ble_eq_true rfl) ?_
  intro p e s m args below meth c A ls hx hb hr hml hown hlk hnm hsz hP hD hA hE hts hS hl
  have hown : s.vm.findClass RX10 = some m.cls := hown
  have hl : lv_has ls 6 [(0, .ref a0), (1, .int x0), (2, .int x1), (3, .int x2), (4, .int x3)] := hl
  refine lv_aload_n hx hb dX10_setGovernor_0 rfl (lv_at hl 0 rfl) ?_
  refine ca_v (isC := [0]) (isR := []) (wr := []) (rn_V (ci := 15) (q0 := 0) (isC := [0]) (wc := [(a0, .inr (15, [v0, v1, v2, v3, v4, v5, v6, v7, v8, v9, v10, v11, v12, v13, v14, v15, v16, v17, v18, v19, v20, .int 1000, v21, v22, v23, v24, v25, v26]))]) (As := []) (rest := []) (n := 0) hx hb hml hown hts hE hS hP hD hA hl.1 (k20_X10_begins l D cy g a0 (v0) (v1) (v2) (v3) (v4) (v5) (v6) (v7) (v8) (v9) (v10) (v11) (v12) (v13) (v14) (v15) (v16) (v17) (v18) (v19) (v20) (.int 1000) (v21) (v22) (v23) (v24) (v25) (v26) s.heap.size ) rfl rfl rfl rfl rfl ax_37 rfl rfl ax_38 ⟨Nat.le_of_ble_eq_true rfl, Nat.le_of_ble_eq_true rfl⟩ rfl rfl (Nat.le_of_ble_eq_true rfl) dX10_setGovernor_1 ⟨(Nat.le_of_ble_eq_true rfl), (Nat.le_of_ble_eq_true rfl)⟩) hP hD hS hA rfl rfl rfl (by decide) (fun ad1 H locs hP hD hS => ?_)
  have hP : va_P D vwCl [(a0, .inr (15, [.int 0, v1, v2, v3, v4, v5, v6, v7, v8, v9, v10, v11, v12, v13, v14, v15, v16, v17, v18, v19, v20, .int 1000, v21, v22, v23, v24, v25, v26]))] H := hP
  have hD : va_D A [(a0, .inr (15, [.int 0, v1, v2, v3, v4, v5, v6, v7, v8, v9, v10, v11, v12, v13, v14, v15, v16, v17, v18, v19, v20, .int 1000, v21, v22, v23, v24, v25, v26]))] := hD
  refine lv_aload_n hx hb dX10_setGovernor_4 rfl (lv_at hl 0 rfl) ?_
  refine lv_iload_n hx hb dX10_setGovernor_5 rfl (lv_at hl 1 rfl) ?_
  refine lv_i2l (v := x0.toInt64) hx hb dX10_setGovernor_6 rfl ?_
  refine lv_lconst (v := 0) hx hb dX10_setGovernor_7 (by decide) ?_
  refine lv_ldc2 (v := 3000) hx hb hown (hts _ tw_1088) dX10_setGovernor_8 ?_
  refine ca_i (isC := []) (isR := [0]) (wr := [(a0, .inr (15, [.int 0, v1, v2, v3, v4, v5, v6, v7, v8, v9, v10, v11, v12, v13, v14, v15, v16, v17, v18, v19, v20, .int 1000, v21, v22, v23, v24, v25, v26]))]) (rn_S (isC := []) (wc := []) (As := [.long x0.toInt64, .long 0, .long 3000]) (rest := [.ref a0]) (n := 3) hx hb hml hown hts hE hS hP hD hA hl.1 (k33_X10_in l D cy g x0.toInt64 0 3000 H.size (wl_nlt rfl (by decide) h0) (wl_nlt (by decide) rfl h1)) rfl rfl ax_39 rfl rfl ax_40 ⟨Nat.le_of_ble_eq_true rfl, Nat.le_of_ble_eq_true rfl⟩ rfl rfl (Nat.le_of_ble_eq_true rfl) dX10_setGovernor_11 ⟨(Nat.le_of_ble_eq_true rfl), (Nat.le_of_ble_eq_true rfl)⟩) hP hD hS hA rfl rfl rfl (by decide) (fun ad11 H locs hP hD hS => ?_)
  have hP : va_P D vwCl [(a0, .inr (15, [.int 0, v1, v2, v3, v4, v5, v6, v7, v8, v9, v10, v11, v12, v13, v14, v15, v16, v17, v18, v19, v20, .int 1000, v21, v22, v23, v24, v25, v26]))] H := hP
  have hD : va_D A [(a0, .inr (15, [.int 0, v1, v2, v3, v4, v5, v6, v7, v8, v9, v10, v11, v12, v13, v14, v15, v16, v17, v18, v19, v20, .int 1000, v21, v22, v23, v24, v25, v26]))] := hD
  refine lv_if_eq (tgt := 54) hx hb dX10_setGovernor_14 (by decide) (fun z => absurd z (by decide)) (fun _ => ?_)
  refine lv_iload_n hx hb dX10_setGovernor_17 rfl (lv_at hl 2 rfl) ?_
  refine lv_i2l (v := x1.toInt64) hx hb dX10_setGovernor_18 rfl ?_
  refine lv_lconst (v := 0) hx hb dX10_setGovernor_19 (by decide) ?_
  refine lv_ldc2 (v := 100) hx hb hown (hts _ tw_681) dX10_setGovernor_20 ?_
  refine ca_i (isC := []) (isR := [0]) (wr := [(a0, .inr (15, [.int 0, v1, v2, v3, v4, v5, v6, v7, v8, v9, v10, v11, v12, v13, v14, v15, v16, v17, v18, v19, v20, .int 1000, v21, v22, v23, v24, v25, v26]))]) (rn_S (isC := []) (wc := []) (As := [.long x1.toInt64, .long 0, .long 100]) (rest := [.ref a0]) (n := 3) hx hb hml hown hts hE hS hP hD hA hl.1 (k33_X10_in l D cy g x1.toInt64 0 100 H.size (wl_nlt rfl (by decide) h2) (wl_nlt (by decide) rfl h3)) rfl rfl ax_39 rfl rfl ax_40 ⟨Nat.le_of_ble_eq_true rfl, Nat.le_of_ble_eq_true rfl⟩ rfl rfl (Nat.le_of_ble_eq_true rfl) dX10_setGovernor_23 ⟨(Nat.le_of_ble_eq_true rfl), (Nat.le_of_ble_eq_true rfl)⟩) hP hD hS hA rfl rfl rfl (by decide) (fun ad23 H locs hP hD hS => ?_)
  have hP : va_P D vwCl [(a0, .inr (15, [.int 0, v1, v2, v3, v4, v5, v6, v7, v8, v9, v10, v11, v12, v13, v14, v15, v16, v17, v18, v19, v20, .int 1000, v21, v22, v23, v24, v25, v26]))] H := hP
  have hD : va_D A [(a0, .inr (15, [.int 0, v1, v2, v3, v4, v5, v6, v7, v8, v9, v10, v11, v12, v13, v14, v15, v16, v17, v18, v19, v20, .int 1000, v21, v22, v23, v24, v25, v26]))] := hD
  refine lv_if_eq (tgt := 54) hx hb dX10_setGovernor_26 (by decide) (fun z => absurd z (by decide)) (fun _ => ?_)
  refine lv_iload_n hx hb dX10_setGovernor_29 rfl (lv_at hl 3 rfl) ?_
  refine lv_i2l (v := x2.toInt64) hx hb dX10_setGovernor_30 rfl ?_
  refine lv_lconst (v := 0) hx hb dX10_setGovernor_31 (by decide) ?_
  refine lv_ldc2 (v := 50) hx hb hown (hts _ tw_314) dX10_setGovernor_32 ?_
  refine ca_i (isC := []) (isR := [0]) (wr := [(a0, .inr (15, [.int 0, v1, v2, v3, v4, v5, v6, v7, v8, v9, v10, v11, v12, v13, v14, v15, v16, v17, v18, v19, v20, .int 1000, v21, v22, v23, v24, v25, v26]))]) (rn_S (isC := []) (wc := []) (As := [.long x2.toInt64, .long 0, .long 50]) (rest := [.ref a0]) (n := 3) hx hb hml hown hts hE hS hP hD hA hl.1 (k33_X10_in l D cy g x2.toInt64 0 50 H.size (wl_nlt rfl (by decide) h4) (wl_nlt (by decide) rfl h5)) rfl rfl ax_39 rfl rfl ax_40 ⟨Nat.le_of_ble_eq_true rfl, Nat.le_of_ble_eq_true rfl⟩ rfl rfl (Nat.le_of_ble_eq_true rfl) dX10_setGovernor_35 ⟨(Nat.le_of_ble_eq_true rfl), (Nat.le_of_ble_eq_true rfl)⟩) hP hD hS hA rfl rfl rfl (by decide) (fun ad35 H locs hP hD hS => ?_)
  have hP : va_P D vwCl [(a0, .inr (15, [.int 0, v1, v2, v3, v4, v5, v6, v7, v8, v9, v10, v11, v12, v13, v14, v15, v16, v17, v18, v19, v20, .int 1000, v21, v22, v23, v24, v25, v26]))] H := hP
  have hD : va_D A [(a0, .inr (15, [.int 0, v1, v2, v3, v4, v5, v6, v7, v8, v9, v10, v11, v12, v13, v14, v15, v16, v17, v18, v19, v20, .int 1000, v21, v22, v23, v24, v25, v26]))] := hD
  refine lv_if_eq (tgt := 54) hx hb dX10_setGovernor_38 (by decide) (fun z => absurd z (by decide)) (fun _ => ?_)
  refine lv_iload hx hb dX10_setGovernor_41 (lv_at hl 4 rfl) ?_
  refine lv_i2l (v := x3.toInt64) hx hb dX10_setGovernor_43 rfl ?_
  refine lv_lconst (v := 0) hx hb dX10_setGovernor_44 (by decide) ?_
  refine lv_ldc2 (v := 5000) hx hb hown (hts _ tw_1093) dX10_setGovernor_45 ?_
  refine ca_i (isC := []) (isR := [0]) (wr := [(a0, .inr (15, [.int 0, v1, v2, v3, v4, v5, v6, v7, v8, v9, v10, v11, v12, v13, v14, v15, v16, v17, v18, v19, v20, .int 1000, v21, v22, v23, v24, v25, v26]))]) (rn_S (isC := []) (wc := []) (As := [.long x3.toInt64, .long 0, .long 5000]) (rest := [.ref a0]) (n := 3) hx hb hml hown hts hE hS hP hD hA hl.1 (k33_X10_in l D cy g x3.toInt64 0 5000 H.size (wl_nlt rfl (by decide) h6) (wl_nlt (by decide) rfl h7)) rfl rfl ax_39 rfl rfl ax_40 ⟨Nat.le_of_ble_eq_true rfl, Nat.le_of_ble_eq_true rfl⟩ rfl rfl (Nat.le_of_ble_eq_true rfl) dX10_setGovernor_48 ⟨(Nat.le_of_ble_eq_true rfl), (Nat.le_of_ble_eq_true rfl)⟩) hP hD hS hA rfl rfl rfl (by decide) (fun ad48 H locs hP hD hS => ?_)
  have hP : va_P D vwCl [(a0, .inr (15, [.int 0, v1, v2, v3, v4, v5, v6, v7, v8, v9, v10, v11, v12, v13, v14, v15, v16, v17, v18, v19, v20, .int 1000, v21, v22, v23, v24, v25, v26]))] H := hP
  have hD : va_D A [(a0, .inr (15, [.int 0, v1, v2, v3, v4, v5, v6, v7, v8, v9, v10, v11, v12, v13, v14, v15, v16, v17, v18, v19, v20, .int 1000, v21, v22, v23, v24, v25, v26]))] := hD
  refine lv_if_ne (tgt := 58) hx hb dX10_setGovernor_51 (by decide) (fun _ => ?_) (fun z => absurd z (by decide))
  refine lv_iconst (v := 0) hx hb dX10_setGovernor_58 (by decide) ?_
  refine lv_iconst (v := 1) hx hb dX10_setGovernor_59 (by decide) ?_
  refine ca_i (isC := [0]) (isR := []) (wr := []) (rn_V (ci := 15) (q0 := 0) (isC := [0]) (wc := [(a0, .inr (15, [.int 0, v1, v2, v3, v4, v5, v6, v7, v8, v9, v10, v11, v12, v13, v14, v15, v16, v17, v18, v19, v20, .int 1000, v21, v22, v23, v24, v25, v26]))]) (As := [.int 0, .int 1]) (rest := []) (n := 2) hx hb hml hown hts hE hS hP hD hA hl.1 (k43_X10_fails l D cy g a0 (v1) (v2) (v3) (v4) (v5) (v6) (v7) (v8) (v9) (v10) (v11) (v12) (v13) (v14) (v15) (v16) (v17) (v18) (v19) (v20) (.int 1000) (v21) (v22) (v23) (v24) (v25) (v26) H.size ) rfl rfl rfl rfl rfl ax_41 rfl rfl ax_42 ⟨Nat.le_of_ble_eq_true rfl, Nat.le_of_ble_eq_true rfl⟩ rfl rfl (Nat.le_of_ble_eq_true rfl) dX10_setGovernor_60 ⟨(Nat.le_of_ble_eq_true rfl), (Nat.le_of_ble_eq_true rfl)⟩) hP hD hS hA rfl rfl rfl (by decide) (fun ad60 H locs hP hD hS => ?_)
  have hP : va_P D vwCl [(a0, .inr (15, [.int 0, v1, v2, v3, v4, v5, v6, v7, v8, v9, v10, v11, v12, v13, v14, v15, v16, v17, v18, v19, v20, .int 1000, v21, v22, v23, v24, v25, v26]))] H := hP
  have hD : va_D A [(a0, .inr (15, [.int 0, v1, v2, v3, v4, v5, v6, v7, v8, v9, v10, v11, v12, v13, v14, v15, v16, v17, v18, v19, v20, .int 1000, v21, v22, v23, v24, v25, v26]))] := hD
  refine lv_if_eq (tgt := 68) hx hb dX10_setGovernor_63 (by decide) (fun _ => ?_) (fun z => absurd (by decide) z)
  refine lv_aload_n hx hb dX10_setGovernor_68 rfl (lv_at hl 0 rfl) ?_
  refine va_get (D := D) (ci := 15) (v := .int 1000) (C := RX10) (T := TX10) (N := 28) hx hb hts ax_29 hown hE.1 hP 0 rfl rfl 21 (by decide) (hts _ tw_289) (fun _ h9 => h9) rfl dX10_setGovernor_69 ?_
  refine lv_istore (lv' := [(5, .int 1000), (0, .ref a0), (1, .int x0), (2, .int x1), (3, .int x2), (4, .int x3)]) hx hb dX10_setGovernor_72 hl (Nat.le_of_ble_eq_true rfl) rfl (fun ls hl => ?_)
  refine lv_aload_n hx hb dX10_setGovernor_74 rfl (lv_at hl 1 rfl) ?_
  refine lv_iload_n hx hb dX10_setGovernor_75 rfl (lv_at hl 2 rfl) ?_
  refine va_put (D := D) (ci := 15) (v := .int x0) (ty := .int) (C := RX10) (T := TX10) (N := 28) hx hb hts ax_29 tyX10 tyX10_ok nmX10 hown hE.1 hP hD hS 0 rfl rfl 21 (by decide) (hts _ tw_289) (fun _ h9 => h9) rfl (by decide +kernel) rfl rfl (Nat.le_of_ble_eq_true rfl) dX10_setGovernor_76 (fun H locs hP hD hS => ?_)
  have hP : va_P D vwCl [(a0, .inr (15, [.int 0, v1, v2, v3, v4, v5, v6, v7, v8, v9, v10, v11, v12, v13, v14, v15, v16, v17, v18, v19, v20, .int x0, v21, v22, v23, v24, v25, v26]))] H := hP
  have hD : va_D A [(a0, .inr (15, [.int 0, v1, v2, v3, v4, v5, v6, v7, v8, v9, v10, v11, v12, v13, v14, v15, v16, v17, v18, v19, v20, .int x0, v21, v22, v23, v24, v25, v26]))] := hD
  refine lv_aload_n hx hb dX10_setGovernor_79 rfl (lv_at hl 1 rfl) ?_
  refine lv_iload_n hx hb dX10_setGovernor_80 rfl (lv_at hl 3 rfl) ?_
  refine va_put (D := D) (ci := 15) (v := .int x1) (ty := .int) (C := RX10) (T := TX10) (N := 28) hx hb hts ax_29 tyX10 tyX10_ok nmX10 hown hE.1 hP hD hS 0 rfl rfl 22 (by decide) (hts _ tw_290) (fun _ h9 => h9) rfl (by decide +kernel) rfl rfl (Nat.le_of_ble_eq_true rfl) dX10_setGovernor_81 (fun H locs hP hD hS => ?_)
  have hP : va_P D vwCl [(a0, .inr (15, [.int 0, v1, v2, v3, v4, v5, v6, v7, v8, v9, v10, v11, v12, v13, v14, v15, v16, v17, v18, v19, v20, .int x0, .int x1, v22, v23, v24, v25, v26]))] H := hP
  have hD : va_D A [(a0, .inr (15, [.int 0, v1, v2, v3, v4, v5, v6, v7, v8, v9, v10, v11, v12, v13, v14, v15, v16, v17, v18, v19, v20, .int x0, .int x1, v22, v23, v24, v25, v26]))] := hD
  refine lv_aload_n hx hb dX10_setGovernor_84 rfl (lv_at hl 1 rfl) ?_
  refine lv_iload_n hx hb dX10_setGovernor_85 rfl (lv_at hl 4 rfl) ?_
  refine va_put (D := D) (ci := 15) (v := .int x2) (ty := .int) (C := RX10) (T := TX10) (N := 28) hx hb hts ax_29 tyX10 tyX10_ok nmX10 hown hE.1 hP hD hS 0 rfl rfl 23 (by decide) (hts _ tw_1099) (fun _ h9 => h9) rfl (by decide +kernel) rfl rfl (Nat.le_of_ble_eq_true rfl) dX10_setGovernor_86 (fun H locs hP hD hS => ?_)
  have hP : va_P D vwCl [(a0, .inr (15, [.int 0, v1, v2, v3, v4, v5, v6, v7, v8, v9, v10, v11, v12, v13, v14, v15, v16, v17, v18, v19, v20, .int x0, .int x1, .int x2, v23, v24, v25, v26]))] H := hP
  have hD : va_D A [(a0, .inr (15, [.int 0, v1, v2, v3, v4, v5, v6, v7, v8, v9, v10, v11, v12, v13, v14, v15, v16, v17, v18, v19, v20, .int x0, .int x1, .int x2, v23, v24, v25, v26]))] := hD
  refine lv_aload_n hx hb dX10_setGovernor_89 rfl (lv_at hl 1 rfl) ?_
  refine lv_iload hx hb dX10_setGovernor_90 (lv_at hl 5 rfl) ?_
  refine va_put (D := D) (ci := 15) (v := .int x3) (ty := .int) (C := RX10) (T := TX10) (N := 28) hx hb hts ax_29 tyX10 tyX10_ok nmX10 hown hE.1 hP hD hS 0 rfl rfl 24 (by decide) (hts _ tw_291) (fun _ h9 => h9) rfl (by decide +kernel) rfl rfl (Nat.le_of_ble_eq_true rfl) dX10_setGovernor_92 (fun H locs hP hD hS => ?_)
  have hP : va_P D vwCl [(a0, .inr (15, [.int 0, v1, v2, v3, v4, v5, v6, v7, v8, v9, v10, v11, v12, v13, v14, v15, v16, v17, v18, v19, v20, .int x0, .int x1, .int x2, .int x3, v24, v25, v26]))] H := hP
  have hD : va_D A [(a0, .inr (15, [.int 0, v1, v2, v3, v4, v5, v6, v7, v8, v9, v10, v11, v12, v13, v14, v15, v16, v17, v18, v19, v20, .int x0, .int x1, .int x2, .int x3, v24, v25, v26]))] := hD
  refine lv_iload hx hb dX10_setGovernor_95 (lv_at hl 0 rfl) ?_
  exact en_z hx hb hr hlk hP hD hS rfl (fun _ => 0) (is := [0]) rfl rfl (Nat.le_of_ble_eq_true rfl) (Nat.le_of_ble_eq_true rfl) dX10_setGovernor_97

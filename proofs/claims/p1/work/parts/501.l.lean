set_option maxHeartbeats 4000000 in
set_option maxRecDepth 100000 in
theorem lc_9 {p : Program} {e : Env} {s : State} {m : MethodId} {below : List Frame} {meth : Method} {c : Code} {l : Launch} {b : Nat} {xs : Nat → Int32} {D : va_G} {cy : Nat → ClassId} {g : Nat → Nat} (hst : l.stackTraces = false) (LC : LCtx p s m meth c b xs D cy g) (ax am aj ao : Nat) (xa ma : Nat → Nat) (x1 x2 x3 x4 : Int32) (e1 : xs (1 : Int32).toNatClampNeg = x1) (e2 : xs (2 : Int32).toNatClampNeg = x2) (e3 : xs (3 : Int32).toNatClampNeg = x3) (e4 : xs (4 : Int32).toNatClampNeg = x4) {H : Heap} {locs : List Loc} (hP : va_P D vwCl [(ax, .inr (14, [.ref (xa 0), .ref (xa 13), .ref (xa 18), .ref (xa 34), .ref (xa 45), .ref (xa 49), .ref (xa 50)])), ((xa 13), .inr (12, [.ref (xa 14), .ref (xa 15), .ref (xa 16), .ref (xa 17), .int 0])), (am, .inr (15, [.int 0, .ref (ma 0), .int 0, .int 0, .int 0, .int 0, .ref (ma 1), .ref (ma 2), .null, .int 1, .int 10, .int 900, .ref (ma 3), .ref (ma 4), .int 0, .int 0, .int 0, .ref (ma 5), .int 1000, .int 50, .int 50, .int 1000, .int 10, .int 0, .int 3000, .int 0, .int 0, .int 0])), ((ma 1), .inr (4, [.int 0, .ref (g 0), .int 0]))] H) (hD : va_D (AL s) [(ax, .inr (14, [.ref (xa 0), .ref (xa 13), .ref (xa 18), .ref (xa 34), .ref (xa 45), .ref (xa 49), .ref (xa 50)])), ((xa 13), .inr (12, [.ref (xa 14), .ref (xa 15), .ref (xa 16), .ref (xa 17), .int 0])), (am, .inr (15, [.int 0, .ref (ma 0), .int 0, .int 0, .int 0, .int 0, .ref (ma 1), .ref (ma 2), .null, .int 1, .int 10, .int 900, .ref (ma 3), .ref (ma 4), .int 0, .int 0, .int 0, .ref (ma 5), .int 1000, .int 50, .int 50, .int 1000, .int 10, .int 0, .int 3000, .int 0, .int 0, .int 0])), ((ma 1), .inr (4, [.int 0, .ref (g 0), .int 0]))]) (hS : va_S (AL s) s.heap H locs) (ls : Array Slot) (hl : lv_has ls 9 [(5, .int 0), (4, .ref ao), (3, .ref aj), (2, .ref am), (1, .ref ax), (0, .ref b)]) : W p l e room_1 s m #[Value.ref b] below meth c H locs 100 1000 (lw_Z below #[Value.ref b] s) (F0 m 826 ls []) := by
  obtain ⟨hx, hb, hr, hml, hown, hlk, hts, hE, hX, hbl⟩ := id LC
  have hA : ∀ q, s.heap.size ≤ q → (AL s) q := fun _ h => h
  have hbA : ¬ (AL s) b := Nat.not_le.mpr hbl
  refine lv_aload_n hx hb dL_law_826 rfl (lv_at hl 4 rfl) ?_
  refine lv_aload_n hx hb dL_law_827 rfl (lv_at hl 5 rfl) ?_
  refine lv_iload hx hb dL_law_828 (lv_at hl 0 rfl) ?_
  refine lv_iconst (v := 1) hx hb dL_law_830 (by decide) ?_
  refine lv_iadd hx hb dL_law_831 ?_
  refine tp_i 1 (by decide) ?_
  refine va_sld hx hb hX hbl hbA hS (by unfold vp_in; decide) dL_law_832 ?_
  refine tp_i x1 e1 ?_
  refine lv_aload_n hx hb dL_law_833 rfl (lv_at hl 2 rfl) ?_
  refine ca_i (isC := [0, 1]) (isR := [2, 3]) (wr := [(am, .inr (15, [.int 0, .ref (ma 0), .int 0, .int 0, .int 0, .int 0, .ref (ma 1), .ref (ma 2), .null, .int 1, .int 10, .int 900, .ref (ma 3), .ref (ma 4), .int 0, .int 0, .int 0, .ref (ma 5), .int 1000, .int 50, .int 50, .int 1000, .int 10, .int 0, .int 3000, .int 0, .int 0, .int 0])), ((ma 1), .inr (4, [.int 0, .ref (g 0), .int 0]))]) (rn_SW (isC := [0, 1]) (wc := [(ax, .inr (14, [.ref (xa 0), .ref (xa 13), .ref (xa 18), .ref (xa 34), .ref (xa 45), .ref (xa 49), .ref (xa 50)])), ((xa 13), .inr (12, [.ref (xa 14), .ref (xa 15), .ref (xa 16), .ref (xa 17), .int 0]))]) (As := [.ref ax, .int x1, .ref aj]) (rest := []) (n := 3) hx hb hml hown hts hE hS hP hD hA hl.1 (k152_L_getBoiling l hst D cy g x1 ax (xa 13) aj (.ref (xa 0)) (.ref (xa 18)) (.ref (xa 34)) (.ref (xa 45)) (.ref (xa 49)) (.ref (xa 50)) (.ref (xa 14)) (.ref (xa 15)) (.ref (xa 16)) (.ref (xa 17)) H.size ) rfl rfl ax_136 rfl rfl ax_137 ⟨Nat.le_of_ble_eq_true rfl, Nat.le_of_ble_eq_true rfl⟩ rfl rfl (Nat.le_of_ble_eq_true rfl) dL_law_834 ⟨(Nat.le_of_ble_eq_true rfl), (Nat.le_of_ble_eq_true rfl)⟩) hP hD hS hA rfl rfl rfl (by decide) (fun ad834 H locs hP hD hS => ?_)
  have hP : va_P D vwCl [(am, .inr (15, [.int 0, .ref (ma 0), .int 0, .int 0, .int 0, .int 0, .ref (ma 1), .ref (ma 2), .null, .int 1, .int 10, .int 900, .ref (ma 3), .ref (ma 4), .int 0, .int 0, .int 0, .ref (ma 5), .int 1000, .int 50, .int 50, .int 1000, .int 10, .int 0, .int 3000, .int 0, .int 0, .int 0])), ((ma 1), .inr (4, [.int 0, .ref (g 0), .int 0]))] H := hP
  have hD : va_D (AL s) [(am, .inr (15, [.int 0, .ref (ma 0), .int 0, .int 0, .int 0, .int 0, .ref (ma 1), .ref (ma 2), .null, .int 1, .int 10, .int 900, .ref (ma 3), .ref (ma 4), .int 0, .int 0, .int 0, .ref (ma 5), .int 1000, .int 50, .int 50, .int 1000, .int 10, .int 0, .int 3000, .int 0, .int 0, .int 0])), ((ma 1), .inr (4, [.int 0, .ref (g 0), .int 0]))] := hD
  refine lv_istore (lv' := [(6, .int 1), (5, .int 0), (4, .ref ao), (3, .ref aj), (2, .ref am), (1, .ref ax), (0, .ref b)]) hx hb dL_law_837 hl (Nat.le_of_ble_eq_true rfl) rfl (fun ls hl => ?_)
  refine lv_aload_n hx hb dL_law_839 rfl (lv_at hl 4 rfl) ?_
  refine lv_aload_n hx hb dL_law_840 rfl (lv_at hl 6 rfl) ?_
  refine lv_iload hx hb dL_law_841 (lv_at hl 1 rfl) ?_
  refine lv_iconst (v := 1) hx hb dL_law_843 (by decide) ?_
  refine lv_iadd hx hb dL_law_844 ?_
  refine tp_i 1 (by decide) ?_
  refine va_sld hx hb hX hbl hbA hS (by unfold vp_in; decide) dL_law_845 ?_
  refine tp_i x1 e1 ?_
  refine ca_i (isC := [0, 1]) (isR := []) (wr := []) (rn_V (ci := 15) (q0 := 0) (isC := [0, 1]) (wc := [(am, .inr (15, [.int 0, .ref (ma 0), .int 0, .int 0, .int 0, .int 0, .ref (ma 1), .ref (ma 2), .null, .int 1, .int 10, .int 900, .ref (ma 3), .ref (ma 4), .int 0, .int 0, .int 0, .ref (ma 5), .int 1000, .int 50, .int 50, .int 1000, .int 10, .int 0, .int 3000, .int 0, .int 0, .int 0])), ((ma 1), .inr (4, [.int 0, .ref (g 0), .int 0]))]) (As := [.int x1]) (rest := []) (n := 1) hx hb hml hown hts hE hS hP hD hA hl.1 (k155_X10_getBoiling l D cy g x1 am (ma 1) (.int 0) (.ref (ma 0)) (.int 0) (.int 0) (.int 0) (.int 0) (.ref (ma 2)) (.null) (.int 1) (.int 10) (.int 900) (.ref (ma 3)) (.ref (ma 4)) (.int 0) (.int 0) (.int 0) (.ref (ma 5)) (.int 1000) (.int 50) (.int 50) (.int 1000) (.int 10) (.int 0) (.int 3000) (.int 0) (.int 0) (.int 0) (.int 0) (.ref (g 0)) H.size ) rfl rfl rfl rfl rfl ax_142 rfl rfl ax_143 ⟨Nat.le_of_ble_eq_true rfl, Nat.le_of_ble_eq_true rfl⟩ rfl rfl (Nat.le_of_ble_eq_true rfl) dL_law_846 ⟨(Nat.le_of_ble_eq_true rfl), (Nat.le_of_ble_eq_true rfl)⟩) hP hD hS hA rfl rfl rfl (by decide) (fun ad846 H locs hP hD hS => ?_)
  have hP : va_P D vwCl [(am, .inr (15, [.int 1, .ref (ma 0), .int 0, .int 0, .int 0, .int 0, .ref (ma 1), .ref (ma 2), .null, .int 1, .int 10, .int 900, .ref (ma 3), .ref (ma 4), .int 0, .int 0, .int 0, .ref (ma 5), .int 1000, .int 50, .int 50, .int 1000, .int 10, .int 0, .int 3000, .int 0, .int 0, .int 0]))] H := hP
  have hD : va_D (AL s) [(am, .inr (15, [.int 1, .ref (ma 0), .int 0, .int 0, .int 0, .int 0, .ref (ma 1), .ref (ma 2), .null, .int 1, .int 10, .int 900, .ref (ma 3), .ref (ma 4), .int 0, .int 0, .int 0, .ref (ma 5), .int 1000, .int 50, .int 50, .int 1000, .int 10, .int 0, .int 3000, .int 0, .int 0, .int 0]))] := hD
  refine lv_istore (lv' := [(7, .int (-1)), (6, .int 1), (5, .int 0), (4, .ref ao), (3, .ref aj), (2, .ref am), (1, .ref ax), (0, .ref b)]) hx hb dL_law_849 hl (Nat.le_of_ble_eq_true rfl) rfl (fun ls hl => ?_)
  refine lv_aload_n hx hb dL_law_851 rfl (lv_at hl 5 rfl) ?_
  refine ca_i (isC := [0]) (isR := []) (wr := []) (rn_V (ci := 15) (q0 := 0) (isC := [0]) (wc := [(am, .inr (15, [.int 1, .ref (ma 0), .int 0, .int 0, .int 0, .int 0, .ref (ma 1), .ref (ma 2), .null, .int 1, .int 10, .int 900, .ref (ma 3), .ref (ma 4), .int 0, .int 0, .int 0, .ref (ma 5), .int 1000, .int 50, .int 50, .int 1000, .int 10, .int 0, .int 3000, .int 0, .int 0, .int 0]))]) (As := []) (rest := []) (n := 0) hx hb hml hown hts hE hS hP hD hA hl.1 (k24_X10_thrown l D cy g am (.ref (ma 0)) (.int 0) (.int 0) (.int 0) (.int 0) (.ref (ma 1)) (.ref (ma 2)) (.null) (.int 1) (.int 10) (.int 900) (.ref (ma 3)) (.ref (ma 4)) (.int 0) (.int 0) (.int 0) (.ref (ma 5)) (.int 1000) (.int 50) (.int 50) (.int 1000) (.int 10) (.int 0) (.int 3000) (.int 0) (.int 0) (.int 0) H.size ) rfl rfl rfl rfl rfl ax_45 rfl rfl ax_46 ⟨Nat.le_of_ble_eq_true rfl, Nat.le_of_ble_eq_true rfl⟩ rfl rfl (Nat.le_of_ble_eq_true rfl) dL_law_852 ⟨(Nat.le_of_ble_eq_true rfl), (Nat.le_of_ble_eq_true rfl)⟩) hP hD hS hA rfl rfl rfl (by decide) (fun ad852 H locs hP hD hS => ?_)
  have hP : va_P D vwCl [(am, .inr (15, [.int 1, .ref (ma 0), .int 0, .int 0, .int 0, .int 0, .ref (ma 1), .ref (ma 2), .null, .int 1, .int 10, .int 900, .ref (ma 3), .ref (ma 4), .int 0, .int 0, .int 0, .ref (ma 5), .int 1000, .int 50, .int 50, .int 1000, .int 10, .int 0, .int 3000, .int 0, .int 0, .int 0]))] H := hP
  have hD : va_D (AL s) [(am, .inr (15, [.int 1, .ref (ma 0), .int 0, .int 0, .int 0, .int 0, .ref (ma 1), .ref (ma 2), .null, .int 1, .int 10, .int 900, .ref (ma 3), .ref (ma 4), .int 0, .int 0, .int 0, .ref (ma 5), .int 1000, .int 50, .int 50, .int 1000, .int 10, .int 0, .int 3000, .int 0, .int 0, .int 0]))] := hD
  refine lv_iload hx hb dL_law_855 (lv_at hl 1 rfl) ?_
  refine lv_icmp_eq (tgt := 862) hx hb dL_law_857 (by decide) (fun _ => ?_) (fun z => absurd (by decide) z)
  refine lv_iload hx hb dL_law_862 (lv_at hl 1 rfl) ?_
  refine lv_if_ne (tgt := 879) hx hb dL_law_864 (by decide) (fun _ => ?_) (fun z => absurd z (by decide))
  refine lv_goto (tgt := 2947) hx hb dL_law_879 (by decide) ?_
  exact law_tail LC hS (Nat.le_of_ble_eq_true rfl) (Nat.le_of_ble_eq_true rfl) (lv_sub hl [2, 7] rfl)
set_option maxHeartbeats 4000000 in
set_option maxRecDepth 100000 in
theorem lc_10 {p : Program} {e : Env} {s : State} {m : MethodId} {below : List Frame} {meth : Method} {c : Code} {l : Launch} {b : Nat} {xs : Nat → Int32} {D : va_G} {cy : Nat → ClassId} {g : Nat → Nat} (hst : l.stackTraces = false) (LC : LCtx p s m meth c b xs D cy g) (ax am aj ao : Nat) (xa ma : Nat → Nat) (x1 x2 x3 x4 : Int32) (e1 : xs (1 : Int32).toNatClampNeg = x1) (e2 : xs (2 : Int32).toNatClampNeg = x2) (e3 : xs (3 : Int32).toNatClampNeg = x3) (e4 : xs (4 : Int32).toNatClampNeg = x4) {H : Heap} {locs : List Loc} (hP : va_P D vwCl [(ax, .inr (14, [.ref (xa 0), .ref (xa 13), .ref (xa 18), .ref (xa 34), .ref (xa 45), .ref (xa 49), .ref (xa 50)])), ((xa 13), .inr (12, [.ref (xa 14), .ref (xa 15), .ref (xa 16), .ref (xa 17), .int 0])), (am, .inr (15, [.int 0, .ref (ma 0), .int 0, .int 0, .int 0, .int 0, .ref (ma 1), .ref (ma 2), .null, .int 1, .int 10, .int 900, .ref (ma 3), .ref (ma 4), .int 0, .int 0, .int 0, .ref (ma 5), .int 1000, .int 50, .int 50, .int 1000, .int 10, .int 0, .int 3000, .int 0, .int 0, .int 0])), ((ma 1), .inr (4, [.int 0, .ref (g 0), .int 0]))] H) (hD : va_D (AL s) [(ax, .inr (14, [.ref (xa 0), .ref (xa 13), .ref (xa 18), .ref (xa 34), .ref (xa 45), .ref (xa 49), .ref (xa 50)])), ((xa 13), .inr (12, [.ref (xa 14), .ref (xa 15), .ref (xa 16), .ref (xa 17), .int 0])), (am, .inr (15, [.int 0, .ref (ma 0), .int 0, .int 0, .int 0, .int 0, .ref (ma 1), .ref (ma 2), .null, .int 1, .int 10, .int 900, .ref (ma 3), .ref (ma 4), .int 0, .int 0, .int 0, .ref (ma 5), .int 1000, .int 50, .int 50, .int 1000, .int 10, .int 0, .int 3000, .int 0, .int 0, .int 0])), ((ma 1), .inr (4, [.int 0, .ref (g 0), .int 0]))]) (hS : va_S (AL s) s.heap H locs) (ls : Array Slot) (hl : lv_has ls 9 [(5, .int 0), (4, .ref ao), (3, .ref aj), (2, .ref am), (1, .ref ax), (0, .ref b)]) : W p l e room_1 s m #[Value.ref b] below meth c H locs 100 1000 (lw_Z below #[Value.ref b] s) (F0 m 882 ls []) := by
  obtain ⟨hx, hb, hr, hml, hown, hlk, hts, hE, hX, hbl⟩ := id LC
  have hA : ∀ q, s.heap.size ≤ q → (AL s) q := fun _ h => h
  have hbA : ¬ (AL s) b := Nat.not_le.mpr hbl
  refine lv_aload_n hx hb dL_law_882 rfl (lv_at hl 4 rfl) ?_
  refine lv_aload_n hx hb dL_law_883 rfl (lv_at hl 5 rfl) ?_
  refine lv_iload hx hb dL_law_884 (lv_at hl 0 rfl) ?_
  refine lv_iconst (v := 1) hx hb dL_law_886 (by decide) ?_
  refine lv_iadd hx hb dL_law_887 ?_
  refine tp_i 1 (by decide) ?_
  refine va_sld hx hb hX hbl hbA hS (by unfold vp_in; decide) dL_law_888 ?_
  refine tp_i x1 e1 ?_
  refine lv_aload_n hx hb dL_law_889 rfl (lv_at hl 2 rfl) ?_
  refine ca_i (isC := [0, 1]) (isR := [2, 3]) (wr := [(am, .inr (15, [.int 0, .ref (ma 0), .int 0, .int 0, .int 0, .int 0, .ref (ma 1), .ref (ma 2), .null, .int 1, .int 10, .int 900, .ref (ma 3), .ref (ma 4), .int 0, .int 0, .int 0, .ref (ma 5), .int 1000, .int 50, .int 50, .int 1000, .int 10, .int 0, .int 3000, .int 0, .int 0, .int 0])), ((ma 1), .inr (4, [.int 0, .ref (g 0), .int 0]))]) (rn_SW (isC := [0, 1]) (wc := [(ax, .inr (14, [.ref (xa 0), .ref (xa 13), .ref (xa 18), .ref (xa 34), .ref (xa 45), .ref (xa 49), .ref (xa 50)])), ((xa 13), .inr (12, [.ref (xa 14), .ref (xa 15), .ref (xa 16), .ref (xa 17), .int 0]))]) (As := [.ref ax, .int x1, .ref aj]) (rest := []) (n := 3) hx hb hml hown hts hE hS hP hD hA hl.1 (k157_L_getLiquid l hst D cy g x1 ax (xa 13) aj (.ref (xa 0)) (.ref (xa 18)) (.ref (xa 34)) (.ref (xa 45)) (.ref (xa 49)) (.ref (xa 50)) (.ref (xa 14)) (.ref (xa 15)) (.ref (xa 16)) (.ref (xa 17)) H.size ) rfl rfl ax_146 rfl rfl ax_147 ⟨Nat.le_of_ble_eq_true rfl, Nat.le_of_ble_eq_true rfl⟩ rfl rfl (Nat.le_of_ble_eq_true rfl) dL_law_890 ⟨(Nat.le_of_ble_eq_true rfl), (Nat.le_of_ble_eq_true rfl)⟩) hP hD hS hA rfl rfl rfl (by decide) (fun ad890 H locs hP hD hS => ?_)
  have hP : va_P D vwCl [(am, .inr (15, [.int 0, .ref (ma 0), .int 0, .int 0, .int 0, .int 0, .ref (ma 1), .ref (ma 2), .null, .int 1, .int 10, .int 900, .ref (ma 3), .ref (ma 4), .int 0, .int 0, .int 0, .ref (ma 5), .int 1000, .int 50, .int 50, .int 1000, .int 10, .int 0, .int 3000, .int 0, .int 0, .int 0])), ((ma 1), .inr (4, [.int 0, .ref (g 0), .int 0]))] H := hP
  have hD : va_D (AL s) [(am, .inr (15, [.int 0, .ref (ma 0), .int 0, .int 0, .int 0, .int 0, .ref (ma 1), .ref (ma 2), .null, .int 1, .int 10, .int 900, .ref (ma 3), .ref (ma 4), .int 0, .int 0, .int 0, .ref (ma 5), .int 1000, .int 50, .int 50, .int 1000, .int 10, .int 0, .int 3000, .int 0, .int 0, .int 0])), ((ma 1), .inr (4, [.int 0, .ref (g 0), .int 0]))] := hD
  refine lv_istore (lv' := [(6, .int 1), (5, .int 0), (4, .ref ao), (3, .ref aj), (2, .ref am), (1, .ref ax), (0, .ref b)]) hx hb dL_law_893 hl (Nat.le_of_ble_eq_true rfl) rfl (fun ls hl => ?_)
  refine lv_aload_n hx hb dL_law_895 rfl (lv_at hl 4 rfl) ?_
  refine lv_aload_n hx hb dL_law_896 rfl (lv_at hl 6 rfl) ?_
  refine lv_iload hx hb dL_law_897 (lv_at hl 1 rfl) ?_
  refine lv_iconst (v := 1) hx hb dL_law_899 (by decide) ?_
  refine lv_iadd hx hb dL_law_900 ?_
  refine tp_i 1 (by decide) ?_
  refine va_sld hx hb hX hbl hbA hS (by unfold vp_in; decide) dL_law_901 ?_
  refine tp_i x1 e1 ?_
  refine ca_i (isC := [0, 1]) (isR := []) (wr := []) (rn_V (ci := 15) (q0 := 0) (isC := [0, 1]) (wc := [(am, .inr (15, [.int 0, .ref (ma 0), .int 0, .int 0, .int 0, .int 0, .ref (ma 1), .ref (ma 2), .null, .int 1, .int 10, .int 900, .ref (ma 3), .ref (ma 4), .int 0, .int 0, .int 0, .ref (ma 5), .int 1000, .int 50, .int 50, .int 1000, .int 10, .int 0, .int 3000, .int 0, .int 0, .int 0])), ((ma 1), .inr (4, [.int 0, .ref (g 0), .int 0]))]) (As := [.int x1]) (rest := []) (n := 1) hx hb hml hown hts hE hS hP hD hA hl.1 (k159_X10_getLiquid l D cy g x1 am (ma 1) (.int 0) (.ref (ma 0)) (.int 0) (.int 0) (.int 0) (.int 0) (.ref (ma 2)) (.null) (.int 1) (.int 10) (.int 900) (.ref (ma 3)) (.ref (ma 4)) (.int 0) (.int 0) (.int 0) (.ref (ma 5)) (.int 1000) (.int 50) (.int 50) (.int 1000) (.int 10) (.int 0) (.int 3000) (.int 0) (.int 0) (.int 0) (.int 0) (.ref (g 0)) H.size ) rfl rfl rfl rfl rfl ax_148 rfl rfl ax_149 ⟨Nat.le_of_ble_eq_true rfl, Nat.le_of_ble_eq_true rfl⟩ rfl rfl (Nat.le_of_ble_eq_true rfl) dL_law_902 ⟨(Nat.le_of_ble_eq_true rfl), (Nat.le_of_ble_eq_true rfl)⟩) hP hD hS hA rfl rfl rfl (by decide) (fun ad902 H locs hP hD hS => ?_)
  have hP : va_P D vwCl [(am, .inr (15, [.int 1, .ref (ma 0), .int 0, .int 0, .int 0, .int 0, .ref (ma 1), .ref (ma 2), .null, .int 1, .int 10, .int 900, .ref (ma 3), .ref (ma 4), .int 0, .int 0, .int 0, .ref (ma 5), .int 1000, .int 50, .int 50, .int 1000, .int 10, .int 0, .int 3000, .int 0, .int 0, .int 0]))] H := hP
  have hD : va_D (AL s) [(am, .inr (15, [.int 1, .ref (ma 0), .int 0, .int 0, .int 0, .int 0, .ref (ma 1), .ref (ma 2), .null, .int 1, .int 10, .int 900, .ref (ma 3), .ref (ma 4), .int 0, .int 0, .int 0, .ref (ma 5), .int 1000, .int 50, .int 50, .int 1000, .int 10, .int 0, .int 3000, .int 0, .int 0, .int 0]))] := hD
  refine lv_istore (lv' := [(7, .int (-1)), (6, .int 1), (5, .int 0), (4, .ref ao), (3, .ref aj), (2, .ref am), (1, .ref ax), (0, .ref b)]) hx hb dL_law_905 hl (Nat.le_of_ble_eq_true rfl) rfl (fun ls hl => ?_)
  refine lv_aload_n hx hb dL_law_907 rfl (lv_at hl 5 rfl) ?_
  refine ca_i (isC := [0]) (isR := []) (wr := []) (rn_V (ci := 15) (q0 := 0) (isC := [0]) (wc := [(am, .inr (15, [.int 1, .ref (ma 0), .int 0, .int 0, .int 0, .int 0, .ref (ma 1), .ref (ma 2), .null, .int 1, .int 10, .int 900, .ref (ma 3), .ref (ma 4), .int 0, .int 0, .int 0, .ref (ma 5), .int 1000, .int 50, .int 50, .int 1000, .int 10, .int 0, .int 3000, .int 0, .int 0, .int 0]))]) (As := []) (rest := []) (n := 0) hx hb hml hown hts hE hS hP hD hA hl.1 (k24_X10_thrown l D cy g am (.ref (ma 0)) (.int 0) (.int 0) (.int 0) (.int 0) (.ref (ma 1)) (.ref (ma 2)) (.null) (.int 1) (.int 10) (.int 900) (.ref (ma 3)) (.ref (ma 4)) (.int 0) (.int 0) (.int 0) (.ref (ma 5)) (.int 1000) (.int 50) (.int 50) (.int 1000) (.int 10) (.int 0) (.int 3000) (.int 0) (.int 0) (.int 0) H.size ) rfl rfl rfl rfl rfl ax_45 rfl rfl ax_46 ⟨Nat.le_of_ble_eq_true rfl, Nat.le_of_ble_eq_true rfl⟩ rfl rfl (Nat.le_of_ble_eq_true rfl) dL_law_908 ⟨(Nat.le_of_ble_eq_true rfl), (Nat.le_of_ble_eq_true rfl)⟩) hP hD hS hA rfl rfl rfl (by decide) (fun ad908 H locs hP hD hS => ?_)
  have hP : va_P D vwCl [(am, .inr (15, [.int 1, .ref (ma 0), .int 0, .int 0, .int 0, .int 0, .ref (ma 1), .ref (ma 2), .null, .int 1, .int 10, .int 900, .ref (ma 3), .ref (ma 4), .int 0, .int 0, .int 0, .ref (ma 5), .int 1000, .int 50, .int 50, .int 1000, .int 10, .int 0, .int 3000, .int 0, .int 0, .int 0]))] H := hP
  have hD : va_D (AL s) [(am, .inr (15, [.int 1, .ref (ma 0), .int 0, .int 0, .int 0, .int 0, .ref (ma 1), .ref (ma 2), .null, .int 1, .int 10, .int 900, .ref (ma 3), .ref (ma 4), .int 0, .int 0, .int 0, .ref (ma 5), .int 1000, .int 50, .int 50, .int 1000, .int 10, .int 0, .int 3000, .int 0, .int 0, .int 0]))] := hD
  refine lv_iload hx hb dL_law_911 (lv_at hl 1 rfl) ?_
  refine lv_icmp_eq (tgt := 918) hx hb dL_law_913 (by decide) (fun _ => ?_) (fun z => absurd (by decide) z)
  refine lv_iload hx hb dL_law_918 (lv_at hl 1 rfl) ?_
  refine lv_if_ne (tgt := 935) hx hb dL_law_920 (by decide) (fun _ => ?_) (fun z => absurd z (by decide))
  refine lv_goto (tgt := 2947) hx hb dL_law_935 (by decide) ?_
  exact law_tail LC hS (Nat.le_of_ble_eq_true rfl) (Nat.le_of_ble_eq_true rfl) (lv_sub hl [2, 7] rfl)
set_option maxHeartbeats 4000000 in
set_option maxRecDepth 100000 in
theorem lc_11 {p : Program} {e : Env} {s : State} {m : MethodId} {below : List Frame} {meth : Method} {c : Code} {l : Launch} {b : Nat} {xs : Nat → Int32} {D : va_G} {cy : Nat → ClassId} {g : Nat → Nat} (hst : l.stackTraces = false) (LC : LCtx p s m meth c b xs D cy g) (ax am aj ao : Nat) (xa ma : Nat → Nat) (x1 x2 x3 x4 : Int32) (e1 : xs (1 : Int32).toNatClampNeg = x1) (e2 : xs (2 : Int32).toNatClampNeg = x2) (e3 : xs (3 : Int32).toNatClampNeg = x3) (e4 : xs (4 : Int32).toNatClampNeg = x4) {H : Heap} {locs : List Loc} (hP : va_P D vwCl [(ax, .inr (14, [.ref (xa 0), .ref (xa 13), .ref (xa 18), .ref (xa 34), .ref (xa 45), .ref (xa 49), .ref (xa 50)])), ((xa 13), .inr (12, [.ref (xa 14), .ref (xa 15), .ref (xa 16), .ref (xa 17), .int 0])), (am, .inr (15, [.int 0, .ref (ma 0), .int 0, .int 0, .int 0, .int 0, .ref (ma 1), .ref (ma 2), .null, .int 1, .int 10, .int 900, .ref (ma 3), .ref (ma 4), .int 0, .int 0, .int 0, .ref (ma 5), .int 1000, .int 50, .int 50, .int 1000, .int 10, .int 0, .int 3000, .int 0, .int 0, .int 0])), ((ma 1), .inr (4, [.int 0, .ref (g 0), .int 0]))] H) (hD : va_D (AL s) [(ax, .inr (14, [.ref (xa 0), .ref (xa 13), .ref (xa 18), .ref (xa 34), .ref (xa 45), .ref (xa 49), .ref (xa 50)])), ((xa 13), .inr (12, [.ref (xa 14), .ref (xa 15), .ref (xa 16), .ref (xa 17), .int 0])), (am, .inr (15, [.int 0, .ref (ma 0), .int 0, .int 0, .int 0, .int 0, .ref (ma 1), .ref (ma 2), .null, .int 1, .int 10, .int 900, .ref (ma 3), .ref (ma 4), .int 0, .int 0, .int 0, .ref (ma 5), .int 1000, .int 50, .int 50, .int 1000, .int 10, .int 0, .int 3000, .int 0, .int 0, .int 0])), ((ma 1), .inr (4, [.int 0, .ref (g 0), .int 0]))]) (hS : va_S (AL s) s.heap H locs) (ls : Array Slot) (hl : lv_has ls 9 [(5, .int 0), (4, .ref ao), (3, .ref aj), (2, .ref am), (1, .ref ax), (0, .ref b)]) : W p l e room_1 s m #[Value.ref b] below meth c H locs 100 1000 (lw_Z below #[Value.ref b] s) (F0 m 938 ls []) := by
  obtain ⟨hx, hb, hr, hml, hown, hlk, hts, hE, hX, hbl⟩ := id LC
  have hA : ∀ q, s.heap.size ≤ q → (AL s) q := fun _ h => h
  have hbA : ¬ (AL s) b := Nat.not_le.mpr hbl
  refine lv_aload_n hx hb dL_law_938 rfl (lv_at hl 4 rfl) ?_
  refine lv_aload_n hx hb dL_law_939 rfl (lv_at hl 5 rfl) ?_
  refine lv_iload hx hb dL_law_940 (lv_at hl 0 rfl) ?_
  refine lv_iconst (v := 1) hx hb dL_law_942 (by decide) ?_
  refine lv_iadd hx hb dL_law_943 ?_
  refine tp_i 1 (by decide) ?_
  refine va_sld hx hb hX hbl hbA hS (by unfold vp_in; decide) dL_law_944 ?_
  refine tp_i x1 e1 ?_
  refine lv_aload_n hx hb dL_law_945 rfl (lv_at hl 2 rfl) ?_
  refine ca_i (isC := [0, 1]) (isR := [2, 3]) (wr := [(am, .inr (15, [.int 0, .ref (ma 0), .int 0, .int 0, .int 0, .int 0, .ref (ma 1), .ref (ma 2), .null, .int 1, .int 10, .int 900, .ref (ma 3), .ref (ma 4), .int 0, .int 0, .int 0, .ref (ma 5), .int 1000, .int 50, .int 50, .int 1000, .int 10, .int 0, .int 3000, .int 0, .int 0, .int 0])), ((ma 1), .inr (4, [.int 0, .ref (g 0), .int 0]))]) (rn_SW (isC := [0, 1]) (wc := [(ax, .inr (14, [.ref (xa 0), .ref (xa 13), .ref (xa 18), .ref (xa 34), .ref (xa 45), .ref (xa 49), .ref (xa 50)])), ((xa 13), .inr (12, [.ref (xa 14), .ref (xa 15), .ref (xa 16), .ref (xa 17), .int 0]))]) (As := [.ref ax, .int x1, .ref aj]) (rest := []) (n := 3) hx hb hml hown hts hE hS hP hD hA hl.1 (k161_L_getVapour l hst D cy g x1 ax (xa 13) aj (.ref (xa 0)) (.ref (xa 18)) (.ref (xa 34)) (.ref (xa 45)) (.ref (xa 49)) (.ref (xa 50)) (.ref (xa 14)) (.ref (xa 15)) (.ref (xa 16)) (.ref (xa 17)) H.size ) rfl rfl ax_152 rfl rfl ax_153 ⟨Nat.le_of_ble_eq_true rfl, Nat.le_of_ble_eq_true rfl⟩ rfl rfl (Nat.le_of_ble_eq_true rfl) dL_law_946 ⟨(Nat.le_of_ble_eq_true rfl), (Nat.le_of_ble_eq_true rfl)⟩) hP hD hS hA rfl rfl rfl (by decide) (fun ad946 H locs hP hD hS => ?_)
  have hP : va_P D vwCl [(am, .inr (15, [.int 0, .ref (ma 0), .int 0, .int 0, .int 0, .int 0, .ref (ma 1), .ref (ma 2), .null, .int 1, .int 10, .int 900, .ref (ma 3), .ref (ma 4), .int 0, .int 0, .int 0, .ref (ma 5), .int 1000, .int 50, .int 50, .int 1000, .int 10, .int 0, .int 3000, .int 0, .int 0, .int 0])), ((ma 1), .inr (4, [.int 0, .ref (g 0), .int 0]))] H := hP
  have hD : va_D (AL s) [(am, .inr (15, [.int 0, .ref (ma 0), .int 0, .int 0, .int 0, .int 0, .ref (ma 1), .ref (ma 2), .null, .int 1, .int 10, .int 900, .ref (ma 3), .ref (ma 4), .int 0, .int 0, .int 0, .ref (ma 5), .int 1000, .int 50, .int 50, .int 1000, .int 10, .int 0, .int 3000, .int 0, .int 0, .int 0])), ((ma 1), .inr (4, [.int 0, .ref (g 0), .int 0]))] := hD
  refine lv_istore (lv' := [(6, .int 1), (5, .int 0), (4, .ref ao), (3, .ref aj), (2, .ref am), (1, .ref ax), (0, .ref b)]) hx hb dL_law_949 hl (Nat.le_of_ble_eq_true rfl) rfl (fun ls hl => ?_)
  refine lv_aload_n hx hb dL_law_951 rfl (lv_at hl 4 rfl) ?_
  refine lv_aload_n hx hb dL_law_952 rfl (lv_at hl 6 rfl) ?_
  refine lv_iload hx hb dL_law_953 (lv_at hl 1 rfl) ?_
  refine lv_iconst (v := 1) hx hb dL_law_955 (by decide) ?_
  refine lv_iadd hx hb dL_law_956 ?_
  refine tp_i 1 (by decide) ?_
  refine va_sld hx hb hX hbl hbA hS (by unfold vp_in; decide) dL_law_957 ?_
  refine tp_i x1 e1 ?_
  refine ca_i (isC := [0, 1]) (isR := []) (wr := []) (rn_V (ci := 15) (q0 := 0) (isC := [0, 1]) (wc := [(am, .inr (15, [.int 0, .ref (ma 0), .int 0, .int 0, .int 0, .int 0, .ref (ma 1), .ref (ma 2), .null, .int 1, .int 10, .int 900, .ref (ma 3), .ref (ma 4), .int 0, .int 0, .int 0, .ref (ma 5), .int 1000, .int 50, .int 50, .int 1000, .int 10, .int 0, .int 3000, .int 0, .int 0, .int 0])), ((ma 1), .inr (4, [.int 0, .ref (g 0), .int 0]))]) (As := [.int x1]) (rest := []) (n := 1) hx hb hml hown hts hE hS hP hD hA hl.1 (k163_X10_getVapour l D cy g x1 am (ma 1) (.int 0) (.ref (ma 0)) (.int 0) (.int 0) (.int 0) (.int 0) (.ref (ma 2)) (.null) (.int 1) (.int 10) (.int 900) (.ref (ma 3)) (.ref (ma 4)) (.int 0) (.int 0) (.int 0) (.ref (ma 5)) (.int 1000) (.int 50) (.int 50) (.int 1000) (.int 10) (.int 0) (.int 3000) (.int 0) (.int 0) (.int 0) (.int 0) (.ref (g 0)) H.size ) rfl rfl rfl rfl rfl ax_154 rfl rfl ax_155 ⟨Nat.le_of_ble_eq_true rfl, Nat.le_of_ble_eq_true rfl⟩ rfl rfl (Nat.le_of_ble_eq_true rfl) dL_law_958 ⟨(Nat.le_of_ble_eq_true rfl), (Nat.le_of_ble_eq_true rfl)⟩) hP hD hS hA rfl rfl rfl (by decide) (fun ad958 H locs hP hD hS => ?_)
  have hP : va_P D vwCl [(am, .inr (15, [.int 1, .ref (ma 0), .int 0, .int 0, .int 0, .int 0, .ref (ma 1), .ref (ma 2), .null, .int 1, .int 10, .int 900, .ref (ma 3), .ref (ma 4), .int 0, .int 0, .int 0, .ref (ma 5), .int 1000, .int 50, .int 50, .int 1000, .int 10, .int 0, .int 3000, .int 0, .int 0, .int 0]))] H := hP
  have hD : va_D (AL s) [(am, .inr (15, [.int 1, .ref (ma 0), .int 0, .int 0, .int 0, .int 0, .ref (ma 1), .ref (ma 2), .null, .int 1, .int 10, .int 900, .ref (ma 3), .ref (ma 4), .int 0, .int 0, .int 0, .ref (ma 5), .int 1000, .int 50, .int 50, .int 1000, .int 10, .int 0, .int 3000, .int 0, .int 0, .int 0]))] := hD
  refine lv_istore (lv' := [(7, .int (-1)), (6, .int 1), (5, .int 0), (4, .ref ao), (3, .ref aj), (2, .ref am), (1, .ref ax), (0, .ref b)]) hx hb dL_law_961 hl (Nat.le_of_ble_eq_true rfl) rfl (fun ls hl => ?_)
  refine lv_aload_n hx hb dL_law_963 rfl (lv_at hl 5 rfl) ?_
  refine ca_i (isC := [0]) (isR := []) (wr := []) (rn_V (ci := 15) (q0 := 0) (isC := [0]) (wc := [(am, .inr (15, [.int 1, .ref (ma 0), .int 0, .int 0, .int 0, .int 0, .ref (ma 1), .ref (ma 2), .null, .int 1, .int 10, .int 900, .ref (ma 3), .ref (ma 4), .int 0, .int 0, .int 0, .ref (ma 5), .int 1000, .int 50, .int 50, .int 1000, .int 10, .int 0, .int 3000, .int 0, .int 0, .int 0]))]) (As := []) (rest := []) (n := 0) hx hb hml hown hts hE hS hP hD hA hl.1 (k24_X10_thrown l D cy g am (.ref (ma 0)) (.int 0) (.int 0) (.int 0) (.int 0) (.ref (ma 1)) (.ref (ma 2)) (.null) (.int 1) (.int 10) (.int 900) (.ref (ma 3)) (.ref (ma 4)) (.int 0) (.int 0) (.int 0) (.ref (ma 5)) (.int 1000) (.int 50) (.int 50) (.int 1000) (.int 10) (.int 0) (.int 3000) (.int 0) (.int 0) (.int 0) H.size ) rfl rfl rfl rfl rfl ax_45 rfl rfl ax_46 ⟨Nat.le_of_ble_eq_true rfl, Nat.le_of_ble_eq_true rfl⟩ rfl rfl (Nat.le_of_ble_eq_true rfl) dL_law_964 ⟨(Nat.le_of_ble_eq_true rfl), (Nat.le_of_ble_eq_true rfl)⟩) hP hD hS hA rfl rfl rfl (by decide) (fun ad964 H locs hP hD hS => ?_)
  have hP : va_P D vwCl [(am, .inr (15, [.int 1, .ref (ma 0), .int 0, .int 0, .int 0, .int 0, .ref (ma 1), .ref (ma 2), .null, .int 1, .int 10, .int 900, .ref (ma 3), .ref (ma 4), .int 0, .int 0, .int 0, .ref (ma 5), .int 1000, .int 50, .int 50, .int 1000, .int 10, .int 0, .int 3000, .int 0, .int 0, .int 0]))] H := hP
  have hD : va_D (AL s) [(am, .inr (15, [.int 1, .ref (ma 0), .int 0, .int 0, .int 0, .int 0, .ref (ma 1), .ref (ma 2), .null, .int 1, .int 10, .int 900, .ref (ma 3), .ref (ma 4), .int 0, .int 0, .int 0, .ref (ma 5), .int 1000, .int 50, .int 50, .int 1000, .int 10, .int 0, .int 3000, .int 0, .int 0, .int 0]))] := hD
  refine lv_iload hx hb dL_law_967 (lv_at hl 1 rfl) ?_
  refine lv_icmp_eq (tgt := 974) hx hb dL_law_969 (by decide) (fun _ => ?_) (fun z => absurd (by decide) z)
  refine lv_iload hx hb dL_law_974 (lv_at hl 1 rfl) ?_
  refine lv_if_ne (tgt := 991) hx hb dL_law_976 (by decide) (fun _ => ?_) (fun z => absurd z (by decide))
  refine lv_goto (tgt := 2947) hx hb dL_law_991 (by decide) ?_
  exact law_tail LC hS (Nat.le_of_ble_eq_true rfl) (Nat.le_of_ble_eq_true rfl) (lv_sub hl [2, 7] rfl)
set_option maxHeartbeats 4000000 in
set_option maxRecDepth 100000 in
theorem lc_12 {p : Program} {e : Env} {s : State} {m : MethodId} {below : List Frame} {meth : Method} {c : Code} {l : Launch} {b : Nat} {xs : Nat → Int32} {D : va_G} {cy : Nat → ClassId} {g : Nat → Nat} (hst : l.stackTraces = false) (LC : LCtx p s m meth c b xs D cy g) (ax am aj ao : Nat) (xa ma : Nat → Nat) (x1 x2 x3 x4 : Int32) (e1 : xs (1 : Int32).toNatClampNeg = x1) (e2 : xs (2 : Int32).toNatClampNeg = x2) (e3 : xs (3 : Int32).toNatClampNeg = x3) (e4 : xs (4 : Int32).toNatClampNeg = x4) {H : Heap} {locs : List Loc} (hP : va_P D vwCl [(ax, .inr (14, [.ref (xa 0), .ref (xa 13), .ref (xa 18), .ref (xa 34), .ref (xa 45), .ref (xa 49), .ref (xa 50)])), ((xa 13), .inr (12, [.ref (xa 14), .ref (xa 15), .ref (xa 16), .ref (xa 17), .int 0])), (am, .inr (15, [.int 0, .ref (ma 0), .int 0, .int 0, .int 0, .int 0, .ref (ma 1), .ref (ma 2), .null, .int 1, .int 10, .int 900, .ref (ma 3), .ref (ma 4), .int 0, .int 0, .int 0, .ref (ma 5), .int 1000, .int 50, .int 50, .int 1000, .int 10, .int 0, .int 3000, .int 0, .int 0, .int 0])), ((ma 1), .inr (4, [.int 0, .ref (g 0), .int 0]))] H) (hD : va_D (AL s) [(ax, .inr (14, [.ref (xa 0), .ref (xa 13), .ref (xa 18), .ref (xa 34), .ref (xa 45), .ref (xa 49), .ref (xa 50)])), ((xa 13), .inr (12, [.ref (xa 14), .ref (xa 15), .ref (xa 16), .ref (xa 17), .int 0])), (am, .inr (15, [.int 0, .ref (ma 0), .int 0, .int 0, .int 0, .int 0, .ref (ma 1), .ref (ma 2), .null, .int 1, .int 10, .int 900, .ref (ma 3), .ref (ma 4), .int 0, .int 0, .int 0, .ref (ma 5), .int 1000, .int 50, .int 50, .int 1000, .int 10, .int 0, .int 3000, .int 0, .int 0, .int 0])), ((ma 1), .inr (4, [.int 0, .ref (g 0), .int 0]))]) (hS : va_S (AL s) s.heap H locs) (ls : Array Slot) (hl : lv_has ls 9 [(5, .int 0), (4, .ref ao), (3, .ref aj), (2, .ref am), (1, .ref ax), (0, .ref b)]) : W p l e room_1 s m #[Value.ref b] below meth c H locs 100 1000 (lw_Z below #[Value.ref b] s) (F0 m 994 ls []) := by
  obtain ⟨hx, hb, hr, hml, hown, hlk, hts, hE, hX, hbl⟩ := id LC
  have hA : ∀ q, s.heap.size ≤ q → (AL s) q := fun _ h => h
  have hbA : ¬ (AL s) b := Nat.not_le.mpr hbl
  by_cases c0 : x2 < 0
  · refine lv_aload_n hx hb dL_law_994 rfl (lv_at hl 4 rfl) ?_
    refine lv_aload_n hx hb dL_law_995 rfl (lv_at hl 5 rfl) ?_
    refine lv_iload hx hb dL_law_996 (lv_at hl 0 rfl) ?_
    refine lv_iconst (v := 1) hx hb dL_law_998 (by decide) ?_
    refine lv_iadd hx hb dL_law_999 ?_
    refine tp_i 1 (by decide) ?_
    refine va_sld hx hb hX hbl hbA hS (by unfold vp_in; decide) dL_law_1000 ?_
    refine tp_i x1 e1 ?_
    refine lv_aload_n hx hb dL_law_1001 rfl (lv_at hl 5 rfl) ?_
    refine lv_iload hx hb dL_law_1002 (lv_at hl 0 rfl) ?_
    refine lv_iconst (v := 2) hx hb dL_law_1004 (by decide) ?_
    refine lv_iadd hx hb dL_law_1005 ?_
    refine tp_i 2 (by decide) ?_
    refine va_sld hx hb hX hbl hbA hS (by unfold vp_in; decide) dL_law_1006 ?_
    refine tp_i x2 e2 ?_
    refine lv_aload_n hx hb dL_law_1007 rfl (lv_at hl 2 rfl) ?_
    refine ca_i (isC := [0]) (isR := [1, 2, 3]) (wr := [((xa 13), .inr (12, [.ref (xa 14), .ref (xa 15), .ref (xa 16), .ref (xa 17), .int 0])), (am, .inr (15, [.int 0, .ref (ma 0), .int 0, .int 0, .int 0, .int 0, .ref (ma 1), .ref (ma 2), .null, .int 1, .int 10, .int 900, .ref (ma 3), .ref (ma 4), .int 0, .int 0, .int 0, .ref (ma 5), .int 1000, .int 50, .int 50, .int 1000, .int 10, .int 0, .int 3000, .int 0, .int 0, .int 0])), ((ma 1), .inr (4, [.int 0, .ref (g 0), .int 0]))]) (rn_SW (isC := [0]) (wc := [(ax, .inr (14, [.ref (xa 0), .ref (xa 13), .ref (xa 18), .ref (xa 34), .ref (xa 45), .ref (xa 49), .ref (xa 50)]))]) (As := [.ref ax, .int x1, .int x2, .ref aj]) (rest := []) (n := 4) hx hb hml hown hts hE hS hP hD hA hl.1 (k167_L_getPhase l hst D cy g x1 x2 ax aj (.ref (xa 0)) (.ref (xa 13)) (.ref (xa 18)) (.ref (xa 34)) (.ref (xa 45)) (.ref (xa 49)) (.ref (xa 50)) H.size c0) rfl rfl ax_162 rfl rfl ax_163 ⟨Nat.le_of_ble_eq_true rfl, Nat.le_of_ble_eq_true rfl⟩ rfl rfl (Nat.le_of_ble_eq_true rfl) dL_law_1008 ⟨(Nat.le_of_ble_eq_true rfl), (Nat.le_of_ble_eq_true rfl)⟩) hP hD hS hA rfl rfl rfl (by decide) (fun ad1008 H locs hP hD hS => ?_)
    have hP : va_P D vwCl [((xa 13), .inr (12, [.ref (xa 14), .ref (xa 15), .ref (xa 16), .ref (xa 17), .int 0])), (am, .inr (15, [.int 0, .ref (ma 0), .int 0, .int 0, .int 0, .int 0, .ref (ma 1), .ref (ma 2), .null, .int 1, .int 10, .int 900, .ref (ma 3), .ref (ma 4), .int 0, .int 0, .int 0, .ref (ma 5), .int 1000, .int 50, .int 50, .int 1000, .int 10, .int 0, .int 3000, .int 0, .int 0, .int 0])), ((ma 1), .inr (4, [.int 0, .ref (g 0), .int 0]))] H := hP
    have hD : va_D (AL s) [((xa 13), .inr (12, [.ref (xa 14), .ref (xa 15), .ref (xa 16), .ref (xa 17), .int 0])), (am, .inr (15, [.int 0, .ref (ma 0), .int 0, .int 0, .int 0, .int 0, .ref (ma 1), .ref (ma 2), .null, .int 1, .int 10, .int 900, .ref (ma 3), .ref (ma 4), .int 0, .int 0, .int 0, .ref (ma 5), .int 1000, .int 50, .int 50, .int 1000, .int 10, .int 0, .int 3000, .int 0, .int 0, .int 0])), ((ma 1), .inr (4, [.int 0, .ref (g 0), .int 0]))] := hD
    refine lv_istore (lv' := [(6, .int 1), (5, .int 0), (4, .ref ao), (3, .ref aj), (2, .ref am), (1, .ref ax), (0, .ref b)]) hx hb dL_law_1011 hl (Nat.le_of_ble_eq_true rfl) rfl (fun ls hl => ?_)
    refine lv_aload_n hx hb dL_law_1013 rfl (lv_at hl 4 rfl) ?_
    refine lv_aload_n hx hb dL_law_1014 rfl (lv_at hl 6 rfl) ?_
    refine lv_iload hx hb dL_law_1015 (lv_at hl 1 rfl) ?_
    refine lv_iconst (v := 1) hx hb dL_law_1017 (by decide) ?_
    refine lv_iadd hx hb dL_law_1018 ?_
    refine tp_i 1 (by decide) ?_
    refine va_sld hx hb hX hbl hbA hS (by unfold vp_in; decide) dL_law_1019 ?_
    refine tp_i x1 e1 ?_
    refine lv_aload_n hx hb dL_law_1020 rfl (lv_at hl 6 rfl) ?_
    refine lv_iload hx hb dL_law_1021 (lv_at hl 1 rfl) ?_
    refine lv_iconst (v := 2) hx hb dL_law_1023 (by decide) ?_
    refine lv_iadd hx hb dL_law_1024 ?_
    refine tp_i 2 (by decide) ?_
    refine va_sld hx hb hX hbl hbA hS (by unfold vp_in; decide) dL_law_1025 ?_
    refine tp_i x2 e2 ?_
    refine ca_i (isC := [1]) (isR := [0, 2]) (wr := [((xa 13), .inr (12, [.ref (xa 14), .ref (xa 15), .ref (xa 16), .ref (xa 17), .int 0])), ((ma 1), .inr (4, [.int 0, .ref (g 0), .int 0]))]) (rn_V (ci := 15) (q0 := 1) (isC := [1]) (wc := [(am, .inr (15, [.int 0, .ref (ma 0), .int 0, .int 0, .int 0, .int 0, .ref (ma 1), .ref (ma 2), .null, .int 1, .int 10, .int 900, .ref (ma 3), .ref (ma 4), .int 0, .int 0, .int 0, .ref (ma 5), .int 1000, .int 50, .int 50, .int 1000, .int 10, .int 0, .int 3000, .int 0, .int 0, .int 0]))]) (As := [.int x1, .int x2]) (rest := []) (n := 2) hx hb hml hown hts hE hS hP hD hA hl.1 (k169_X10_getPhase l D cy g x1 x2 am (.int 0) (.ref (ma 0)) (.int 0) (.int 0) (.int 0) (.int 0) (.ref (ma 1)) (.ref (ma 2)) (.null) (.int 1) (.int 10) (.int 900) (.ref (ma 3)) (.ref (ma 4)) (.int 0) (.int 0) (.int 0) (.ref (ma 5)) (.int 1000) (.int 50) (.int 50) (.int 1000) (.int 10) (.int 0) (.int 3000) (.int 0) (.int 0) (.int 0) H.size c0) rfl rfl rfl rfl rfl ax_166 rfl rfl ax_167 ⟨Nat.le_of_ble_eq_true rfl, Nat.le_of_ble_eq_true rfl⟩ rfl rfl (Nat.le_of_ble_eq_true rfl) dL_law_1026 ⟨(Nat.le_of_ble_eq_true rfl), (Nat.le_of_ble_eq_true rfl)⟩) hP hD hS hA rfl rfl rfl (by decide) (fun ad1026 H locs hP hD hS => ?_)
    have hP : va_P D vwCl [((xa 13), .inr (12, [.ref (xa 14), .ref (xa 15), .ref (xa 16), .ref (xa 17), .int 0])), ((ma 1), .inr (4, [.int 0, .ref (g 0), .int 0])), (am, .inr (15, [.int 1, .ref (ma 0), .int 0, .int 0, .int 0, .int 0, .ref (ma 1), .ref (ma 2), .null, .int 1, .int 10, .int 900, .ref (ma 3), .ref (ma 4), .int 0, .int 0, .int 0, .ref (ma 5), .int 1000, .int 50, .int 50, .int 1000, .int 10, .int 0, .int 3000, .int 0, .int 0, .int 0]))] H := hP
    have hD : va_D (AL s) [((xa 13), .inr (12, [.ref (xa 14), .ref (xa 15), .ref (xa 16), .ref (xa 17), .int 0])), ((ma 1), .inr (4, [.int 0, .ref (g 0), .int 0])), (am, .inr (15, [.int 1, .ref (ma 0), .int 0, .int 0, .int 0, .int 0, .ref (ma 1), .ref (ma 2), .null, .int 1, .int 10, .int 900, .ref (ma 3), .ref (ma 4), .int 0, .int 0, .int 0, .ref (ma 5), .int 1000, .int 50, .int 50, .int 1000, .int 10, .int 0, .int 3000, .int 0, .int 0, .int 0]))] := hD
    refine lv_istore (lv' := [(7, .int 32), (6, .int 1), (5, .int 0), (4, .ref ao), (3, .ref aj), (2, .ref am), (1, .ref ax), (0, .ref b)]) hx hb dL_law_1029 hl (Nat.le_of_ble_eq_true rfl) rfl (fun ls hl => ?_)
    refine lv_aload_n hx hb dL_law_1031 rfl (lv_at hl 5 rfl) ?_
    refine ca_i (isC := [2]) (isR := [0, 1]) (wr := [((xa 13), .inr (12, [.ref (xa 14), .ref (xa 15), .ref (xa 16), .ref (xa 17), .int 0])), ((ma 1), .inr (4, [.int 0, .ref (g 0), .int 0]))]) (rn_V (ci := 15) (q0 := 2) (isC := [2]) (wc := [(am, .inr (15, [.int 1, .ref (ma 0), .int 0, .int 0, .int 0, .int 0, .ref (ma 1), .ref (ma 2), .null, .int 1, .int 10, .int 900, .ref (ma 3), .ref (ma 4), .int 0, .int 0, .int 0, .ref (ma 5), .int 1000, .int 50, .int 50, .int 1000, .int 10, .int 0, .int 3000, .int 0, .int 0, .int 0]))]) (As := []) (rest := []) (n := 0) hx hb hml hown hts hE hS hP hD hA hl.1 (k24_X10_thrown l D cy g am (.ref (ma 0)) (.int 0) (.int 0) (.int 0) (.int 0) (.ref (ma 1)) (.ref (ma 2)) (.null) (.int 1) (.int 10) (.int 900) (.ref (ma 3)) (.ref (ma 4)) (.int 0) (.int 0) (.int 0) (.ref (ma 5)) (.int 1000) (.int 50) (.int 50) (.int 1000) (.int 10) (.int 0) (.int 3000) (.int 0) (.int 0) (.int 0) H.size ) rfl rfl rfl rfl rfl ax_45 rfl rfl ax_46 ⟨Nat.le_of_ble_eq_true rfl, Nat.le_of_ble_eq_true rfl⟩ rfl rfl (Nat.le_of_ble_eq_true rfl) dL_law_1032 ⟨(Nat.le_of_ble_eq_true rfl), (Nat.le_of_ble_eq_true rfl)⟩) hP hD hS hA rfl rfl rfl (by decide) (fun ad1032 H locs hP hD hS => ?_)
    have hP : va_P D vwCl [((xa 13), .inr (12, [.ref (xa 14), .ref (xa 15), .ref (xa 16), .ref (xa 17), .int 0])), ((ma 1), .inr (4, [.int 0, .ref (g 0), .int 0])), (am, .inr (15, [.int 1, .ref (ma 0), .int 0, .int 0, .int 0, .int 0, .ref (ma 1), .ref (ma 2), .null, .int 1, .int 10, .int 900, .ref (ma 3), .ref (ma 4), .int 0, .int 0, .int 0, .ref (ma 5), .int 1000, .int 50, .int 50, .int 1000, .int 10, .int 0, .int 3000, .int 0, .int 0, .int 0]))] H := hP
    have hD : va_D (AL s) [((xa 13), .inr (12, [.ref (xa 14), .ref (xa 15), .ref (xa 16), .ref (xa 17), .int 0])), ((ma 1), .inr (4, [.int 0, .ref (g 0), .int 0])), (am, .inr (15, [.int 1, .ref (ma 0), .int 0, .int 0, .int 0, .int 0, .ref (ma 1), .ref (ma 2), .null, .int 1, .int 10, .int 900, .ref (ma 3), .ref (ma 4), .int 0, .int 0, .int 0, .ref (ma 5), .int 1000, .int 50, .int 50, .int 1000, .int 10, .int 0, .int 3000, .int 0, .int 0, .int 0]))] := hD
    refine lv_iload hx hb dL_law_1035 (lv_at hl 1 rfl) ?_
    refine lv_icmp_eq (tgt := 1042) hx hb dL_law_1037 (by decide) (fun _ => ?_) (fun z => absurd (by decide) z)
    refine lv_iload hx hb dL_law_1042 (lv_at hl 1 rfl) ?_
    refine lv_if_ne (tgt := 1059) hx hb dL_law_1044 (by decide) (fun _ => ?_) (fun z => absurd z (by decide))
    refine lv_goto (tgt := 2947) hx hb dL_law_1059 (by decide) ?_
    exact law_tail LC hS (Nat.le_of_ble_eq_true rfl) (Nat.le_of_ble_eq_true rfl) (lv_sub hl [2, 7] rfl)
  · by_cases c1 : (20000 : Int32) < x2
    · refine lv_aload_n hx hb dL_law_994 rfl (lv_at hl 4 rfl) ?_
      refine lv_aload_n hx hb dL_law_995 rfl (lv_at hl 5 rfl) ?_
      refine lv_iload hx hb dL_law_996 (lv_at hl 0 rfl) ?_
      refine lv_iconst (v := 1) hx hb dL_law_998 (by decide) ?_
      refine lv_iadd hx hb dL_law_999 ?_
      refine tp_i 1 (by decide) ?_
      refine va_sld hx hb hX hbl hbA hS (by unfold vp_in; decide) dL_law_1000 ?_
      refine tp_i x1 e1 ?_
      refine lv_aload_n hx hb dL_law_1001 rfl (lv_at hl 5 rfl) ?_
      refine lv_iload hx hb dL_law_1002 (lv_at hl 0 rfl) ?_
      refine lv_iconst (v := 2) hx hb dL_law_1004 (by decide) ?_
      refine lv_iadd hx hb dL_law_1005 ?_
      refine tp_i 2 (by decide) ?_
      refine va_sld hx hb hX hbl hbA hS (by unfold vp_in; decide) dL_law_1006 ?_
      refine tp_i x2 e2 ?_
      refine lv_aload_n hx hb dL_law_1007 rfl (lv_at hl 2 rfl) ?_
      refine ca_i (isC := [0]) (isR := [1, 2, 3]) (wr := [((xa 13), .inr (12, [.ref (xa 14), .ref (xa 15), .ref (xa 16), .ref (xa 17), .int 0])), (am, .inr (15, [.int 0, .ref (ma 0), .int 0, .int 0, .int 0, .int 0, .ref (ma 1), .ref (ma 2), .null, .int 1, .int 10, .int 900, .ref (ma 3), .ref (ma 4), .int 0, .int 0, .int 0, .ref (ma 5), .int 1000, .int 50, .int 50, .int 1000, .int 10, .int 0, .int 3000, .int 0, .int 0, .int 0])), ((ma 1), .inr (4, [.int 0, .ref (g 0), .int 0]))]) (rn_SW (isC := [0]) (wc := [(ax, .inr (14, [.ref (xa 0), .ref (xa 13), .ref (xa 18), .ref (xa 34), .ref (xa 45), .ref (xa 49), .ref (xa 50)]))]) (As := [.ref ax, .int x1, .int x2, .ref aj]) (rest := []) (n := 4) hx hb hml hown hts hE hS hP hD hA hl.1 (k173_L_getPhase l hst D cy g x1 x2 ax aj (.ref (xa 0)) (.ref (xa 13)) (.ref (xa 18)) (.ref (xa 34)) (.ref (xa 45)) (.ref (xa 49)) (.ref (xa 50)) H.size c0 c1) rfl rfl ax_162 rfl rfl ax_163 ⟨Nat.le_of_ble_eq_true rfl, Nat.le_of_ble_eq_true rfl⟩ rfl rfl (Nat.le_of_ble_eq_true rfl) dL_law_1008 ⟨(Nat.le_of_ble_eq_true rfl), (Nat.le_of_ble_eq_true rfl)⟩) hP hD hS hA rfl rfl rfl (by decide) (fun ad1008 H locs hP hD hS => ?_)
      have hP : va_P D vwCl [((xa 13), .inr (12, [.ref (xa 14), .ref (xa 15), .ref (xa 16), .ref (xa 17), .int 0])), (am, .inr (15, [.int 0, .ref (ma 0), .int 0, .int 0, .int 0, .int 0, .ref (ma 1), .ref (ma 2), .null, .int 1, .int 10, .int 900, .ref (ma 3), .ref (ma 4), .int 0, .int 0, .int 0, .ref (ma 5), .int 1000, .int 50, .int 50, .int 1000, .int 10, .int 0, .int 3000, .int 0, .int 0, .int 0])), ((ma 1), .inr (4, [.int 0, .ref (g 0), .int 0]))] H := hP
      have hD : va_D (AL s) [((xa 13), .inr (12, [.ref (xa 14), .ref (xa 15), .ref (xa 16), .ref (xa 17), .int 0])), (am, .inr (15, [.int 0, .ref (ma 0), .int 0, .int 0, .int 0, .int 0, .ref (ma 1), .ref (ma 2), .null, .int 1, .int 10, .int 900, .ref (ma 3), .ref (ma 4), .int 0, .int 0, .int 0, .ref (ma 5), .int 1000, .int 50, .int 50, .int 1000, .int 10, .int 0, .int 3000, .int 0, .int 0, .int 0])), ((ma 1), .inr (4, [.int 0, .ref (g 0), .int 0]))] := hD
      refine lv_istore (lv' := [(6, .int 1), (5, .int 0), (4, .ref ao), (3, .ref aj), (2, .ref am), (1, .ref ax), (0, .ref b)]) hx hb dL_law_1011 hl (Nat.le_of_ble_eq_true rfl) rfl (fun ls hl => ?_)
      refine lv_aload_n hx hb dL_law_1013 rfl (lv_at hl 4 rfl) ?_
      refine lv_aload_n hx hb dL_law_1014 rfl (lv_at hl 6 rfl) ?_
      refine lv_iload hx hb dL_law_1015 (lv_at hl 1 rfl) ?_
      refine lv_iconst (v := 1) hx hb dL_law_1017 (by decide) ?_
      refine lv_iadd hx hb dL_law_1018 ?_
      refine tp_i 1 (by decide) ?_
      refine va_sld hx hb hX hbl hbA hS (by unfold vp_in; decide) dL_law_1019 ?_
      refine tp_i x1 e1 ?_
      refine lv_aload_n hx hb dL_law_1020 rfl (lv_at hl 6 rfl) ?_
      refine lv_iload hx hb dL_law_1021 (lv_at hl 1 rfl) ?_
      refine lv_iconst (v := 2) hx hb dL_law_1023 (by decide) ?_
      refine lv_iadd hx hb dL_law_1024 ?_
      refine tp_i 2 (by decide) ?_
      refine va_sld hx hb hX hbl hbA hS (by unfold vp_in; decide) dL_law_1025 ?_
      refine tp_i x2 e2 ?_
      refine ca_i (isC := [1]) (isR := [0, 2]) (wr := [((xa 13), .inr (12, [.ref (xa 14), .ref (xa 15), .ref (xa 16), .ref (xa 17), .int 0])), ((ma 1), .inr (4, [.int 0, .ref (g 0), .int 0]))]) (rn_V (ci := 15) (q0 := 1) (isC := [1]) (wc := [(am, .inr (15, [.int 0, .ref (ma 0), .int 0, .int 0, .int 0, .int 0, .ref (ma 1), .ref (ma 2), .null, .int 1, .int 10, .int 900, .ref (ma 3), .ref (ma 4), .int 0, .int 0, .int 0, .ref (ma 5), .int 1000, .int 50, .int 50, .int 1000, .int 10, .int 0, .int 3000, .int 0, .int 0, .int 0]))]) (As := [.int x1, .int x2]) (rest := []) (n := 2) hx hb hml hown hts hE hS hP hD hA hl.1 (k175_X10_getPhase l D cy g x1 x2 am (.int 0) (.ref (ma 0)) (.int 0) (.int 0) (.int 0) (.int 0) (.ref (ma 1)) (.ref (ma 2)) (.null) (.int 1) (.int 10) (.int 900) (.ref (ma 3)) (.ref (ma 4)) (.int 0) (.int 0) (.int 0) (.ref (ma 5)) (.int 1000) (.int 50) (.int 50) (.int 1000) (.int 10) (.int 0) (.int 3000) (.int 0) (.int 0) (.int 0) H.size c0 c1) rfl rfl rfl rfl rfl ax_166 rfl rfl ax_167 ⟨Nat.le_of_ble_eq_true rfl, Nat.le_of_ble_eq_true rfl⟩ rfl rfl (Nat.le_of_ble_eq_true rfl) dL_law_1026 ⟨(Nat.le_of_ble_eq_true rfl), (Nat.le_of_ble_eq_true rfl)⟩) hP hD hS hA rfl rfl rfl (by decide) (fun ad1026 H locs hP hD hS => ?_)
      have hP : va_P D vwCl [((xa 13), .inr (12, [.ref (xa 14), .ref (xa 15), .ref (xa 16), .ref (xa 17), .int 0])), ((ma 1), .inr (4, [.int 0, .ref (g 0), .int 0])), (am, .inr (15, [.int 1, .ref (ma 0), .int 0, .int 0, .int 0, .int 0, .ref (ma 1), .ref (ma 2), .null, .int 1, .int 10, .int 900, .ref (ma 3), .ref (ma 4), .int 0, .int 0, .int 0, .ref (ma 5), .int 1000, .int 50, .int 50, .int 1000, .int 10, .int 0, .int 3000, .int 0, .int 0, .int 0]))] H := hP
      have hD : va_D (AL s) [((xa 13), .inr (12, [.ref (xa 14), .ref (xa 15), .ref (xa 16), .ref (xa 17), .int 0])), ((ma 1), .inr (4, [.int 0, .ref (g 0), .int 0])), (am, .inr (15, [.int 1, .ref (ma 0), .int 0, .int 0, .int 0, .int 0, .ref (ma 1), .ref (ma 2), .null, .int 1, .int 10, .int 900, .ref (ma 3), .ref (ma 4), .int 0, .int 0, .int 0, .ref (ma 5), .int 1000, .int 50, .int 50, .int 1000, .int 10, .int 0, .int 3000, .int 0, .int 0, .int 0]))] := hD
      refine lv_istore (lv' := [(7, .int 32), (6, .int 1), (5, .int 0), (4, .ref ao), (3, .ref aj), (2, .ref am), (1, .ref ax), (0, .ref b)]) hx hb dL_law_1029 hl (Nat.le_of_ble_eq_true rfl) rfl (fun ls hl => ?_)
      refine lv_aload_n hx hb dL_law_1031 rfl (lv_at hl 5 rfl) ?_
      refine ca_i (isC := [2]) (isR := [0, 1]) (wr := [((xa 13), .inr (12, [.ref (xa 14), .ref (xa 15), .ref (xa 16), .ref (xa 17), .int 0])), ((ma 1), .inr (4, [.int 0, .ref (g 0), .int 0]))]) (rn_V (ci := 15) (q0 := 2) (isC := [2]) (wc := [(am, .inr (15, [.int 1, .ref (ma 0), .int 0, .int 0, .int 0, .int 0, .ref (ma 1), .ref (ma 2), .null, .int 1, .int 10, .int 900, .ref (ma 3), .ref (ma 4), .int 0, .int 0, .int 0, .ref (ma 5), .int 1000, .int 50, .int 50, .int 1000, .int 10, .int 0, .int 3000, .int 0, .int 0, .int 0]))]) (As := []) (rest := []) (n := 0) hx hb hml hown hts hE hS hP hD hA hl.1 (k24_X10_thrown l D cy g am (.ref (ma 0)) (.int 0) (.int 0) (.int 0) (.int 0) (.ref (ma 1)) (.ref (ma 2)) (.null) (.int 1) (.int 10) (.int 900) (.ref (ma 3)) (.ref (ma 4)) (.int 0) (.int 0) (.int 0) (.ref (ma 5)) (.int 1000) (.int 50) (.int 50) (.int 1000) (.int 10) (.int 0) (.int 3000) (.int 0) (.int 0) (.int 0) H.size ) rfl rfl rfl rfl rfl ax_45 rfl rfl ax_46 ⟨Nat.le_of_ble_eq_true rfl, Nat.le_of_ble_eq_true rfl⟩ rfl rfl (Nat.le_of_ble_eq_true rfl) dL_law_1032 ⟨(Nat.le_of_ble_eq_true rfl), (Nat.le_of_ble_eq_true rfl)⟩) hP hD hS hA rfl rfl rfl (by decide) (fun ad1032 H locs hP hD hS => ?_)
      have hP : va_P D vwCl [((xa 13), .inr (12, [.ref (xa 14), .ref (xa 15), .ref (xa 16), .ref (xa 17), .int 0])), ((ma 1), .inr (4, [.int 0, .ref (g 0), .int 0])), (am, .inr (15, [.int 1, .ref (ma 0), .int 0, .int 0, .int 0, .int 0, .ref (ma 1), .ref (ma 2), .null, .int 1, .int 10, .int 900, .ref (ma 3), .ref (ma 4), .int 0, .int 0, .int 0, .ref (ma 5), .int 1000, .int 50, .int 50, .int 1000, .int 10, .int 0, .int 3000, .int 0, .int 0, .int 0]))] H := hP
      have hD : va_D (AL s) [((xa 13), .inr (12, [.ref (xa 14), .ref (xa 15), .ref (xa 16), .ref (xa 17), .int 0])), ((ma 1), .inr (4, [.int 0, .ref (g 0), .int 0])), (am, .inr (15, [.int 1, .ref (ma 0), .int 0, .int 0, .int 0, .int 0, .ref (ma 1), .ref (ma 2), .null, .int 1, .int 10, .int 900, .ref (ma 3), .ref (ma 4), .int 0, .int 0, .int 0, .ref (ma 5), .int 1000, .int 50, .int 50, .int 1000, .int 10, .int 0, .int 3000, .int 0, .int 0, .int 0]))] := hD
      refine lv_iload hx hb dL_law_1035 (lv_at hl 1 rfl) ?_
      refine lv_icmp_eq (tgt := 1042) hx hb dL_law_1037 (by decide) (fun _ => ?_) (fun z => absurd (by decide) z)
      refine lv_iload hx hb dL_law_1042 (lv_at hl 1 rfl) ?_
      refine lv_if_ne (tgt := 1059) hx hb dL_law_1044 (by decide) (fun _ => ?_) (fun z => absurd z (by decide))
      refine lv_goto (tgt := 2947) hx hb dL_law_1059 (by decide) ?_
      exact law_tail LC hS (Nat.le_of_ble_eq_true rfl) (Nat.le_of_ble_eq_true rfl) (lv_sub hl [2, 7] rfl)
    · refine lv_aload_n hx hb dL_law_994 rfl (lv_at hl 4 rfl) ?_
      refine lv_aload_n hx hb dL_law_995 rfl (lv_at hl 5 rfl) ?_
      refine lv_iload hx hb dL_law_996 (lv_at hl 0 rfl) ?_
      refine lv_iconst (v := 1) hx hb dL_law_998 (by decide) ?_
      refine lv_iadd hx hb dL_law_999 ?_
      refine tp_i 1 (by decide) ?_
      refine va_sld hx hb hX hbl hbA hS (by unfold vp_in; decide) dL_law_1000 ?_
      refine tp_i x1 e1 ?_
      refine lv_aload_n hx hb dL_law_1001 rfl (lv_at hl 5 rfl) ?_
      refine lv_iload hx hb dL_law_1002 (lv_at hl 0 rfl) ?_
      refine lv_iconst (v := 2) hx hb dL_law_1004 (by decide) ?_
      refine lv_iadd hx hb dL_law_1005 ?_
      refine tp_i 2 (by decide) ?_
      refine va_sld hx hb hX hbl hbA hS (by unfold vp_in; decide) dL_law_1006 ?_
      refine tp_i x2 e2 ?_
      refine lv_aload_n hx hb dL_law_1007 rfl (lv_at hl 2 rfl) ?_
      refine ca_i (isC := [0, 1]) (isR := [2, 3]) (wr := [(am, .inr (15, [.int 0, .ref (ma 0), .int 0, .int 0, .int 0, .int 0, .ref (ma 1), .ref (ma 2), .null, .int 1, .int 10, .int 900, .ref (ma 3), .ref (ma 4), .int 0, .int 0, .int 0, .ref (ma 5), .int 1000, .int 50, .int 50, .int 1000, .int 10, .int 0, .int 3000, .int 0, .int 0, .int 0])), ((ma 1), .inr (4, [.int 0, .ref (g 0), .int 0]))]) (rn_SW (isC := [0, 1]) (wc := [(ax, .inr (14, [.ref (xa 0), .ref (xa 13), .ref (xa 18), .ref (xa 34), .ref (xa 45), .ref (xa 49), .ref (xa 50)])), ((xa 13), .inr (12, [.ref (xa 14), .ref (xa 15), .ref (xa 16), .ref (xa 17), .int 0]))]) (As := [.ref ax, .int x1, .int x2, .ref aj]) (rest := []) (n := 4) hx hb hml hown hts hE hS hP hD hA hl.1 (k179_L_getPhase l hst D cy g x1 x2 ax (xa 13) aj (.ref (xa 0)) (.ref (xa 18)) (.ref (xa 34)) (.ref (xa 45)) (.ref (xa 49)) (.ref (xa 50)) (.ref (xa 14)) (.ref (xa 15)) (.ref (xa 16)) (.ref (xa 17)) H.size c0 c1) rfl rfl ax_162 rfl rfl ax_163 ⟨Nat.le_of_ble_eq_true rfl, Nat.le_of_ble_eq_true rfl⟩ rfl rfl (Nat.le_of_ble_eq_true rfl) dL_law_1008 ⟨(Nat.le_of_ble_eq_true rfl), (Nat.le_of_ble_eq_true rfl)⟩) hP hD hS hA rfl rfl rfl (by decide) (fun ad1008 H locs hP hD hS => ?_)
      have hP : va_P D vwCl [(am, .inr (15, [.int 0, .ref (ma 0), .int 0, .int 0, .int 0, .int 0, .ref (ma 1), .ref (ma 2), .null, .int 1, .int 10, .int 900, .ref (ma 3), .ref (ma 4), .int 0, .int 0, .int 0, .ref (ma 5), .int 1000, .int 50, .int 50, .int 1000, .int 10, .int 0, .int 3000, .int 0, .int 0, .int 0])), ((ma 1), .inr (4, [.int 0, .ref (g 0), .int 0]))] H := hP
      have hD : va_D (AL s) [(am, .inr (15, [.int 0, .ref (ma 0), .int 0, .int 0, .int 0, .int 0, .ref (ma 1), .ref (ma 2), .null, .int 1, .int 10, .int 900, .ref (ma 3), .ref (ma 4), .int 0, .int 0, .int 0, .ref (ma 5), .int 1000, .int 50, .int 50, .int 1000, .int 10, .int 0, .int 3000, .int 0, .int 0, .int 0])), ((ma 1), .inr (4, [.int 0, .ref (g 0), .int 0]))] := hD
      refine lv_istore (lv' := [(6, .int 2), (5, .int 0), (4, .ref ao), (3, .ref aj), (2, .ref am), (1, .ref ax), (0, .ref b)]) hx hb dL_law_1011 hl (Nat.le_of_ble_eq_true rfl) rfl (fun ls hl => ?_)
      refine lv_aload_n hx hb dL_law_1013 rfl (lv_at hl 4 rfl) ?_
      refine lv_aload_n hx hb dL_law_1014 rfl (lv_at hl 6 rfl) ?_
      refine lv_iload hx hb dL_law_1015 (lv_at hl 1 rfl) ?_
      refine lv_iconst (v := 1) hx hb dL_law_1017 (by decide) ?_
      refine lv_iadd hx hb dL_law_1018 ?_
      refine tp_i 1 (by decide) ?_
      refine va_sld hx hb hX hbl hbA hS (by unfold vp_in; decide) dL_law_1019 ?_
      refine tp_i x1 e1 ?_
      refine lv_aload_n hx hb dL_law_1020 rfl (lv_at hl 6 rfl) ?_
      refine lv_iload hx hb dL_law_1021 (lv_at hl 1 rfl) ?_
      refine lv_iconst (v := 2) hx hb dL_law_1023 (by decide) ?_
      refine lv_iadd hx hb dL_law_1024 ?_
      refine tp_i 2 (by decide) ?_
      refine va_sld hx hb hX hbl hbA hS (by unfold vp_in; decide) dL_law_1025 ?_
      refine tp_i x2 e2 ?_
      refine ca_i (isC := [0, 1]) (isR := []) (wr := []) (rn_V (ci := 15) (q0 := 0) (isC := [0, 1]) (wc := [(am, .inr (15, [.int 0, .ref (ma 0), .int 0, .int 0, .int 0, .int 0, .ref (ma 1), .ref (ma 2), .null, .int 1, .int 10, .int 900, .ref (ma 3), .ref (ma 4), .int 0, .int 0, .int 0, .ref (ma 5), .int 1000, .int 50, .int 50, .int 1000, .int 10, .int 0, .int 3000, .int 0, .int 0, .int 0])), ((ma 1), .inr (4, [.int 0, .ref (g 0), .int 0]))]) (As := [.int x1, .int x2]) (rest := []) (n := 2) hx hb hml hown hts hE hS hP hD hA hl.1 (k181_X10_getPhase l D cy g x1 x2 am (ma 1) (.int 0) (.ref (ma 0)) (.int 0) (.int 0) (.int 0) (.int 0) (.ref (ma 2)) (.null) (.int 1) (.int 10) (.int 900) (.ref (ma 3)) (.ref (ma 4)) (.int 0) (.int 0) (.int 0) (.ref (ma 5)) (.int 1000) (.int 50) (.int 50) (.int 1000) (.int 10) (.int 0) (.int 3000) (.int 0) (.int 0) (.int 0) (.int 0) (.ref (g 0)) H.size c0 c1) rfl rfl rfl rfl rfl ax_166 rfl rfl ax_167 ⟨Nat.le_of_ble_eq_true rfl, Nat.le_of_ble_eq_true rfl⟩ rfl rfl (Nat.le_of_ble_eq_true rfl) dL_law_1026 ⟨(Nat.le_of_ble_eq_true rfl), (Nat.le_of_ble_eq_true rfl)⟩) hP hD hS hA rfl rfl rfl (by decide) (fun ad1026 H locs hP hD hS => ?_)
      have hP : va_P D vwCl [(am, .inr (15, [.int 2, .ref (ma 0), .int 0, .int 0, .int 0, .int 0, .ref (ma 1), .ref (ma 2), .null, .int 1, .int 10, .int 900, .ref (ma 3), .ref (ma 4), .int 0, .int 0, .int 0, .ref (ma 5), .int 1000, .int 50, .int 50, .int 1000, .int 10, .int 0, .int 3000, .int 0, .int 0, .int 0]))] H := hP
      have hD : va_D (AL s) [(am, .inr (15, [.int 2, .ref (ma 0), .int 0, .int 0, .int 0, .int 0, .ref (ma 1), .ref (ma 2), .null, .int 1, .int 10, .int 900, .ref (ma 3), .ref (ma 4), .int 0, .int 0, .int 0, .ref (ma 5), .int 1000, .int 50, .int 50, .int 1000, .int 10, .int 0, .int 3000, .int 0, .int 0, .int 0]))] := hD
      refine lv_istore (lv' := [(7, .int 32), (6, .int 2), (5, .int 0), (4, .ref ao), (3, .ref aj), (2, .ref am), (1, .ref ax), (0, .ref b)]) hx hb dL_law_1029 hl (Nat.le_of_ble_eq_true rfl) rfl (fun ls hl => ?_)
      refine lv_aload_n hx hb dL_law_1031 rfl (lv_at hl 5 rfl) ?_
      refine ca_i (isC := [0]) (isR := []) (wr := []) (rn_V (ci := 15) (q0 := 0) (isC := [0]) (wc := [(am, .inr (15, [.int 2, .ref (ma 0), .int 0, .int 0, .int 0, .int 0, .ref (ma 1), .ref (ma 2), .null, .int 1, .int 10, .int 900, .ref (ma 3), .ref (ma 4), .int 0, .int 0, .int 0, .ref (ma 5), .int 1000, .int 50, .int 50, .int 1000, .int 10, .int 0, .int 3000, .int 0, .int 0, .int 0]))]) (As := []) (rest := []) (n := 0) hx hb hml hown hts hE hS hP hD hA hl.1 (k148_X10_thrown l D cy g am (.ref (ma 0)) (.int 0) (.int 0) (.int 0) (.int 0) (.ref (ma 1)) (.ref (ma 2)) (.null) (.int 1) (.int 10) (.int 900) (.ref (ma 3)) (.ref (ma 4)) (.int 0) (.int 0) (.int 0) (.ref (ma 5)) (.int 1000) (.int 50) (.int 50) (.int 1000) (.int 10) (.int 0) (.int 3000) (.int 0) (.int 0) (.int 0) H.size ) rfl rfl rfl rfl rfl ax_45 rfl rfl ax_46 ⟨Nat.le_of_ble_eq_true rfl, Nat.le_of_ble_eq_true rfl⟩ rfl rfl (Nat.le_of_ble_eq_true rfl) dL_law_1032 ⟨(Nat.le_of_ble_eq_true rfl), (Nat.le_of_ble_eq_true rfl)⟩) hP hD hS hA rfl rfl rfl (by decide) (fun ad1032 H locs hP hD hS => ?_)
      have hP : va_P D vwCl [(am, .inr (15, [.int 2, .ref (ma 0), .int 0, .int 0, .int 0, .int 0, .ref (ma 1), .ref (ma 2), .null, .int 1, .int 10, .int 900, .ref (ma 3), .ref (ma 4), .int 0, .int 0, .int 0, .ref (ma 5), .int 1000, .int 50, .int 50, .int 1000, .int 10, .int 0, .int 3000, .int 0, .int 0, .int 0]))] H := hP
      have hD : va_D (AL s) [(am, .inr (15, [.int 2, .ref (ma 0), .int 0, .int 0, .int 0, .int 0, .ref (ma 1), .ref (ma 2), .null, .int 1, .int 10, .int 900, .ref (ma 3), .ref (ma 4), .int 0, .int 0, .int 0, .ref (ma 5), .int 1000, .int 50, .int 50, .int 1000, .int 10, .int 0, .int 3000, .int 0, .int 0, .int 0]))] := hD
      refine lv_iload hx hb dL_law_1035 (lv_at hl 1 rfl) ?_
      refine lv_icmp_eq (tgt := 1042) hx hb dL_law_1037 (by decide) (fun _ => ?_) (fun z => absurd (by decide) z)
      refine lv_iload hx hb dL_law_1042 (lv_at hl 1 rfl) ?_
      refine lv_if_ne (tgt := 1059) hx hb dL_law_1044 (by decide) (fun _ => ?_) (fun z => absurd z (by decide))
      refine lv_goto (tgt := 2947) hx hb dL_law_1059 (by decide) ?_
      exact law_tail LC hS (Nat.le_of_ble_eq_true rfl) (Nat.le_of_ble_eq_true rfl) (lv_sub hl [2, 7] rfl)
set_option maxHeartbeats 4000000 in
set_option maxRecDepth 100000 in
theorem lc_13 {p : Program} {e : Env} {s : State} {m : MethodId} {below : List Frame} {meth : Method} {c : Code} {l : Launch} {b : Nat} {xs : Nat → Int32} {D : va_G} {cy : Nat → ClassId} {g : Nat → Nat} (hst : l.stackTraces = false) (LC : LCtx p s m meth c b xs D cy g) (ax am aj ao : Nat) (xa ma : Nat → Nat) (x1 x2 x3 x4 : Int32) (e1 : xs (1 : Int32).toNatClampNeg = x1) (e2 : xs (2 : Int32).toNatClampNeg = x2) (e3 : xs (3 : Int32).toNatClampNeg = x3) (e4 : xs (4 : Int32).toNatClampNeg = x4) {H : Heap} {locs : List Loc} (hP : va_P D vwCl [(ax, .inr (14, [.ref (xa 0), .ref (xa 13), .ref (xa 18), .ref (xa 34), .ref (xa 45), .ref (xa 49), .ref (xa 50)])), ((xa 13), .inr (12, [.ref (xa 14), .ref (xa 15), .ref (xa 16), .ref (xa 17), .int 0])), (am, .inr (15, [.int 0, .ref (ma 0), .int 0, .int 0, .int 0, .int 0, .ref (ma 1), .ref (ma 2), .null, .int 1, .int 10, .int 900, .ref (ma 3), .ref (ma 4), .int 0, .int 0, .int 0, .ref (ma 5), .int 1000, .int 50, .int 50, .int 1000, .int 10, .int 0, .int 3000, .int 0, .int 0, .int 0])), ((ma 1), .inr (4, [.int 0, .ref (g 0), .int 0]))] H) (hD : va_D (AL s) [(ax, .inr (14, [.ref (xa 0), .ref (xa 13), .ref (xa 18), .ref (xa 34), .ref (xa 45), .ref (xa 49), .ref (xa 50)])), ((xa 13), .inr (12, [.ref (xa 14), .ref (xa 15), .ref (xa 16), .ref (xa 17), .int 0])), (am, .inr (15, [.int 0, .ref (ma 0), .int 0, .int 0, .int 0, .int 0, .ref (ma 1), .ref (ma 2), .null, .int 1, .int 10, .int 900, .ref (ma 3), .ref (ma 4), .int 0, .int 0, .int 0, .ref (ma 5), .int 1000, .int 50, .int 50, .int 1000, .int 10, .int 0, .int 3000, .int 0, .int 0, .int 0])), ((ma 1), .inr (4, [.int 0, .ref (g 0), .int 0]))]) (hS : va_S (AL s) s.heap H locs) (ls : Array Slot) (hl : lv_has ls 9 [(5, .int 0), (4, .ref ao), (3, .ref aj), (2, .ref am), (1, .ref ax), (0, .ref b)]) : W p l e room_1 s m #[Value.ref b] below meth c H locs 100 1000 (lw_Z below #[Value.ref b] s) (F0 m 1062 ls []) := by
  obtain ⟨hx, hb, hr, hml, hown, hlk, hts, hE, hX, hbl⟩ := id LC
  have hA : ∀ q, s.heap.size ≤ q → (AL s) q := fun _ h => h
  have hbA : ¬ (AL s) b := Nat.not_le.mpr hbl
  by_cases c0 : x2 < 0
  · refine lv_aload_n hx hb dL_law_1062 rfl (lv_at hl 4 rfl) ?_
    refine lv_aload_n hx hb dL_law_1063 rfl (lv_at hl 5 rfl) ?_
    refine lv_iload hx hb dL_law_1064 (lv_at hl 0 rfl) ?_
    refine lv_iconst (v := 1) hx hb dL_law_1066 (by decide) ?_
    refine lv_iadd hx hb dL_law_1067 ?_
    refine tp_i 1 (by decide) ?_
    refine va_sld hx hb hX hbl hbA hS (by unfold vp_in; decide) dL_law_1068 ?_
    refine tp_i x1 e1 ?_
    refine lv_aload_n hx hb dL_law_1069 rfl (lv_at hl 5 rfl) ?_
    refine lv_iload hx hb dL_law_1070 (lv_at hl 0 rfl) ?_
    refine lv_iconst (v := 2) hx hb dL_law_1072 (by decide) ?_
    refine lv_iadd hx hb dL_law_1073 ?_
    refine tp_i 2 (by decide) ?_
    refine va_sld hx hb hX hbl hbA hS (by unfold vp_in; decide) dL_law_1074 ?_
    refine tp_i x2 e2 ?_
    refine lv_aload_n hx hb dL_law_1075 rfl (lv_at hl 2 rfl) ?_
    refine ca_i (isC := [0]) (isR := [1, 2, 3]) (wr := [((xa 13), .inr (12, [.ref (xa 14), .ref (xa 15), .ref (xa 16), .ref (xa 17), .int 0])), (am, .inr (15, [.int 0, .ref (ma 0), .int 0, .int 0, .int 0, .int 0, .ref (ma 1), .ref (ma 2), .null, .int 1, .int 10, .int 900, .ref (ma 3), .ref (ma 4), .int 0, .int 0, .int 0, .ref (ma 5), .int 1000, .int 50, .int 50, .int 1000, .int 10, .int 0, .int 3000, .int 0, .int 0, .int 0])), ((ma 1), .inr (4, [.int 0, .ref (g 0), .int 0]))]) (rn_SW (isC := [0]) (wc := [(ax, .inr (14, [.ref (xa 0), .ref (xa 13), .ref (xa 18), .ref (xa 34), .ref (xa 45), .ref (xa 49), .ref (xa 50)]))]) (As := [.ref ax, .int x1, .int x2, .ref aj]) (rest := []) (n := 4) hx hb hml hown hts hE hS hP hD hA hl.1 (k183_L_getDryness l hst D cy g x1 x2 ax aj (.ref (xa 0)) (.ref (xa 13)) (.ref (xa 18)) (.ref (xa 34)) (.ref (xa 45)) (.ref (xa 49)) (.ref (xa 50)) H.size c0) rfl rfl ax_170 rfl rfl ax_171 ⟨Nat.le_of_ble_eq_true rfl, Nat.le_of_ble_eq_true rfl⟩ rfl rfl (Nat.le_of_ble_eq_true rfl) dL_law_1076 ⟨(Nat.le_of_ble_eq_true rfl), (Nat.le_of_ble_eq_true rfl)⟩) hP hD hS hA rfl rfl rfl (by decide) (fun ad1076 H locs hP hD hS => ?_)
    have hP : va_P D vwCl [((xa 13), .inr (12, [.ref (xa 14), .ref (xa 15), .ref (xa 16), .ref (xa 17), .int 0])), (am, .inr (15, [.int 0, .ref (ma 0), .int 0, .int 0, .int 0, .int 0, .ref (ma 1), .ref (ma 2), .null, .int 1, .int 10, .int 900, .ref (ma 3), .ref (ma 4), .int 0, .int 0, .int 0, .ref (ma 5), .int 1000, .int 50, .int 50, .int 1000, .int 10, .int 0, .int 3000, .int 0, .int 0, .int 0])), ((ma 1), .inr (4, [.int 0, .ref (g 0), .int 0]))] H := hP
    have hD : va_D (AL s) [((xa 13), .inr (12, [.ref (xa 14), .ref (xa 15), .ref (xa 16), .ref (xa 17), .int 0])), (am, .inr (15, [.int 0, .ref (ma 0), .int 0, .int 0, .int 0, .int 0, .ref (ma 1), .ref (ma 2), .null, .int 1, .int 10, .int 900, .ref (ma 3), .ref (ma 4), .int 0, .int 0, .int 0, .ref (ma 5), .int 1000, .int 50, .int 50, .int 1000, .int 10, .int 0, .int 3000, .int 0, .int 0, .int 0])), ((ma 1), .inr (4, [.int 0, .ref (g 0), .int 0]))] := hD
    refine lv_istore (lv' := [(6, .int 1), (5, .int 0), (4, .ref ao), (3, .ref aj), (2, .ref am), (1, .ref ax), (0, .ref b)]) hx hb dL_law_1079 hl (Nat.le_of_ble_eq_true rfl) rfl (fun ls hl => ?_)
    refine lv_aload_n hx hb dL_law_1081 rfl (lv_at hl 4 rfl) ?_
    refine lv_aload_n hx hb dL_law_1082 rfl (lv_at hl 6 rfl) ?_
    refine lv_iload hx hb dL_law_1083 (lv_at hl 1 rfl) ?_
    refine lv_iconst (v := 1) hx hb dL_law_1085 (by decide) ?_
    refine lv_iadd hx hb dL_law_1086 ?_
    refine tp_i 1 (by decide) ?_
    refine va_sld hx hb hX hbl hbA hS (by unfold vp_in; decide) dL_law_1087 ?_
    refine tp_i x1 e1 ?_
    refine lv_aload_n hx hb dL_law_1088 rfl (lv_at hl 6 rfl) ?_
    refine lv_iload hx hb dL_law_1089 (lv_at hl 1 rfl) ?_
    refine lv_iconst (v := 2) hx hb dL_law_1091 (by decide) ?_
    refine lv_iadd hx hb dL_law_1092 ?_
    refine tp_i 2 (by decide) ?_
    refine va_sld hx hb hX hbl hbA hS (by unfold vp_in; decide) dL_law_1093 ?_
    refine tp_i x2 e2 ?_
    refine ca_i (isC := [1]) (isR := [0, 2]) (wr := [((xa 13), .inr (12, [.ref (xa 14), .ref (xa 15), .ref (xa 16), .ref (xa 17), .int 0])), ((ma 1), .inr (4, [.int 0, .ref (g 0), .int 0]))]) (rn_V (ci := 15) (q0 := 1) (isC := [1]) (wc := [(am, .inr (15, [.int 0, .ref (ma 0), .int 0, .int 0, .int 0, .int 0, .ref (ma 1), .ref (ma 2), .null, .int 1, .int 10, .int 900, .ref (ma 3), .ref (ma 4), .int 0, .int 0, .int 0, .ref (ma 5), .int 1000, .int 50, .int 50, .int 1000, .int 10, .int 0, .int 3000, .int 0, .int 0, .int 0]))]) (As := [.int x1, .int x2]) (rest := []) (n := 2) hx hb hml hown hts hE hS hP hD hA hl.1 (k184_X10_getDryness l D cy g x1 x2 am (.int 0) (.ref (ma 0)) (.int 0) (.int 0) (.int 0) (.int 0) (.ref (ma 1)) (.ref (ma 2)) (.null) (.int 1) (.int 10) (.int 900) (.ref (ma 3)) (.ref (ma 4)) (.int 0) (.int 0) (.int 0) (.ref (ma 5)) (.int 1000) (.int 50) (.int 50) (.int 1000) (.int 10) (.int 0) (.int 3000) (.int 0) (.int 0) (.int 0) H.size c0) rfl rfl rfl rfl rfl ax_172 rfl rfl ax_173 ⟨Nat.le_of_ble_eq_true rfl, Nat.le_of_ble_eq_true rfl⟩ rfl rfl (Nat.le_of_ble_eq_true rfl) dL_law_1094 ⟨(Nat.le_of_ble_eq_true rfl), (Nat.le_of_ble_eq_true rfl)⟩) hP hD hS hA rfl rfl rfl (by decide) (fun ad1094 H locs hP hD hS => ?_)
    have hP : va_P D vwCl [((xa 13), .inr (12, [.ref (xa 14), .ref (xa 15), .ref (xa 16), .ref (xa 17), .int 0])), ((ma 1), .inr (4, [.int 0, .ref (g 0), .int 0])), (am, .inr (15, [.int 1, .ref (ma 0), .int 0, .int 0, .int 0, .int 0, .ref (ma 1), .ref (ma 2), .null, .int 1, .int 10, .int 900, .ref (ma 3), .ref (ma 4), .int 0, .int 0, .int 0, .ref (ma 5), .int 1000, .int 50, .int 50, .int 1000, .int 10, .int 0, .int 3000, .int 0, .int 0, .int 0]))] H := hP
    have hD : va_D (AL s) [((xa 13), .inr (12, [.ref (xa 14), .ref (xa 15), .ref (xa 16), .ref (xa 17), .int 0])), ((ma 1), .inr (4, [.int 0, .ref (g 0), .int 0])), (am, .inr (15, [.int 1, .ref (ma 0), .int 0, .int 0, .int 0, .int 0, .ref (ma 1), .ref (ma 2), .null, .int 1, .int 10, .int 900, .ref (ma 3), .ref (ma 4), .int 0, .int 0, .int 0, .ref (ma 5), .int 1000, .int 50, .int 50, .int 1000, .int 10, .int 0, .int 3000, .int 0, .int 0, .int 0]))] := hD
    refine lv_istore (lv' := [(7, .int (-1)), (6, .int 1), (5, .int 0), (4, .ref ao), (3, .ref aj), (2, .ref am), (1, .ref ax), (0, .ref b)]) hx hb dL_law_1097 hl (Nat.le_of_ble_eq_true rfl) rfl (fun ls hl => ?_)
    refine lv_aload_n hx hb dL_law_1099 rfl (lv_at hl 5 rfl) ?_
    refine ca_i (isC := [2]) (isR := [0, 1]) (wr := [((xa 13), .inr (12, [.ref (xa 14), .ref (xa 15), .ref (xa 16), .ref (xa 17), .int 0])), ((ma 1), .inr (4, [.int 0, .ref (g 0), .int 0]))]) (rn_V (ci := 15) (q0 := 2) (isC := [2]) (wc := [(am, .inr (15, [.int 1, .ref (ma 0), .int 0, .int 0, .int 0, .int 0, .ref (ma 1), .ref (ma 2), .null, .int 1, .int 10, .int 900, .ref (ma 3), .ref (ma 4), .int 0, .int 0, .int 0, .ref (ma 5), .int 1000, .int 50, .int 50, .int 1000, .int 10, .int 0, .int 3000, .int 0, .int 0, .int 0]))]) (As := []) (rest := []) (n := 0) hx hb hml hown hts hE hS hP hD hA hl.1 (k24_X10_thrown l D cy g am (.ref (ma 0)) (.int 0) (.int 0) (.int 0) (.int 0) (.ref (ma 1)) (.ref (ma 2)) (.null) (.int 1) (.int 10) (.int 900) (.ref (ma 3)) (.ref (ma 4)) (.int 0) (.int 0) (.int 0) (.ref (ma 5)) (.int 1000) (.int 50) (.int 50) (.int 1000) (.int 10) (.int 0) (.int 3000) (.int 0) (.int 0) (.int 0) H.size ) rfl rfl rfl rfl rfl ax_45 rfl rfl ax_46 ⟨Nat.le_of_ble_eq_true rfl, Nat.le_of_ble_eq_true rfl⟩ rfl rfl (Nat.le_of_ble_eq_true rfl) dL_law_1100 ⟨(Nat.le_of_ble_eq_true rfl), (Nat.le_of_ble_eq_true rfl)⟩) hP hD hS hA rfl rfl rfl (by decide) (fun ad1100 H locs hP hD hS => ?_)
    have hP : va_P D vwCl [((xa 13), .inr (12, [.ref (xa 14), .ref (xa 15), .ref (xa 16), .ref (xa 17), .int 0])), ((ma 1), .inr (4, [.int 0, .ref (g 0), .int 0])), (am, .inr (15, [.int 1, .ref (ma 0), .int 0, .int 0, .int 0, .int 0, .ref (ma 1), .ref (ma 2), .null, .int 1, .int 10, .int 900, .ref (ma 3), .ref (ma 4), .int 0, .int 0, .int 0, .ref (ma 5), .int 1000, .int 50, .int 50, .int 1000, .int 10, .int 0, .int 3000, .int 0, .int 0, .int 0]))] H := hP
    have hD : va_D (AL s) [((xa 13), .inr (12, [.ref (xa 14), .ref (xa 15), .ref (xa 16), .ref (xa 17), .int 0])), ((ma 1), .inr (4, [.int 0, .ref (g 0), .int 0])), (am, .inr (15, [.int 1, .ref (ma 0), .int 0, .int 0, .int 0, .int 0, .ref (ma 1), .ref (ma 2), .null, .int 1, .int 10, .int 900, .ref (ma 3), .ref (ma 4), .int 0, .int 0, .int 0, .ref (ma 5), .int 1000, .int 50, .int 50, .int 1000, .int 10, .int 0, .int 3000, .int 0, .int 0, .int 0]))] := hD
    refine lv_iload hx hb dL_law_1103 (lv_at hl 1 rfl) ?_
    refine lv_icmp_eq (tgt := 1110) hx hb dL_law_1105 (by decide) (fun _ => ?_) (fun z => absurd (by decide) z)
    refine lv_iload hx hb dL_law_1110 (lv_at hl 1 rfl) ?_
    refine lv_if_ne (tgt := 1127) hx hb dL_law_1112 (by decide) (fun _ => ?_) (fun z => absurd z (by decide))
    refine lv_goto (tgt := 2947) hx hb dL_law_1127 (by decide) ?_
    exact law_tail LC hS (Nat.le_of_ble_eq_true rfl) (Nat.le_of_ble_eq_true rfl) (lv_sub hl [2, 7] rfl)
  · by_cases c1 : (20000 : Int32) < x2
    · refine lv_aload_n hx hb dL_law_1062 rfl (lv_at hl 4 rfl) ?_
      refine lv_aload_n hx hb dL_law_1063 rfl (lv_at hl 5 rfl) ?_
      refine lv_iload hx hb dL_law_1064 (lv_at hl 0 rfl) ?_
      refine lv_iconst (v := 1) hx hb dL_law_1066 (by decide) ?_
      refine lv_iadd hx hb dL_law_1067 ?_
      refine tp_i 1 (by decide) ?_
      refine va_sld hx hb hX hbl hbA hS (by unfold vp_in; decide) dL_law_1068 ?_
      refine tp_i x1 e1 ?_
      refine lv_aload_n hx hb dL_law_1069 rfl (lv_at hl 5 rfl) ?_
      refine lv_iload hx hb dL_law_1070 (lv_at hl 0 rfl) ?_
      refine lv_iconst (v := 2) hx hb dL_law_1072 (by decide) ?_
      refine lv_iadd hx hb dL_law_1073 ?_
      refine tp_i 2 (by decide) ?_
      refine va_sld hx hb hX hbl hbA hS (by unfold vp_in; decide) dL_law_1074 ?_
      refine tp_i x2 e2 ?_
      refine lv_aload_n hx hb dL_law_1075 rfl (lv_at hl 2 rfl) ?_
      refine ca_i (isC := [0]) (isR := [1, 2, 3]) (wr := [((xa 13), .inr (12, [.ref (xa 14), .ref (xa 15), .ref (xa 16), .ref (xa 17), .int 0])), (am, .inr (15, [.int 0, .ref (ma 0), .int 0, .int 0, .int 0, .int 0, .ref (ma 1), .ref (ma 2), .null, .int 1, .int 10, .int 900, .ref (ma 3), .ref (ma 4), .int 0, .int 0, .int 0, .ref (ma 5), .int 1000, .int 50, .int 50, .int 1000, .int 10, .int 0, .int 3000, .int 0, .int 0, .int 0])), ((ma 1), .inr (4, [.int 0, .ref (g 0), .int 0]))]) (rn_SW (isC := [0]) (wc := [(ax, .inr (14, [.ref (xa 0), .ref (xa 13), .ref (xa 18), .ref (xa 34), .ref (xa 45), .ref (xa 49), .ref (xa 50)]))]) (As := [.ref ax, .int x1, .int x2, .ref aj]) (rest := []) (n := 4) hx hb hml hown hts hE hS hP hD hA hl.1 (k186_L_getDryness l hst D cy g x1 x2 ax aj (.ref (xa 0)) (.ref (xa 13)) (.ref (xa 18)) (.ref (xa 34)) (.ref (xa 45)) (.ref (xa 49)) (.ref (xa 50)) H.size c0 c1) rfl rfl ax_170 rfl rfl ax_171 ⟨Nat.le_of_ble_eq_true rfl, Nat.le_of_ble_eq_true rfl⟩ rfl rfl (Nat.le_of_ble_eq_true rfl) dL_law_1076 ⟨(Nat.le_of_ble_eq_true rfl), (Nat.le_of_ble_eq_true rfl)⟩) hP hD hS hA rfl rfl rfl (by decide) (fun ad1076 H locs hP hD hS => ?_)
      have hP : va_P D vwCl [((xa 13), .inr (12, [.ref (xa 14), .ref (xa 15), .ref (xa 16), .ref (xa 17), .int 0])), (am, .inr (15, [.int 0, .ref (ma 0), .int 0, .int 0, .int 0, .int 0, .ref (ma 1), .ref (ma 2), .null, .int 1, .int 10, .int 900, .ref (ma 3), .ref (ma 4), .int 0, .int 0, .int 0, .ref (ma 5), .int 1000, .int 50, .int 50, .int 1000, .int 10, .int 0, .int 3000, .int 0, .int 0, .int 0])), ((ma 1), .inr (4, [.int 0, .ref (g 0), .int 0]))] H := hP
      have hD : va_D (AL s) [((xa 13), .inr (12, [.ref (xa 14), .ref (xa 15), .ref (xa 16), .ref (xa 17), .int 0])), (am, .inr (15, [.int 0, .ref (ma 0), .int 0, .int 0, .int 0, .int 0, .ref (ma 1), .ref (ma 2), .null, .int 1, .int 10, .int 900, .ref (ma 3), .ref (ma 4), .int 0, .int 0, .int 0, .ref (ma 5), .int 1000, .int 50, .int 50, .int 1000, .int 10, .int 0, .int 3000, .int 0, .int 0, .int 0])), ((ma 1), .inr (4, [.int 0, .ref (g 0), .int 0]))] := hD
      refine lv_istore (lv' := [(6, .int 1), (5, .int 0), (4, .ref ao), (3, .ref aj), (2, .ref am), (1, .ref ax), (0, .ref b)]) hx hb dL_law_1079 hl (Nat.le_of_ble_eq_true rfl) rfl (fun ls hl => ?_)
      refine lv_aload_n hx hb dL_law_1081 rfl (lv_at hl 4 rfl) ?_
      refine lv_aload_n hx hb dL_law_1082 rfl (lv_at hl 6 rfl) ?_
      refine lv_iload hx hb dL_law_1083 (lv_at hl 1 rfl) ?_
      refine lv_iconst (v := 1) hx hb dL_law_1085 (by decide) ?_
      refine lv_iadd hx hb dL_law_1086 ?_
      refine tp_i 1 (by decide) ?_
      refine va_sld hx hb hX hbl hbA hS (by unfold vp_in; decide) dL_law_1087 ?_
      refine tp_i x1 e1 ?_
      refine lv_aload_n hx hb dL_law_1088 rfl (lv_at hl 6 rfl) ?_
      refine lv_iload hx hb dL_law_1089 (lv_at hl 1 rfl) ?_
      refine lv_iconst (v := 2) hx hb dL_law_1091 (by decide) ?_
      refine lv_iadd hx hb dL_law_1092 ?_
      refine tp_i 2 (by decide) ?_
      refine va_sld hx hb hX hbl hbA hS (by unfold vp_in; decide) dL_law_1093 ?_
      refine tp_i x2 e2 ?_
      refine ca_i (isC := [1]) (isR := [0, 2]) (wr := [((xa 13), .inr (12, [.ref (xa 14), .ref (xa 15), .ref (xa 16), .ref (xa 17), .int 0])), ((ma 1), .inr (4, [.int 0, .ref (g 0), .int 0]))]) (rn_V (ci := 15) (q0 := 1) (isC := [1]) (wc := [(am, .inr (15, [.int 0, .ref (ma 0), .int 0, .int 0, .int 0, .int 0, .ref (ma 1), .ref (ma 2), .null, .int 1, .int 10, .int 900, .ref (ma 3), .ref (ma 4), .int 0, .int 0, .int 0, .ref (ma 5), .int 1000, .int 50, .int 50, .int 1000, .int 10, .int 0, .int 3000, .int 0, .int 0, .int 0]))]) (As := [.int x1, .int x2]) (rest := []) (n := 2) hx hb hml hown hts hE hS hP hD hA hl.1 (k187_X10_getDryness l D cy g x1 x2 am (.int 0) (.ref (ma 0)) (.int 0) (.int 0) (.int 0) (.int 0) (.ref (ma 1)) (.ref (ma 2)) (.null) (.int 1) (.int 10) (.int 900) (.ref (ma 3)) (.ref (ma 4)) (.int 0) (.int 0) (.int 0) (.ref (ma 5)) (.int 1000) (.int 50) (.int 50) (.int 1000) (.int 10) (.int 0) (.int 3000) (.int 0) (.int 0) (.int 0) H.size c0 c1) rfl rfl rfl rfl rfl ax_172 rfl rfl ax_173 ⟨Nat.le_of_ble_eq_true rfl, Nat.le_of_ble_eq_true rfl⟩ rfl rfl (Nat.le_of_ble_eq_true rfl) dL_law_1094 ⟨(Nat.le_of_ble_eq_true rfl), (Nat.le_of_ble_eq_true rfl)⟩) hP hD hS hA rfl rfl rfl (by decide) (fun ad1094 H locs hP hD hS => ?_)
      have hP : va_P D vwCl [((xa 13), .inr (12, [.ref (xa 14), .ref (xa 15), .ref (xa 16), .ref (xa 17), .int 0])), ((ma 1), .inr (4, [.int 0, .ref (g 0), .int 0])), (am, .inr (15, [.int 1, .ref (ma 0), .int 0, .int 0, .int 0, .int 0, .ref (ma 1), .ref (ma 2), .null, .int 1, .int 10, .int 900, .ref (ma 3), .ref (ma 4), .int 0, .int 0, .int 0, .ref (ma 5), .int 1000, .int 50, .int 50, .int 1000, .int 10, .int 0, .int 3000, .int 0, .int 0, .int 0]))] H := hP
      have hD : va_D (AL s) [((xa 13), .inr (12, [.ref (xa 14), .ref (xa 15), .ref (xa 16), .ref (xa 17), .int 0])), ((ma 1), .inr (4, [.int 0, .ref (g 0), .int 0])), (am, .inr (15, [.int 1, .ref (ma 0), .int 0, .int 0, .int 0, .int 0, .ref (ma 1), .ref (ma 2), .null, .int 1, .int 10, .int 900, .ref (ma 3), .ref (ma 4), .int 0, .int 0, .int 0, .ref (ma 5), .int 1000, .int 50, .int 50, .int 1000, .int 10, .int 0, .int 3000, .int 0, .int 0, .int 0]))] := hD
      refine lv_istore (lv' := [(7, .int (-1)), (6, .int 1), (5, .int 0), (4, .ref ao), (3, .ref aj), (2, .ref am), (1, .ref ax), (0, .ref b)]) hx hb dL_law_1097 hl (Nat.le_of_ble_eq_true rfl) rfl (fun ls hl => ?_)
      refine lv_aload_n hx hb dL_law_1099 rfl (lv_at hl 5 rfl) ?_
      refine ca_i (isC := [2]) (isR := [0, 1]) (wr := [((xa 13), .inr (12, [.ref (xa 14), .ref (xa 15), .ref (xa 16), .ref (xa 17), .int 0])), ((ma 1), .inr (4, [.int 0, .ref (g 0), .int 0]))]) (rn_V (ci := 15) (q0 := 2) (isC := [2]) (wc := [(am, .inr (15, [.int 1, .ref (ma 0), .int 0, .int 0, .int 0, .int 0, .ref (ma 1), .ref (ma 2), .null, .int 1, .int 10, .int 900, .ref (ma 3), .ref (ma 4), .int 0, .int 0, .int 0, .ref (ma 5), .int 1000, .int 50, .int 50, .int 1000, .int 10, .int 0, .int 3000, .int 0, .int 0, .int 0]))]) (As := []) (rest := []) (n := 0) hx hb hml hown hts hE hS hP hD hA hl.1 (k24_X10_thrown l D cy g am (.ref (ma 0)) (.int 0) (.int 0) (.int 0) (.int 0) (.ref (ma 1)) (.ref (ma 2)) (.null) (.int 1) (.int 10) (.int 900) (.ref (ma 3)) (.ref (ma 4)) (.int 0) (.int 0) (.int 0) (.ref (ma 5)) (.int 1000) (.int 50) (.int 50) (.int 1000) (.int 10) (.int 0) (.int 3000) (.int 0) (.int 0) (.int 0) H.size ) rfl rfl rfl rfl rfl ax_45 rfl rfl ax_46 ⟨Nat.le_of_ble_eq_true rfl, Nat.le_of_ble_eq_true rfl⟩ rfl rfl (Nat.le_of_ble_eq_true rfl) dL_law_1100 ⟨(Nat.le_of_ble_eq_true rfl), (Nat.le_of_ble_eq_true rfl)⟩) hP hD hS hA rfl rfl rfl (by decide) (fun ad1100 H locs hP hD hS => ?_)
      have hP : va_P D vwCl [((xa 13), .inr (12, [.ref (xa 14), .ref (xa 15), .ref (xa 16), .ref (xa 17), .int 0])), ((ma 1), .inr (4, [.int 0, .ref (g 0), .int 0])), (am, .inr (15, [.int 1, .ref (ma 0), .int 0, .int 0, .int 0, .int 0, .ref (ma 1), .ref (ma 2), .null, .int 1, .int 10, .int 900, .ref (ma 3), .ref (ma 4), .int 0, .int 0, .int 0, .ref (ma 5), .int 1000, .int 50, .int 50, .int 1000, .int 10, .int 0, .int 3000, .int 0, .int 0, .int 0]))] H := hP
      have hD : va_D (AL s) [((xa 13), .inr (12, [.ref (xa 14), .ref (xa 15), .ref (xa 16), .ref (xa 17), .int 0])), ((ma 1), .inr (4, [.int 0, .ref (g 0), .int 0])), (am, .inr (15, [.int 1, .ref (ma 0), .int 0, .int 0, .int 0, .int 0, .ref (ma 1), .ref (ma 2), .null, .int 1, .int 10, .int 900, .ref (ma 3), .ref (ma 4), .int 0, .int 0, .int 0, .ref (ma 5), .int 1000, .int 50, .int 50, .int 1000, .int 10, .int 0, .int 3000, .int 0, .int 0, .int 0]))] := hD
      refine lv_iload hx hb dL_law_1103 (lv_at hl 1 rfl) ?_
      refine lv_icmp_eq (tgt := 1110) hx hb dL_law_1105 (by decide) (fun _ => ?_) (fun z => absurd (by decide) z)
      refine lv_iload hx hb dL_law_1110 (lv_at hl 1 rfl) ?_
      refine lv_if_ne (tgt := 1127) hx hb dL_law_1112 (by decide) (fun _ => ?_) (fun z => absurd z (by decide))
      refine lv_goto (tgt := 2947) hx hb dL_law_1127 (by decide) ?_
      exact law_tail LC hS (Nat.le_of_ble_eq_true rfl) (Nat.le_of_ble_eq_true rfl) (lv_sub hl [2, 7] rfl)
    · refine lv_aload_n hx hb dL_law_1062 rfl (lv_at hl 4 rfl) ?_
      refine lv_aload_n hx hb dL_law_1063 rfl (lv_at hl 5 rfl) ?_
      refine lv_iload hx hb dL_law_1064 (lv_at hl 0 rfl) ?_
      refine lv_iconst (v := 1) hx hb dL_law_1066 (by decide) ?_
      refine lv_iadd hx hb dL_law_1067 ?_
      refine tp_i 1 (by decide) ?_
      refine va_sld hx hb hX hbl hbA hS (by unfold vp_in; decide) dL_law_1068 ?_
      refine tp_i x1 e1 ?_
      refine lv_aload_n hx hb dL_law_1069 rfl (lv_at hl 5 rfl) ?_
      refine lv_iload hx hb dL_law_1070 (lv_at hl 0 rfl) ?_
      refine lv_iconst (v := 2) hx hb dL_law_1072 (by decide) ?_
      refine lv_iadd hx hb dL_law_1073 ?_
      refine tp_i 2 (by decide) ?_
      refine va_sld hx hb hX hbl hbA hS (by unfold vp_in; decide) dL_law_1074 ?_
      refine tp_i x2 e2 ?_
      refine lv_aload_n hx hb dL_law_1075 rfl (lv_at hl 2 rfl) ?_
      refine ca_i (isC := [0, 1]) (isR := [2, 3]) (wr := [(am, .inr (15, [.int 0, .ref (ma 0), .int 0, .int 0, .int 0, .int 0, .ref (ma 1), .ref (ma 2), .null, .int 1, .int 10, .int 900, .ref (ma 3), .ref (ma 4), .int 0, .int 0, .int 0, .ref (ma 5), .int 1000, .int 50, .int 50, .int 1000, .int 10, .int 0, .int 3000, .int 0, .int 0, .int 0])), ((ma 1), .inr (4, [.int 0, .ref (g 0), .int 0]))]) (rn_SW (isC := [0, 1]) (wc := [(ax, .inr (14, [.ref (xa 0), .ref (xa 13), .ref (xa 18), .ref (xa 34), .ref (xa 45), .ref (xa 49), .ref (xa 50)])), ((xa 13), .inr (12, [.ref (xa 14), .ref (xa 15), .ref (xa 16), .ref (xa 17), .int 0]))]) (As := [.ref ax, .int x1, .int x2, .ref aj]) (rest := []) (n := 4) hx hb hml hown hts hE hS hP hD hA hl.1 (k189_L_getDryness l hst D cy g x1 x2 ax (xa 13) aj (.ref (xa 0)) (.ref (xa 18)) (.ref (xa 34)) (.ref (xa 45)) (.ref (xa 49)) (.ref (xa 50)) (.ref (xa 14)) (.ref (xa 15)) (.ref (xa 16)) (.ref (xa 17)) H.size c0 c1) rfl rfl ax_170 rfl rfl ax_171 ⟨Nat.le_of_ble_eq_true rfl, Nat.le_of_ble_eq_true rfl⟩ rfl rfl (Nat.le_of_ble_eq_true rfl) dL_law_1076 ⟨(Nat.le_of_ble_eq_true rfl), (Nat.le_of_ble_eq_true rfl)⟩) hP hD hS hA rfl rfl rfl (by decide) (fun ad1076 H locs hP hD hS => ?_)
      have hP : va_P D vwCl [(am, .inr (15, [.int 0, .ref (ma 0), .int 0, .int 0, .int 0, .int 0, .ref (ma 1), .ref (ma 2), .null, .int 1, .int 10, .int 900, .ref (ma 3), .ref (ma 4), .int 0, .int 0, .int 0, .ref (ma 5), .int 1000, .int 50, .int 50, .int 1000, .int 10, .int 0, .int 3000, .int 0, .int 0, .int 0])), ((ma 1), .inr (4, [.int 0, .ref (g 0), .int 0]))] H := hP
      have hD : va_D (AL s) [(am, .inr (15, [.int 0, .ref (ma 0), .int 0, .int 0, .int 0, .int 0, .ref (ma 1), .ref (ma 2), .null, .int 1, .int 10, .int 900, .ref (ma 3), .ref (ma 4), .int 0, .int 0, .int 0, .ref (ma 5), .int 1000, .int 50, .int 50, .int 1000, .int 10, .int 0, .int 3000, .int 0, .int 0, .int 0])), ((ma 1), .inr (4, [.int 0, .ref (g 0), .int 0]))] := hD
      refine lv_istore (lv' := [(6, .int 2), (5, .int 0), (4, .ref ao), (3, .ref aj), (2, .ref am), (1, .ref ax), (0, .ref b)]) hx hb dL_law_1079 hl (Nat.le_of_ble_eq_true rfl) rfl (fun ls hl => ?_)
      refine lv_aload_n hx hb dL_law_1081 rfl (lv_at hl 4 rfl) ?_
      refine lv_aload_n hx hb dL_law_1082 rfl (lv_at hl 6 rfl) ?_
      refine lv_iload hx hb dL_law_1083 (lv_at hl 1 rfl) ?_
      refine lv_iconst (v := 1) hx hb dL_law_1085 (by decide) ?_
      refine lv_iadd hx hb dL_law_1086 ?_
      refine tp_i 1 (by decide) ?_
      refine va_sld hx hb hX hbl hbA hS (by unfold vp_in; decide) dL_law_1087 ?_
      refine tp_i x1 e1 ?_
      refine lv_aload_n hx hb dL_law_1088 rfl (lv_at hl 6 rfl) ?_
      refine lv_iload hx hb dL_law_1089 (lv_at hl 1 rfl) ?_
      refine lv_iconst (v := 2) hx hb dL_law_1091 (by decide) ?_
      refine lv_iadd hx hb dL_law_1092 ?_
      refine tp_i 2 (by decide) ?_
      refine va_sld hx hb hX hbl hbA hS (by unfold vp_in; decide) dL_law_1093 ?_
      refine tp_i x2 e2 ?_
      refine ca_i (isC := [0, 1]) (isR := []) (wr := []) (rn_V (ci := 15) (q0 := 0) (isC := [0, 1]) (wc := [(am, .inr (15, [.int 0, .ref (ma 0), .int 0, .int 0, .int 0, .int 0, .ref (ma 1), .ref (ma 2), .null, .int 1, .int 10, .int 900, .ref (ma 3), .ref (ma 4), .int 0, .int 0, .int 0, .ref (ma 5), .int 1000, .int 50, .int 50, .int 1000, .int 10, .int 0, .int 3000, .int 0, .int 0, .int 0])), ((ma 1), .inr (4, [.int 0, .ref (g 0), .int 0]))]) (As := [.int x1, .int x2]) (rest := []) (n := 2) hx hb hml hown hts hE hS hP hD hA hl.1 (k190_X10_getDryness l D cy g x1 x2 am (ma 1) (.int 0) (.ref (ma 0)) (.int 0) (.int 0) (.int 0) (.int 0) (.ref (ma 2)) (.null) (.int 1) (.int 10) (.int 900) (.ref (ma 3)) (.ref (ma 4)) (.int 0) (.int 0) (.int 0) (.ref (ma 5)) (.int 1000) (.int 50) (.int 50) (.int 1000) (.int 10) (.int 0) (.int 3000) (.int 0) (.int 0) (.int 0) (.int 0) (.ref (g 0)) H.size c0 c1) rfl rfl rfl rfl rfl ax_172 rfl rfl ax_173 ⟨Nat.le_of_ble_eq_true rfl, Nat.le_of_ble_eq_true rfl⟩ rfl rfl (Nat.le_of_ble_eq_true rfl) dL_law_1094 ⟨(Nat.le_of_ble_eq_true rfl), (Nat.le_of_ble_eq_true rfl)⟩) hP hD hS hA rfl rfl rfl (by decide) (fun ad1094 H locs hP hD hS => ?_)
      have hP : va_P D vwCl [(am, .inr (15, [.int 2, .ref (ma 0), .int 0, .int 0, .int 0, .int 0, .ref (ma 1), .ref (ma 2), .null, .int 1, .int 10, .int 900, .ref (ma 3), .ref (ma 4), .int 0, .int 0, .int 0, .ref (ma 5), .int 1000, .int 50, .int 50, .int 1000, .int 10, .int 0, .int 3000, .int 0, .int 0, .int 0]))] H := hP
      have hD : va_D (AL s) [(am, .inr (15, [.int 2, .ref (ma 0), .int 0, .int 0, .int 0, .int 0, .ref (ma 1), .ref (ma 2), .null, .int 1, .int 10, .int 900, .ref (ma 3), .ref (ma 4), .int 0, .int 0, .int 0, .ref (ma 5), .int 1000, .int 50, .int 50, .int 1000, .int 10, .int 0, .int 3000, .int 0, .int 0, .int 0]))] := hD
      refine lv_istore (lv' := [(7, .int (-1)), (6, .int 2), (5, .int 0), (4, .ref ao), (3, .ref aj), (2, .ref am), (1, .ref ax), (0, .ref b)]) hx hb dL_law_1097 hl (Nat.le_of_ble_eq_true rfl) rfl (fun ls hl => ?_)
      refine lv_aload_n hx hb dL_law_1099 rfl (lv_at hl 5 rfl) ?_
      refine ca_i (isC := [0]) (isR := []) (wr := []) (rn_V (ci := 15) (q0 := 0) (isC := [0]) (wc := [(am, .inr (15, [.int 2, .ref (ma 0), .int 0, .int 0, .int 0, .int 0, .ref (ma 1), .ref (ma 2), .null, .int 1, .int 10, .int 900, .ref (ma 3), .ref (ma 4), .int 0, .int 0, .int 0, .ref (ma 5), .int 1000, .int 50, .int 50, .int 1000, .int 10, .int 0, .int 3000, .int 0, .int 0, .int 0]))]) (As := []) (rest := []) (n := 0) hx hb hml hown hts hE hS hP hD hA hl.1 (k148_X10_thrown l D cy g am (.ref (ma 0)) (.int 0) (.int 0) (.int 0) (.int 0) (.ref (ma 1)) (.ref (ma 2)) (.null) (.int 1) (.int 10) (.int 900) (.ref (ma 3)) (.ref (ma 4)) (.int 0) (.int 0) (.int 0) (.ref (ma 5)) (.int 1000) (.int 50) (.int 50) (.int 1000) (.int 10) (.int 0) (.int 3000) (.int 0) (.int 0) (.int 0) H.size ) rfl rfl rfl rfl rfl ax_45 rfl rfl ax_46 ⟨Nat.le_of_ble_eq_true rfl, Nat.le_of_ble_eq_true rfl⟩ rfl rfl (Nat.le_of_ble_eq_true rfl) dL_law_1100 ⟨(Nat.le_of_ble_eq_true rfl), (Nat.le_of_ble_eq_true rfl)⟩) hP hD hS hA rfl rfl rfl (by decide) (fun ad1100 H locs hP hD hS => ?_)
      have hP : va_P D vwCl [(am, .inr (15, [.int 2, .ref (ma 0), .int 0, .int 0, .int 0, .int 0, .ref (ma 1), .ref (ma 2), .null, .int 1, .int 10, .int 900, .ref (ma 3), .ref (ma 4), .int 0, .int 0, .int 0, .ref (ma 5), .int 1000, .int 50, .int 50, .int 1000, .int 10, .int 0, .int 3000, .int 0, .int 0, .int 0]))] H := hP
      have hD : va_D (AL s) [(am, .inr (15, [.int 2, .ref (ma 0), .int 0, .int 0, .int 0, .int 0, .ref (ma 1), .ref (ma 2), .null, .int 1, .int 10, .int 900, .ref (ma 3), .ref (ma 4), .int 0, .int 0, .int 0, .ref (ma 5), .int 1000, .int 50, .int 50, .int 1000, .int 10, .int 0, .int 3000, .int 0, .int 0, .int 0]))] := hD
      refine lv_iload hx hb dL_law_1103 (lv_at hl 1 rfl) ?_
      refine lv_icmp_eq (tgt := 1110) hx hb dL_law_1105 (by decide) (fun _ => ?_) (fun z => absurd (by decide) z)
      refine lv_iload hx hb dL_law_1110 (lv_at hl 1 rfl) ?_
      refine lv_if_ne (tgt := 1127) hx hb dL_law_1112 (by decide) (fun _ => ?_) (fun z => absurd z (by decide))
      refine lv_goto (tgt := 2947) hx hb dL_law_1127 (by decide) ?_
      exact law_tail LC hS (Nat.le_of_ble_eq_true rfl) (Nat.le_of_ble_eq_true rfl) (lv_sub hl [2, 7] rfl)
set_option maxHeartbeats 4000000 in
set_option maxRecDepth 100000 in
theorem lc_14 {p : Program} {e : Env} {s : State} {m : MethodId} {below : List Frame} {meth : Method} {c : Code} {l : Launch} {b : Nat} {xs : Nat → Int32} {D : va_G} {cy : Nat → ClassId} {g : Nat → Nat} (hst : l.stackTraces = false) (LC : LCtx p s m meth c b xs D cy g) (ax am aj ao : Nat) (xa ma : Nat → Nat) (x1 x2 x3 x4 : Int32) (e1 : xs (1 : Int32).toNatClampNeg = x1) (e2 : xs (2 : Int32).toNatClampNeg = x2) (e3 : xs (3 : Int32).toNatClampNeg = x3) (e4 : xs (4 : Int32).toNatClampNeg = x4) {H : Heap} {locs : List Loc} (hP : va_P D vwCl [(ax, .inr (14, [.ref (xa 0), .ref (xa 13), .ref (xa 18), .ref (xa 34), .ref (xa 45), .ref (xa 49), .ref (xa 50)])), ((xa 13), .inr (12, [.ref (xa 14), .ref (xa 15), .ref (xa 16), .ref (xa 17), .int 0])), (am, .inr (15, [.int 0, .ref (ma 0), .int 0, .int 0, .int 0, .int 0, .ref (ma 1), .ref (ma 2), .null, .int 1, .int 10, .int 900, .ref (ma 3), .ref (ma 4), .int 0, .int 0, .int 0, .ref (ma 5), .int 1000, .int 50, .int 50, .int 1000, .int 10, .int 0, .int 3000, .int 0, .int 0, .int 0])), ((ma 1), .inr (4, [.int 0, .ref (g 0), .int 0]))] H) (hD : va_D (AL s) [(ax, .inr (14, [.ref (xa 0), .ref (xa 13), .ref (xa 18), .ref (xa 34), .ref (xa 45), .ref (xa 49), .ref (xa 50)])), ((xa 13), .inr (12, [.ref (xa 14), .ref (xa 15), .ref (xa 16), .ref (xa 17), .int 0])), (am, .inr (15, [.int 0, .ref (ma 0), .int 0, .int 0, .int 0, .int 0, .ref (ma 1), .ref (ma 2), .null, .int 1, .int 10, .int 900, .ref (ma 3), .ref (ma 4), .int 0, .int 0, .int 0, .ref (ma 5), .int 1000, .int 50, .int 50, .int 1000, .int 10, .int 0, .int 3000, .int 0, .int 0, .int 0])), ((ma 1), .inr (4, [.int 0, .ref (g 0), .int 0]))]) (hS : va_S (AL s) s.heap H locs) (ls : Array Slot) (hl : lv_has ls 9 [(5, .int 0), (4, .ref ao), (3, .ref aj), (2, .ref am), (1, .ref ax), (0, .ref b)]) : W p l e room_1 s m #[Value.ref b] below meth c H locs 100 1000 (lw_Z below #[Value.ref b] s) (F0 m 1130 ls []) := by
  obtain ⟨hx, hb, hr, hml, hown, hlk, hts, hE, hX, hbl⟩ := id LC
  have hA : ∀ q, s.heap.size ≤ q → (AL s) q := fun _ h => h
  have hbA : ¬ (AL s) b := Nat.not_le.mpr hbl
  by_cases c0 : x2 < 0
  · refine lv_aload_n hx hb dL_law_1130 rfl (lv_at hl 4 rfl) ?_
    refine lv_aload_n hx hb dL_law_1131 rfl (lv_at hl 5 rfl) ?_
    refine lv_iload hx hb dL_law_1132 (lv_at hl 0 rfl) ?_
    refine lv_iconst (v := 1) hx hb dL_law_1134 (by decide) ?_
    refine lv_iadd hx hb dL_law_1135 ?_
    refine tp_i 1 (by decide) ?_
    refine va_sld hx hb hX hbl hbA hS (by unfold vp_in; decide) dL_law_1136 ?_
    refine tp_i x1 e1 ?_
    refine lv_aload_n hx hb dL_law_1137 rfl (lv_at hl 5 rfl) ?_
    refine lv_iload hx hb dL_law_1138 (lv_at hl 0 rfl) ?_
    refine lv_iconst (v := 2) hx hb dL_law_1140 (by decide) ?_
    refine lv_iadd hx hb dL_law_1141 ?_
    refine tp_i 2 (by decide) ?_
    refine va_sld hx hb hX hbl hbA hS (by unfold vp_in; decide) dL_law_1142 ?_
    refine tp_i x2 e2 ?_
    refine lv_aload_n hx hb dL_law_1143 rfl (lv_at hl 2 rfl) ?_
    refine ca_i (isC := [0]) (isR := [1, 2, 3]) (wr := [((xa 13), .inr (12, [.ref (xa 14), .ref (xa 15), .ref (xa 16), .ref (xa 17), .int 0])), (am, .inr (15, [.int 0, .ref (ma 0), .int 0, .int 0, .int 0, .int 0, .ref (ma 1), .ref (ma 2), .null, .int 1, .int 10, .int 900, .ref (ma 3), .ref (ma 4), .int 0, .int 0, .int 0, .ref (ma 5), .int 1000, .int 50, .int 50, .int 1000, .int 10, .int 0, .int 3000, .int 0, .int 0, .int 0])), ((ma 1), .inr (4, [.int 0, .ref (g 0), .int 0]))]) (rn_SW (isC := [0]) (wc := [(ax, .inr (14, [.ref (xa 0), .ref (xa 13), .ref (xa 18), .ref (xa 34), .ref (xa 45), .ref (xa 49), .ref (xa 50)]))]) (As := [.ref ax, .int x1, .int x2, .ref aj]) (rest := []) (n := 4) hx hb hml hown hts hE hS hP hD hA hl.1 (k192_L_stateTemperature l hst D cy g x1 x2 ax aj (.ref (xa 0)) (.ref (xa 13)) (.ref (xa 18)) (.ref (xa 34)) (.ref (xa 45)) (.ref (xa 49)) (.ref (xa 50)) H.size c0) rfl rfl ax_176 rfl rfl ax_177 ⟨Nat.le_of_ble_eq_true rfl, Nat.le_of_ble_eq_true rfl⟩ rfl rfl (Nat.le_of_ble_eq_true rfl) dL_law_1144 ⟨(Nat.le_of_ble_eq_true rfl), (Nat.le_of_ble_eq_true rfl)⟩) hP hD hS hA rfl rfl rfl (by decide) (fun ad1144 H locs hP hD hS => ?_)
    have hP : va_P D vwCl [((xa 13), .inr (12, [.ref (xa 14), .ref (xa 15), .ref (xa 16), .ref (xa 17), .int 0])), (am, .inr (15, [.int 0, .ref (ma 0), .int 0, .int 0, .int 0, .int 0, .ref (ma 1), .ref (ma 2), .null, .int 1, .int 10, .int 900, .ref (ma 3), .ref (ma 4), .int 0, .int 0, .int 0, .ref (ma 5), .int 1000, .int 50, .int 50, .int 1000, .int 10, .int 0, .int 3000, .int 0, .int 0, .int 0])), ((ma 1), .inr (4, [.int 0, .ref (g 0), .int 0]))] H := hP
    have hD : va_D (AL s) [((xa 13), .inr (12, [.ref (xa 14), .ref (xa 15), .ref (xa 16), .ref (xa 17), .int 0])), (am, .inr (15, [.int 0, .ref (ma 0), .int 0, .int 0, .int 0, .int 0, .ref (ma 1), .ref (ma 2), .null, .int 1, .int 10, .int 900, .ref (ma 3), .ref (ma 4), .int 0, .int 0, .int 0, .ref (ma 5), .int 1000, .int 50, .int 50, .int 1000, .int 10, .int 0, .int 3000, .int 0, .int 0, .int 0])), ((ma 1), .inr (4, [.int 0, .ref (g 0), .int 0]))] := hD
    refine lv_istore (lv' := [(6, .int 1), (5, .int 0), (4, .ref ao), (3, .ref aj), (2, .ref am), (1, .ref ax), (0, .ref b)]) hx hb dL_law_1147 hl (Nat.le_of_ble_eq_true rfl) rfl (fun ls hl => ?_)
    refine lv_aload_n hx hb dL_law_1149 rfl (lv_at hl 4 rfl) ?_
    refine lv_aload_n hx hb dL_law_1150 rfl (lv_at hl 6 rfl) ?_
    refine lv_iload hx hb dL_law_1151 (lv_at hl 1 rfl) ?_
    refine lv_iconst (v := 1) hx hb dL_law_1153 (by decide) ?_
    refine lv_iadd hx hb dL_law_1154 ?_
    refine tp_i 1 (by decide) ?_
    refine va_sld hx hb hX hbl hbA hS (by unfold vp_in; decide) dL_law_1155 ?_
    refine tp_i x1 e1 ?_
    refine lv_aload_n hx hb dL_law_1156 rfl (lv_at hl 6 rfl) ?_
    refine lv_iload hx hb dL_law_1157 (lv_at hl 1 rfl) ?_
    refine lv_iconst (v := 2) hx hb dL_law_1159 (by decide) ?_
    refine lv_iadd hx hb dL_law_1160 ?_
    refine tp_i 2 (by decide) ?_
    refine va_sld hx hb hX hbl hbA hS (by unfold vp_in; decide) dL_law_1161 ?_
    refine tp_i x2 e2 ?_
    refine ca_i (isC := [1]) (isR := [0, 2]) (wr := [((xa 13), .inr (12, [.ref (xa 14), .ref (xa 15), .ref (xa 16), .ref (xa 17), .int 0])), ((ma 1), .inr (4, [.int 0, .ref (g 0), .int 0]))]) (rn_V (ci := 15) (q0 := 1) (isC := [1]) (wc := [(am, .inr (15, [.int 0, .ref (ma 0), .int 0, .int 0, .int 0, .int 0, .ref (ma 1), .ref (ma 2), .null, .int 1, .int 10, .int 900, .ref (ma 3), .ref (ma 4), .int 0, .int 0, .int 0, .ref (ma 5), .int 1000, .int 50, .int 50, .int 1000, .int 10, .int 0, .int 3000, .int 0, .int 0, .int 0]))]) (As := [.int x1, .int x2]) (rest := []) (n := 2) hx hb hml hown hts hE hS hP hD hA hl.1 (k193_X10_stateTemperature l D cy g x1 x2 am (.int 0) (.ref (ma 0)) (.int 0) (.int 0) (.int 0) (.int 0) (.ref (ma 1)) (.ref (ma 2)) (.null) (.int 1) (.int 10) (.int 900) (.ref (ma 3)) (.ref (ma 4)) (.int 0) (.int 0) (.int 0) (.ref (ma 5)) (.int 1000) (.int 50) (.int 50) (.int 1000) (.int 10) (.int 0) (.int 3000) (.int 0) (.int 0) (.int 0) H.size c0) rfl rfl rfl rfl rfl ax_178 rfl rfl ax_179 ⟨Nat.le_of_ble_eq_true rfl, Nat.le_of_ble_eq_true rfl⟩ rfl rfl (Nat.le_of_ble_eq_true rfl) dL_law_1162 ⟨(Nat.le_of_ble_eq_true rfl), (Nat.le_of_ble_eq_true rfl)⟩) hP hD hS hA rfl rfl rfl (by decide) (fun ad1162 H locs hP hD hS => ?_)
    have hP : va_P D vwCl [((xa 13), .inr (12, [.ref (xa 14), .ref (xa 15), .ref (xa 16), .ref (xa 17), .int 0])), ((ma 1), .inr (4, [.int 0, .ref (g 0), .int 0])), (am, .inr (15, [.int 1, .ref (ma 0), .int 0, .int 0, .int 0, .int 0, .ref (ma 1), .ref (ma 2), .null, .int 1, .int 10, .int 900, .ref (ma 3), .ref (ma 4), .int 0, .int 0, .int 0, .ref (ma 5), .int 1000, .int 50, .int 50, .int 1000, .int 10, .int 0, .int 3000, .int 0, .int 0, .int 0]))] H := hP
    have hD : va_D (AL s) [((xa 13), .inr (12, [.ref (xa 14), .ref (xa 15), .ref (xa 16), .ref (xa 17), .int 0])), ((ma 1), .inr (4, [.int 0, .ref (g 0), .int 0])), (am, .inr (15, [.int 1, .ref (ma 0), .int 0, .int 0, .int 0, .int 0, .ref (ma 1), .ref (ma 2), .null, .int 1, .int 10, .int 900, .ref (ma 3), .ref (ma 4), .int 0, .int 0, .int 0, .ref (ma 5), .int 1000, .int 50, .int 50, .int 1000, .int 10, .int 0, .int 3000, .int 0, .int 0, .int 0]))] := hD
    refine lv_istore (lv' := [(7, .int (-1)), (6, .int 1), (5, .int 0), (4, .ref ao), (3, .ref aj), (2, .ref am), (1, .ref ax), (0, .ref b)]) hx hb dL_law_1165 hl (Nat.le_of_ble_eq_true rfl) rfl (fun ls hl => ?_)
    refine lv_aload_n hx hb dL_law_1167 rfl (lv_at hl 5 rfl) ?_
    refine ca_i (isC := [2]) (isR := [0, 1]) (wr := [((xa 13), .inr (12, [.ref (xa 14), .ref (xa 15), .ref (xa 16), .ref (xa 17), .int 0])), ((ma 1), .inr (4, [.int 0, .ref (g 0), .int 0]))]) (rn_V (ci := 15) (q0 := 2) (isC := [2]) (wc := [(am, .inr (15, [.int 1, .ref (ma 0), .int 0, .int 0, .int 0, .int 0, .ref (ma 1), .ref (ma 2), .null, .int 1, .int 10, .int 900, .ref (ma 3), .ref (ma 4), .int 0, .int 0, .int 0, .ref (ma 5), .int 1000, .int 50, .int 50, .int 1000, .int 10, .int 0, .int 3000, .int 0, .int 0, .int 0]))]) (As := []) (rest := []) (n := 0) hx hb hml hown hts hE hS hP hD hA hl.1 (k24_X10_thrown l D cy g am (.ref (ma 0)) (.int 0) (.int 0) (.int 0) (.int 0) (.ref (ma 1)) (.ref (ma 2)) (.null) (.int 1) (.int 10) (.int 900) (.ref (ma 3)) (.ref (ma 4)) (.int 0) (.int 0) (.int 0) (.ref (ma 5)) (.int 1000) (.int 50) (.int 50) (.int 1000) (.int 10) (.int 0) (.int 3000) (.int 0) (.int 0) (.int 0) H.size ) rfl rfl rfl rfl rfl ax_45 rfl rfl ax_46 ⟨Nat.le_of_ble_eq_true rfl, Nat.le_of_ble_eq_true rfl⟩ rfl rfl (Nat.le_of_ble_eq_true rfl) dL_law_1168 ⟨(Nat.le_of_ble_eq_true rfl), (Nat.le_of_ble_eq_true rfl)⟩) hP hD hS hA rfl rfl rfl (by decide) (fun ad1168 H locs hP hD hS => ?_)
    have hP : va_P D vwCl [((xa 13), .inr (12, [.ref (xa 14), .ref (xa 15), .ref (xa 16), .ref (xa 17), .int 0])), ((ma 1), .inr (4, [.int 0, .ref (g 0), .int 0])), (am, .inr (15, [.int 1, .ref (ma 0), .int 0, .int 0, .int 0, .int 0, .ref (ma 1), .ref (ma 2), .null, .int 1, .int 10, .int 900, .ref (ma 3), .ref (ma 4), .int 0, .int 0, .int 0, .ref (ma 5), .int 1000, .int 50, .int 50, .int 1000, .int 10, .int 0, .int 3000, .int 0, .int 0, .int 0]))] H := hP
    have hD : va_D (AL s) [((xa 13), .inr (12, [.ref (xa 14), .ref (xa 15), .ref (xa 16), .ref (xa 17), .int 0])), ((ma 1), .inr (4, [.int 0, .ref (g 0), .int 0])), (am, .inr (15, [.int 1, .ref (ma 0), .int 0, .int 0, .int 0, .int 0, .ref (ma 1), .ref (ma 2), .null, .int 1, .int 10, .int 900, .ref (ma 3), .ref (ma 4), .int 0, .int 0, .int 0, .ref (ma 5), .int 1000, .int 50, .int 50, .int 1000, .int 10, .int 0, .int 3000, .int 0, .int 0, .int 0]))] := hD
    refine lv_iload hx hb dL_law_1171 (lv_at hl 1 rfl) ?_
    refine lv_icmp_eq (tgt := 1178) hx hb dL_law_1173 (by decide) (fun _ => ?_) (fun z => absurd (by decide) z)
    refine lv_iload hx hb dL_law_1178 (lv_at hl 1 rfl) ?_
    refine lv_if_ne (tgt := 1195) hx hb dL_law_1180 (by decide) (fun _ => ?_) (fun z => absurd z (by decide))
    refine lv_goto (tgt := 2947) hx hb dL_law_1195 (by decide) ?_
    exact law_tail LC hS (Nat.le_of_ble_eq_true rfl) (Nat.le_of_ble_eq_true rfl) (lv_sub hl [2, 7] rfl)
  · by_cases c1 : (20000 : Int32) < x2
    · refine lv_aload_n hx hb dL_law_1130 rfl (lv_at hl 4 rfl) ?_
      refine lv_aload_n hx hb dL_law_1131 rfl (lv_at hl 5 rfl) ?_
      refine lv_iload hx hb dL_law_1132 (lv_at hl 0 rfl) ?_
      refine lv_iconst (v := 1) hx hb dL_law_1134 (by decide) ?_
      refine lv_iadd hx hb dL_law_1135 ?_
      refine tp_i 1 (by decide) ?_
      refine va_sld hx hb hX hbl hbA hS (by unfold vp_in; decide) dL_law_1136 ?_
      refine tp_i x1 e1 ?_
      refine lv_aload_n hx hb dL_law_1137 rfl (lv_at hl 5 rfl) ?_
      refine lv_iload hx hb dL_law_1138 (lv_at hl 0 rfl) ?_
      refine lv_iconst (v := 2) hx hb dL_law_1140 (by decide) ?_
      refine lv_iadd hx hb dL_law_1141 ?_
      refine tp_i 2 (by decide) ?_
      refine va_sld hx hb hX hbl hbA hS (by unfold vp_in; decide) dL_law_1142 ?_
      refine tp_i x2 e2 ?_
      refine lv_aload_n hx hb dL_law_1143 rfl (lv_at hl 2 rfl) ?_
      refine ca_i (isC := [0]) (isR := [1, 2, 3]) (wr := [((xa 13), .inr (12, [.ref (xa 14), .ref (xa 15), .ref (xa 16), .ref (xa 17), .int 0])), (am, .inr (15, [.int 0, .ref (ma 0), .int 0, .int 0, .int 0, .int 0, .ref (ma 1), .ref (ma 2), .null, .int 1, .int 10, .int 900, .ref (ma 3), .ref (ma 4), .int 0, .int 0, .int 0, .ref (ma 5), .int 1000, .int 50, .int 50, .int 1000, .int 10, .int 0, .int 3000, .int 0, .int 0, .int 0])), ((ma 1), .inr (4, [.int 0, .ref (g 0), .int 0]))]) (rn_SW (isC := [0]) (wc := [(ax, .inr (14, [.ref (xa 0), .ref (xa 13), .ref (xa 18), .ref (xa 34), .ref (xa 45), .ref (xa 49), .ref (xa 50)]))]) (As := [.ref ax, .int x1, .int x2, .ref aj]) (rest := []) (n := 4) hx hb hml hown hts hE hS hP hD hA hl.1 (k195_L_stateTemperature l hst D cy g x1 x2 ax aj (.ref (xa 0)) (.ref (xa 13)) (.ref (xa 18)) (.ref (xa 34)) (.ref (xa 45)) (.ref (xa 49)) (.ref (xa 50)) H.size c0 c1) rfl rfl ax_176 rfl rfl ax_177 ⟨Nat.le_of_ble_eq_true rfl, Nat.le_of_ble_eq_true rfl⟩ rfl rfl (Nat.le_of_ble_eq_true rfl) dL_law_1144 ⟨(Nat.le_of_ble_eq_true rfl), (Nat.le_of_ble_eq_true rfl)⟩) hP hD hS hA rfl rfl rfl (by decide) (fun ad1144 H locs hP hD hS => ?_)
      have hP : va_P D vwCl [((xa 13), .inr (12, [.ref (xa 14), .ref (xa 15), .ref (xa 16), .ref (xa 17), .int 0])), (am, .inr (15, [.int 0, .ref (ma 0), .int 0, .int 0, .int 0, .int 0, .ref (ma 1), .ref (ma 2), .null, .int 1, .int 10, .int 900, .ref (ma 3), .ref (ma 4), .int 0, .int 0, .int 0, .ref (ma 5), .int 1000, .int 50, .int 50, .int 1000, .int 10, .int 0, .int 3000, .int 0, .int 0, .int 0])), ((ma 1), .inr (4, [.int 0, .ref (g 0), .int 0]))] H := hP
      have hD : va_D (AL s) [((xa 13), .inr (12, [.ref (xa 14), .ref (xa 15), .ref (xa 16), .ref (xa 17), .int 0])), (am, .inr (15, [.int 0, .ref (ma 0), .int 0, .int 0, .int 0, .int 0, .ref (ma 1), .ref (ma 2), .null, .int 1, .int 10, .int 900, .ref (ma 3), .ref (ma 4), .int 0, .int 0, .int 0, .ref (ma 5), .int 1000, .int 50, .int 50, .int 1000, .int 10, .int 0, .int 3000, .int 0, .int 0, .int 0])), ((ma 1), .inr (4, [.int 0, .ref (g 0), .int 0]))] := hD
      refine lv_istore (lv' := [(6, .int 1), (5, .int 0), (4, .ref ao), (3, .ref aj), (2, .ref am), (1, .ref ax), (0, .ref b)]) hx hb dL_law_1147 hl (Nat.le_of_ble_eq_true rfl) rfl (fun ls hl => ?_)
      refine lv_aload_n hx hb dL_law_1149 rfl (lv_at hl 4 rfl) ?_
      refine lv_aload_n hx hb dL_law_1150 rfl (lv_at hl 6 rfl) ?_
      refine lv_iload hx hb dL_law_1151 (lv_at hl 1 rfl) ?_
      refine lv_iconst (v := 1) hx hb dL_law_1153 (by decide) ?_
      refine lv_iadd hx hb dL_law_1154 ?_
      refine tp_i 1 (by decide) ?_
      refine va_sld hx hb hX hbl hbA hS (by unfold vp_in; decide) dL_law_1155 ?_
      refine tp_i x1 e1 ?_
      refine lv_aload_n hx hb dL_law_1156 rfl (lv_at hl 6 rfl) ?_
      refine lv_iload hx hb dL_law_1157 (lv_at hl 1 rfl) ?_
      refine lv_iconst (v := 2) hx hb dL_law_1159 (by decide) ?_
      refine lv_iadd hx hb dL_law_1160 ?_
      refine tp_i 2 (by decide) ?_
      refine va_sld hx hb hX hbl hbA hS (by unfold vp_in; decide) dL_law_1161 ?_
      refine tp_i x2 e2 ?_
      refine ca_i (isC := [1]) (isR := [0, 2]) (wr := [((xa 13), .inr (12, [.ref (xa 14), .ref (xa 15), .ref (xa 16), .ref (xa 17), .int 0])), ((ma 1), .inr (4, [.int 0, .ref (g 0), .int 0]))]) (rn_V (ci := 15) (q0 := 1) (isC := [1]) (wc := [(am, .inr (15, [.int 0, .ref (ma 0), .int 0, .int 0, .int 0, .int 0, .ref (ma 1), .ref (ma 2), .null, .int 1, .int 10, .int 900, .ref (ma 3), .ref (ma 4), .int 0, .int 0, .int 0, .ref (ma 5), .int 1000, .int 50, .int 50, .int 1000, .int 10, .int 0, .int 3000, .int 0, .int 0, .int 0]))]) (As := [.int x1, .int x2]) (rest := []) (n := 2) hx hb hml hown hts hE hS hP hD hA hl.1 (k196_X10_stateTemperature l D cy g x1 x2 am (.int 0) (.ref (ma 0)) (.int 0) (.int 0) (.int 0) (.int 0) (.ref (ma 1)) (.ref (ma 2)) (.null) (.int 1) (.int 10) (.int 900) (.ref (ma 3)) (.ref (ma 4)) (.int 0) (.int 0) (.int 0) (.ref (ma 5)) (.int 1000) (.int 50) (.int 50) (.int 1000) (.int 10) (.int 0) (.int 3000) (.int 0) (.int 0) (.int 0) H.size c0 c1) rfl rfl rfl rfl rfl ax_178 rfl rfl ax_179 ⟨Nat.le_of_ble_eq_true rfl, Nat.le_of_ble_eq_true rfl⟩ rfl rfl (Nat.le_of_ble_eq_true rfl) dL_law_1162 ⟨(Nat.le_of_ble_eq_true rfl), (Nat.le_of_ble_eq_true rfl)⟩) hP hD hS hA rfl rfl rfl (by decide) (fun ad1162 H locs hP hD hS => ?_)
      have hP : va_P D vwCl [((xa 13), .inr (12, [.ref (xa 14), .ref (xa 15), .ref (xa 16), .ref (xa 17), .int 0])), ((ma 1), .inr (4, [.int 0, .ref (g 0), .int 0])), (am, .inr (15, [.int 1, .ref (ma 0), .int 0, .int 0, .int 0, .int 0, .ref (ma 1), .ref (ma 2), .null, .int 1, .int 10, .int 900, .ref (ma 3), .ref (ma 4), .int 0, .int 0, .int 0, .ref (ma 5), .int 1000, .int 50, .int 50, .int 1000, .int 10, .int 0, .int 3000, .int 0, .int 0, .int 0]))] H := hP
      have hD : va_D (AL s) [((xa 13), .inr (12, [.ref (xa 14), .ref (xa 15), .ref (xa 16), .ref (xa 17), .int 0])), ((ma 1), .inr (4, [.int 0, .ref (g 0), .int 0])), (am, .inr (15, [.int 1, .ref (ma 0), .int 0, .int 0, .int 0, .int 0, .ref (ma 1), .ref (ma 2), .null, .int 1, .int 10, .int 900, .ref (ma 3), .ref (ma 4), .int 0, .int 0, .int 0, .ref (ma 5), .int 1000, .int 50, .int 50, .int 1000, .int 10, .int 0, .int 3000, .int 0, .int 0, .int 0]))] := hD
      refine lv_istore (lv' := [(7, .int (-1)), (6, .int 1), (5, .int 0), (4, .ref ao), (3, .ref aj), (2, .ref am), (1, .ref ax), (0, .ref b)]) hx hb dL_law_1165 hl (Nat.le_of_ble_eq_true rfl) rfl (fun ls hl => ?_)
      refine lv_aload_n hx hb dL_law_1167 rfl (lv_at hl 5 rfl) ?_
      refine ca_i (isC := [2]) (isR := [0, 1]) (wr := [((xa 13), .inr (12, [.ref (xa 14), .ref (xa 15), .ref (xa 16), .ref (xa 17), .int 0])), ((ma 1), .inr (4, [.int 0, .ref (g 0), .int 0]))]) (rn_V (ci := 15) (q0 := 2) (isC := [2]) (wc := [(am, .inr (15, [.int 1, .ref (ma 0), .int 0, .int 0, .int 0, .int 0, .ref (ma 1), .ref (ma 2), .null, .int 1, .int 10, .int 900, .ref (ma 3), .ref (ma 4), .int 0, .int 0, .int 0, .ref (ma 5), .int 1000, .int 50, .int 50, .int 1000, .int 10, .int 0, .int 3000, .int 0, .int 0, .int 0]))]) (As := []) (rest := []) (n := 0) hx hb hml hown hts hE hS hP hD hA hl.1 (k24_X10_thrown l D cy g am (.ref (ma 0)) (.int 0) (.int 0) (.int 0) (.int 0) (.ref (ma 1)) (.ref (ma 2)) (.null) (.int 1) (.int 10) (.int 900) (.ref (ma 3)) (.ref (ma 4)) (.int 0) (.int 0) (.int 0) (.ref (ma 5)) (.int 1000) (.int 50) (.int 50) (.int 1000) (.int 10) (.int 0) (.int 3000) (.int 0) (.int 0) (.int 0) H.size ) rfl rfl rfl rfl rfl ax_45 rfl rfl ax_46 ⟨Nat.le_of_ble_eq_true rfl, Nat.le_of_ble_eq_true rfl⟩ rfl rfl (Nat.le_of_ble_eq_true rfl) dL_law_1168 ⟨(Nat.le_of_ble_eq_true rfl), (Nat.le_of_ble_eq_true rfl)⟩) hP hD hS hA rfl rfl rfl (by decide) (fun ad1168 H locs hP hD hS => ?_)
      have hP : va_P D vwCl [((xa 13), .inr (12, [.ref (xa 14), .ref (xa 15), .ref (xa 16), .ref (xa 17), .int 0])), ((ma 1), .inr (4, [.int 0, .ref (g 0), .int 0])), (am, .inr (15, [.int 1, .ref (ma 0), .int 0, .int 0, .int 0, .int 0, .ref (ma 1), .ref (ma 2), .null, .int 1, .int 10, .int 900, .ref (ma 3), .ref (ma 4), .int 0, .int 0, .int 0, .ref (ma 5), .int 1000, .int 50, .int 50, .int 1000, .int 10, .int 0, .int 3000, .int 0, .int 0, .int 0]))] H := hP
      have hD : va_D (AL s) [((xa 13), .inr (12, [.ref (xa 14), .ref (xa 15), .ref (xa 16), .ref (xa 17), .int 0])), ((ma 1), .inr (4, [.int 0, .ref (g 0), .int 0])), (am, .inr (15, [.int 1, .ref (ma 0), .int 0, .int 0, .int 0, .int 0, .ref (ma 1), .ref (ma 2), .null, .int 1, .int 10, .int 900, .ref (ma 3), .ref (ma 4), .int 0, .int 0, .int 0, .ref (ma 5), .int 1000, .int 50, .int 50, .int 1000, .int 10, .int 0, .int 3000, .int 0, .int 0, .int 0]))] := hD
      refine lv_iload hx hb dL_law_1171 (lv_at hl 1 rfl) ?_
      refine lv_icmp_eq (tgt := 1178) hx hb dL_law_1173 (by decide) (fun _ => ?_) (fun z => absurd (by decide) z)
      refine lv_iload hx hb dL_law_1178 (lv_at hl 1 rfl) ?_
      refine lv_if_ne (tgt := 1195) hx hb dL_law_1180 (by decide) (fun _ => ?_) (fun z => absurd z (by decide))
      refine lv_goto (tgt := 2947) hx hb dL_law_1195 (by decide) ?_
      exact law_tail LC hS (Nat.le_of_ble_eq_true rfl) (Nat.le_of_ble_eq_true rfl) (lv_sub hl [2, 7] rfl)
    · refine lv_aload_n hx hb dL_law_1130 rfl (lv_at hl 4 rfl) ?_
      refine lv_aload_n hx hb dL_law_1131 rfl (lv_at hl 5 rfl) ?_
      refine lv_iload hx hb dL_law_1132 (lv_at hl 0 rfl) ?_
      refine lv_iconst (v := 1) hx hb dL_law_1134 (by decide) ?_
      refine lv_iadd hx hb dL_law_1135 ?_
      refine tp_i 1 (by decide) ?_
      refine va_sld hx hb hX hbl hbA hS (by unfold vp_in; decide) dL_law_1136 ?_
      refine tp_i x1 e1 ?_
      refine lv_aload_n hx hb dL_law_1137 rfl (lv_at hl 5 rfl) ?_
      refine lv_iload hx hb dL_law_1138 (lv_at hl 0 rfl) ?_
      refine lv_iconst (v := 2) hx hb dL_law_1140 (by decide) ?_
      refine lv_iadd hx hb dL_law_1141 ?_
      refine tp_i 2 (by decide) ?_
      refine va_sld hx hb hX hbl hbA hS (by unfold vp_in; decide) dL_law_1142 ?_
      refine tp_i x2 e2 ?_
      refine lv_aload_n hx hb dL_law_1143 rfl (lv_at hl 2 rfl) ?_
      refine ca_i (isC := [0, 1]) (isR := [2, 3]) (wr := [(am, .inr (15, [.int 0, .ref (ma 0), .int 0, .int 0, .int 0, .int 0, .ref (ma 1), .ref (ma 2), .null, .int 1, .int 10, .int 900, .ref (ma 3), .ref (ma 4), .int 0, .int 0, .int 0, .ref (ma 5), .int 1000, .int 50, .int 50, .int 1000, .int 10, .int 0, .int 3000, .int 0, .int 0, .int 0])), ((ma 1), .inr (4, [.int 0, .ref (g 0), .int 0]))]) (rn_SW (isC := [0, 1]) (wc := [(ax, .inr (14, [.ref (xa 0), .ref (xa 13), .ref (xa 18), .ref (xa 34), .ref (xa 45), .ref (xa 49), .ref (xa 50)])), ((xa 13), .inr (12, [.ref (xa 14), .ref (xa 15), .ref (xa 16), .ref (xa 17), .int 0]))]) (As := [.ref ax, .int x1, .int x2, .ref aj]) (rest := []) (n := 4) hx hb hml hown hts hE hS hP hD hA hl.1 (k198_L_stateTemperature l hst D cy g x1 x2 ax (xa 13) aj (.ref (xa 0)) (.ref (xa 18)) (.ref (xa 34)) (.ref (xa 45)) (.ref (xa 49)) (.ref (xa 50)) (.ref (xa 14)) (.ref (xa 15)) (.ref (xa 16)) (.ref (xa 17)) H.size c0 c1) rfl rfl ax_176 rfl rfl ax_177 ⟨Nat.le_of_ble_eq_true rfl, Nat.le_of_ble_eq_true rfl⟩ rfl rfl (Nat.le_of_ble_eq_true rfl) dL_law_1144 ⟨(Nat.le_of_ble_eq_true rfl), (Nat.le_of_ble_eq_true rfl)⟩) hP hD hS hA rfl rfl rfl (by decide) (fun ad1144 H locs hP hD hS => ?_)
      have hP : va_P D vwCl [(am, .inr (15, [.int 0, .ref (ma 0), .int 0, .int 0, .int 0, .int 0, .ref (ma 1), .ref (ma 2), .null, .int 1, .int 10, .int 900, .ref (ma 3), .ref (ma 4), .int 0, .int 0, .int 0, .ref (ma 5), .int 1000, .int 50, .int 50, .int 1000, .int 10, .int 0, .int 3000, .int 0, .int 0, .int 0])), ((ma 1), .inr (4, [.int 0, .ref (g 0), .int 0]))] H := hP
      have hD : va_D (AL s) [(am, .inr (15, [.int 0, .ref (ma 0), .int 0, .int 0, .int 0, .int 0, .ref (ma 1), .ref (ma 2), .null, .int 1, .int 10, .int 900, .ref (ma 3), .ref (ma 4), .int 0, .int 0, .int 0, .ref (ma 5), .int 1000, .int 50, .int 50, .int 1000, .int 10, .int 0, .int 3000, .int 0, .int 0, .int 0])), ((ma 1), .inr (4, [.int 0, .ref (g 0), .int 0]))] := hD
      refine lv_istore (lv' := [(6, .int 2), (5, .int 0), (4, .ref ao), (3, .ref aj), (2, .ref am), (1, .ref ax), (0, .ref b)]) hx hb dL_law_1147 hl (Nat.le_of_ble_eq_true rfl) rfl (fun ls hl => ?_)
      refine lv_aload_n hx hb dL_law_1149 rfl (lv_at hl 4 rfl) ?_
      refine lv_aload_n hx hb dL_law_1150 rfl (lv_at hl 6 rfl) ?_
      refine lv_iload hx hb dL_law_1151 (lv_at hl 1 rfl) ?_
      refine lv_iconst (v := 1) hx hb dL_law_1153 (by decide) ?_
      refine lv_iadd hx hb dL_law_1154 ?_
      refine tp_i 1 (by decide) ?_
      refine va_sld hx hb hX hbl hbA hS (by unfold vp_in; decide) dL_law_1155 ?_
      refine tp_i x1 e1 ?_
      refine lv_aload_n hx hb dL_law_1156 rfl (lv_at hl 6 rfl) ?_
      refine lv_iload hx hb dL_law_1157 (lv_at hl 1 rfl) ?_
      refine lv_iconst (v := 2) hx hb dL_law_1159 (by decide) ?_
      refine lv_iadd hx hb dL_law_1160 ?_
      refine tp_i 2 (by decide) ?_
      refine va_sld hx hb hX hbl hbA hS (by unfold vp_in; decide) dL_law_1161 ?_
      refine tp_i x2 e2 ?_
      refine ca_i (isC := [0, 1]) (isR := []) (wr := []) (rn_V (ci := 15) (q0 := 0) (isC := [0, 1]) (wc := [(am, .inr (15, [.int 0, .ref (ma 0), .int 0, .int 0, .int 0, .int 0, .ref (ma 1), .ref (ma 2), .null, .int 1, .int 10, .int 900, .ref (ma 3), .ref (ma 4), .int 0, .int 0, .int 0, .ref (ma 5), .int 1000, .int 50, .int 50, .int 1000, .int 10, .int 0, .int 3000, .int 0, .int 0, .int 0])), ((ma 1), .inr (4, [.int 0, .ref (g 0), .int 0]))]) (As := [.int x1, .int x2]) (rest := []) (n := 2) hx hb hml hown hts hE hS hP hD hA hl.1 (k199_X10_stateTemperature l D cy g x1 x2 am (ma 1) (.int 0) (.ref (ma 0)) (.int 0) (.int 0) (.int 0) (.int 0) (.ref (ma 2)) (.null) (.int 1) (.int 10) (.int 900) (.ref (ma 3)) (.ref (ma 4)) (.int 0) (.int 0) (.int 0) (.ref (ma 5)) (.int 1000) (.int 50) (.int 50) (.int 1000) (.int 10) (.int 0) (.int 3000) (.int 0) (.int 0) (.int 0) (.int 0) (.ref (g 0)) H.size c0 c1) rfl rfl rfl rfl rfl ax_178 rfl rfl ax_179 ⟨Nat.le_of_ble_eq_true rfl, Nat.le_of_ble_eq_true rfl⟩ rfl rfl (Nat.le_of_ble_eq_true rfl) dL_law_1162 ⟨(Nat.le_of_ble_eq_true rfl), (Nat.le_of_ble_eq_true rfl)⟩) hP hD hS hA rfl rfl rfl (by decide) (fun ad1162 H locs hP hD hS => ?_)
      have hP : va_P D vwCl [(am, .inr (15, [.int 2, .ref (ma 0), .int 0, .int 0, .int 0, .int 0, .ref (ma 1), .ref (ma 2), .null, .int 1, .int 10, .int 900, .ref (ma 3), .ref (ma 4), .int 0, .int 0, .int 0, .ref (ma 5), .int 1000, .int 50, .int 50, .int 1000, .int 10, .int 0, .int 3000, .int 0, .int 0, .int 0]))] H := hP
      have hD : va_D (AL s) [(am, .inr (15, [.int 2, .ref (ma 0), .int 0, .int 0, .int 0, .int 0, .ref (ma 1), .ref (ma 2), .null, .int 1, .int 10, .int 900, .ref (ma 3), .ref (ma 4), .int 0, .int 0, .int 0, .ref (ma 5), .int 1000, .int 50, .int 50, .int 1000, .int 10, .int 0, .int 3000, .int 0, .int 0, .int 0]))] := hD
      refine lv_istore (lv' := [(7, .int (-1)), (6, .int 2), (5, .int 0), (4, .ref ao), (3, .ref aj), (2, .ref am), (1, .ref ax), (0, .ref b)]) hx hb dL_law_1165 hl (Nat.le_of_ble_eq_true rfl) rfl (fun ls hl => ?_)
      refine lv_aload_n hx hb dL_law_1167 rfl (lv_at hl 5 rfl) ?_
      refine ca_i (isC := [0]) (isR := []) (wr := []) (rn_V (ci := 15) (q0 := 0) (isC := [0]) (wc := [(am, .inr (15, [.int 2, .ref (ma 0), .int 0, .int 0, .int 0, .int 0, .ref (ma 1), .ref (ma 2), .null, .int 1, .int 10, .int 900, .ref (ma 3), .ref (ma 4), .int 0, .int 0, .int 0, .ref (ma 5), .int 1000, .int 50, .int 50, .int 1000, .int 10, .int 0, .int 3000, .int 0, .int 0, .int 0]))]) (As := []) (rest := []) (n := 0) hx hb hml hown hts hE hS hP hD hA hl.1 (k148_X10_thrown l D cy g am (.ref (ma 0)) (.int 0) (.int 0) (.int 0) (.int 0) (.ref (ma 1)) (.ref (ma 2)) (.null) (.int 1) (.int 10) (.int 900) (.ref (ma 3)) (.ref (ma 4)) (.int 0) (.int 0) (.int 0) (.ref (ma 5)) (.int 1000) (.int 50) (.int 50) (.int 1000) (.int 10) (.int 0) (.int 3000) (.int 0) (.int 0) (.int 0) H.size ) rfl rfl rfl rfl rfl ax_45 rfl rfl ax_46 ⟨Nat.le_of_ble_eq_true rfl, Nat.le_of_ble_eq_true rfl⟩ rfl rfl (Nat.le_of_ble_eq_true rfl) dL_law_1168 ⟨(Nat.le_of_ble_eq_true rfl), (Nat.le_of_ble_eq_true rfl)⟩) hP hD hS hA rfl rfl rfl (by decide) (fun ad1168 H locs hP hD hS => ?_)
      have hP : va_P D vwCl [(am, .inr (15, [.int 2, .ref (ma 0), .int 0, .int 0, .int 0, .int 0, .ref (ma 1), .ref (ma 2), .null, .int 1, .int 10, .int 900, .ref (ma 3), .ref (ma 4), .int 0, .int 0, .int 0, .ref (ma 5), .int 1000, .int 50, .int 50, .int 1000, .int 10, .int 0, .int 3000, .int 0, .int 0, .int 0]))] H := hP
      have hD : va_D (AL s) [(am, .inr (15, [.int 2, .ref (ma 0), .int 0, .int 0, .int 0, .int 0, .ref (ma 1), .ref (ma 2), .null, .int 1, .int 10, .int 900, .ref (ma 3), .ref (ma 4), .int 0, .int 0, .int 0, .ref (ma 5), .int 1000, .int 50, .int 50, .int 1000, .int 10, .int 0, .int 3000, .int 0, .int 0, .int 0]))] := hD
      refine lv_iload hx hb dL_law_1171 (lv_at hl 1 rfl) ?_
      refine lv_icmp_eq (tgt := 1178) hx hb dL_law_1173 (by decide) (fun _ => ?_) (fun z => absurd (by decide) z)
      refine lv_iload hx hb dL_law_1178 (lv_at hl 1 rfl) ?_
      refine lv_if_ne (tgt := 1195) hx hb dL_law_1180 (by decide) (fun _ => ?_) (fun z => absurd z (by decide))
      refine lv_goto (tgt := 2947) hx hb dL_law_1195 (by decide) ?_
      exact law_tail LC hS (Nat.le_of_ble_eq_true rfl) (Nat.le_of_ble_eq_true rfl) (lv_sub hl [2, 7] rfl)
set_option maxHeartbeats 4000000 in
set_option maxRecDepth 100000 in
theorem lc_15 {p : Program} {e : Env} {s : State} {m : MethodId} {below : List Frame} {meth : Method} {c : Code} {l : Launch} {b : Nat} {xs : Nat → Int32} {D : va_G} {cy : Nat → ClassId} {g : Nat → Nat} (hst : l.stackTraces = false) (LC : LCtx p s m meth c b xs D cy g) (ax am aj ao : Nat) (xa ma : Nat → Nat) (x1 x2 x3 x4 : Int32) (e1 : xs (1 : Int32).toNatClampNeg = x1) (e2 : xs (2 : Int32).toNatClampNeg = x2) (e3 : xs (3 : Int32).toNatClampNeg = x3) (e4 : xs (4 : Int32).toNatClampNeg = x4) (kc : Int32) (ekc : (x1.toUInt32 % 65536).toInt32 = kc) {H : Heap} {locs : List Loc} (hP : va_P D vwCl [(ax, .inr (14, [.ref (xa 0), .ref (xa 13), .ref (xa 18), .ref (xa 34), .ref (xa 45), .ref (xa 49), .ref (xa 50)])), ((xa 18), .inr (8, [.ref (xa 19), .ref (xa 20), .ref (xa 21), .int 0, .int 0, .ref (xa 22), .ref (xa 28), .int 0, .int 0])), ((xa 19), .inl (cy 0, 8, .inl (fun _ => 0))), ((xa 20), .inl (cy 1, 8, .inl (fun _ => 0))), ((xa 21), .inl (cy 1, 8, .inl (fun _ => 0))), (am, .inr (15, [.int 0, .ref (ma 0), .int 0, .int 0, .int 0, .int 0, .ref (ma 1), .ref (ma 2), .null, .int 1, .int 10, .int 900, .ref (ma 3), .ref (ma 4), .int 0, .int 0, .int 0, .ref (ma 5), .int 1000, .int 50, .int 50, .int 1000, .int 10, .int 0, .int 3000, .int 0, .int 0, .int 0])), ((ma 2), .inr (4, [.int 0, .ref (g 0), .int 0])), (aj, .inl (cy 2, 1, .inr (.inl (fun _ => 0))))] H) (hD : va_D (AL s) [(ax, .inr (14, [.ref (xa 0), .ref (xa 13), .ref (xa 18), .ref (xa 34), .ref (xa 45), .ref (xa 49), .ref (xa 50)])), ((xa 18), .inr (8, [.ref (xa 19), .ref (xa 20), .ref (xa 21), .int 0, .int 0, .ref (xa 22), .ref (xa 28), .int 0, .int 0])), ((xa 19), .inl (cy 0, 8, .inl (fun _ => 0))), ((xa 20), .inl (cy 1, 8, .inl (fun _ => 0))), ((xa 21), .inl (cy 1, 8, .inl (fun _ => 0))), (am, .inr (15, [.int 0, .ref (ma 0), .int 0, .int 0, .int 0, .int 0, .ref (ma 1), .ref (ma 2), .null, .int 1, .int 10, .int 900, .ref (ma 3), .ref (ma 4), .int 0, .int 0, .int 0, .ref (ma 5), .int 1000, .int 50, .int 50, .int 1000, .int 10, .int 0, .int 3000, .int 0, .int 0, .int 0])), ((ma 2), .inr (4, [.int 0, .ref (g 0), .int 0])), (aj, .inl (cy 2, 1, .inr (.inl (fun _ => 0))))]) (hS : va_S (AL s) s.heap H locs) (ls : Array Slot) (hl : lv_has ls 9 [(5, .int 0), (4, .ref ao), (3, .ref aj), (2, .ref am), (1, .ref ax), (0, .ref b)]) : W p l e room_1 s m #[Value.ref b] below meth c H locs 100 1000 (lw_Z below #[Value.ref b] s) (F0 m 1198 ls []) := by
  obtain ⟨hx, hb, hr, hml, hown, hlk, hts, hE, hX, hbl⟩ := id LC
  have hA : ∀ q, s.heap.size ≤ q → (AL s) q := fun _ h => h
  have hbA : ¬ (AL s) b := Nat.not_le.mpr hbl
  by_cases c0 : kc = 104
  · subst c0
    by_cases c1 : x2 < 1
    · refine lv_aload_n hx hb dL_law_1198 rfl (lv_at hl 4 rfl) ?_
      refine lv_aload_n hx hb dL_law_1199 rfl (lv_at hl 5 rfl) ?_
      refine lv_iload hx hb dL_law_1200 (lv_at hl 0 rfl) ?_
      refine lv_iconst (v := 1) hx hb dL_law_1202 (by decide) ?_
      refine lv_iadd hx hb dL_law_1203 ?_
      refine tp_i 1 (by decide) ?_
      refine va_sld hx hb hX hbl hbA hS (by unfold vp_in; decide) dL_law_1204 ?_
      refine tp_i x1 e1 ?_
      refine lv_i2c (v := 104) hx hb dL_law_1205 ekc ?_
      refine lv_aload_n hx hb dL_law_1206 rfl (lv_at hl 5 rfl) ?_
      refine lv_iload hx hb dL_law_1207 (lv_at hl 0 rfl) ?_
      refine lv_iconst (v := 2) hx hb dL_law_1209 (by decide) ?_
      refine lv_iadd hx hb dL_law_1210 ?_
      refine tp_i 2 (by decide) ?_
      refine va_sld hx hb hX hbl hbA hS (by unfold vp_in; decide) dL_law_1211 ?_
      refine tp_i x2 e2 ?_
      refine lv_aload_n hx hb dL_law_1212 rfl (lv_at hl 5 rfl) ?_
      refine lv_iload hx hb dL_law_1213 (lv_at hl 0 rfl) ?_
      refine lv_iconst (v := 3) hx hb dL_law_1215 (by decide) ?_
      refine lv_iadd hx hb dL_law_1216 ?_
      refine tp_i 3 (by decide) ?_
      refine va_sld hx hb hX hbl hbA hS (by unfold vp_in; decide) dL_law_1217 ?_
      refine tp_i x3 e3 ?_
      refine lv_aload_n hx hb dL_law_1218 rfl (lv_at hl 2 rfl) ?_
      refine ca_i (isC := [0]) (isR := [1, 2, 3, 4, 5, 6, 7]) (wr := [((xa 18), .inr (8, [.ref (xa 19), .ref (xa 20), .ref (xa 21), .int 0, .int 0, .ref (xa 22), .ref (xa 28), .int 0, .int 0])), ((xa 19), .inl (cy 0, 8, .inl (fun _ => 0))), ((xa 20), .inl (cy 1, 8, .inl (fun _ => 0))), ((xa 21), .inl (cy 1, 8, .inl (fun _ => 0))), (am, .inr (15, [.int 0, .ref (ma 0), .int 0, .int 0, .int 0, .int 0, .ref (ma 1), .ref (ma 2), .null, .int 1, .int 10, .int 900, .ref (ma 3), .ref (ma 4), .int 0, .int 0, .int 0, .ref (ma 5), .int 1000, .int 50, .int 50, .int 1000, .int 10, .int 0, .int 3000, .int 0, .int 0, .int 0])), ((ma 2), .inr (4, [.int 0, .ref (g 0), .int 0])), (aj, .inl (cy 2, 1, .inr (.inl (fun _ => 0))))]) (rn_SW (isC := [0]) (wc := [(ax, .inr (14, [.ref (xa 0), .ref (xa 13), .ref (xa 18), .ref (xa 34), .ref (xa 45), .ref (xa 49), .ref (xa 50)]))]) (As := [.ref ax, .int 104, .int x2, .int x3, .ref aj]) (rest := []) (n := 5) hx hb hml hown hts hE hS hP hD hA hl.1 (k202_L_addPart l hst D cy g x2 x3 ax aj (.ref (xa 0)) (.ref (xa 13)) (.ref (xa 18)) (.ref (xa 34)) (.ref (xa 45)) (.ref (xa 49)) (.ref (xa 50)) H.size c1) rfl rfl ax_184 rfl rfl ax_185 ⟨Nat.le_of_ble_eq_true rfl, Nat.le_of_ble_eq_true rfl⟩ rfl rfl (Nat.le_of_ble_eq_true rfl) dL_law_1219 ⟨(Nat.le_of_ble_eq_true rfl), (Nat.le_of_ble_eq_true rfl)⟩) hP hD hS hA rfl rfl rfl (by decide) (fun ad1219 H locs hP hD hS => ?_)
      have hP : va_P D vwCl [((xa 18), .inr (8, [.ref (xa 19), .ref (xa 20), .ref (xa 21), .int 0, .int 0, .ref (xa 22), .ref (xa 28), .int 0, .int 0])), ((xa 19), .inl (cy 0, 8, .inl (fun _ => 0))), ((xa 20), .inl (cy 1, 8, .inl (fun _ => 0))), ((xa 21), .inl (cy 1, 8, .inl (fun _ => 0))), (am, .inr (15, [.int 0, .ref (ma 0), .int 0, .int 0, .int 0, .int 0, .ref (ma 1), .ref (ma 2), .null, .int 1, .int 10, .int 900, .ref (ma 3), .ref (ma 4), .int 0, .int 0, .int 0, .ref (ma 5), .int 1000, .int 50, .int 50, .int 1000, .int 10, .int 0, .int 3000, .int 0, .int 0, .int 0])), ((ma 2), .inr (4, [.int 0, .ref (g 0), .int 0])), (aj, .inl (cy 2, 1, .inr (.inl (fun _ => 0))))] H := hP
      have hD : va_D (AL s) [((xa 18), .inr (8, [.ref (xa 19), .ref (xa 20), .ref (xa 21), .int 0, .int 0, .ref (xa 22), .ref (xa 28), .int 0, .int 0])), ((xa 19), .inl (cy 0, 8, .inl (fun _ => 0))), ((xa 20), .inl (cy 1, 8, .inl (fun _ => 0))), ((xa 21), .inl (cy 1, 8, .inl (fun _ => 0))), (am, .inr (15, [.int 0, .ref (ma 0), .int 0, .int 0, .int 0, .int 0, .ref (ma 1), .ref (ma 2), .null, .int 1, .int 10, .int 900, .ref (ma 3), .ref (ma 4), .int 0, .int 0, .int 0, .ref (ma 5), .int 1000, .int 50, .int 50, .int 1000, .int 10, .int 0, .int 3000, .int 0, .int 0, .int 0])), ((ma 2), .inr (4, [.int 0, .ref (g 0), .int 0])), (aj, .inl (cy 2, 1, .inr (.inl (fun _ => 0))))] := hD
      refine lv_istore (lv' := [(6, .int 1), (5, .int 0), (4, .ref ao), (3, .ref aj), (2, .ref am), (1, .ref ax), (0, .ref b)]) hx hb dL_law_1222 hl (Nat.le_of_ble_eq_true rfl) rfl (fun ls hl => ?_)
      refine lv_aload_n hx hb dL_law_1224 rfl (lv_at hl 4 rfl) ?_
      refine lv_aload_n hx hb dL_law_1225 rfl (lv_at hl 6 rfl) ?_
      refine lv_iload hx hb dL_law_1226 (lv_at hl 1 rfl) ?_
      refine lv_iconst (v := 1) hx hb dL_law_1228 (by decide) ?_
      refine lv_iadd hx hb dL_law_1229 ?_
      refine tp_i 1 (by decide) ?_
      refine va_sld hx hb hX hbl hbA hS (by unfold vp_in; decide) dL_law_1230 ?_
      refine tp_i x1 e1 ?_
      refine lv_i2c (v := 104) hx hb dL_law_1231 ekc ?_
      refine lv_aload_n hx hb dL_law_1232 rfl (lv_at hl 6 rfl) ?_
      refine lv_iload hx hb dL_law_1233 (lv_at hl 1 rfl) ?_
      refine lv_iconst (v := 2) hx hb dL_law_1235 (by decide) ?_
      refine lv_iadd hx hb dL_law_1236 ?_
      refine tp_i 2 (by decide) ?_
      refine va_sld hx hb hX hbl hbA hS (by unfold vp_in; decide) dL_law_1237 ?_
      refine tp_i x2 e2 ?_
      refine lv_aload_n hx hb dL_law_1238 rfl (lv_at hl 6 rfl) ?_
      refine lv_iload hx hb dL_law_1239 (lv_at hl 1 rfl) ?_
      refine lv_iconst (v := 3) hx hb dL_law_1241 (by decide) ?_
      refine lv_iadd hx hb dL_law_1242 ?_
      refine tp_i 3 (by decide) ?_
      refine va_sld hx hb hX hbl hbA hS (by unfold vp_in; decide) dL_law_1243 ?_
      refine tp_i x3 e3 ?_
      refine ca_i (isC := [4]) (isR := [0, 1, 2, 3, 5, 6]) (wr := [((xa 18), .inr (8, [.ref (xa 19), .ref (xa 20), .ref (xa 21), .int 0, .int 0, .ref (xa 22), .ref (xa 28), .int 0, .int 0])), ((xa 19), .inl (cy 0, 8, .inl (fun _ => 0))), ((xa 20), .inl (cy 1, 8, .inl (fun _ => 0))), ((xa 21), .inl (cy 1, 8, .inl (fun _ => 0))), ((ma 2), .inr (4, [.int 0, .ref (g 0), .int 0])), (aj, .inl (cy 2, 1, .inr (.inl (fun _ => 0))))]) (rn_V (ci := 15) (q0 := 4) (isC := [4]) (wc := [(am, .inr (15, [.int 0, .ref (ma 0), .int 0, .int 0, .int 0, .int 0, .ref (ma 1), .ref (ma 2), .null, .int 1, .int 10, .int 900, .ref (ma 3), .ref (ma 4), .int 0, .int 0, .int 0, .ref (ma 5), .int 1000, .int 50, .int 50, .int 1000, .int 10, .int 0, .int 3000, .int 0, .int 0, .int 0]))]) (As := [.int 104, .int x2, .int x3]) (rest := []) (n := 3) hx hb hml hown hts hE hS hP hD hA hl.1 (k211_X10_addPart l D cy g x2 x3 am (.int 0) (.ref (ma 0)) (.int 0) (.int 0) (.int 0) (.int 0) (.ref (ma 1)) (.ref (ma 2)) (.null) (.int 1) (.int 10) (.int 900) (.ref (ma 3)) (.ref (ma 4)) (.int 0) (.int 0) (.int 0) (.ref (ma 5)) (.int 1000) (.int 50) (.int 50) (.int 1000) (.int 10) (.int 0) (.int 3000) (.int 0) (.int 0) (.int 0) H.size c1) rfl rfl rfl rfl rfl ax_202 rfl rfl ax_203 ⟨Nat.le_of_ble_eq_true rfl, Nat.le_of_ble_eq_true rfl⟩ rfl rfl (Nat.le_of_ble_eq_true rfl) dL_law_1244 ⟨(Nat.le_of_ble_eq_true rfl), (Nat.le_of_ble_eq_true rfl)⟩) hP hD hS hA rfl rfl rfl (by decide) (fun ad1244 H locs hP hD hS => ?_)
      have hP : va_P D vwCl [((xa 18), .inr (8, [.ref (xa 19), .ref (xa 20), .ref (xa 21), .int 0, .int 0, .ref (xa 22), .ref (xa 28), .int 0, .int 0])), ((xa 19), .inl (cy 0, 8, .inl (fun _ => 0))), ((xa 20), .inl (cy 1, 8, .inl (fun _ => 0))), ((xa 21), .inl (cy 1, 8, .inl (fun _ => 0))), ((ma 2), .inr (4, [.int 0, .ref (g 0), .int 0])), (aj, .inl (cy 2, 1, .inr (.inl (fun _ => 0)))), (am, .inr (15, [.int 1, .ref (ma 0), .int 0, .int 0, .int 0, .int 0, .ref (ma 1), .ref (ma 2), .null, .int 1, .int 10, .int 900, .ref (ma 3), .ref (ma 4), .int 0, .int 0, .int 0, .ref (ma 5), .int 1000, .int 50, .int 50, .int 1000, .int 10, .int 0, .int 3000, .int 0, .int 0, .int 0]))] H := hP
      have hD : va_D (AL s) [((xa 18), .inr (8, [.ref (xa 19), .ref (xa 20), .ref (xa 21), .int 0, .int 0, .ref (xa 22), .ref (xa 28), .int 0, .int 0])), ((xa 19), .inl (cy 0, 8, .inl (fun _ => 0))), ((xa 20), .inl (cy 1, 8, .inl (fun _ => 0))), ((xa 21), .inl (cy 1, 8, .inl (fun _ => 0))), ((ma 2), .inr (4, [.int 0, .ref (g 0), .int 0])), (aj, .inl (cy 2, 1, .inr (.inl (fun _ => 0)))), (am, .inr (15, [.int 1, .ref (ma 0), .int 0, .int 0, .int 0, .int 0, .ref (ma 1), .ref (ma 2), .null, .int 1, .int 10, .int 900, .ref (ma 3), .ref (ma 4), .int 0, .int 0, .int 0, .ref (ma 5), .int 1000, .int 50, .int 50, .int 1000, .int 10, .int 0, .int 3000, .int 0, .int 0, .int 0]))] := hD
      refine lv_istore (lv' := [(7, .int (-1)), (6, .int 1), (5, .int 0), (4, .ref ao), (3, .ref aj), (2, .ref am), (1, .ref ax), (0, .ref b)]) hx hb dL_law_1247 hl (Nat.le_of_ble_eq_true rfl) rfl (fun ls hl => ?_)
      refine lv_aload_n hx hb dL_law_1249 rfl (lv_at hl 5 rfl) ?_
      refine ca_i (isC := [6]) (isR := [0, 1, 2, 3, 4, 5]) (wr := [((xa 18), .inr (8, [.ref (xa 19), .ref (xa 20), .ref (xa 21), .int 0, .int 0, .ref (xa 22), .ref (xa 28), .int 0, .int 0])), ((xa 19), .inl (cy 0, 8, .inl (fun _ => 0))), ((xa 20), .inl (cy 1, 8, .inl (fun _ => 0))), ((xa 21), .inl (cy 1, 8, .inl (fun _ => 0))), ((ma 2), .inr (4, [.int 0, .ref (g 0), .int 0])), (aj, .inl (cy 2, 1, .inr (.inl (fun _ => 0))))]) (rn_V (ci := 15) (q0 := 6) (isC := [6]) (wc := [(am, .inr (15, [.int 1, .ref (ma 0), .int 0, .int 0, .int 0, .int 0, .ref (ma 1), .ref (ma 2), .null, .int 1, .int 10, .int 900, .ref (ma 3), .ref (ma 4), .int 0, .int 0, .int 0, .ref (ma 5), .int 1000, .int 50, .int 50, .int 1000, .int 10, .int 0, .int 3000, .int 0, .int 0, .int 0]))]) (As := []) (rest := []) (n := 0) hx hb hml hown hts hE hS hP hD hA hl.1 (k24_X10_thrown l D cy g am (.ref (ma 0)) (.int 0) (.int 0) (.int 0) (.int 0) (.ref (ma 1)) (.ref (ma 2)) (.null) (.int 1) (.int 10) (.int 900) (.ref (ma 3)) (.ref (ma 4)) (.int 0) (.int 0) (.int 0) (.ref (ma 5)) (.int 1000) (.int 50) (.int 50) (.int 1000) (.int 10) (.int 0) (.int 3000) (.int 0) (.int 0) (.int 0) H.size ) rfl rfl rfl rfl rfl ax_45 rfl rfl ax_46 ⟨Nat.le_of_ble_eq_true rfl, Nat.le_of_ble_eq_true rfl⟩ rfl rfl (Nat.le_of_ble_eq_true rfl) dL_law_1250 ⟨(Nat.le_of_ble_eq_true rfl), (Nat.le_of_ble_eq_true rfl)⟩) hP hD hS hA rfl rfl rfl (by decide) (fun ad1250 H locs hP hD hS => ?_)
      have hP : va_P D vwCl [((xa 18), .inr (8, [.ref (xa 19), .ref (xa 20), .ref (xa 21), .int 0, .int 0, .ref (xa 22), .ref (xa 28), .int 0, .int 0])), ((xa 19), .inl (cy 0, 8, .inl (fun _ => 0))), ((xa 20), .inl (cy 1, 8, .inl (fun _ => 0))), ((xa 21), .inl (cy 1, 8, .inl (fun _ => 0))), ((ma 2), .inr (4, [.int 0, .ref (g 0), .int 0])), (aj, .inl (cy 2, 1, .inr (.inl (fun _ => 0)))), (am, .inr (15, [.int 1, .ref (ma 0), .int 0, .int 0, .int 0, .int 0, .ref (ma 1), .ref (ma 2), .null, .int 1, .int 10, .int 900, .ref (ma 3), .ref (ma 4), .int 0, .int 0, .int 0, .ref (ma 5), .int 1000, .int 50, .int 50, .int 1000, .int 10, .int 0, .int 3000, .int 0, .int 0, .int 0]))] H := hP
      have hD : va_D (AL s) [((xa 18), .inr (8, [.ref (xa 19), .ref (xa 20), .ref (xa 21), .int 0, .int 0, .ref (xa 22), .ref (xa 28), .int 0, .int 0])), ((xa 19), .inl (cy 0, 8, .inl (fun _ => 0))), ((xa 20), .inl (cy 1, 8, .inl (fun _ => 0))), ((xa 21), .inl (cy 1, 8, .inl (fun _ => 0))), ((ma 2), .inr (4, [.int 0, .ref (g 0), .int 0])), (aj, .inl (cy 2, 1, .inr (.inl (fun _ => 0)))), (am, .inr (15, [.int 1, .ref (ma 0), .int 0, .int 0, .int 0, .int 0, .ref (ma 1), .ref (ma 2), .null, .int 1, .int 10, .int 900, .ref (ma 3), .ref (ma 4), .int 0, .int 0, .int 0, .ref (ma 5), .int 1000, .int 50, .int 50, .int 1000, .int 10, .int 0, .int 3000, .int 0, .int 0, .int 0]))] := hD
      refine lv_iload hx hb dL_law_1253 (lv_at hl 1 rfl) ?_
      refine lv_icmp_eq (tgt := 1260) hx hb dL_law_1255 (by decide) (fun _ => ?_) (fun z => absurd (by decide) z)
      refine lv_iload hx hb dL_law_1260 (lv_at hl 1 rfl) ?_
      refine lv_if_ne (tgt := 1277) hx hb dL_law_1262 (by decide) (fun _ => ?_) (fun z => absurd z (by decide))
      refine lv_goto (tgt := 2947) hx hb dL_law_1277 (by decide) ?_
      exact law_tail LC hS (Nat.le_of_ble_eq_true rfl) (Nat.le_of_ble_eq_true rfl) (lv_sub hl [2, 7] rfl)
    · by_cases c2 : (9999 : Int32) < x2
      · refine lv_aload_n hx hb dL_law_1198 rfl (lv_at hl 4 rfl) ?_
        refine lv_aload_n hx hb dL_law_1199 rfl (lv_at hl 5 rfl) ?_
        refine lv_iload hx hb dL_law_1200 (lv_at hl 0 rfl) ?_
        refine lv_iconst (v := 1) hx hb dL_law_1202 (by decide) ?_
        refine lv_iadd hx hb dL_law_1203 ?_
        refine tp_i 1 (by decide) ?_
        refine va_sld hx hb hX hbl hbA hS (by unfold vp_in; decide) dL_law_1204 ?_
        refine tp_i x1 e1 ?_
        refine lv_i2c (v := 104) hx hb dL_law_1205 ekc ?_
        refine lv_aload_n hx hb dL_law_1206 rfl (lv_at hl 5 rfl) ?_
        refine lv_iload hx hb dL_law_1207 (lv_at hl 0 rfl) ?_
        refine lv_iconst (v := 2) hx hb dL_law_1209 (by decide) ?_
        refine lv_iadd hx hb dL_law_1210 ?_
        refine tp_i 2 (by decide) ?_
        refine va_sld hx hb hX hbl hbA hS (by unfold vp_in; decide) dL_law_1211 ?_
        refine tp_i x2 e2 ?_
        refine lv_aload_n hx hb dL_law_1212 rfl (lv_at hl 5 rfl) ?_
        refine lv_iload hx hb dL_law_1213 (lv_at hl 0 rfl) ?_
        refine lv_iconst (v := 3) hx hb dL_law_1215 (by decide) ?_
        refine lv_iadd hx hb dL_law_1216 ?_
        refine tp_i 3 (by decide) ?_
        refine va_sld hx hb hX hbl hbA hS (by unfold vp_in; decide) dL_law_1217 ?_
        refine tp_i x3 e3 ?_
        refine lv_aload_n hx hb dL_law_1218 rfl (lv_at hl 2 rfl) ?_
        refine ca_i (isC := [0]) (isR := [1, 2, 3, 4, 5, 6, 7]) (wr := [((xa 18), .inr (8, [.ref (xa 19), .ref (xa 20), .ref (xa 21), .int 0, .int 0, .ref (xa 22), .ref (xa 28), .int 0, .int 0])), ((xa 19), .inl (cy 0, 8, .inl (fun _ => 0))), ((xa 20), .inl (cy 1, 8, .inl (fun _ => 0))), ((xa 21), .inl (cy 1, 8, .inl (fun _ => 0))), (am, .inr (15, [.int 0, .ref (ma 0), .int 0, .int 0, .int 0, .int 0, .ref (ma 1), .ref (ma 2), .null, .int 1, .int 10, .int 900, .ref (ma 3), .ref (ma 4), .int 0, .int 0, .int 0, .ref (ma 5), .int 1000, .int 50, .int 50, .int 1000, .int 10, .int 0, .int 3000, .int 0, .int 0, .int 0])), ((ma 2), .inr (4, [.int 0, .ref (g 0), .int 0])), (aj, .inl (cy 2, 1, .inr (.inl (fun _ => 0))))]) (rn_SW (isC := [0]) (wc := [(ax, .inr (14, [.ref (xa 0), .ref (xa 13), .ref (xa 18), .ref (xa 34), .ref (xa 45), .ref (xa 49), .ref (xa 50)]))]) (As := [.ref ax, .int 104, .int x2, .int x3, .ref aj]) (rest := []) (n := 5) hx hb hml hown hts hE hS hP hD hA hl.1 (k214_L_addPart l hst D cy g x2 x3 ax aj (.ref (xa 0)) (.ref (xa 13)) (.ref (xa 18)) (.ref (xa 34)) (.ref (xa 45)) (.ref (xa 49)) (.ref (xa 50)) H.size c1 c2) rfl rfl ax_184 rfl rfl ax_185 ⟨Nat.le_of_ble_eq_true rfl, Nat.le_of_ble_eq_true rfl⟩ rfl rfl (Nat.le_of_ble_eq_true rfl) dL_law_1219 ⟨(Nat.le_of_ble_eq_true rfl), (Nat.le_of_ble_eq_true rfl)⟩) hP hD hS hA rfl rfl rfl (by decide) (fun ad1219 H locs hP hD hS => ?_)
        have hP : va_P D vwCl [((xa 18), .inr (8, [.ref (xa 19), .ref (xa 20), .ref (xa 21), .int 0, .int 0, .ref (xa 22), .ref (xa 28), .int 0, .int 0])), ((xa 19), .inl (cy 0, 8, .inl (fun _ => 0))), ((xa 20), .inl (cy 1, 8, .inl (fun _ => 0))), ((xa 21), .inl (cy 1, 8, .inl (fun _ => 0))), (am, .inr (15, [.int 0, .ref (ma 0), .int 0, .int 0, .int 0, .int 0, .ref (ma 1), .ref (ma 2), .null, .int 1, .int 10, .int 900, .ref (ma 3), .ref (ma 4), .int 0, .int 0, .int 0, .ref (ma 5), .int 1000, .int 50, .int 50, .int 1000, .int 10, .int 0, .int 3000, .int 0, .int 0, .int 0])), ((ma 2), .inr (4, [.int 0, .ref (g 0), .int 0])), (aj, .inl (cy 2, 1, .inr (.inl (fun _ => 0))))] H := hP
        have hD : va_D (AL s) [((xa 18), .inr (8, [.ref (xa 19), .ref (xa 20), .ref (xa 21), .int 0, .int 0, .ref (xa 22), .ref (xa 28), .int 0, .int 0])), ((xa 19), .inl (cy 0, 8, .inl (fun _ => 0))), ((xa 20), .inl (cy 1, 8, .inl (fun _ => 0))), ((xa 21), .inl (cy 1, 8, .inl (fun _ => 0))), (am, .inr (15, [.int 0, .ref (ma 0), .int 0, .int 0, .int 0, .int 0, .ref (ma 1), .ref (ma 2), .null, .int 1, .int 10, .int 900, .ref (ma 3), .ref (ma 4), .int 0, .int 0, .int 0, .ref (ma 5), .int 1000, .int 50, .int 50, .int 1000, .int 10, .int 0, .int 3000, .int 0, .int 0, .int 0])), ((ma 2), .inr (4, [.int 0, .ref (g 0), .int 0])), (aj, .inl (cy 2, 1, .inr (.inl (fun _ => 0))))] := hD
        refine lv_istore (lv' := [(6, .int 1), (5, .int 0), (4, .ref ao), (3, .ref aj), (2, .ref am), (1, .ref ax), (0, .ref b)]) hx hb dL_law_1222 hl (Nat.le_of_ble_eq_true rfl) rfl (fun ls hl => ?_)
        refine lv_aload_n hx hb dL_law_1224 rfl (lv_at hl 4 rfl) ?_
        refine lv_aload_n hx hb dL_law_1225 rfl (lv_at hl 6 rfl) ?_
        refine lv_iload hx hb dL_law_1226 (lv_at hl 1 rfl) ?_
        refine lv_iconst (v := 1) hx hb dL_law_1228 (by decide) ?_
        refine lv_iadd hx hb dL_law_1229 ?_
        refine tp_i 1 (by decide) ?_
        refine va_sld hx hb hX hbl hbA hS (by unfold vp_in; decide) dL_law_1230 ?_
        refine tp_i x1 e1 ?_
        refine lv_i2c (v := 104) hx hb dL_law_1231 ekc ?_
        refine lv_aload_n hx hb dL_law_1232 rfl (lv_at hl 6 rfl) ?_
        refine lv_iload hx hb dL_law_1233 (lv_at hl 1 rfl) ?_
        refine lv_iconst (v := 2) hx hb dL_law_1235 (by decide) ?_
        refine lv_iadd hx hb dL_law_1236 ?_
        refine tp_i 2 (by decide) ?_
        refine va_sld hx hb hX hbl hbA hS (by unfold vp_in; decide) dL_law_1237 ?_
        refine tp_i x2 e2 ?_
        refine lv_aload_n hx hb dL_law_1238 rfl (lv_at hl 6 rfl) ?_
        refine lv_iload hx hb dL_law_1239 (lv_at hl 1 rfl) ?_
        refine lv_iconst (v := 3) hx hb dL_law_1241 (by decide) ?_
        refine lv_iadd hx hb dL_law_1242 ?_
        refine tp_i 3 (by decide) ?_
        refine va_sld hx hb hX hbl hbA hS (by unfold vp_in; decide) dL_law_1243 ?_
        refine tp_i x3 e3 ?_
        refine ca_i (isC := [4]) (isR := [0, 1, 2, 3, 5, 6]) (wr := [((xa 18), .inr (8, [.ref (xa 19), .ref (xa 20), .ref (xa 21), .int 0, .int 0, .ref (xa 22), .ref (xa 28), .int 0, .int 0])), ((xa 19), .inl (cy 0, 8, .inl (fun _ => 0))), ((xa 20), .inl (cy 1, 8, .inl (fun _ => 0))), ((xa 21), .inl (cy 1, 8, .inl (fun _ => 0))), ((ma 2), .inr (4, [.int 0, .ref (g 0), .int 0])), (aj, .inl (cy 2, 1, .inr (.inl (fun _ => 0))))]) (rn_V (ci := 15) (q0 := 4) (isC := [4]) (wc := [(am, .inr (15, [.int 0, .ref (ma 0), .int 0, .int 0, .int 0, .int 0, .ref (ma 1), .ref (ma 2), .null, .int 1, .int 10, .int 900, .ref (ma 3), .ref (ma 4), .int 0, .int 0, .int 0, .ref (ma 5), .int 1000, .int 50, .int 50, .int 1000, .int 10, .int 0, .int 3000, .int 0, .int 0, .int 0]))]) (As := [.int 104, .int x2, .int x3]) (rest := []) (n := 3) hx hb hml hown hts hE hS hP hD hA hl.1 (k215_X10_addPart l D cy g x2 x3 am (.int 0) (.ref (ma 0)) (.int 0) (.int 0) (.int 0) (.int 0) (.ref (ma 1)) (.ref (ma 2)) (.null) (.int 1) (.int 10) (.int 900) (.ref (ma 3)) (.ref (ma 4)) (.int 0) (.int 0) (.int 0) (.ref (ma 5)) (.int 1000) (.int 50) (.int 50) (.int 1000) (.int 10) (.int 0) (.int 3000) (.int 0) (.int 0) (.int 0) H.size c1 c2) rfl rfl rfl rfl rfl ax_202 rfl rfl ax_203 ⟨Nat.le_of_ble_eq_true rfl, Nat.le_of_ble_eq_true rfl⟩ rfl rfl (Nat.le_of_ble_eq_true rfl) dL_law_1244 ⟨(Nat.le_of_ble_eq_true rfl), (Nat.le_of_ble_eq_true rfl)⟩) hP hD hS hA rfl rfl rfl (by decide) (fun ad1244 H locs hP hD hS => ?_)
        have hP : va_P D vwCl [((xa 18), .inr (8, [.ref (xa 19), .ref (xa 20), .ref (xa 21), .int 0, .int 0, .ref (xa 22), .ref (xa 28), .int 0, .int 0])), ((xa 19), .inl (cy 0, 8, .inl (fun _ => 0))), ((xa 20), .inl (cy 1, 8, .inl (fun _ => 0))), ((xa 21), .inl (cy 1, 8, .inl (fun _ => 0))), ((ma 2), .inr (4, [.int 0, .ref (g 0), .int 0])), (aj, .inl (cy 2, 1, .inr (.inl (fun _ => 0)))), (am, .inr (15, [.int 1, .ref (ma 0), .int 0, .int 0, .int 0, .int 0, .ref (ma 1), .ref (ma 2), .null, .int 1, .int 10, .int 900, .ref (ma 3), .ref (ma 4), .int 0, .int 0, .int 0, .ref (ma 5), .int 1000, .int 50, .int 50, .int 1000, .int 10, .int 0, .int 3000, .int 0, .int 0, .int 0]))] H := hP
        have hD : va_D (AL s) [((xa 18), .inr (8, [.ref (xa 19), .ref (xa 20), .ref (xa 21), .int 0, .int 0, .ref (xa 22), .ref (xa 28), .int 0, .int 0])), ((xa 19), .inl (cy 0, 8, .inl (fun _ => 0))), ((xa 20), .inl (cy 1, 8, .inl (fun _ => 0))), ((xa 21), .inl (cy 1, 8, .inl (fun _ => 0))), ((ma 2), .inr (4, [.int 0, .ref (g 0), .int 0])), (aj, .inl (cy 2, 1, .inr (.inl (fun _ => 0)))), (am, .inr (15, [.int 1, .ref (ma 0), .int 0, .int 0, .int 0, .int 0, .ref (ma 1), .ref (ma 2), .null, .int 1, .int 10, .int 900, .ref (ma 3), .ref (ma 4), .int 0, .int 0, .int 0, .ref (ma 5), .int 1000, .int 50, .int 50, .int 1000, .int 10, .int 0, .int 3000, .int 0, .int 0, .int 0]))] := hD
        refine lv_istore (lv' := [(7, .int (-1)), (6, .int 1), (5, .int 0), (4, .ref ao), (3, .ref aj), (2, .ref am), (1, .ref ax), (0, .ref b)]) hx hb dL_law_1247 hl (Nat.le_of_ble_eq_true rfl) rfl (fun ls hl => ?_)
        refine lv_aload_n hx hb dL_law_1249 rfl (lv_at hl 5 rfl) ?_
        refine ca_i (isC := [6]) (isR := [0, 1, 2, 3, 4, 5]) (wr := [((xa 18), .inr (8, [.ref (xa 19), .ref (xa 20), .ref (xa 21), .int 0, .int 0, .ref (xa 22), .ref (xa 28), .int 0, .int 0])), ((xa 19), .inl (cy 0, 8, .inl (fun _ => 0))), ((xa 20), .inl (cy 1, 8, .inl (fun _ => 0))), ((xa 21), .inl (cy 1, 8, .inl (fun _ => 0))), ((ma 2), .inr (4, [.int 0, .ref (g 0), .int 0])), (aj, .inl (cy 2, 1, .inr (.inl (fun _ => 0))))]) (rn_V (ci := 15) (q0 := 6) (isC := [6]) (wc := [(am, .inr (15, [.int 1, .ref (ma 0), .int 0, .int 0, .int 0, .int 0, .ref (ma 1), .ref (ma 2), .null, .int 1, .int 10, .int 900, .ref (ma 3), .ref (ma 4), .int 0, .int 0, .int 0, .ref (ma 5), .int 1000, .int 50, .int 50, .int 1000, .int 10, .int 0, .int 3000, .int 0, .int 0, .int 0]))]) (As := []) (rest := []) (n := 0) hx hb hml hown hts hE hS hP hD hA hl.1 (k24_X10_thrown l D cy g am (.ref (ma 0)) (.int 0) (.int 0) (.int 0) (.int 0) (.ref (ma 1)) (.ref (ma 2)) (.null) (.int 1) (.int 10) (.int 900) (.ref (ma 3)) (.ref (ma 4)) (.int 0) (.int 0) (.int 0) (.ref (ma 5)) (.int 1000) (.int 50) (.int 50) (.int 1000) (.int 10) (.int 0) (.int 3000) (.int 0) (.int 0) (.int 0) H.size ) rfl rfl rfl rfl rfl ax_45 rfl rfl ax_46 ⟨Nat.le_of_ble_eq_true rfl, Nat.le_of_ble_eq_true rfl⟩ rfl rfl (Nat.le_of_ble_eq_true rfl) dL_law_1250 ⟨(Nat.le_of_ble_eq_true rfl), (Nat.le_of_ble_eq_true rfl)⟩) hP hD hS hA rfl rfl rfl (by decide) (fun ad1250 H locs hP hD hS => ?_)
        have hP : va_P D vwCl [((xa 18), .inr (8, [.ref (xa 19), .ref (xa 20), .ref (xa 21), .int 0, .int 0, .ref (xa 22), .ref (xa 28), .int 0, .int 0])), ((xa 19), .inl (cy 0, 8, .inl (fun _ => 0))), ((xa 20), .inl (cy 1, 8, .inl (fun _ => 0))), ((xa 21), .inl (cy 1, 8, .inl (fun _ => 0))), ((ma 2), .inr (4, [.int 0, .ref (g 0), .int 0])), (aj, .inl (cy 2, 1, .inr (.inl (fun _ => 0)))), (am, .inr (15, [.int 1, .ref (ma 0), .int 0, .int 0, .int 0, .int 0, .ref (ma 1), .ref (ma 2), .null, .int 1, .int 10, .int 900, .ref (ma 3), .ref (ma 4), .int 0, .int 0, .int 0, .ref (ma 5), .int 1000, .int 50, .int 50, .int 1000, .int 10, .int 0, .int 3000, .int 0, .int 0, .int 0]))] H := hP
        have hD : va_D (AL s) [((xa 18), .inr (8, [.ref (xa 19), .ref (xa 20), .ref (xa 21), .int 0, .int 0, .ref (xa 22), .ref (xa 28), .int 0, .int 0])), ((xa 19), .inl (cy 0, 8, .inl (fun _ => 0))), ((xa 20), .inl (cy 1, 8, .inl (fun _ => 0))), ((xa 21), .inl (cy 1, 8, .inl (fun _ => 0))), ((ma 2), .inr (4, [.int 0, .ref (g 0), .int 0])), (aj, .inl (cy 2, 1, .inr (.inl (fun _ => 0)))), (am, .inr (15, [.int 1, .ref (ma 0), .int 0, .int 0, .int 0, .int 0, .ref (ma 1), .ref (ma 2), .null, .int 1, .int 10, .int 900, .ref (ma 3), .ref (ma 4), .int 0, .int 0, .int 0, .ref (ma 5), .int 1000, .int 50, .int 50, .int 1000, .int 10, .int 0, .int 3000, .int 0, .int 0, .int 0]))] := hD
        refine lv_iload hx hb dL_law_1253 (lv_at hl 1 rfl) ?_
        refine lv_icmp_eq (tgt := 1260) hx hb dL_law_1255 (by decide) (fun _ => ?_) (fun z => absurd (by decide) z)
        refine lv_iload hx hb dL_law_1260 (lv_at hl 1 rfl) ?_
        refine lv_if_ne (tgt := 1277) hx hb dL_law_1262 (by decide) (fun _ => ?_) (fun z => absurd z (by decide))
        refine lv_goto (tgt := 2947) hx hb dL_law_1277 (by decide) ?_
        exact law_tail LC hS (Nat.le_of_ble_eq_true rfl) (Nat.le_of_ble_eq_true rfl) (lv_sub hl [2, 7] rfl)
      · refine lv_aload_n hx hb dL_law_1198 rfl (lv_at hl 4 rfl) ?_
        refine lv_aload_n hx hb dL_law_1199 rfl (lv_at hl 5 rfl) ?_
        refine lv_iload hx hb dL_law_1200 (lv_at hl 0 rfl) ?_
        refine lv_iconst (v := 1) hx hb dL_law_1202 (by decide) ?_
        refine lv_iadd hx hb dL_law_1203 ?_
        refine tp_i 1 (by decide) ?_
        refine va_sld hx hb hX hbl hbA hS (by unfold vp_in; decide) dL_law_1204 ?_
        refine tp_i x1 e1 ?_
        refine lv_i2c (v := 104) hx hb dL_law_1205 ekc ?_
        refine lv_aload_n hx hb dL_law_1206 rfl (lv_at hl 5 rfl) ?_
        refine lv_iload hx hb dL_law_1207 (lv_at hl 0 rfl) ?_
        refine lv_iconst (v := 2) hx hb dL_law_1209 (by decide) ?_
        refine lv_iadd hx hb dL_law_1210 ?_
        refine tp_i 2 (by decide) ?_
        refine va_sld hx hb hX hbl hbA hS (by unfold vp_in; decide) dL_law_1211 ?_
        refine tp_i x2 e2 ?_
        refine lv_aload_n hx hb dL_law_1212 rfl (lv_at hl 5 rfl) ?_
        refine lv_iload hx hb dL_law_1213 (lv_at hl 0 rfl) ?_
        refine lv_iconst (v := 3) hx hb dL_law_1215 (by decide) ?_
        refine lv_iadd hx hb dL_law_1216 ?_
        refine tp_i 3 (by decide) ?_
        refine va_sld hx hb hX hbl hbA hS (by unfold vp_in; decide) dL_law_1217 ?_
        refine tp_i x3 e3 ?_
        refine lv_aload_n hx hb dL_law_1218 rfl (lv_at hl 2 rfl) ?_
        refine ca_i (isC := [0, 1, 2, 3, 4, 7]) (isR := [5, 6]) (wr := [(am, .inr (15, [.int 0, .ref (ma 0), .int 0, .int 0, .int 0, .int 0, .ref (ma 1), .ref (ma 2), .null, .int 1, .int 10, .int 900, .ref (ma 3), .ref (ma 4), .int 0, .int 0, .int 0, .ref (ma 5), .int 1000, .int 50, .int 50, .int 1000, .int 10, .int 0, .int 3000, .int 0, .int 0, .int 0])), ((ma 2), .inr (4, [.int 0, .ref (g 0), .int 0]))]) (rn_SW (isC := [0, 1, 2, 3, 4, 7]) (wc := [(ax, .inr (14, [.ref (xa 0), .ref (xa 13), .ref (xa 18), .ref (xa 34), .ref (xa 45), .ref (xa 49), .ref (xa 50)])), ((xa 18), .inr (8, [.ref (xa 19), .ref (xa 20), .ref (xa 21), .int 0, .int 0, .ref (xa 22), .ref (xa 28), .int 0, .int 0])), ((xa 19), .inl (cy 0, 8, .inl (fun _ => 0))), ((xa 20), .inl (cy 1, 8, .inl (fun _ => 0))), ((xa 21), .inl (cy 1, 8, .inl (fun _ => 0))), (aj, .inl (cy 2, 1, .inr (.inl (fun _ => 0))))]) (As := [.ref ax, .int 104, .int x2, .int x3, .ref aj]) (rest := []) (n := 5) hx hb hml hown hts hE hS hP hD hA hl.1 (k220_L_addPart l D cy g x2 x3 ax (xa 18) (xa 19) (xa 20) (xa 21) aj (.ref (xa 0)) (.ref (xa 13)) (.ref (xa 34)) (.ref (xa 45)) (.ref (xa 49)) (.ref (xa 50)) (.int 0) (.ref (xa 22)) (.ref (xa 28)) (.int 0) (.int 0) (fun _ => 0) (fun _ => 0) (fun _ => 0) (fun _ => 0) H.size c1 c2) rfl rfl ax_184 rfl rfl ax_185 ⟨Nat.le_of_ble_eq_true rfl, Nat.le_of_ble_eq_true rfl⟩ rfl rfl (Nat.le_of_ble_eq_true rfl) dL_law_1219 ⟨(Nat.le_of_ble_eq_true rfl), (Nat.le_of_ble_eq_true rfl)⟩) hP hD hS hA rfl rfl rfl (by decide) (fun ad1219 H locs hP hD hS => ?_)
        have hP : va_P D vwCl [(am, .inr (15, [.int 0, .ref (ma 0), .int 0, .int 0, .int 0, .int 0, .ref (ma 1), .ref (ma 2), .null, .int 1, .int 10, .int 900, .ref (ma 3), .ref (ma 4), .int 0, .int 0, .int 0, .ref (ma 5), .int 1000, .int 50, .int 50, .int 1000, .int 10, .int 0, .int 3000, .int 0, .int 0, .int 0])), ((ma 2), .inr (4, [.int 0, .ref (g 0), .int 0])), (aj, .inl (cy 2, 1, .inr (.inl (vp_updL (fun _ => 0) (0 : Int32).toNatClampNeg 1))))] H := hP
        have hD : va_D (AL s) [(am, .inr (15, [.int 0, .ref (ma 0), .int 0, .int 0, .int 0, .int 0, .ref (ma 1), .ref (ma 2), .null, .int 1, .int 10, .int 900, .ref (ma 3), .ref (ma 4), .int 0, .int 0, .int 0, .ref (ma 5), .int 1000, .int 50, .int 50, .int 1000, .int 10, .int 0, .int 3000, .int 0, .int 0, .int 0])), ((ma 2), .inr (4, [.int 0, .ref (g 0), .int 0])), (aj, .inl (cy 2, 1, .inr (.inl (vp_updL (fun _ => 0) (0 : Int32).toNatClampNeg 1))))] := hD
        refine lv_istore (lv' := [(6, .int 0), (5, .int 0), (4, .ref ao), (3, .ref aj), (2, .ref am), (1, .ref ax), (0, .ref b)]) hx hb dL_law_1222 hl (Nat.le_of_ble_eq_true rfl) rfl (fun ls hl => ?_)
        refine lv_aload_n hx hb dL_law_1224 rfl (lv_at hl 4 rfl) ?_
        refine lv_aload_n hx hb dL_law_1225 rfl (lv_at hl 6 rfl) ?_
        refine lv_iload hx hb dL_law_1226 (lv_at hl 1 rfl) ?_
        refine lv_iconst (v := 1) hx hb dL_law_1228 (by decide) ?_
        refine lv_iadd hx hb dL_law_1229 ?_
        refine tp_i 1 (by decide) ?_
        refine va_sld hx hb hX hbl hbA hS (by unfold vp_in; decide) dL_law_1230 ?_
        refine tp_i x1 e1 ?_
        refine lv_i2c (v := 104) hx hb dL_law_1231 ekc ?_
        refine lv_aload_n hx hb dL_law_1232 rfl (lv_at hl 6 rfl) ?_
        refine lv_iload hx hb dL_law_1233 (lv_at hl 1 rfl) ?_
        refine lv_iconst (v := 2) hx hb dL_law_1235 (by decide) ?_
        refine lv_iadd hx hb dL_law_1236 ?_
        refine tp_i 2 (by decide) ?_
        refine va_sld hx hb hX hbl hbA hS (by unfold vp_in; decide) dL_law_1237 ?_
        refine tp_i x2 e2 ?_
        refine lv_aload_n hx hb dL_law_1238 rfl (lv_at hl 6 rfl) ?_
        refine lv_iload hx hb dL_law_1239 (lv_at hl 1 rfl) ?_
        refine lv_iconst (v := 3) hx hb dL_law_1241 (by decide) ?_
        refine lv_iadd hx hb dL_law_1242 ?_
        refine tp_i 3 (by decide) ?_
        refine va_sld hx hb hX hbl hbA hS (by unfold vp_in; decide) dL_law_1243 ?_
        refine tp_i x3 e3 ?_
        refine ca_i (isC := [0, 1]) (isR := [2]) (wr := [(aj, .inl (cy 2, 1, .inr (.inl (vp_updL (fun _ => 0) (0 : Int32).toNatClampNeg 1))))]) (rn_V (ci := 15) (q0 := 0) (isC := [0, 1]) (wc := [(am, .inr (15, [.int 0, .ref (ma 0), .int 0, .int 0, .int 0, .int 0, .ref (ma 1), .ref (ma 2), .null, .int 1, .int 10, .int 900, .ref (ma 3), .ref (ma 4), .int 0, .int 0, .int 0, .ref (ma 5), .int 1000, .int 50, .int 50, .int 1000, .int 10, .int 0, .int 3000, .int 0, .int 0, .int 0])), ((ma 2), .inr (4, [.int 0, .ref (g 0), .int 0]))]) (As := [.int 104, .int x2, .int x3]) (rest := []) (n := 3) hx hb hml hown hts hE hS hP hD hA hl.1 (k223_X10_addPart l D cy g x2 x3 am (ma 2) (.int 0) (.ref (ma 0)) (.int 0) (.int 0) (.int 0) (.int 0) (.ref (ma 1)) (.null) (.int 1) (.int 10) (.int 900) (.ref (ma 3)) (.ref (ma 4)) (.int 0) (.int 0) (.int 0) (.ref (ma 5)) (.int 1000) (.int 50) (.int 50) (.int 1000) (.int 10) (.int 0) (.int 3000) (.int 0) (.int 0) (.int 0) H.size c1 c2) rfl rfl rfl rfl rfl ax_202 rfl rfl ax_203 ⟨Nat.le_of_ble_eq_true rfl, Nat.le_of_ble_eq_true rfl⟩ rfl rfl (Nat.le_of_ble_eq_true rfl) dL_law_1244 ⟨(Nat.le_of_ble_eq_true rfl), (Nat.le_of_ble_eq_true rfl)⟩) hP hD hS hA rfl rfl rfl (by decide) (fun ad1244 H locs hP hD hS => ?_)
        have hP : va_P D vwCl [(aj, .inl (cy 2, 1, .inr (.inl (vp_updL (fun _ => 0) (0 : Int32).toNatClampNeg 1)))), (am, .inr (15, [.int 0, .ref (ma 0), .int 0, .int 0, .int 0, .int 0, .ref (ma 1), .ref (ma 2), .null, .int 1, .int 10, .int 900, .ref (ma 3), .ref (ma 4), .int 0, .int 0, .int 0, .ref (ma 5), .int 1000, .int 50, .int 50, .int 1000, .int 10, .int 0, .int 3000, .int 0, .int 0, .int 0]))] H := hP
        have hD : va_D (AL s) [(aj, .inl (cy 2, 1, .inr (.inl (vp_updL (fun _ => 0) (0 : Int32).toNatClampNeg 1)))), (am, .inr (15, [.int 0, .ref (ma 0), .int 0, .int 0, .int 0, .int 0, .ref (ma 1), .ref (ma 2), .null, .int 1, .int 10, .int 900, .ref (ma 3), .ref (ma 4), .int 0, .int 0, .int 0, .ref (ma 5), .int 1000, .int 50, .int 50, .int 1000, .int 10, .int 0, .int 3000, .int 0, .int 0, .int 0]))] := hD
        refine lv_istore (lv' := [(7, .int 1), (6, .int 0), (5, .int 0), (4, .ref ao), (3, .ref aj), (2, .ref am), (1, .ref ax), (0, .ref b)]) hx hb dL_law_1247 hl (Nat.le_of_ble_eq_true rfl) rfl (fun ls hl => ?_)
        refine lv_aload_n hx hb dL_law_1249 rfl (lv_at hl 5 rfl) ?_
        refine ca_i (isC := [1]) (isR := [0]) (wr := [(aj, .inl (cy 2, 1, .inr (.inl (vp_updL (fun _ => 0) (0 : Int32).toNatClampNeg 1))))]) (rn_V (ci := 15) (q0 := 1) (isC := [1]) (wc := [(am, .inr (15, [.int 0, .ref (ma 0), .int 0, .int 0, .int 0, .int 0, .ref (ma 1), .ref (ma 2), .null, .int 1, .int 10, .int 900, .ref (ma 3), .ref (ma 4), .int 0, .int 0, .int 0, .ref (ma 5), .int 1000, .int 50, .int 50, .int 1000, .int 10, .int 0, .int 3000, .int 0, .int 0, .int 0]))]) (As := []) (rest := []) (n := 0) hx hb hml hown hts hE hS hP hD hA hl.1 (k52_X10_thrown l D cy g am (.ref (ma 0)) (.int 0) (.int 0) (.int 0) (.int 0) (.ref (ma 1)) (.ref (ma 2)) (.null) (.int 1) (.int 10) (.int 900) (.ref (ma 3)) (.ref (ma 4)) (.int 0) (.int 0) (.int 0) (.ref (ma 5)) (.int 1000) (.int 50) (.int 50) (.int 1000) (.int 10) (.int 0) (.int 3000) (.int 0) (.int 0) (.int 0) H.size ) rfl rfl rfl rfl rfl ax_45 rfl rfl ax_46 ⟨Nat.le_of_ble_eq_true rfl, Nat.le_of_ble_eq_true rfl⟩ rfl rfl (Nat.le_of_ble_eq_true rfl) dL_law_1250 ⟨(Nat.le_of_ble_eq_true rfl), (Nat.le_of_ble_eq_true rfl)⟩) hP hD hS hA rfl rfl rfl (by decide) (fun ad1250 H locs hP hD hS => ?_)
        have hP : va_P D vwCl [(aj, .inl (cy 2, 1, .inr (.inl (vp_updL (fun _ => 0) (0 : Int32).toNatClampNeg 1)))), (am, .inr (15, [.int 0, .ref (ma 0), .int 0, .int 0, .int 0, .int 0, .ref (ma 1), .ref (ma 2), .null, .int 1, .int 10, .int 900, .ref (ma 3), .ref (ma 4), .int 0, .int 0, .int 0, .ref (ma 5), .int 1000, .int 50, .int 50, .int 1000, .int 10, .int 0, .int 3000, .int 0, .int 0, .int 0]))] H := hP
        have hD : va_D (AL s) [(aj, .inl (cy 2, 1, .inr (.inl (vp_updL (fun _ => 0) (0 : Int32).toNatClampNeg 1)))), (am, .inr (15, [.int 0, .ref (ma 0), .int 0, .int 0, .int 0, .int 0, .ref (ma 1), .ref (ma 2), .null, .int 1, .int 10, .int 900, .ref (ma 3), .ref (ma 4), .int 0, .int 0, .int 0, .ref (ma 5), .int 1000, .int 50, .int 50, .int 1000, .int 10, .int 0, .int 3000, .int 0, .int 0, .int 0]))] := hD
        refine lv_iload hx hb dL_law_1253 (lv_at hl 1 rfl) ?_
        refine lv_icmp_eq (tgt := 1260) hx hb dL_law_1255 (by decide) (fun _ => ?_) (fun z => absurd (by decide) z)
        refine lv_iload hx hb dL_law_1260 (lv_at hl 1 rfl) ?_
        refine lv_if_ne (tgt := 1277) hx hb dL_law_1262 (by decide) (fun z => absurd (by decide) z) (fun _ => ?_)
        refine lv_aload_n hx hb dL_law_1265 rfl (lv_at hl 4 rfl) ?_
        refine lv_iconst (v := 0) hx hb dL_law_1266 (by decide) ?_
        refine va_lald hx hb hE.1 hP 0 2 rfl rfl (by unfold vp_in; decide) dL_law_1267 ?_
        refine tp_l 1 rfl ?_
        refine lv_iload hx hb dL_law_1268 (lv_at hl 0 rfl) ?_
        refine lv_i2l (v := 1) hx hb dL_law_1270 (by decide) ?_
        refine W.lcmp hx hb dL_law_1271 ?_
        refine tp_i 0 (by decide) ?_
        refine lv_if_eq (tgt := 1277) hx hb dL_law_1272 (by decide) (fun _ => ?_) (fun z => absurd (by decide) z)
        refine lv_goto (tgt := 2947) hx hb dL_law_1277 (by decide) ?_
        exact law_tail LC hS (Nat.le_of_ble_eq_true rfl) (Nat.le_of_ble_eq_true rfl) (lv_sub hl [2, 7] rfl)
  · by_cases c1 : kc = 116
    · subst c1
      by_cases c2 : x2 < 1
      · refine lv_aload_n hx hb dL_law_1198 rfl (lv_at hl 4 rfl) ?_
        refine lv_aload_n hx hb dL_law_1199 rfl (lv_at hl 5 rfl) ?_
        refine lv_iload hx hb dL_law_1200 (lv_at hl 0 rfl) ?_
        refine lv_iconst (v := 1) hx hb dL_law_1202 (by decide) ?_
        refine lv_iadd hx hb dL_law_1203 ?_
        refine tp_i 1 (by decide) ?_
        refine va_sld hx hb hX hbl hbA hS (by unfold vp_in; decide) dL_law_1204 ?_
        refine tp_i x1 e1 ?_
        refine lv_i2c (v := 116) hx hb dL_law_1205 ekc ?_
        refine lv_aload_n hx hb dL_law_1206 rfl (lv_at hl 5 rfl) ?_
        refine lv_iload hx hb dL_law_1207 (lv_at hl 0 rfl) ?_
        refine lv_iconst (v := 2) hx hb dL_law_1209 (by decide) ?_
        refine lv_iadd hx hb dL_law_1210 ?_
        refine tp_i 2 (by decide) ?_
        refine va_sld hx hb hX hbl hbA hS (by unfold vp_in; decide) dL_law_1211 ?_
        refine tp_i x2 e2 ?_
        refine lv_aload_n hx hb dL_law_1212 rfl (lv_at hl 5 rfl) ?_
        refine lv_iload hx hb dL_law_1213 (lv_at hl 0 rfl) ?_
        refine lv_iconst (v := 3) hx hb dL_law_1215 (by decide) ?_
        refine lv_iadd hx hb dL_law_1216 ?_
        refine tp_i 3 (by decide) ?_
        refine va_sld hx hb hX hbl hbA hS (by unfold vp_in; decide) dL_law_1217 ?_
        refine tp_i x3 e3 ?_
        refine lv_aload_n hx hb dL_law_1218 rfl (lv_at hl 2 rfl) ?_
        refine ca_i (isC := [0]) (isR := [1, 2, 3, 4, 5, 6, 7]) (wr := [((xa 18), .inr (8, [.ref (xa 19), .ref (xa 20), .ref (xa 21), .int 0, .int 0, .ref (xa 22), .ref (xa 28), .int 0, .int 0])), ((xa 19), .inl (cy 0, 8, .inl (fun _ => 0))), ((xa 20), .inl (cy 1, 8, .inl (fun _ => 0))), ((xa 21), .inl (cy 1, 8, .inl (fun _ => 0))), (am, .inr (15, [.int 0, .ref (ma 0), .int 0, .int 0, .int 0, .int 0, .ref (ma 1), .ref (ma 2), .null, .int 1, .int 10, .int 900, .ref (ma 3), .ref (ma 4), .int 0, .int 0, .int 0, .ref (ma 5), .int 1000, .int 50, .int 50, .int 1000, .int 10, .int 0, .int 3000, .int 0, .int 0, .int 0])), ((ma 2), .inr (4, [.int 0, .ref (g 0), .int 0])), (aj, .inl (cy 2, 1, .inr (.inl (fun _ => 0))))]) (rn_SW (isC := [0]) (wc := [(ax, .inr (14, [.ref (xa 0), .ref (xa 13), .ref (xa 18), .ref (xa 34), .ref (xa 45), .ref (xa 49), .ref (xa 50)]))]) (As := [.ref ax, .int 116, .int x2, .int x3, .ref aj]) (rest := []) (n := 5) hx hb hml hown hts hE hS hP hD hA hl.1 (k226_L_addPart l hst D cy g x2 x3 ax aj (.ref (xa 0)) (.ref (xa 13)) (.ref (xa 18)) (.ref (xa 34)) (.ref (xa 45)) (.ref (xa 49)) (.ref (xa 50)) H.size c2) rfl rfl ax_184 rfl rfl ax_185 ⟨Nat.le_of_ble_eq_true rfl, Nat.le_of_ble_eq_true rfl⟩ rfl rfl (Nat.le_of_ble_eq_true rfl) dL_law_1219 ⟨(Nat.le_of_ble_eq_true rfl), (Nat.le_of_ble_eq_true rfl)⟩) hP hD hS hA rfl rfl rfl (by decide) (fun ad1219 H locs hP hD hS => ?_)
        have hP : va_P D vwCl [((xa 18), .inr (8, [.ref (xa 19), .ref (xa 20), .ref (xa 21), .int 0, .int 0, .ref (xa 22), .ref (xa 28), .int 0, .int 0])), ((xa 19), .inl (cy 0, 8, .inl (fun _ => 0))), ((xa 20), .inl (cy 1, 8, .inl (fun _ => 0))), ((xa 21), .inl (cy 1, 8, .inl (fun _ => 0))), (am, .inr (15, [.int 0, .ref (ma 0), .int 0, .int 0, .int 0, .int 0, .ref (ma 1), .ref (ma 2), .null, .int 1, .int 10, .int 900, .ref (ma 3), .ref (ma 4), .int 0, .int 0, .int 0, .ref (ma 5), .int 1000, .int 50, .int 50, .int 1000, .int 10, .int 0, .int 3000, .int 0, .int 0, .int 0])), ((ma 2), .inr (4, [.int 0, .ref (g 0), .int 0])), (aj, .inl (cy 2, 1, .inr (.inl (fun _ => 0))))] H := hP
        have hD : va_D (AL s) [((xa 18), .inr (8, [.ref (xa 19), .ref (xa 20), .ref (xa 21), .int 0, .int 0, .ref (xa 22), .ref (xa 28), .int 0, .int 0])), ((xa 19), .inl (cy 0, 8, .inl (fun _ => 0))), ((xa 20), .inl (cy 1, 8, .inl (fun _ => 0))), ((xa 21), .inl (cy 1, 8, .inl (fun _ => 0))), (am, .inr (15, [.int 0, .ref (ma 0), .int 0, .int 0, .int 0, .int 0, .ref (ma 1), .ref (ma 2), .null, .int 1, .int 10, .int 900, .ref (ma 3), .ref (ma 4), .int 0, .int 0, .int 0, .ref (ma 5), .int 1000, .int 50, .int 50, .int 1000, .int 10, .int 0, .int 3000, .int 0, .int 0, .int 0])), ((ma 2), .inr (4, [.int 0, .ref (g 0), .int 0])), (aj, .inl (cy 2, 1, .inr (.inl (fun _ => 0))))] := hD
        refine lv_istore (lv' := [(6, .int 1), (5, .int 0), (4, .ref ao), (3, .ref aj), (2, .ref am), (1, .ref ax), (0, .ref b)]) hx hb dL_law_1222 hl (Nat.le_of_ble_eq_true rfl) rfl (fun ls hl => ?_)
        refine lv_aload_n hx hb dL_law_1224 rfl (lv_at hl 4 rfl) ?_
        refine lv_aload_n hx hb dL_law_1225 rfl (lv_at hl 6 rfl) ?_
        refine lv_iload hx hb dL_law_1226 (lv_at hl 1 rfl) ?_
        refine lv_iconst (v := 1) hx hb dL_law_1228 (by decide) ?_
        refine lv_iadd hx hb dL_law_1229 ?_
        refine tp_i 1 (by decide) ?_
        refine va_sld hx hb hX hbl hbA hS (by unfold vp_in; decide) dL_law_1230 ?_
        refine tp_i x1 e1 ?_
        refine lv_i2c (v := 116) hx hb dL_law_1231 ekc ?_
        refine lv_aload_n hx hb dL_law_1232 rfl (lv_at hl 6 rfl) ?_
        refine lv_iload hx hb dL_law_1233 (lv_at hl 1 rfl) ?_
        refine lv_iconst (v := 2) hx hb dL_law_1235 (by decide) ?_
        refine lv_iadd hx hb dL_law_1236 ?_
        refine tp_i 2 (by decide) ?_
        refine va_sld hx hb hX hbl hbA hS (by unfold vp_in; decide) dL_law_1237 ?_
        refine tp_i x2 e2 ?_
        refine lv_aload_n hx hb dL_law_1238 rfl (lv_at hl 6 rfl) ?_
        refine lv_iload hx hb dL_law_1239 (lv_at hl 1 rfl) ?_
        refine lv_iconst (v := 3) hx hb dL_law_1241 (by decide) ?_
        refine lv_iadd hx hb dL_law_1242 ?_
        refine tp_i 3 (by decide) ?_
        refine va_sld hx hb hX hbl hbA hS (by unfold vp_in; decide) dL_law_1243 ?_
        refine tp_i x3 e3 ?_
        refine ca_i (isC := [4]) (isR := [0, 1, 2, 3, 5, 6]) (wr := [((xa 18), .inr (8, [.ref (xa 19), .ref (xa 20), .ref (xa 21), .int 0, .int 0, .ref (xa 22), .ref (xa 28), .int 0, .int 0])), ((xa 19), .inl (cy 0, 8, .inl (fun _ => 0))), ((xa 20), .inl (cy 1, 8, .inl (fun _ => 0))), ((xa 21), .inl (cy 1, 8, .inl (fun _ => 0))), ((ma 2), .inr (4, [.int 0, .ref (g 0), .int 0])), (aj, .inl (cy 2, 1, .inr (.inl (fun _ => 0))))]) (rn_V (ci := 15) (q0 := 4) (isC := [4]) (wc := [(am, .inr (15, [.int 0, .ref (ma 0), .int 0, .int 0, .int 0, .int 0, .ref (ma 1), .ref (ma 2), .null, .int 1, .int 10, .int 900, .ref (ma 3), .ref (ma 4), .int 0, .int 0, .int 0, .ref (ma 5), .int 1000, .int 50, .int 50, .int 1000, .int 10, .int 0, .int 3000, .int 0, .int 0, .int 0]))]) (As := [.int 116, .int x2, .int x3]) (rest := []) (n := 3) hx hb hml hown hts hE hS hP hD hA hl.1 (k232_X10_addPart l D cy g x2 x3 am (.int 0) (.ref (ma 0)) (.int 0) (.int 0) (.int 0) (.int 0) (.ref (ma 1)) (.ref (ma 2)) (.null) (.int 1) (.int 10) (.int 900) (.ref (ma 3)) (.ref (ma 4)) (.int 0) (.int 0) (.int 0) (.ref (ma 5)) (.int 1000) (.int 50) (.int 50) (.int 1000) (.int 10) (.int 0) (.int 3000) (.int 0) (.int 0) (.int 0) H.size c2) rfl rfl rfl rfl rfl ax_202 rfl rfl ax_203 ⟨Nat.le_of_ble_eq_true rfl, Nat.le_of_ble_eq_true rfl⟩ rfl rfl (Nat.le_of_ble_eq_true rfl) dL_law_1244 ⟨(Nat.le_of_ble_eq_true rfl), (Nat.le_of_ble_eq_true rfl)⟩) hP hD hS hA rfl rfl rfl (by decide) (fun ad1244 H locs hP hD hS => ?_)
        have hP : va_P D vwCl [((xa 18), .inr (8, [.ref (xa 19), .ref (xa 20), .ref (xa 21), .int 0, .int 0, .ref (xa 22), .ref (xa 28), .int 0, .int 0])), ((xa 19), .inl (cy 0, 8, .inl (fun _ => 0))), ((xa 20), .inl (cy 1, 8, .inl (fun _ => 0))), ((xa 21), .inl (cy 1, 8, .inl (fun _ => 0))), ((ma 2), .inr (4, [.int 0, .ref (g 0), .int 0])), (aj, .inl (cy 2, 1, .inr (.inl (fun _ => 0)))), (am, .inr (15, [.int 1, .ref (ma 0), .int 0, .int 0, .int 0, .int 0, .ref (ma 1), .ref (ma 2), .null, .int 1, .int 10, .int 900, .ref (ma 3), .ref (ma 4), .int 0, .int 0, .int 0, .ref (ma 5), .int 1000, .int 50, .int 50, .int 1000, .int 10, .int 0, .int 3000, .int 0, .int 0, .int 0]))] H := hP
        have hD : va_D (AL s) [((xa 18), .inr (8, [.ref (xa 19), .ref (xa 20), .ref (xa 21), .int 0, .int 0, .ref (xa 22), .ref (xa 28), .int 0, .int 0])), ((xa 19), .inl (cy 0, 8, .inl (fun _ => 0))), ((xa 20), .inl (cy 1, 8, .inl (fun _ => 0))), ((xa 21), .inl (cy 1, 8, .inl (fun _ => 0))), ((ma 2), .inr (4, [.int 0, .ref (g 0), .int 0])), (aj, .inl (cy 2, 1, .inr (.inl (fun _ => 0)))), (am, .inr (15, [.int 1, .ref (ma 0), .int 0, .int 0, .int 0, .int 0, .ref (ma 1), .ref (ma 2), .null, .int 1, .int 10, .int 900, .ref (ma 3), .ref (ma 4), .int 0, .int 0, .int 0, .ref (ma 5), .int 1000, .int 50, .int 50, .int 1000, .int 10, .int 0, .int 3000, .int 0, .int 0, .int 0]))] := hD
        refine lv_istore (lv' := [(7, .int (-1)), (6, .int 1), (5, .int 0), (4, .ref ao), (3, .ref aj), (2, .ref am), (1, .ref ax), (0, .ref b)]) hx hb dL_law_1247 hl (Nat.le_of_ble_eq_true rfl) rfl (fun ls hl => ?_)
        refine lv_aload_n hx hb dL_law_1249 rfl (lv_at hl 5 rfl) ?_
        refine ca_i (isC := [6]) (isR := [0, 1, 2, 3, 4, 5]) (wr := [((xa 18), .inr (8, [.ref (xa 19), .ref (xa 20), .ref (xa 21), .int 0, .int 0, .ref (xa 22), .ref (xa 28), .int 0, .int 0])), ((xa 19), .inl (cy 0, 8, .inl (fun _ => 0))), ((xa 20), .inl (cy 1, 8, .inl (fun _ => 0))), ((xa 21), .inl (cy 1, 8, .inl (fun _ => 0))), ((ma 2), .inr (4, [.int 0, .ref (g 0), .int 0])), (aj, .inl (cy 2, 1, .inr (.inl (fun _ => 0))))]) (rn_V (ci := 15) (q0 := 6) (isC := [6]) (wc := [(am, .inr (15, [.int 1, .ref (ma 0), .int 0, .int 0, .int 0, .int 0, .ref (ma 1), .ref (ma 2), .null, .int 1, .int 10, .int 900, .ref (ma 3), .ref (ma 4), .int 0, .int 0, .int 0, .ref (ma 5), .int 1000, .int 50, .int 50, .int 1000, .int 10, .int 0, .int 3000, .int 0, .int 0, .int 0]))]) (As := []) (rest := []) (n := 0) hx hb hml hown hts hE hS hP hD hA hl.1 (k24_X10_thrown l D cy g am (.ref (ma 0)) (.int 0) (.int 0) (.int 0) (.int 0) (.ref (ma 1)) (.ref (ma 2)) (.null) (.int 1) (.int 10) (.int 900) (.ref (ma 3)) (.ref (ma 4)) (.int 0) (.int 0) (.int 0) (.ref (ma 5)) (.int 1000) (.int 50) (.int 50) (.int 1000) (.int 10) (.int 0) (.int 3000) (.int 0) (.int 0) (.int 0) H.size ) rfl rfl rfl rfl rfl ax_45 rfl rfl ax_46 ⟨Nat.le_of_ble_eq_true rfl, Nat.le_of_ble_eq_true rfl⟩ rfl rfl (Nat.le_of_ble_eq_true rfl) dL_law_1250 ⟨(Nat.le_of_ble_eq_true rfl), (Nat.le_of_ble_eq_true rfl)⟩) hP hD hS hA rfl rfl rfl (by decide) (fun ad1250 H locs hP hD hS => ?_)
        have hP : va_P D vwCl [((xa 18), .inr (8, [.ref (xa 19), .ref (xa 20), .ref (xa 21), .int 0, .int 0, .ref (xa 22), .ref (xa 28), .int 0, .int 0])), ((xa 19), .inl (cy 0, 8, .inl (fun _ => 0))), ((xa 20), .inl (cy 1, 8, .inl (fun _ => 0))), ((xa 21), .inl (cy 1, 8, .inl (fun _ => 0))), ((ma 2), .inr (4, [.int 0, .ref (g 0), .int 0])), (aj, .inl (cy 2, 1, .inr (.inl (fun _ => 0)))), (am, .inr (15, [.int 1, .ref (ma 0), .int 0, .int 0, .int 0, .int 0, .ref (ma 1), .ref (ma 2), .null, .int 1, .int 10, .int 900, .ref (ma 3), .ref (ma 4), .int 0, .int 0, .int 0, .ref (ma 5), .int 1000, .int 50, .int 50, .int 1000, .int 10, .int 0, .int 3000, .int 0, .int 0, .int 0]))] H := hP
        have hD : va_D (AL s) [((xa 18), .inr (8, [.ref (xa 19), .ref (xa 20), .ref (xa 21), .int 0, .int 0, .ref (xa 22), .ref (xa 28), .int 0, .int 0])), ((xa 19), .inl (cy 0, 8, .inl (fun _ => 0))), ((xa 20), .inl (cy 1, 8, .inl (fun _ => 0))), ((xa 21), .inl (cy 1, 8, .inl (fun _ => 0))), ((ma 2), .inr (4, [.int 0, .ref (g 0), .int 0])), (aj, .inl (cy 2, 1, .inr (.inl (fun _ => 0)))), (am, .inr (15, [.int 1, .ref (ma 0), .int 0, .int 0, .int 0, .int 0, .ref (ma 1), .ref (ma 2), .null, .int 1, .int 10, .int 900, .ref (ma 3), .ref (ma 4), .int 0, .int 0, .int 0, .ref (ma 5), .int 1000, .int 50, .int 50, .int 1000, .int 10, .int 0, .int 3000, .int 0, .int 0, .int 0]))] := hD
        refine lv_iload hx hb dL_law_1253 (lv_at hl 1 rfl) ?_
        refine lv_icmp_eq (tgt := 1260) hx hb dL_law_1255 (by decide) (fun _ => ?_) (fun z => absurd (by decide) z)
        refine lv_iload hx hb dL_law_1260 (lv_at hl 1 rfl) ?_
        refine lv_if_ne (tgt := 1277) hx hb dL_law_1262 (by decide) (fun _ => ?_) (fun z => absurd z (by decide))
        refine lv_goto (tgt := 2947) hx hb dL_law_1277 (by decide) ?_
        exact law_tail LC hS (Nat.le_of_ble_eq_true rfl) (Nat.le_of_ble_eq_true rfl) (lv_sub hl [2, 7] rfl)
      · by_cases c3 : (1000 : Int32) < x2
        · refine lv_aload_n hx hb dL_law_1198 rfl (lv_at hl 4 rfl) ?_
          refine lv_aload_n hx hb dL_law_1199 rfl (lv_at hl 5 rfl) ?_
          refine lv_iload hx hb dL_law_1200 (lv_at hl 0 rfl) ?_
          refine lv_iconst (v := 1) hx hb dL_law_1202 (by decide) ?_
          refine lv_iadd hx hb dL_law_1203 ?_
          refine tp_i 1 (by decide) ?_
          refine va_sld hx hb hX hbl hbA hS (by unfold vp_in; decide) dL_law_1204 ?_
          refine tp_i x1 e1 ?_
          refine lv_i2c (v := 116) hx hb dL_law_1205 ekc ?_
          refine lv_aload_n hx hb dL_law_1206 rfl (lv_at hl 5 rfl) ?_
          refine lv_iload hx hb dL_law_1207 (lv_at hl 0 rfl) ?_
          refine lv_iconst (v := 2) hx hb dL_law_1209 (by decide) ?_
          refine lv_iadd hx hb dL_law_1210 ?_
          refine tp_i 2 (by decide) ?_
          refine va_sld hx hb hX hbl hbA hS (by unfold vp_in; decide) dL_law_1211 ?_
          refine tp_i x2 e2 ?_
          refine lv_aload_n hx hb dL_law_1212 rfl (lv_at hl 5 rfl) ?_
          refine lv_iload hx hb dL_law_1213 (lv_at hl 0 rfl) ?_
          refine lv_iconst (v := 3) hx hb dL_law_1215 (by decide) ?_
          refine lv_iadd hx hb dL_law_1216 ?_
          refine tp_i 3 (by decide) ?_
          refine va_sld hx hb hX hbl hbA hS (by unfold vp_in; decide) dL_law_1217 ?_
          refine tp_i x3 e3 ?_
          refine lv_aload_n hx hb dL_law_1218 rfl (lv_at hl 2 rfl) ?_
          refine ca_i (isC := [0]) (isR := [1, 2, 3, 4, 5, 6, 7]) (wr := [((xa 18), .inr (8, [.ref (xa 19), .ref (xa 20), .ref (xa 21), .int 0, .int 0, .ref (xa 22), .ref (xa 28), .int 0, .int 0])), ((xa 19), .inl (cy 0, 8, .inl (fun _ => 0))), ((xa 20), .inl (cy 1, 8, .inl (fun _ => 0))), ((xa 21), .inl (cy 1, 8, .inl (fun _ => 0))), (am, .inr (15, [.int 0, .ref (ma 0), .int 0, .int 0, .int 0, .int 0, .ref (ma 1), .ref (ma 2), .null, .int 1, .int 10, .int 900, .ref (ma 3), .ref (ma 4), .int 0, .int 0, .int 0, .ref (ma 5), .int 1000, .int 50, .int 50, .int 1000, .int 10, .int 0, .int 3000, .int 0, .int 0, .int 0])), ((ma 2), .inr (4, [.int 0, .ref (g 0), .int 0])), (aj, .inl (cy 2, 1, .inr (.inl (fun _ => 0))))]) (rn_SW (isC := [0]) (wc := [(ax, .inr (14, [.ref (xa 0), .ref (xa 13), .ref (xa 18), .ref (xa 34), .ref (xa 45), .ref (xa 49), .ref (xa 50)]))]) (As := [.ref ax, .int 116, .int x2, .int x3, .ref aj]) (rest := []) (n := 5) hx hb hml hown hts hE hS hP hD hA hl.1 (k235_L_addPart l hst D cy g x2 x3 ax aj (.ref (xa 0)) (.ref (xa 13)) (.ref (xa 18)) (.ref (xa 34)) (.ref (xa 45)) (.ref (xa 49)) (.ref (xa 50)) H.size c2 c3) rfl rfl ax_184 rfl rfl ax_185 ⟨Nat.le_of_ble_eq_true rfl, Nat.le_of_ble_eq_true rfl⟩ rfl rfl (Nat.le_of_ble_eq_true rfl) dL_law_1219 ⟨(Nat.le_of_ble_eq_true rfl), (Nat.le_of_ble_eq_true rfl)⟩) hP hD hS hA rfl rfl rfl (by decide) (fun ad1219 H locs hP hD hS => ?_)
          have hP : va_P D vwCl [((xa 18), .inr (8, [.ref (xa 19), .ref (xa 20), .ref (xa 21), .int 0, .int 0, .ref (xa 22), .ref (xa 28), .int 0, .int 0])), ((xa 19), .inl (cy 0, 8, .inl (fun _ => 0))), ((xa 20), .inl (cy 1, 8, .inl (fun _ => 0))), ((xa 21), .inl (cy 1, 8, .inl (fun _ => 0))), (am, .inr (15, [.int 0, .ref (ma 0), .int 0, .int 0, .int 0, .int 0, .ref (ma 1), .ref (ma 2), .null, .int 1, .int 10, .int 900, .ref (ma 3), .ref (ma 4), .int 0, .int 0, .int 0, .ref (ma 5), .int 1000, .int 50, .int 50, .int 1000, .int 10, .int 0, .int 3000, .int 0, .int 0, .int 0])), ((ma 2), .inr (4, [.int 0, .ref (g 0), .int 0])), (aj, .inl (cy 2, 1, .inr (.inl (fun _ => 0))))] H := hP
          have hD : va_D (AL s) [((xa 18), .inr (8, [.ref (xa 19), .ref (xa 20), .ref (xa 21), .int 0, .int 0, .ref (xa 22), .ref (xa 28), .int 0, .int 0])), ((xa 19), .inl (cy 0, 8, .inl (fun _ => 0))), ((xa 20), .inl (cy 1, 8, .inl (fun _ => 0))), ((xa 21), .inl (cy 1, 8, .inl (fun _ => 0))), (am, .inr (15, [.int 0, .ref (ma 0), .int 0, .int 0, .int 0, .int 0, .ref (ma 1), .ref (ma 2), .null, .int 1, .int 10, .int 900, .ref (ma 3), .ref (ma 4), .int 0, .int 0, .int 0, .ref (ma 5), .int 1000, .int 50, .int 50, .int 1000, .int 10, .int 0, .int 3000, .int 0, .int 0, .int 0])), ((ma 2), .inr (4, [.int 0, .ref (g 0), .int 0])), (aj, .inl (cy 2, 1, .inr (.inl (fun _ => 0))))] := hD
          refine lv_istore (lv' := [(6, .int 1), (5, .int 0), (4, .ref ao), (3, .ref aj), (2, .ref am), (1, .ref ax), (0, .ref b)]) hx hb dL_law_1222 hl (Nat.le_of_ble_eq_true rfl) rfl (fun ls hl => ?_)
          refine lv_aload_n hx hb dL_law_1224 rfl (lv_at hl 4 rfl) ?_
          refine lv_aload_n hx hb dL_law_1225 rfl (lv_at hl 6 rfl) ?_
          refine lv_iload hx hb dL_law_1226 (lv_at hl 1 rfl) ?_
          refine lv_iconst (v := 1) hx hb dL_law_1228 (by decide) ?_
          refine lv_iadd hx hb dL_law_1229 ?_
          refine tp_i 1 (by decide) ?_
          refine va_sld hx hb hX hbl hbA hS (by unfold vp_in; decide) dL_law_1230 ?_
          refine tp_i x1 e1 ?_
          refine lv_i2c (v := 116) hx hb dL_law_1231 ekc ?_
          refine lv_aload_n hx hb dL_law_1232 rfl (lv_at hl 6 rfl) ?_
          refine lv_iload hx hb dL_law_1233 (lv_at hl 1 rfl) ?_
          refine lv_iconst (v := 2) hx hb dL_law_1235 (by decide) ?_
          refine lv_iadd hx hb dL_law_1236 ?_
          refine tp_i 2 (by decide) ?_
          refine va_sld hx hb hX hbl hbA hS (by unfold vp_in; decide) dL_law_1237 ?_
          refine tp_i x2 e2 ?_
          refine lv_aload_n hx hb dL_law_1238 rfl (lv_at hl 6 rfl) ?_
          refine lv_iload hx hb dL_law_1239 (lv_at hl 1 rfl) ?_
          refine lv_iconst (v := 3) hx hb dL_law_1241 (by decide) ?_
          refine lv_iadd hx hb dL_law_1242 ?_
          refine tp_i 3 (by decide) ?_
          refine va_sld hx hb hX hbl hbA hS (by unfold vp_in; decide) dL_law_1243 ?_
          refine tp_i x3 e3 ?_
          refine ca_i (isC := [4]) (isR := [0, 1, 2, 3, 5, 6]) (wr := [((xa 18), .inr (8, [.ref (xa 19), .ref (xa 20), .ref (xa 21), .int 0, .int 0, .ref (xa 22), .ref (xa 28), .int 0, .int 0])), ((xa 19), .inl (cy 0, 8, .inl (fun _ => 0))), ((xa 20), .inl (cy 1, 8, .inl (fun _ => 0))), ((xa 21), .inl (cy 1, 8, .inl (fun _ => 0))), ((ma 2), .inr (4, [.int 0, .ref (g 0), .int 0])), (aj, .inl (cy 2, 1, .inr (.inl (fun _ => 0))))]) (rn_V (ci := 15) (q0 := 4) (isC := [4]) (wc := [(am, .inr (15, [.int 0, .ref (ma 0), .int 0, .int 0, .int 0, .int 0, .ref (ma 1), .ref (ma 2), .null, .int 1, .int 10, .int 900, .ref (ma 3), .ref (ma 4), .int 0, .int 0, .int 0, .ref (ma 5), .int 1000, .int 50, .int 50, .int 1000, .int 10, .int 0, .int 3000, .int 0, .int 0, .int 0]))]) (As := [.int 116, .int x2, .int x3]) (rest := []) (n := 3) hx hb hml hown hts hE hS hP hD hA hl.1 (k236_X10_addPart l D cy g x2 x3 am (.int 0) (.ref (ma 0)) (.int 0) (.int 0) (.int 0) (.int 0) (.ref (ma 1)) (.ref (ma 2)) (.null) (.int 1) (.int 10) (.int 900) (.ref (ma 3)) (.ref (ma 4)) (.int 0) (.int 0) (.int 0) (.ref (ma 5)) (.int 1000) (.int 50) (.int 50) (.int 1000) (.int 10) (.int 0) (.int 3000) (.int 0) (.int 0) (.int 0) H.size c2 c3) rfl rfl rfl rfl rfl ax_202 rfl rfl ax_203 ⟨Nat.le_of_ble_eq_true rfl, Nat.le_of_ble_eq_true rfl⟩ rfl rfl (Nat.le_of_ble_eq_true rfl) dL_law_1244 ⟨(Nat.le_of_ble_eq_true rfl), (Nat.le_of_ble_eq_true rfl)⟩) hP hD hS hA rfl rfl rfl (by decide) (fun ad1244 H locs hP hD hS => ?_)
          have hP : va_P D vwCl [((xa 18), .inr (8, [.ref (xa 19), .ref (xa 20), .ref (xa 21), .int 0, .int 0, .ref (xa 22), .ref (xa 28), .int 0, .int 0])), ((xa 19), .inl (cy 0, 8, .inl (fun _ => 0))), ((xa 20), .inl (cy 1, 8, .inl (fun _ => 0))), ((xa 21), .inl (cy 1, 8, .inl (fun _ => 0))), ((ma 2), .inr (4, [.int 0, .ref (g 0), .int 0])), (aj, .inl (cy 2, 1, .inr (.inl (fun _ => 0)))), (am, .inr (15, [.int 1, .ref (ma 0), .int 0, .int 0, .int 0, .int 0, .ref (ma 1), .ref (ma 2), .null, .int 1, .int 10, .int 900, .ref (ma 3), .ref (ma 4), .int 0, .int 0, .int 0, .ref (ma 5), .int 1000, .int 50, .int 50, .int 1000, .int 10, .int 0, .int 3000, .int 0, .int 0, .int 0]))] H := hP
          have hD : va_D (AL s) [((xa 18), .inr (8, [.ref (xa 19), .ref (xa 20), .ref (xa 21), .int 0, .int 0, .ref (xa 22), .ref (xa 28), .int 0, .int 0])), ((xa 19), .inl (cy 0, 8, .inl (fun _ => 0))), ((xa 20), .inl (cy 1, 8, .inl (fun _ => 0))), ((xa 21), .inl (cy 1, 8, .inl (fun _ => 0))), ((ma 2), .inr (4, [.int 0, .ref (g 0), .int 0])), (aj, .inl (cy 2, 1, .inr (.inl (fun _ => 0)))), (am, .inr (15, [.int 1, .ref (ma 0), .int 0, .int 0, .int 0, .int 0, .ref (ma 1), .ref (ma 2), .null, .int 1, .int 10, .int 900, .ref (ma 3), .ref (ma 4), .int 0, .int 0, .int 0, .ref (ma 5), .int 1000, .int 50, .int 50, .int 1000, .int 10, .int 0, .int 3000, .int 0, .int 0, .int 0]))] := hD
          refine lv_istore (lv' := [(7, .int (-1)), (6, .int 1), (5, .int 0), (4, .ref ao), (3, .ref aj), (2, .ref am), (1, .ref ax), (0, .ref b)]) hx hb dL_law_1247 hl (Nat.le_of_ble_eq_true rfl) rfl (fun ls hl => ?_)
          refine lv_aload_n hx hb dL_law_1249 rfl (lv_at hl 5 rfl) ?_
          refine ca_i (isC := [6]) (isR := [0, 1, 2, 3, 4, 5]) (wr := [((xa 18), .inr (8, [.ref (xa 19), .ref (xa 20), .ref (xa 21), .int 0, .int 0, .ref (xa 22), .ref (xa 28), .int 0, .int 0])), ((xa 19), .inl (cy 0, 8, .inl (fun _ => 0))), ((xa 20), .inl (cy 1, 8, .inl (fun _ => 0))), ((xa 21), .inl (cy 1, 8, .inl (fun _ => 0))), ((ma 2), .inr (4, [.int 0, .ref (g 0), .int 0])), (aj, .inl (cy 2, 1, .inr (.inl (fun _ => 0))))]) (rn_V (ci := 15) (q0 := 6) (isC := [6]) (wc := [(am, .inr (15, [.int 1, .ref (ma 0), .int 0, .int 0, .int 0, .int 0, .ref (ma 1), .ref (ma 2), .null, .int 1, .int 10, .int 900, .ref (ma 3), .ref (ma 4), .int 0, .int 0, .int 0, .ref (ma 5), .int 1000, .int 50, .int 50, .int 1000, .int 10, .int 0, .int 3000, .int 0, .int 0, .int 0]))]) (As := []) (rest := []) (n := 0) hx hb hml hown hts hE hS hP hD hA hl.1 (k24_X10_thrown l D cy g am (.ref (ma 0)) (.int 0) (.int 0) (.int 0) (.int 0) (.ref (ma 1)) (.ref (ma 2)) (.null) (.int 1) (.int 10) (.int 900) (.ref (ma 3)) (.ref (ma 4)) (.int 0) (.int 0) (.int 0) (.ref (ma 5)) (.int 1000) (.int 50) (.int 50) (.int 1000) (.int 10) (.int 0) (.int 3000) (.int 0) (.int 0) (.int 0) H.size ) rfl rfl rfl rfl rfl ax_45 rfl rfl ax_46 ⟨Nat.le_of_ble_eq_true rfl, Nat.le_of_ble_eq_true rfl⟩ rfl rfl (Nat.le_of_ble_eq_true rfl) dL_law_1250 ⟨(Nat.le_of_ble_eq_true rfl), (Nat.le_of_ble_eq_true rfl)⟩) hP hD hS hA rfl rfl rfl (by decide) (fun ad1250 H locs hP hD hS => ?_)
          have hP : va_P D vwCl [((xa 18), .inr (8, [.ref (xa 19), .ref (xa 20), .ref (xa 21), .int 0, .int 0, .ref (xa 22), .ref (xa 28), .int 0, .int 0])), ((xa 19), .inl (cy 0, 8, .inl (fun _ => 0))), ((xa 20), .inl (cy 1, 8, .inl (fun _ => 0))), ((xa 21), .inl (cy 1, 8, .inl (fun _ => 0))), ((ma 2), .inr (4, [.int 0, .ref (g 0), .int 0])), (aj, .inl (cy 2, 1, .inr (.inl (fun _ => 0)))), (am, .inr (15, [.int 1, .ref (ma 0), .int 0, .int 0, .int 0, .int 0, .ref (ma 1), .ref (ma 2), .null, .int 1, .int 10, .int 900, .ref (ma 3), .ref (ma 4), .int 0, .int 0, .int 0, .ref (ma 5), .int 1000, .int 50, .int 50, .int 1000, .int 10, .int 0, .int 3000, .int 0, .int 0, .int 0]))] H := hP
          have hD : va_D (AL s) [((xa 18), .inr (8, [.ref (xa 19), .ref (xa 20), .ref (xa 21), .int 0, .int 0, .ref (xa 22), .ref (xa 28), .int 0, .int 0])), ((xa 19), .inl (cy 0, 8, .inl (fun _ => 0))), ((xa 20), .inl (cy 1, 8, .inl (fun _ => 0))), ((xa 21), .inl (cy 1, 8, .inl (fun _ => 0))), ((ma 2), .inr (4, [.int 0, .ref (g 0), .int 0])), (aj, .inl (cy 2, 1, .inr (.inl (fun _ => 0)))), (am, .inr (15, [.int 1, .ref (ma 0), .int 0, .int 0, .int 0, .int 0, .ref (ma 1), .ref (ma 2), .null, .int 1, .int 10, .int 900, .ref (ma 3), .ref (ma 4), .int 0, .int 0, .int 0, .ref (ma 5), .int 1000, .int 50, .int 50, .int 1000, .int 10, .int 0, .int 3000, .int 0, .int 0, .int 0]))] := hD
          refine lv_iload hx hb dL_law_1253 (lv_at hl 1 rfl) ?_
          refine lv_icmp_eq (tgt := 1260) hx hb dL_law_1255 (by decide) (fun _ => ?_) (fun z => absurd (by decide) z)
          refine lv_iload hx hb dL_law_1260 (lv_at hl 1 rfl) ?_
          refine lv_if_ne (tgt := 1277) hx hb dL_law_1262 (by decide) (fun _ => ?_) (fun z => absurd z (by decide))
          refine lv_goto (tgt := 2947) hx hb dL_law_1277 (by decide) ?_
          exact law_tail LC hS (Nat.le_of_ble_eq_true rfl) (Nat.le_of_ble_eq_true rfl) (lv_sub hl [2, 7] rfl)
        · by_cases c4 : x3 < 0
          · refine lv_aload_n hx hb dL_law_1198 rfl (lv_at hl 4 rfl) ?_
            refine lv_aload_n hx hb dL_law_1199 rfl (lv_at hl 5 rfl) ?_
            refine lv_iload hx hb dL_law_1200 (lv_at hl 0 rfl) ?_
            refine lv_iconst (v := 1) hx hb dL_law_1202 (by decide) ?_
            refine lv_iadd hx hb dL_law_1203 ?_
            refine tp_i 1 (by decide) ?_
            refine va_sld hx hb hX hbl hbA hS (by unfold vp_in; decide) dL_law_1204 ?_
            refine tp_i x1 e1 ?_
            refine lv_i2c (v := 116) hx hb dL_law_1205 ekc ?_
            refine lv_aload_n hx hb dL_law_1206 rfl (lv_at hl 5 rfl) ?_
            refine lv_iload hx hb dL_law_1207 (lv_at hl 0 rfl) ?_
            refine lv_iconst (v := 2) hx hb dL_law_1209 (by decide) ?_
            refine lv_iadd hx hb dL_law_1210 ?_
            refine tp_i 2 (by decide) ?_
            refine va_sld hx hb hX hbl hbA hS (by unfold vp_in; decide) dL_law_1211 ?_
            refine tp_i x2 e2 ?_
            refine lv_aload_n hx hb dL_law_1212 rfl (lv_at hl 5 rfl) ?_
            refine lv_iload hx hb dL_law_1213 (lv_at hl 0 rfl) ?_
            refine lv_iconst (v := 3) hx hb dL_law_1215 (by decide) ?_
            refine lv_iadd hx hb dL_law_1216 ?_
            refine tp_i 3 (by decide) ?_
            refine va_sld hx hb hX hbl hbA hS (by unfold vp_in; decide) dL_law_1217 ?_
            refine tp_i x3 e3 ?_
            refine lv_aload_n hx hb dL_law_1218 rfl (lv_at hl 2 rfl) ?_
            refine ca_i (isC := [0]) (isR := [1, 2, 3, 4, 5, 6, 7]) (wr := [((xa 18), .inr (8, [.ref (xa 19), .ref (xa 20), .ref (xa 21), .int 0, .int 0, .ref (xa 22), .ref (xa 28), .int 0, .int 0])), ((xa 19), .inl (cy 0, 8, .inl (fun _ => 0))), ((xa 20), .inl (cy 1, 8, .inl (fun _ => 0))), ((xa 21), .inl (cy 1, 8, .inl (fun _ => 0))), (am, .inr (15, [.int 0, .ref (ma 0), .int 0, .int 0, .int 0, .int 0, .ref (ma 1), .ref (ma 2), .null, .int 1, .int 10, .int 900, .ref (ma 3), .ref (ma 4), .int 0, .int 0, .int 0, .ref (ma 5), .int 1000, .int 50, .int 50, .int 1000, .int 10, .int 0, .int 3000, .int 0, .int 0, .int 0])), ((ma 2), .inr (4, [.int 0, .ref (g 0), .int 0])), (aj, .inl (cy 2, 1, .inr (.inl (fun _ => 0))))]) (rn_SW (isC := [0]) (wc := [(ax, .inr (14, [.ref (xa 0), .ref (xa 13), .ref (xa 18), .ref (xa 34), .ref (xa 45), .ref (xa 49), .ref (xa 50)]))]) (As := [.ref ax, .int 116, .int x2, .int x3, .ref aj]) (rest := []) (n := 5) hx hb hml hown hts hE hS hP hD hA hl.1 (k239_L_addPart l hst D cy g x2 x3 ax aj (.ref (xa 0)) (.ref (xa 13)) (.ref (xa 18)) (.ref (xa 34)) (.ref (xa 45)) (.ref (xa 49)) (.ref (xa 50)) H.size c2 c3 c4) rfl rfl ax_184 rfl rfl ax_185 ⟨Nat.le_of_ble_eq_true rfl, Nat.le_of_ble_eq_true rfl⟩ rfl rfl (Nat.le_of_ble_eq_true rfl) dL_law_1219 ⟨(Nat.le_of_ble_eq_true rfl), (Nat.le_of_ble_eq_true rfl)⟩) hP hD hS hA rfl rfl rfl (by decide) (fun ad1219 H locs hP hD hS => ?_)
            have hP : va_P D vwCl [((xa 18), .inr (8, [.ref (xa 19), .ref (xa 20), .ref (xa 21), .int 0, .int 0, .ref (xa 22), .ref (xa 28), .int 0, .int 0])), ((xa 19), .inl (cy 0, 8, .inl (fun _ => 0))), ((xa 20), .inl (cy 1, 8, .inl (fun _ => 0))), ((xa 21), .inl (cy 1, 8, .inl (fun _ => 0))), (am, .inr (15, [.int 0, .ref (ma 0), .int 0, .int 0, .int 0, .int 0, .ref (ma 1), .ref (ma 2), .null, .int 1, .int 10, .int 900, .ref (ma 3), .ref (ma 4), .int 0, .int 0, .int 0, .ref (ma 5), .int 1000, .int 50, .int 50, .int 1000, .int 10, .int 0, .int 3000, .int 0, .int 0, .int 0])), ((ma 2), .inr (4, [.int 0, .ref (g 0), .int 0])), (aj, .inl (cy 2, 1, .inr (.inl (fun _ => 0))))] H := hP
            have hD : va_D (AL s) [((xa 18), .inr (8, [.ref (xa 19), .ref (xa 20), .ref (xa 21), .int 0, .int 0, .ref (xa 22), .ref (xa 28), .int 0, .int 0])), ((xa 19), .inl (cy 0, 8, .inl (fun _ => 0))), ((xa 20), .inl (cy 1, 8, .inl (fun _ => 0))), ((xa 21), .inl (cy 1, 8, .inl (fun _ => 0))), (am, .inr (15, [.int 0, .ref (ma 0), .int 0, .int 0, .int 0, .int 0, .ref (ma 1), .ref (ma 2), .null, .int 1, .int 10, .int 900, .ref (ma 3), .ref (ma 4), .int 0, .int 0, .int 0, .ref (ma 5), .int 1000, .int 50, .int 50, .int 1000, .int 10, .int 0, .int 3000, .int 0, .int 0, .int 0])), ((ma 2), .inr (4, [.int 0, .ref (g 0), .int 0])), (aj, .inl (cy 2, 1, .inr (.inl (fun _ => 0))))] := hD
            refine lv_istore (lv' := [(6, .int 1), (5, .int 0), (4, .ref ao), (3, .ref aj), (2, .ref am), (1, .ref ax), (0, .ref b)]) hx hb dL_law_1222 hl (Nat.le_of_ble_eq_true rfl) rfl (fun ls hl => ?_)
            refine lv_aload_n hx hb dL_law_1224 rfl (lv_at hl 4 rfl) ?_
            refine lv_aload_n hx hb dL_law_1225 rfl (lv_at hl 6 rfl) ?_
            refine lv_iload hx hb dL_law_1226 (lv_at hl 1 rfl) ?_
            refine lv_iconst (v := 1) hx hb dL_law_1228 (by decide) ?_
            refine lv_iadd hx hb dL_law_1229 ?_
            refine tp_i 1 (by decide) ?_
            refine va_sld hx hb hX hbl hbA hS (by unfold vp_in; decide) dL_law_1230 ?_
            refine tp_i x1 e1 ?_
            refine lv_i2c (v := 116) hx hb dL_law_1231 ekc ?_
            refine lv_aload_n hx hb dL_law_1232 rfl (lv_at hl 6 rfl) ?_
            refine lv_iload hx hb dL_law_1233 (lv_at hl 1 rfl) ?_
            refine lv_iconst (v := 2) hx hb dL_law_1235 (by decide) ?_
            refine lv_iadd hx hb dL_law_1236 ?_
            refine tp_i 2 (by decide) ?_
            refine va_sld hx hb hX hbl hbA hS (by unfold vp_in; decide) dL_law_1237 ?_
            refine tp_i x2 e2 ?_
            refine lv_aload_n hx hb dL_law_1238 rfl (lv_at hl 6 rfl) ?_
            refine lv_iload hx hb dL_law_1239 (lv_at hl 1 rfl) ?_
            refine lv_iconst (v := 3) hx hb dL_law_1241 (by decide) ?_
            refine lv_iadd hx hb dL_law_1242 ?_
            refine tp_i 3 (by decide) ?_
            refine va_sld hx hb hX hbl hbA hS (by unfold vp_in; decide) dL_law_1243 ?_
            refine tp_i x3 e3 ?_
            refine ca_i (isC := [4]) (isR := [0, 1, 2, 3, 5, 6]) (wr := [((xa 18), .inr (8, [.ref (xa 19), .ref (xa 20), .ref (xa 21), .int 0, .int 0, .ref (xa 22), .ref (xa 28), .int 0, .int 0])), ((xa 19), .inl (cy 0, 8, .inl (fun _ => 0))), ((xa 20), .inl (cy 1, 8, .inl (fun _ => 0))), ((xa 21), .inl (cy 1, 8, .inl (fun _ => 0))), ((ma 2), .inr (4, [.int 0, .ref (g 0), .int 0])), (aj, .inl (cy 2, 1, .inr (.inl (fun _ => 0))))]) (rn_V (ci := 15) (q0 := 4) (isC := [4]) (wc := [(am, .inr (15, [.int 0, .ref (ma 0), .int 0, .int 0, .int 0, .int 0, .ref (ma 1), .ref (ma 2), .null, .int 1, .int 10, .int 900, .ref (ma 3), .ref (ma 4), .int 0, .int 0, .int 0, .ref (ma 5), .int 1000, .int 50, .int 50, .int 1000, .int 10, .int 0, .int 3000, .int 0, .int 0, .int 0]))]) (As := [.int 116, .int x2, .int x3]) (rest := []) (n := 3) hx hb hml hown hts hE hS hP hD hA hl.1 (k240_X10_addPart l D cy g x2 x3 am (.int 0) (.ref (ma 0)) (.int 0) (.int 0) (.int 0) (.int 0) (.ref (ma 1)) (.ref (ma 2)) (.null) (.int 1) (.int 10) (.int 900) (.ref (ma 3)) (.ref (ma 4)) (.int 0) (.int 0) (.int 0) (.ref (ma 5)) (.int 1000) (.int 50) (.int 50) (.int 1000) (.int 10) (.int 0) (.int 3000) (.int 0) (.int 0) (.int 0) H.size c2 c3 c4) rfl rfl rfl rfl rfl ax_202 rfl rfl ax_203 ⟨Nat.le_of_ble_eq_true rfl, Nat.le_of_ble_eq_true rfl⟩ rfl rfl (Nat.le_of_ble_eq_true rfl) dL_law_1244 ⟨(Nat.le_of_ble_eq_true rfl), (Nat.le_of_ble_eq_true rfl)⟩) hP hD hS hA rfl rfl rfl (by decide) (fun ad1244 H locs hP hD hS => ?_)
            have hP : va_P D vwCl [((xa 18), .inr (8, [.ref (xa 19), .ref (xa 20), .ref (xa 21), .int 0, .int 0, .ref (xa 22), .ref (xa 28), .int 0, .int 0])), ((xa 19), .inl (cy 0, 8, .inl (fun _ => 0))), ((xa 20), .inl (cy 1, 8, .inl (fun _ => 0))), ((xa 21), .inl (cy 1, 8, .inl (fun _ => 0))), ((ma 2), .inr (4, [.int 0, .ref (g 0), .int 0])), (aj, .inl (cy 2, 1, .inr (.inl (fun _ => 0)))), (am, .inr (15, [.int 1, .ref (ma 0), .int 0, .int 0, .int 0, .int 0, .ref (ma 1), .ref (ma 2), .null, .int 1, .int 10, .int 900, .ref (ma 3), .ref (ma 4), .int 0, .int 0, .int 0, .ref (ma 5), .int 1000, .int 50, .int 50, .int 1000, .int 10, .int 0, .int 3000, .int 0, .int 0, .int 0]))] H := hP
            have hD : va_D (AL s) [((xa 18), .inr (8, [.ref (xa 19), .ref (xa 20), .ref (xa 21), .int 0, .int 0, .ref (xa 22), .ref (xa 28), .int 0, .int 0])), ((xa 19), .inl (cy 0, 8, .inl (fun _ => 0))), ((xa 20), .inl (cy 1, 8, .inl (fun _ => 0))), ((xa 21), .inl (cy 1, 8, .inl (fun _ => 0))), ((ma 2), .inr (4, [.int 0, .ref (g 0), .int 0])), (aj, .inl (cy 2, 1, .inr (.inl (fun _ => 0)))), (am, .inr (15, [.int 1, .ref (ma 0), .int 0, .int 0, .int 0, .int 0, .ref (ma 1), .ref (ma 2), .null, .int 1, .int 10, .int 900, .ref (ma 3), .ref (ma 4), .int 0, .int 0, .int 0, .ref (ma 5), .int 1000, .int 50, .int 50, .int 1000, .int 10, .int 0, .int 3000, .int 0, .int 0, .int 0]))] := hD
            refine lv_istore (lv' := [(7, .int (-1)), (6, .int 1), (5, .int 0), (4, .ref ao), (3, .ref aj), (2, .ref am), (1, .ref ax), (0, .ref b)]) hx hb dL_law_1247 hl (Nat.le_of_ble_eq_true rfl) rfl (fun ls hl => ?_)
            refine lv_aload_n hx hb dL_law_1249 rfl (lv_at hl 5 rfl) ?_
            refine ca_i (isC := [6]) (isR := [0, 1, 2, 3, 4, 5]) (wr := [((xa 18), .inr (8, [.ref (xa 19), .ref (xa 20), .ref (xa 21), .int 0, .int 0, .ref (xa 22), .ref (xa 28), .int 0, .int 0])), ((xa 19), .inl (cy 0, 8, .inl (fun _ => 0))), ((xa 20), .inl (cy 1, 8, .inl (fun _ => 0))), ((xa 21), .inl (cy 1, 8, .inl (fun _ => 0))), ((ma 2), .inr (4, [.int 0, .ref (g 0), .int 0])), (aj, .inl (cy 2, 1, .inr (.inl (fun _ => 0))))]) (rn_V (ci := 15) (q0 := 6) (isC := [6]) (wc := [(am, .inr (15, [.int 1, .ref (ma 0), .int 0, .int 0, .int 0, .int 0, .ref (ma 1), .ref (ma 2), .null, .int 1, .int 10, .int 900, .ref (ma 3), .ref (ma 4), .int 0, .int 0, .int 0, .ref (ma 5), .int 1000, .int 50, .int 50, .int 1000, .int 10, .int 0, .int 3000, .int 0, .int 0, .int 0]))]) (As := []) (rest := []) (n := 0) hx hb hml hown hts hE hS hP hD hA hl.1 (k24_X10_thrown l D cy g am (.ref (ma 0)) (.int 0) (.int 0) (.int 0) (.int 0) (.ref (ma 1)) (.ref (ma 2)) (.null) (.int 1) (.int 10) (.int 900) (.ref (ma 3)) (.ref (ma 4)) (.int 0) (.int 0) (.int 0) (.ref (ma 5)) (.int 1000) (.int 50) (.int 50) (.int 1000) (.int 10) (.int 0) (.int 3000) (.int 0) (.int 0) (.int 0) H.size ) rfl rfl rfl rfl rfl ax_45 rfl rfl ax_46 ⟨Nat.le_of_ble_eq_true rfl, Nat.le_of_ble_eq_true rfl⟩ rfl rfl (Nat.le_of_ble_eq_true rfl) dL_law_1250 ⟨(Nat.le_of_ble_eq_true rfl), (Nat.le_of_ble_eq_true rfl)⟩) hP hD hS hA rfl rfl rfl (by decide) (fun ad1250 H locs hP hD hS => ?_)
            have hP : va_P D vwCl [((xa 18), .inr (8, [.ref (xa 19), .ref (xa 20), .ref (xa 21), .int 0, .int 0, .ref (xa 22), .ref (xa 28), .int 0, .int 0])), ((xa 19), .inl (cy 0, 8, .inl (fun _ => 0))), ((xa 20), .inl (cy 1, 8, .inl (fun _ => 0))), ((xa 21), .inl (cy 1, 8, .inl (fun _ => 0))), ((ma 2), .inr (4, [.int 0, .ref (g 0), .int 0])), (aj, .inl (cy 2, 1, .inr (.inl (fun _ => 0)))), (am, .inr (15, [.int 1, .ref (ma 0), .int 0, .int 0, .int 0, .int 0, .ref (ma 1), .ref (ma 2), .null, .int 1, .int 10, .int 900, .ref (ma 3), .ref (ma 4), .int 0, .int 0, .int 0, .ref (ma 5), .int 1000, .int 50, .int 50, .int 1000, .int 10, .int 0, .int 3000, .int 0, .int 0, .int 0]))] H := hP
            have hD : va_D (AL s) [((xa 18), .inr (8, [.ref (xa 19), .ref (xa 20), .ref (xa 21), .int 0, .int 0, .ref (xa 22), .ref (xa 28), .int 0, .int 0])), ((xa 19), .inl (cy 0, 8, .inl (fun _ => 0))), ((xa 20), .inl (cy 1, 8, .inl (fun _ => 0))), ((xa 21), .inl (cy 1, 8, .inl (fun _ => 0))), ((ma 2), .inr (4, [.int 0, .ref (g 0), .int 0])), (aj, .inl (cy 2, 1, .inr (.inl (fun _ => 0)))), (am, .inr (15, [.int 1, .ref (ma 0), .int 0, .int 0, .int 0, .int 0, .ref (ma 1), .ref (ma 2), .null, .int 1, .int 10, .int 900, .ref (ma 3), .ref (ma 4), .int 0, .int 0, .int 0, .ref (ma 5), .int 1000, .int 50, .int 50, .int 1000, .int 10, .int 0, .int 3000, .int 0, .int 0, .int 0]))] := hD
            refine lv_iload hx hb dL_law_1253 (lv_at hl 1 rfl) ?_
            refine lv_icmp_eq (tgt := 1260) hx hb dL_law_1255 (by decide) (fun _ => ?_) (fun z => absurd (by decide) z)
            refine lv_iload hx hb dL_law_1260 (lv_at hl 1 rfl) ?_
            refine lv_if_ne (tgt := 1277) hx hb dL_law_1262 (by decide) (fun _ => ?_) (fun z => absurd z (by decide))
            refine lv_goto (tgt := 2947) hx hb dL_law_1277 (by decide) ?_
            exact law_tail LC hS (Nat.le_of_ble_eq_true rfl) (Nat.le_of_ble_eq_true rfl) (lv_sub hl [2, 7] rfl)
          · by_cases c5 : (100 : Int32) < x3
            · refine lv_aload_n hx hb dL_law_1198 rfl (lv_at hl 4 rfl) ?_
              refine lv_aload_n hx hb dL_law_1199 rfl (lv_at hl 5 rfl) ?_
              refine lv_iload hx hb dL_law_1200 (lv_at hl 0 rfl) ?_
              refine lv_iconst (v := 1) hx hb dL_law_1202 (by decide) ?_
              refine lv_iadd hx hb dL_law_1203 ?_
              refine tp_i 1 (by decide) ?_
              refine va_sld hx hb hX hbl hbA hS (by unfold vp_in; decide) dL_law_1204 ?_
              refine tp_i x1 e1 ?_
              refine lv_i2c (v := 116) hx hb dL_law_1205 ekc ?_
              refine lv_aload_n hx hb dL_law_1206 rfl (lv_at hl 5 rfl) ?_
              refine lv_iload hx hb dL_law_1207 (lv_at hl 0 rfl) ?_
              refine lv_iconst (v := 2) hx hb dL_law_1209 (by decide) ?_
              refine lv_iadd hx hb dL_law_1210 ?_
              refine tp_i 2 (by decide) ?_
              refine va_sld hx hb hX hbl hbA hS (by unfold vp_in; decide) dL_law_1211 ?_
              refine tp_i x2 e2 ?_
              refine lv_aload_n hx hb dL_law_1212 rfl (lv_at hl 5 rfl) ?_
              refine lv_iload hx hb dL_law_1213 (lv_at hl 0 rfl) ?_
              refine lv_iconst (v := 3) hx hb dL_law_1215 (by decide) ?_
              refine lv_iadd hx hb dL_law_1216 ?_
              refine tp_i 3 (by decide) ?_
              refine va_sld hx hb hX hbl hbA hS (by unfold vp_in; decide) dL_law_1217 ?_
              refine tp_i x3 e3 ?_
              refine lv_aload_n hx hb dL_law_1218 rfl (lv_at hl 2 rfl) ?_
              refine ca_i (isC := [0]) (isR := [1, 2, 3, 4, 5, 6, 7]) (wr := [((xa 18), .inr (8, [.ref (xa 19), .ref (xa 20), .ref (xa 21), .int 0, .int 0, .ref (xa 22), .ref (xa 28), .int 0, .int 0])), ((xa 19), .inl (cy 0, 8, .inl (fun _ => 0))), ((xa 20), .inl (cy 1, 8, .inl (fun _ => 0))), ((xa 21), .inl (cy 1, 8, .inl (fun _ => 0))), (am, .inr (15, [.int 0, .ref (ma 0), .int 0, .int 0, .int 0, .int 0, .ref (ma 1), .ref (ma 2), .null, .int 1, .int 10, .int 900, .ref (ma 3), .ref (ma 4), .int 0, .int 0, .int 0, .ref (ma 5), .int 1000, .int 50, .int 50, .int 1000, .int 10, .int 0, .int 3000, .int 0, .int 0, .int 0])), ((ma 2), .inr (4, [.int 0, .ref (g 0), .int 0])), (aj, .inl (cy 2, 1, .inr (.inl (fun _ => 0))))]) (rn_SW (isC := [0]) (wc := [(ax, .inr (14, [.ref (xa 0), .ref (xa 13), .ref (xa 18), .ref (xa 34), .ref (xa 45), .ref (xa 49), .ref (xa 50)]))]) (As := [.ref ax, .int 116, .int x2, .int x3, .ref aj]) (rest := []) (n := 5) hx hb hml hown hts hE hS hP hD hA hl.1 (k243_L_addPart l hst D cy g x2 x3 ax aj (.ref (xa 0)) (.ref (xa 13)) (.ref (xa 18)) (.ref (xa 34)) (.ref (xa 45)) (.ref (xa 49)) (.ref (xa 50)) H.size c2 c3 c4 c5) rfl rfl ax_184 rfl rfl ax_185 ⟨Nat.le_of_ble_eq_true rfl, Nat.le_of_ble_eq_true rfl⟩ rfl rfl (Nat.le_of_ble_eq_true rfl) dL_law_1219 ⟨(Nat.le_of_ble_eq_true rfl), (Nat.le_of_ble_eq_true rfl)⟩) hP hD hS hA rfl rfl rfl (by decide) (fun ad1219 H locs hP hD hS => ?_)
              have hP : va_P D vwCl [((xa 18), .inr (8, [.ref (xa 19), .ref (xa 20), .ref (xa 21), .int 0, .int 0, .ref (xa 22), .ref (xa 28), .int 0, .int 0])), ((xa 19), .inl (cy 0, 8, .inl (fun _ => 0))), ((xa 20), .inl (cy 1, 8, .inl (fun _ => 0))), ((xa 21), .inl (cy 1, 8, .inl (fun _ => 0))), (am, .inr (15, [.int 0, .ref (ma 0), .int 0, .int 0, .int 0, .int 0, .ref (ma 1), .ref (ma 2), .null, .int 1, .int 10, .int 900, .ref (ma 3), .ref (ma 4), .int 0, .int 0, .int 0, .ref (ma 5), .int 1000, .int 50, .int 50, .int 1000, .int 10, .int 0, .int 3000, .int 0, .int 0, .int 0])), ((ma 2), .inr (4, [.int 0, .ref (g 0), .int 0])), (aj, .inl (cy 2, 1, .inr (.inl (fun _ => 0))))] H := hP
              have hD : va_D (AL s) [((xa 18), .inr (8, [.ref (xa 19), .ref (xa 20), .ref (xa 21), .int 0, .int 0, .ref (xa 22), .ref (xa 28), .int 0, .int 0])), ((xa 19), .inl (cy 0, 8, .inl (fun _ => 0))), ((xa 20), .inl (cy 1, 8, .inl (fun _ => 0))), ((xa 21), .inl (cy 1, 8, .inl (fun _ => 0))), (am, .inr (15, [.int 0, .ref (ma 0), .int 0, .int 0, .int 0, .int 0, .ref (ma 1), .ref (ma 2), .null, .int 1, .int 10, .int 900, .ref (ma 3), .ref (ma 4), .int 0, .int 0, .int 0, .ref (ma 5), .int 1000, .int 50, .int 50, .int 1000, .int 10, .int 0, .int 3000, .int 0, .int 0, .int 0])), ((ma 2), .inr (4, [.int 0, .ref (g 0), .int 0])), (aj, .inl (cy 2, 1, .inr (.inl (fun _ => 0))))] := hD
              refine lv_istore (lv' := [(6, .int 1), (5, .int 0), (4, .ref ao), (3, .ref aj), (2, .ref am), (1, .ref ax), (0, .ref b)]) hx hb dL_law_1222 hl (Nat.le_of_ble_eq_true rfl) rfl (fun ls hl => ?_)
              refine lv_aload_n hx hb dL_law_1224 rfl (lv_at hl 4 rfl) ?_
              refine lv_aload_n hx hb dL_law_1225 rfl (lv_at hl 6 rfl) ?_
              refine lv_iload hx hb dL_law_1226 (lv_at hl 1 rfl) ?_
              refine lv_iconst (v := 1) hx hb dL_law_1228 (by decide) ?_
              refine lv_iadd hx hb dL_law_1229 ?_
              refine tp_i 1 (by decide) ?_
              refine va_sld hx hb hX hbl hbA hS (by unfold vp_in; decide) dL_law_1230 ?_
              refine tp_i x1 e1 ?_
              refine lv_i2c (v := 116) hx hb dL_law_1231 ekc ?_
              refine lv_aload_n hx hb dL_law_1232 rfl (lv_at hl 6 rfl) ?_
              refine lv_iload hx hb dL_law_1233 (lv_at hl 1 rfl) ?_
              refine lv_iconst (v := 2) hx hb dL_law_1235 (by decide) ?_
              refine lv_iadd hx hb dL_law_1236 ?_
              refine tp_i 2 (by decide) ?_
              refine va_sld hx hb hX hbl hbA hS (by unfold vp_in; decide) dL_law_1237 ?_
              refine tp_i x2 e2 ?_
              refine lv_aload_n hx hb dL_law_1238 rfl (lv_at hl 6 rfl) ?_
              refine lv_iload hx hb dL_law_1239 (lv_at hl 1 rfl) ?_
              refine lv_iconst (v := 3) hx hb dL_law_1241 (by decide) ?_
              refine lv_iadd hx hb dL_law_1242 ?_
              refine tp_i 3 (by decide) ?_
              refine va_sld hx hb hX hbl hbA hS (by unfold vp_in; decide) dL_law_1243 ?_
              refine tp_i x3 e3 ?_
              refine ca_i (isC := [4]) (isR := [0, 1, 2, 3, 5, 6]) (wr := [((xa 18), .inr (8, [.ref (xa 19), .ref (xa 20), .ref (xa 21), .int 0, .int 0, .ref (xa 22), .ref (xa 28), .int 0, .int 0])), ((xa 19), .inl (cy 0, 8, .inl (fun _ => 0))), ((xa 20), .inl (cy 1, 8, .inl (fun _ => 0))), ((xa 21), .inl (cy 1, 8, .inl (fun _ => 0))), ((ma 2), .inr (4, [.int 0, .ref (g 0), .int 0])), (aj, .inl (cy 2, 1, .inr (.inl (fun _ => 0))))]) (rn_V (ci := 15) (q0 := 4) (isC := [4]) (wc := [(am, .inr (15, [.int 0, .ref (ma 0), .int 0, .int 0, .int 0, .int 0, .ref (ma 1), .ref (ma 2), .null, .int 1, .int 10, .int 900, .ref (ma 3), .ref (ma 4), .int 0, .int 0, .int 0, .ref (ma 5), .int 1000, .int 50, .int 50, .int 1000, .int 10, .int 0, .int 3000, .int 0, .int 0, .int 0]))]) (As := [.int 116, .int x2, .int x3]) (rest := []) (n := 3) hx hb hml hown hts hE hS hP hD hA hl.1 (k244_X10_addPart l D cy g x2 x3 am (.int 0) (.ref (ma 0)) (.int 0) (.int 0) (.int 0) (.int 0) (.ref (ma 1)) (.ref (ma 2)) (.null) (.int 1) (.int 10) (.int 900) (.ref (ma 3)) (.ref (ma 4)) (.int 0) (.int 0) (.int 0) (.ref (ma 5)) (.int 1000) (.int 50) (.int 50) (.int 1000) (.int 10) (.int 0) (.int 3000) (.int 0) (.int 0) (.int 0) H.size c2 c3 c4 c5) rfl rfl rfl rfl rfl ax_202 rfl rfl ax_203 ⟨Nat.le_of_ble_eq_true rfl, Nat.le_of_ble_eq_true rfl⟩ rfl rfl (Nat.le_of_ble_eq_true rfl) dL_law_1244 ⟨(Nat.le_of_ble_eq_true rfl), (Nat.le_of_ble_eq_true rfl)⟩) hP hD hS hA rfl rfl rfl (by decide) (fun ad1244 H locs hP hD hS => ?_)
              have hP : va_P D vwCl [((xa 18), .inr (8, [.ref (xa 19), .ref (xa 20), .ref (xa 21), .int 0, .int 0, .ref (xa 22), .ref (xa 28), .int 0, .int 0])), ((xa 19), .inl (cy 0, 8, .inl (fun _ => 0))), ((xa 20), .inl (cy 1, 8, .inl (fun _ => 0))), ((xa 21), .inl (cy 1, 8, .inl (fun _ => 0))), ((ma 2), .inr (4, [.int 0, .ref (g 0), .int 0])), (aj, .inl (cy 2, 1, .inr (.inl (fun _ => 0)))), (am, .inr (15, [.int 1, .ref (ma 0), .int 0, .int 0, .int 0, .int 0, .ref (ma 1), .ref (ma 2), .null, .int 1, .int 10, .int 900, .ref (ma 3), .ref (ma 4), .int 0, .int 0, .int 0, .ref (ma 5), .int 1000, .int 50, .int 50, .int 1000, .int 10, .int 0, .int 3000, .int 0, .int 0, .int 0]))] H := hP
              have hD : va_D (AL s) [((xa 18), .inr (8, [.ref (xa 19), .ref (xa 20), .ref (xa 21), .int 0, .int 0, .ref (xa 22), .ref (xa 28), .int 0, .int 0])), ((xa 19), .inl (cy 0, 8, .inl (fun _ => 0))), ((xa 20), .inl (cy 1, 8, .inl (fun _ => 0))), ((xa 21), .inl (cy 1, 8, .inl (fun _ => 0))), ((ma 2), .inr (4, [.int 0, .ref (g 0), .int 0])), (aj, .inl (cy 2, 1, .inr (.inl (fun _ => 0)))), (am, .inr (15, [.int 1, .ref (ma 0), .int 0, .int 0, .int 0, .int 0, .ref (ma 1), .ref (ma 2), .null, .int 1, .int 10, .int 900, .ref (ma 3), .ref (ma 4), .int 0, .int 0, .int 0, .ref (ma 5), .int 1000, .int 50, .int 50, .int 1000, .int 10, .int 0, .int 3000, .int 0, .int 0, .int 0]))] := hD
              refine lv_istore (lv' := [(7, .int (-1)), (6, .int 1), (5, .int 0), (4, .ref ao), (3, .ref aj), (2, .ref am), (1, .ref ax), (0, .ref b)]) hx hb dL_law_1247 hl (Nat.le_of_ble_eq_true rfl) rfl (fun ls hl => ?_)
              refine lv_aload_n hx hb dL_law_1249 rfl (lv_at hl 5 rfl) ?_
              refine ca_i (isC := [6]) (isR := [0, 1, 2, 3, 4, 5]) (wr := [((xa 18), .inr (8, [.ref (xa 19), .ref (xa 20), .ref (xa 21), .int 0, .int 0, .ref (xa 22), .ref (xa 28), .int 0, .int 0])), ((xa 19), .inl (cy 0, 8, .inl (fun _ => 0))), ((xa 20), .inl (cy 1, 8, .inl (fun _ => 0))), ((xa 21), .inl (cy 1, 8, .inl (fun _ => 0))), ((ma 2), .inr (4, [.int 0, .ref (g 0), .int 0])), (aj, .inl (cy 2, 1, .inr (.inl (fun _ => 0))))]) (rn_V (ci := 15) (q0 := 6) (isC := [6]) (wc := [(am, .inr (15, [.int 1, .ref (ma 0), .int 0, .int 0, .int 0, .int 0, .ref (ma 1), .ref (ma 2), .null, .int 1, .int 10, .int 900, .ref (ma 3), .ref (ma 4), .int 0, .int 0, .int 0, .ref (ma 5), .int 1000, .int 50, .int 50, .int 1000, .int 10, .int 0, .int 3000, .int 0, .int 0, .int 0]))]) (As := []) (rest := []) (n := 0) hx hb hml hown hts hE hS hP hD hA hl.1 (k24_X10_thrown l D cy g am (.ref (ma 0)) (.int 0) (.int 0) (.int 0) (.int 0) (.ref (ma 1)) (.ref (ma 2)) (.null) (.int 1) (.int 10) (.int 900) (.ref (ma 3)) (.ref (ma 4)) (.int 0) (.int 0) (.int 0) (.ref (ma 5)) (.int 1000) (.int 50) (.int 50) (.int 1000) (.int 10) (.int 0) (.int 3000) (.int 0) (.int 0) (.int 0) H.size ) rfl rfl rfl rfl rfl ax_45 rfl rfl ax_46 ⟨Nat.le_of_ble_eq_true rfl, Nat.le_of_ble_eq_true rfl⟩ rfl rfl (Nat.le_of_ble_eq_true rfl) dL_law_1250 ⟨(Nat.le_of_ble_eq_true rfl), (Nat.le_of_ble_eq_true rfl)⟩) hP hD hS hA rfl rfl rfl (by decide) (fun ad1250 H locs hP hD hS => ?_)
              have hP : va_P D vwCl [((xa 18), .inr (8, [.ref (xa 19), .ref (xa 20), .ref (xa 21), .int 0, .int 0, .ref (xa 22), .ref (xa 28), .int 0, .int 0])), ((xa 19), .inl (cy 0, 8, .inl (fun _ => 0))), ((xa 20), .inl (cy 1, 8, .inl (fun _ => 0))), ((xa 21), .inl (cy 1, 8, .inl (fun _ => 0))), ((ma 2), .inr (4, [.int 0, .ref (g 0), .int 0])), (aj, .inl (cy 2, 1, .inr (.inl (fun _ => 0)))), (am, .inr (15, [.int 1, .ref (ma 0), .int 0, .int 0, .int 0, .int 0, .ref (ma 1), .ref (ma 2), .null, .int 1, .int 10, .int 900, .ref (ma 3), .ref (ma 4), .int 0, .int 0, .int 0, .ref (ma 5), .int 1000, .int 50, .int 50, .int 1000, .int 10, .int 0, .int 3000, .int 0, .int 0, .int 0]))] H := hP
              have hD : va_D (AL s) [((xa 18), .inr (8, [.ref (xa 19), .ref (xa 20), .ref (xa 21), .int 0, .int 0, .ref (xa 22), .ref (xa 28), .int 0, .int 0])), ((xa 19), .inl (cy 0, 8, .inl (fun _ => 0))), ((xa 20), .inl (cy 1, 8, .inl (fun _ => 0))), ((xa 21), .inl (cy 1, 8, .inl (fun _ => 0))), ((ma 2), .inr (4, [.int 0, .ref (g 0), .int 0])), (aj, .inl (cy 2, 1, .inr (.inl (fun _ => 0)))), (am, .inr (15, [.int 1, .ref (ma 0), .int 0, .int 0, .int 0, .int 0, .ref (ma 1), .ref (ma 2), .null, .int 1, .int 10, .int 900, .ref (ma 3), .ref (ma 4), .int 0, .int 0, .int 0, .ref (ma 5), .int 1000, .int 50, .int 50, .int 1000, .int 10, .int 0, .int 3000, .int 0, .int 0, .int 0]))] := hD
              refine lv_iload hx hb dL_law_1253 (lv_at hl 1 rfl) ?_
              refine lv_icmp_eq (tgt := 1260) hx hb dL_law_1255 (by decide) (fun _ => ?_) (fun z => absurd (by decide) z)
              refine lv_iload hx hb dL_law_1260 (lv_at hl 1 rfl) ?_
              refine lv_if_ne (tgt := 1277) hx hb dL_law_1262 (by decide) (fun _ => ?_) (fun z => absurd z (by decide))
              refine lv_goto (tgt := 2947) hx hb dL_law_1277 (by decide) ?_
              exact law_tail LC hS (Nat.le_of_ble_eq_true rfl) (Nat.le_of_ble_eq_true rfl) (lv_sub hl [2, 7] rfl)
            · refine lv_aload_n hx hb dL_law_1198 rfl (lv_at hl 4 rfl) ?_
              refine lv_aload_n hx hb dL_law_1199 rfl (lv_at hl 5 rfl) ?_
              refine lv_iload hx hb dL_law_1200 (lv_at hl 0 rfl) ?_
              refine lv_iconst (v := 1) hx hb dL_law_1202 (by decide) ?_
              refine lv_iadd hx hb dL_law_1203 ?_
              refine tp_i 1 (by decide) ?_
              refine va_sld hx hb hX hbl hbA hS (by unfold vp_in; decide) dL_law_1204 ?_
              refine tp_i x1 e1 ?_
              refine lv_i2c (v := 116) hx hb dL_law_1205 ekc ?_
              refine lv_aload_n hx hb dL_law_1206 rfl (lv_at hl 5 rfl) ?_
              refine lv_iload hx hb dL_law_1207 (lv_at hl 0 rfl) ?_
              refine lv_iconst (v := 2) hx hb dL_law_1209 (by decide) ?_
              refine lv_iadd hx hb dL_law_1210 ?_
              refine tp_i 2 (by decide) ?_
              refine va_sld hx hb hX hbl hbA hS (by unfold vp_in; decide) dL_law_1211 ?_
              refine tp_i x2 e2 ?_
              refine lv_aload_n hx hb dL_law_1212 rfl (lv_at hl 5 rfl) ?_
              refine lv_iload hx hb dL_law_1213 (lv_at hl 0 rfl) ?_
              refine lv_iconst (v := 3) hx hb dL_law_1215 (by decide) ?_
              refine lv_iadd hx hb dL_law_1216 ?_
              refine tp_i 3 (by decide) ?_
              refine va_sld hx hb hX hbl hbA hS (by unfold vp_in; decide) dL_law_1217 ?_
              refine tp_i x3 e3 ?_
              refine lv_aload_n hx hb dL_law_1218 rfl (lv_at hl 2 rfl) ?_
              refine ca_i (isC := [0, 1, 2, 3, 4, 7]) (isR := [5, 6]) (wr := [(am, .inr (15, [.int 0, .ref (ma 0), .int 0, .int 0, .int 0, .int 0, .ref (ma 1), .ref (ma 2), .null, .int 1, .int 10, .int 900, .ref (ma 3), .ref (ma 4), .int 0, .int 0, .int 0, .ref (ma 5), .int 1000, .int 50, .int 50, .int 1000, .int 10, .int 0, .int 3000, .int 0, .int 0, .int 0])), ((ma 2), .inr (4, [.int 0, .ref (g 0), .int 0]))]) (rn_SW (isC := [0, 1, 2, 3, 4, 7]) (wc := [(ax, .inr (14, [.ref (xa 0), .ref (xa 13), .ref (xa 18), .ref (xa 34), .ref (xa 45), .ref (xa 49), .ref (xa 50)])), ((xa 18), .inr (8, [.ref (xa 19), .ref (xa 20), .ref (xa 21), .int 0, .int 0, .ref (xa 22), .ref (xa 28), .int 0, .int 0])), ((xa 19), .inl (cy 0, 8, .inl (fun _ => 0))), ((xa 20), .inl (cy 1, 8, .inl (fun _ => 0))), ((xa 21), .inl (cy 1, 8, .inl (fun _ => 0))), (aj, .inl (cy 2, 1, .inr (.inl (fun _ => 0))))]) (As := [.ref ax, .int 116, .int x2, .int x3, .ref aj]) (rest := []) (n := 5) hx hb hml hown hts hE hS hP hD hA hl.1 (k248_L_addPart l D cy g x2 x3 ax (xa 18) (xa 19) (xa 20) (xa 21) aj (.ref (xa 0)) (.ref (xa 13)) (.ref (xa 34)) (.ref (xa 45)) (.ref (xa 49)) (.ref (xa 50)) (.int 0) (.ref (xa 22)) (.ref (xa 28)) (.int 0) (.int 0) (fun _ => 0) (fun _ => 0) (fun _ => 0) (fun _ => 0) H.size c2 c3 c4 c5) rfl rfl ax_184 rfl rfl ax_185 ⟨Nat.le_of_ble_eq_true rfl, Nat.le_of_ble_eq_true rfl⟩ rfl rfl (Nat.le_of_ble_eq_true rfl) dL_law_1219 ⟨(Nat.le_of_ble_eq_true rfl), (Nat.le_of_ble_eq_true rfl)⟩) hP hD hS hA rfl rfl rfl (by decide) (fun ad1219 H locs hP hD hS => ?_)
              have hP : va_P D vwCl [(am, .inr (15, [.int 0, .ref (ma 0), .int 0, .int 0, .int 0, .int 0, .ref (ma 1), .ref (ma 2), .null, .int 1, .int 10, .int 900, .ref (ma 3), .ref (ma 4), .int 0, .int 0, .int 0, .ref (ma 5), .int 1000, .int 50, .int 50, .int 1000, .int 10, .int 0, .int 3000, .int 0, .int 0, .int 0])), ((ma 2), .inr (4, [.int 0, .ref (g 0), .int 0])), (aj, .inl (cy 2, 1, .inr (.inl (vp_updL (fun _ => 0) (0 : Int32).toNatClampNeg 1))))] H := hP
              have hD : va_D (AL s) [(am, .inr (15, [.int 0, .ref (ma 0), .int 0, .int 0, .int 0, .int 0, .ref (ma 1), .ref (ma 2), .null, .int 1, .int 10, .int 900, .ref (ma 3), .ref (ma 4), .int 0, .int 0, .int 0, .ref (ma 5), .int 1000, .int 50, .int 50, .int 1000, .int 10, .int 0, .int 3000, .int 0, .int 0, .int 0])), ((ma 2), .inr (4, [.int 0, .ref (g 0), .int 0])), (aj, .inl (cy 2, 1, .inr (.inl (vp_updL (fun _ => 0) (0 : Int32).toNatClampNeg 1))))] := hD
              refine lv_istore (lv' := [(6, .int 0), (5, .int 0), (4, .ref ao), (3, .ref aj), (2, .ref am), (1, .ref ax), (0, .ref b)]) hx hb dL_law_1222 hl (Nat.le_of_ble_eq_true rfl) rfl (fun ls hl => ?_)
              refine lv_aload_n hx hb dL_law_1224 rfl (lv_at hl 4 rfl) ?_
              refine lv_aload_n hx hb dL_law_1225 rfl (lv_at hl 6 rfl) ?_
              refine lv_iload hx hb dL_law_1226 (lv_at hl 1 rfl) ?_
              refine lv_iconst (v := 1) hx hb dL_law_1228 (by decide) ?_
              refine lv_iadd hx hb dL_law_1229 ?_
              refine tp_i 1 (by decide) ?_
              refine va_sld hx hb hX hbl hbA hS (by unfold vp_in; decide) dL_law_1230 ?_
              refine tp_i x1 e1 ?_
              refine lv_i2c (v := 116) hx hb dL_law_1231 ekc ?_
              refine lv_aload_n hx hb dL_law_1232 rfl (lv_at hl 6 rfl) ?_
              refine lv_iload hx hb dL_law_1233 (lv_at hl 1 rfl) ?_
              refine lv_iconst (v := 2) hx hb dL_law_1235 (by decide) ?_
              refine lv_iadd hx hb dL_law_1236 ?_
              refine tp_i 2 (by decide) ?_
              refine va_sld hx hb hX hbl hbA hS (by unfold vp_in; decide) dL_law_1237 ?_
              refine tp_i x2 e2 ?_
              refine lv_aload_n hx hb dL_law_1238 rfl (lv_at hl 6 rfl) ?_
              refine lv_iload hx hb dL_law_1239 (lv_at hl 1 rfl) ?_
              refine lv_iconst (v := 3) hx hb dL_law_1241 (by decide) ?_
              refine lv_iadd hx hb dL_law_1242 ?_
              refine tp_i 3 (by decide) ?_
              refine va_sld hx hb hX hbl hbA hS (by unfold vp_in; decide) dL_law_1243 ?_
              refine tp_i x3 e3 ?_
              refine ca_i (isC := [0, 1]) (isR := [2]) (wr := [(aj, .inl (cy 2, 1, .inr (.inl (vp_updL (fun _ => 0) (0 : Int32).toNatClampNeg 1))))]) (rn_V (ci := 15) (q0 := 0) (isC := [0, 1]) (wc := [(am, .inr (15, [.int 0, .ref (ma 0), .int 0, .int 0, .int 0, .int 0, .ref (ma 1), .ref (ma 2), .null, .int 1, .int 10, .int 900, .ref (ma 3), .ref (ma 4), .int 0, .int 0, .int 0, .ref (ma 5), .int 1000, .int 50, .int 50, .int 1000, .int 10, .int 0, .int 3000, .int 0, .int 0, .int 0])), ((ma 2), .inr (4, [.int 0, .ref (g 0), .int 0]))]) (As := [.int 116, .int x2, .int x3]) (rest := []) (n := 3) hx hb hml hown hts hE hS hP hD hA hl.1 (k249_X10_addPart l D cy g x2 x3 am (ma 2) (.int 0) (.ref (ma 0)) (.int 0) (.int 0) (.int 0) (.int 0) (.ref (ma 1)) (.null) (.int 1) (.int 10) (.int 900) (.ref (ma 3)) (.ref (ma 4)) (.int 0) (.int 0) (.int 0) (.ref (ma 5)) (.int 1000) (.int 50) (.int 50) (.int 1000) (.int 10) (.int 0) (.int 3000) (.int 0) (.int 0) (.int 0) H.size c2 c3 c4 c5) rfl rfl rfl rfl rfl ax_202 rfl rfl ax_203 ⟨Nat.le_of_ble_eq_true rfl, Nat.le_of_ble_eq_true rfl⟩ rfl rfl (Nat.le_of_ble_eq_true rfl) dL_law_1244 ⟨(Nat.le_of_ble_eq_true rfl), (Nat.le_of_ble_eq_true rfl)⟩) hP hD hS hA rfl rfl rfl (by decide) (fun ad1244 H locs hP hD hS => ?_)
              have hP : va_P D vwCl [(aj, .inl (cy 2, 1, .inr (.inl (vp_updL (fun _ => 0) (0 : Int32).toNatClampNeg 1)))), (am, .inr (15, [.int 0, .ref (ma 0), .int 0, .int 0, .int 0, .int 0, .ref (ma 1), .ref (ma 2), .null, .int 1, .int 10, .int 900, .ref (ma 3), .ref (ma 4), .int 0, .int 0, .int 0, .ref (ma 5), .int 1000, .int 50, .int 50, .int 1000, .int 10, .int 0, .int 3000, .int 0, .int 0, .int 0]))] H := hP
              have hD : va_D (AL s) [(aj, .inl (cy 2, 1, .inr (.inl (vp_updL (fun _ => 0) (0 : Int32).toNatClampNeg 1)))), (am, .inr (15, [.int 0, .ref (ma 0), .int 0, .int 0, .int 0, .int 0, .ref (ma 1), .ref (ma 2), .null, .int 1, .int 10, .int 900, .ref (ma 3), .ref (ma 4), .int 0, .int 0, .int 0, .ref (ma 5), .int 1000, .int 50, .int 50, .int 1000, .int 10, .int 0, .int 3000, .int 0, .int 0, .int 0]))] := hD
              refine lv_istore (lv' := [(7, .int 1), (6, .int 0), (5, .int 0), (4, .ref ao), (3, .ref aj), (2, .ref am), (1, .ref ax), (0, .ref b)]) hx hb dL_law_1247 hl (Nat.le_of_ble_eq_true rfl) rfl (fun ls hl => ?_)
              refine lv_aload_n hx hb dL_law_1249 rfl (lv_at hl 5 rfl) ?_
              refine ca_i (isC := [1]) (isR := [0]) (wr := [(aj, .inl (cy 2, 1, .inr (.inl (vp_updL (fun _ => 0) (0 : Int32).toNatClampNeg 1))))]) (rn_V (ci := 15) (q0 := 1) (isC := [1]) (wc := [(am, .inr (15, [.int 0, .ref (ma 0), .int 0, .int 0, .int 0, .int 0, .ref (ma 1), .ref (ma 2), .null, .int 1, .int 10, .int 900, .ref (ma 3), .ref (ma 4), .int 0, .int 0, .int 0, .ref (ma 5), .int 1000, .int 50, .int 50, .int 1000, .int 10, .int 0, .int 3000, .int 0, .int 0, .int 0]))]) (As := []) (rest := []) (n := 0) hx hb hml hown hts hE hS hP hD hA hl.1 (k52_X10_thrown l D cy g am (.ref (ma 0)) (.int 0) (.int 0) (.int 0) (.int 0) (.ref (ma 1)) (.ref (ma 2)) (.null) (.int 1) (.int 10) (.int 900) (.ref (ma 3)) (.ref (ma 4)) (.int 0) (.int 0) (.int 0) (.ref (ma 5)) (.int 1000) (.int 50) (.int 50) (.int 1000) (.int 10) (.int 0) (.int 3000) (.int 0) (.int 0) (.int 0) H.size ) rfl rfl rfl rfl rfl ax_45 rfl rfl ax_46 ⟨Nat.le_of_ble_eq_true rfl, Nat.le_of_ble_eq_true rfl⟩ rfl rfl (Nat.le_of_ble_eq_true rfl) dL_law_1250 ⟨(Nat.le_of_ble_eq_true rfl), (Nat.le_of_ble_eq_true rfl)⟩) hP hD hS hA rfl rfl rfl (by decide) (fun ad1250 H locs hP hD hS => ?_)
              have hP : va_P D vwCl [(aj, .inl (cy 2, 1, .inr (.inl (vp_updL (fun _ => 0) (0 : Int32).toNatClampNeg 1)))), (am, .inr (15, [.int 0, .ref (ma 0), .int 0, .int 0, .int 0, .int 0, .ref (ma 1), .ref (ma 2), .null, .int 1, .int 10, .int 900, .ref (ma 3), .ref (ma 4), .int 0, .int 0, .int 0, .ref (ma 5), .int 1000, .int 50, .int 50, .int 1000, .int 10, .int 0, .int 3000, .int 0, .int 0, .int 0]))] H := hP
              have hD : va_D (AL s) [(aj, .inl (cy 2, 1, .inr (.inl (vp_updL (fun _ => 0) (0 : Int32).toNatClampNeg 1)))), (am, .inr (15, [.int 0, .ref (ma 0), .int 0, .int 0, .int 0, .int 0, .ref (ma 1), .ref (ma 2), .null, .int 1, .int 10, .int 900, .ref (ma 3), .ref (ma 4), .int 0, .int 0, .int 0, .ref (ma 5), .int 1000, .int 50, .int 50, .int 1000, .int 10, .int 0, .int 3000, .int 0, .int 0, .int 0]))] := hD
              refine lv_iload hx hb dL_law_1253 (lv_at hl 1 rfl) ?_
              refine lv_icmp_eq (tgt := 1260) hx hb dL_law_1255 (by decide) (fun _ => ?_) (fun z => absurd (by decide) z)
              refine lv_iload hx hb dL_law_1260 (lv_at hl 1 rfl) ?_
              refine lv_if_ne (tgt := 1277) hx hb dL_law_1262 (by decide) (fun z => absurd (by decide) z) (fun _ => ?_)
              refine lv_aload_n hx hb dL_law_1265 rfl (lv_at hl 4 rfl) ?_
              refine lv_iconst (v := 0) hx hb dL_law_1266 (by decide) ?_
              refine va_lald hx hb hE.1 hP 0 2 rfl rfl (by unfold vp_in; decide) dL_law_1267 ?_
              refine tp_l 1 rfl ?_
              refine lv_iload hx hb dL_law_1268 (lv_at hl 0 rfl) ?_
              refine lv_i2l (v := 1) hx hb dL_law_1270 (by decide) ?_
              refine W.lcmp hx hb dL_law_1271 ?_
              refine tp_i 0 (by decide) ?_
              refine lv_if_eq (tgt := 1277) hx hb dL_law_1272 (by decide) (fun _ => ?_) (fun z => absurd (by decide) z)
              refine lv_goto (tgt := 2947) hx hb dL_law_1277 (by decide) ?_
              exact law_tail LC hS (Nat.le_of_ble_eq_true rfl) (Nat.le_of_ble_eq_true rfl) (lv_sub hl [2, 7] rfl)
    · by_cases c2 : kc = 99
      · subst c2
        refine lv_aload_n hx hb dL_law_1198 rfl (lv_at hl 4 rfl) ?_
        refine lv_aload_n hx hb dL_law_1199 rfl (lv_at hl 5 rfl) ?_
        refine lv_iload hx hb dL_law_1200 (lv_at hl 0 rfl) ?_
        refine lv_iconst (v := 1) hx hb dL_law_1202 (by decide) ?_
        refine lv_iadd hx hb dL_law_1203 ?_
        refine tp_i 1 (by decide) ?_
        refine va_sld hx hb hX hbl hbA hS (by unfold vp_in; decide) dL_law_1204 ?_
        refine tp_i x1 e1 ?_
        refine lv_i2c (v := 99) hx hb dL_law_1205 ekc ?_
        refine lv_aload_n hx hb dL_law_1206 rfl (lv_at hl 5 rfl) ?_
        refine lv_iload hx hb dL_law_1207 (lv_at hl 0 rfl) ?_
        refine lv_iconst (v := 2) hx hb dL_law_1209 (by decide) ?_
        refine lv_iadd hx hb dL_law_1210 ?_
        refine tp_i 2 (by decide) ?_
        refine va_sld hx hb hX hbl hbA hS (by unfold vp_in; decide) dL_law_1211 ?_
        refine tp_i x2 e2 ?_
        refine lv_aload_n hx hb dL_law_1212 rfl (lv_at hl 5 rfl) ?_
        refine lv_iload hx hb dL_law_1213 (lv_at hl 0 rfl) ?_
        refine lv_iconst (v := 3) hx hb dL_law_1215 (by decide) ?_
        refine lv_iadd hx hb dL_law_1216 ?_
        refine tp_i 3 (by decide) ?_
        refine va_sld hx hb hX hbl hbA hS (by unfold vp_in; decide) dL_law_1217 ?_
        refine tp_i x3 e3 ?_
        refine lv_aload_n hx hb dL_law_1218 rfl (lv_at hl 2 rfl) ?_
        refine ca_i (isC := [0, 1, 2, 3, 4, 7]) (isR := [5, 6]) (wr := [(am, .inr (15, [.int 0, .ref (ma 0), .int 0, .int 0, .int 0, .int 0, .ref (ma 1), .ref (ma 2), .null, .int 1, .int 10, .int 900, .ref (ma 3), .ref (ma 4), .int 0, .int 0, .int 0, .ref (ma 5), .int 1000, .int 50, .int 50, .int 1000, .int 10, .int 0, .int 3000, .int 0, .int 0, .int 0])), ((ma 2), .inr (4, [.int 0, .ref (g 0), .int 0]))]) (rn_SW (isC := [0, 1, 2, 3, 4, 7]) (wc := [(ax, .inr (14, [.ref (xa 0), .ref (xa 13), .ref (xa 18), .ref (xa 34), .ref (xa 45), .ref (xa 49), .ref (xa 50)])), ((xa 18), .inr (8, [.ref (xa 19), .ref (xa 20), .ref (xa 21), .int 0, .int 0, .ref (xa 22), .ref (xa 28), .int 0, .int 0])), ((xa 19), .inl (cy 0, 8, .inl (fun _ => 0))), ((xa 20), .inl (cy 1, 8, .inl (fun _ => 0))), ((xa 21), .inl (cy 1, 8, .inl (fun _ => 0))), (aj, .inl (cy 2, 1, .inr (.inl (fun _ => 0))))]) (As := [.ref ax, .int 99, .int x2, .int x3, .ref aj]) (rest := []) (n := 5) hx hb hml hown hts hE hS hP hD hA hl.1 (k253_L_addPart l D cy g x2 x3 ax (xa 18) (xa 19) (xa 20) (xa 21) aj (.ref (xa 0)) (.ref (xa 13)) (.ref (xa 34)) (.ref (xa 45)) (.ref (xa 49)) (.ref (xa 50)) (.int 0) (.ref (xa 22)) (.ref (xa 28)) (.int 0) (.int 0) (fun _ => 0) (fun _ => 0) (fun _ => 0) (fun _ => 0) H.size ) rfl rfl ax_184 rfl rfl ax_185 ⟨Nat.le_of_ble_eq_true rfl, Nat.le_of_ble_eq_true rfl⟩ rfl rfl (Nat.le_of_ble_eq_true rfl) dL_law_1219 ⟨(Nat.le_of_ble_eq_true rfl), (Nat.le_of_ble_eq_true rfl)⟩) hP hD hS hA rfl rfl rfl (by decide) (fun ad1219 H locs hP hD hS => ?_)
        have hP : va_P D vwCl [(am, .inr (15, [.int 0, .ref (ma 0), .int 0, .int 0, .int 0, .int 0, .ref (ma 1), .ref (ma 2), .null, .int 1, .int 10, .int 900, .ref (ma 3), .ref (ma 4), .int 0, .int 0, .int 0, .ref (ma 5), .int 1000, .int 50, .int 50, .int 1000, .int 10, .int 0, .int 3000, .int 0, .int 0, .int 0])), ((ma 2), .inr (4, [.int 0, .ref (g 0), .int 0])), (aj, .inl (cy 2, 1, .inr (.inl (vp_updL (fun _ => 0) (0 : Int32).toNatClampNeg 1))))] H := hP
        have hD : va_D (AL s) [(am, .inr (15, [.int 0, .ref (ma 0), .int 0, .int 0, .int 0, .int 0, .ref (ma 1), .ref (ma 2), .null, .int 1, .int 10, .int 900, .ref (ma 3), .ref (ma 4), .int 0, .int 0, .int 0, .ref (ma 5), .int 1000, .int 50, .int 50, .int 1000, .int 10, .int 0, .int 3000, .int 0, .int 0, .int 0])), ((ma 2), .inr (4, [.int 0, .ref (g 0), .int 0])), (aj, .inl (cy 2, 1, .inr (.inl (vp_updL (fun _ => 0) (0 : Int32).toNatClampNeg 1))))] := hD
        refine lv_istore (lv' := [(6, .int 0), (5, .int 0), (4, .ref ao), (3, .ref aj), (2, .ref am), (1, .ref ax), (0, .ref b)]) hx hb dL_law_1222 hl (Nat.le_of_ble_eq_true rfl) rfl (fun ls hl => ?_)
        refine lv_aload_n hx hb dL_law_1224 rfl (lv_at hl 4 rfl) ?_
        refine lv_aload_n hx hb dL_law_1225 rfl (lv_at hl 6 rfl) ?_
        refine lv_iload hx hb dL_law_1226 (lv_at hl 1 rfl) ?_
        refine lv_iconst (v := 1) hx hb dL_law_1228 (by decide) ?_
        refine lv_iadd hx hb dL_law_1229 ?_
        refine tp_i 1 (by decide) ?_
        refine va_sld hx hb hX hbl hbA hS (by unfold vp_in; decide) dL_law_1230 ?_
        refine tp_i x1 e1 ?_
        refine lv_i2c (v := 99) hx hb dL_law_1231 ekc ?_
        refine lv_aload_n hx hb dL_law_1232 rfl (lv_at hl 6 rfl) ?_
        refine lv_iload hx hb dL_law_1233 (lv_at hl 1 rfl) ?_
        refine lv_iconst (v := 2) hx hb dL_law_1235 (by decide) ?_
        refine lv_iadd hx hb dL_law_1236 ?_
        refine tp_i 2 (by decide) ?_
        refine va_sld hx hb hX hbl hbA hS (by unfold vp_in; decide) dL_law_1237 ?_
        refine tp_i x2 e2 ?_
        refine lv_aload_n hx hb dL_law_1238 rfl (lv_at hl 6 rfl) ?_
        refine lv_iload hx hb dL_law_1239 (lv_at hl 1 rfl) ?_
        refine lv_iconst (v := 3) hx hb dL_law_1241 (by decide) ?_
        refine lv_iadd hx hb dL_law_1242 ?_
        refine tp_i 3 (by decide) ?_
        refine va_sld hx hb hX hbl hbA hS (by unfold vp_in; decide) dL_law_1243 ?_
        refine tp_i x3 e3 ?_
        refine ca_i (isC := [0, 1]) (isR := [2]) (wr := [(aj, .inl (cy 2, 1, .inr (.inl (vp_updL (fun _ => 0) (0 : Int32).toNatClampNeg 1))))]) (rn_V (ci := 15) (q0 := 0) (isC := [0, 1]) (wc := [(am, .inr (15, [.int 0, .ref (ma 0), .int 0, .int 0, .int 0, .int 0, .ref (ma 1), .ref (ma 2), .null, .int 1, .int 10, .int 900, .ref (ma 3), .ref (ma 4), .int 0, .int 0, .int 0, .ref (ma 5), .int 1000, .int 50, .int 50, .int 1000, .int 10, .int 0, .int 3000, .int 0, .int 0, .int 0])), ((ma 2), .inr (4, [.int 0, .ref (g 0), .int 0]))]) (As := [.int 99, .int x2, .int x3]) (rest := []) (n := 3) hx hb hml hown hts hE hS hP hD hA hl.1 (k259_X10_addPart l D cy g x2 x3 am (ma 2) (.int 0) (.ref (ma 0)) (.int 0) (.int 0) (.int 0) (.int 0) (.ref (ma 1)) (.null) (.int 1) (.int 10) (.int 900) (.ref (ma 3)) (.ref (ma 4)) (.int 0) (.int 0) (.int 0) (.ref (ma 5)) (.int 1000) (.int 50) (.int 50) (.int 1000) (.int 10) (.int 0) (.int 3000) (.int 0) (.int 0) (.int 0) H.size ) rfl rfl rfl rfl rfl ax_202 rfl rfl ax_203 ⟨Nat.le_of_ble_eq_true rfl, Nat.le_of_ble_eq_true rfl⟩ rfl rfl (Nat.le_of_ble_eq_true rfl) dL_law_1244 ⟨(Nat.le_of_ble_eq_true rfl), (Nat.le_of_ble_eq_true rfl)⟩) hP hD hS hA rfl rfl rfl (by decide) (fun ad1244 H locs hP hD hS => ?_)
        have hP : va_P D vwCl [(aj, .inl (cy 2, 1, .inr (.inl (vp_updL (fun _ => 0) (0 : Int32).toNatClampNeg 1)))), (am, .inr (15, [.int 0, .ref (ma 0), .int 0, .int 0, .int 0, .int 0, .ref (ma 1), .ref (ma 2), .null, .int 1, .int 10, .int 900, .ref (ma 3), .ref (ma 4), .int 0, .int 0, .int 0, .ref (ma 5), .int 1000, .int 50, .int 50, .int 1000, .int 10, .int 0, .int 3000, .int 0, .int 0, .int 0]))] H := hP
        have hD : va_D (AL s) [(aj, .inl (cy 2, 1, .inr (.inl (vp_updL (fun _ => 0) (0 : Int32).toNatClampNeg 1)))), (am, .inr (15, [.int 0, .ref (ma 0), .int 0, .int 0, .int 0, .int 0, .ref (ma 1), .ref (ma 2), .null, .int 1, .int 10, .int 900, .ref (ma 3), .ref (ma 4), .int 0, .int 0, .int 0, .ref (ma 5), .int 1000, .int 50, .int 50, .int 1000, .int 10, .int 0, .int 3000, .int 0, .int 0, .int 0]))] := hD
        refine lv_istore (lv' := [(7, .int 1), (6, .int 0), (5, .int 0), (4, .ref ao), (3, .ref aj), (2, .ref am), (1, .ref ax), (0, .ref b)]) hx hb dL_law_1247 hl (Nat.le_of_ble_eq_true rfl) rfl (fun ls hl => ?_)
        refine lv_aload_n hx hb dL_law_1249 rfl (lv_at hl 5 rfl) ?_
        refine ca_i (isC := [1]) (isR := [0]) (wr := [(aj, .inl (cy 2, 1, .inr (.inl (vp_updL (fun _ => 0) (0 : Int32).toNatClampNeg 1))))]) (rn_V (ci := 15) (q0 := 1) (isC := [1]) (wc := [(am, .inr (15, [.int 0, .ref (ma 0), .int 0, .int 0, .int 0, .int 0, .ref (ma 1), .ref (ma 2), .null, .int 1, .int 10, .int 900, .ref (ma 3), .ref (ma 4), .int 0, .int 0, .int 0, .ref (ma 5), .int 1000, .int 50, .int 50, .int 1000, .int 10, .int 0, .int 3000, .int 0, .int 0, .int 0]))]) (As := []) (rest := []) (n := 0) hx hb hml hown hts hE hS hP hD hA hl.1 (k52_X10_thrown l D cy g am (.ref (ma 0)) (.int 0) (.int 0) (.int 0) (.int 0) (.ref (ma 1)) (.ref (ma 2)) (.null) (.int 1) (.int 10) (.int 900) (.ref (ma 3)) (.ref (ma 4)) (.int 0) (.int 0) (.int 0) (.ref (ma 5)) (.int 1000) (.int 50) (.int 50) (.int 1000) (.int 10) (.int 0) (.int 3000) (.int 0) (.int 0) (.int 0) H.size ) rfl rfl rfl rfl rfl ax_45 rfl rfl ax_46 ⟨Nat.le_of_ble_eq_true rfl, Nat.le_of_ble_eq_true rfl⟩ rfl rfl (Nat.le_of_ble_eq_true rfl) dL_law_1250 ⟨(Nat.le_of_ble_eq_true rfl), (Nat.le_of_ble_eq_true rfl)⟩) hP hD hS hA rfl rfl rfl (by decide) (fun ad1250 H locs hP hD hS => ?_)
        have hP : va_P D vwCl [(aj, .inl (cy 2, 1, .inr (.inl (vp_updL (fun _ => 0) (0 : Int32).toNatClampNeg 1)))), (am, .inr (15, [.int 0, .ref (ma 0), .int 0, .int 0, .int 0, .int 0, .ref (ma 1), .ref (ma 2), .null, .int 1, .int 10, .int 900, .ref (ma 3), .ref (ma 4), .int 0, .int 0, .int 0, .ref (ma 5), .int 1000, .int 50, .int 50, .int 1000, .int 10, .int 0, .int 3000, .int 0, .int 0, .int 0]))] H := hP
        have hD : va_D (AL s) [(aj, .inl (cy 2, 1, .inr (.inl (vp_updL (fun _ => 0) (0 : Int32).toNatClampNeg 1)))), (am, .inr (15, [.int 0, .ref (ma 0), .int 0, .int 0, .int 0, .int 0, .ref (ma 1), .ref (ma 2), .null, .int 1, .int 10, .int 900, .ref (ma 3), .ref (ma 4), .int 0, .int 0, .int 0, .ref (ma 5), .int 1000, .int 50, .int 50, .int 1000, .int 10, .int 0, .int 3000, .int 0, .int 0, .int 0]))] := hD
        refine lv_iload hx hb dL_law_1253 (lv_at hl 1 rfl) ?_
        refine lv_icmp_eq (tgt := 1260) hx hb dL_law_1255 (by decide) (fun _ => ?_) (fun z => absurd (by decide) z)
        refine lv_iload hx hb dL_law_1260 (lv_at hl 1 rfl) ?_
        refine lv_if_ne (tgt := 1277) hx hb dL_law_1262 (by decide) (fun z => absurd (by decide) z) (fun _ => ?_)
        refine lv_aload_n hx hb dL_law_1265 rfl (lv_at hl 4 rfl) ?_
        refine lv_iconst (v := 0) hx hb dL_law_1266 (by decide) ?_
        refine va_lald hx hb hE.1 hP 0 2 rfl rfl (by unfold vp_in; decide) dL_law_1267 ?_
        refine tp_l 1 rfl ?_
        refine lv_iload hx hb dL_law_1268 (lv_at hl 0 rfl) ?_
        refine lv_i2l (v := 1) hx hb dL_law_1270 (by decide) ?_
        refine W.lcmp hx hb dL_law_1271 ?_
        refine tp_i 0 (by decide) ?_
        refine lv_if_eq (tgt := 1277) hx hb dL_law_1272 (by decide) (fun _ => ?_) (fun z => absurd (by decide) z)
        refine lv_goto (tgt := 2947) hx hb dL_law_1277 (by decide) ?_
        exact law_tail LC hS (Nat.le_of_ble_eq_true rfl) (Nat.le_of_ble_eq_true rfl) (lv_sub hl [2, 7] rfl)
      · by_cases c3 : kc = 112
        · subst c3
          by_cases c4 : x2 < 1
          · refine lv_aload_n hx hb dL_law_1198 rfl (lv_at hl 4 rfl) ?_
            refine lv_aload_n hx hb dL_law_1199 rfl (lv_at hl 5 rfl) ?_
            refine lv_iload hx hb dL_law_1200 (lv_at hl 0 rfl) ?_
            refine lv_iconst (v := 1) hx hb dL_law_1202 (by decide) ?_
            refine lv_iadd hx hb dL_law_1203 ?_
            refine tp_i 1 (by decide) ?_
            refine va_sld hx hb hX hbl hbA hS (by unfold vp_in; decide) dL_law_1204 ?_
            refine tp_i x1 e1 ?_
            refine lv_i2c (v := 112) hx hb dL_law_1205 ekc ?_
            refine lv_aload_n hx hb dL_law_1206 rfl (lv_at hl 5 rfl) ?_
            refine lv_iload hx hb dL_law_1207 (lv_at hl 0 rfl) ?_
            refine lv_iconst (v := 2) hx hb dL_law_1209 (by decide) ?_
            refine lv_iadd hx hb dL_law_1210 ?_
            refine tp_i 2 (by decide) ?_
            refine va_sld hx hb hX hbl hbA hS (by unfold vp_in; decide) dL_law_1211 ?_
            refine tp_i x2 e2 ?_
            refine lv_aload_n hx hb dL_law_1212 rfl (lv_at hl 5 rfl) ?_
            refine lv_iload hx hb dL_law_1213 (lv_at hl 0 rfl) ?_
            refine lv_iconst (v := 3) hx hb dL_law_1215 (by decide) ?_
            refine lv_iadd hx hb dL_law_1216 ?_
            refine tp_i 3 (by decide) ?_
            refine va_sld hx hb hX hbl hbA hS (by unfold vp_in; decide) dL_law_1217 ?_
            refine tp_i x3 e3 ?_
            refine lv_aload_n hx hb dL_law_1218 rfl (lv_at hl 2 rfl) ?_
            refine ca_i (isC := [0]) (isR := [1, 2, 3, 4, 5, 6, 7]) (wr := [((xa 18), .inr (8, [.ref (xa 19), .ref (xa 20), .ref (xa 21), .int 0, .int 0, .ref (xa 22), .ref (xa 28), .int 0, .int 0])), ((xa 19), .inl (cy 0, 8, .inl (fun _ => 0))), ((xa 20), .inl (cy 1, 8, .inl (fun _ => 0))), ((xa 21), .inl (cy 1, 8, .inl (fun _ => 0))), (am, .inr (15, [.int 0, .ref (ma 0), .int 0, .int 0, .int 0, .int 0, .ref (ma 1), .ref (ma 2), .null, .int 1, .int 10, .int 900, .ref (ma 3), .ref (ma 4), .int 0, .int 0, .int 0, .ref (ma 5), .int 1000, .int 50, .int 50, .int 1000, .int 10, .int 0, .int 3000, .int 0, .int 0, .int 0])), ((ma 2), .inr (4, [.int 0, .ref (g 0), .int 0])), (aj, .inl (cy 2, 1, .inr (.inl (fun _ => 0))))]) (rn_SW (isC := [0]) (wc := [(ax, .inr (14, [.ref (xa 0), .ref (xa 13), .ref (xa 18), .ref (xa 34), .ref (xa 45), .ref (xa 49), .ref (xa 50)]))]) (As := [.ref ax, .int 112, .int x2, .int x3, .ref aj]) (rest := []) (n := 5) hx hb hml hown hts hE hS hP hD hA hl.1 (k262_L_addPart l hst D cy g x2 x3 ax aj (.ref (xa 0)) (.ref (xa 13)) (.ref (xa 18)) (.ref (xa 34)) (.ref (xa 45)) (.ref (xa 49)) (.ref (xa 50)) H.size c4) rfl rfl ax_184 rfl rfl ax_185 ⟨Nat.le_of_ble_eq_true rfl, Nat.le_of_ble_eq_true rfl⟩ rfl rfl (Nat.le_of_ble_eq_true rfl) dL_law_1219 ⟨(Nat.le_of_ble_eq_true rfl), (Nat.le_of_ble_eq_true rfl)⟩) hP hD hS hA rfl rfl rfl (by decide) (fun ad1219 H locs hP hD hS => ?_)
            have hP : va_P D vwCl [((xa 18), .inr (8, [.ref (xa 19), .ref (xa 20), .ref (xa 21), .int 0, .int 0, .ref (xa 22), .ref (xa 28), .int 0, .int 0])), ((xa 19), .inl (cy 0, 8, .inl (fun _ => 0))), ((xa 20), .inl (cy 1, 8, .inl (fun _ => 0))), ((xa 21), .inl (cy 1, 8, .inl (fun _ => 0))), (am, .inr (15, [.int 0, .ref (ma 0), .int 0, .int 0, .int 0, .int 0, .ref (ma 1), .ref (ma 2), .null, .int 1, .int 10, .int 900, .ref (ma 3), .ref (ma 4), .int 0, .int 0, .int 0, .ref (ma 5), .int 1000, .int 50, .int 50, .int 1000, .int 10, .int 0, .int 3000, .int 0, .int 0, .int 0])), ((ma 2), .inr (4, [.int 0, .ref (g 0), .int 0])), (aj, .inl (cy 2, 1, .inr (.inl (fun _ => 0))))] H := hP
            have hD : va_D (AL s) [((xa 18), .inr (8, [.ref (xa 19), .ref (xa 20), .ref (xa 21), .int 0, .int 0, .ref (xa 22), .ref (xa 28), .int 0, .int 0])), ((xa 19), .inl (cy 0, 8, .inl (fun _ => 0))), ((xa 20), .inl (cy 1, 8, .inl (fun _ => 0))), ((xa 21), .inl (cy 1, 8, .inl (fun _ => 0))), (am, .inr (15, [.int 0, .ref (ma 0), .int 0, .int 0, .int 0, .int 0, .ref (ma 1), .ref (ma 2), .null, .int 1, .int 10, .int 900, .ref (ma 3), .ref (ma 4), .int 0, .int 0, .int 0, .ref (ma 5), .int 1000, .int 50, .int 50, .int 1000, .int 10, .int 0, .int 3000, .int 0, .int 0, .int 0])), ((ma 2), .inr (4, [.int 0, .ref (g 0), .int 0])), (aj, .inl (cy 2, 1, .inr (.inl (fun _ => 0))))] := hD
            refine lv_istore (lv' := [(6, .int 1), (5, .int 0), (4, .ref ao), (3, .ref aj), (2, .ref am), (1, .ref ax), (0, .ref b)]) hx hb dL_law_1222 hl (Nat.le_of_ble_eq_true rfl) rfl (fun ls hl => ?_)
            refine lv_aload_n hx hb dL_law_1224 rfl (lv_at hl 4 rfl) ?_
            refine lv_aload_n hx hb dL_law_1225 rfl (lv_at hl 6 rfl) ?_
            refine lv_iload hx hb dL_law_1226 (lv_at hl 1 rfl) ?_
            refine lv_iconst (v := 1) hx hb dL_law_1228 (by decide) ?_
            refine lv_iadd hx hb dL_law_1229 ?_
            refine tp_i 1 (by decide) ?_
            refine va_sld hx hb hX hbl hbA hS (by unfold vp_in; decide) dL_law_1230 ?_
            refine tp_i x1 e1 ?_
            refine lv_i2c (v := 112) hx hb dL_law_1231 ekc ?_
            refine lv_aload_n hx hb dL_law_1232 rfl (lv_at hl 6 rfl) ?_
            refine lv_iload hx hb dL_law_1233 (lv_at hl 1 rfl) ?_
            refine lv_iconst (v := 2) hx hb dL_law_1235 (by decide) ?_
            refine lv_iadd hx hb dL_law_1236 ?_
            refine tp_i 2 (by decide) ?_
            refine va_sld hx hb hX hbl hbA hS (by unfold vp_in; decide) dL_law_1237 ?_
            refine tp_i x2 e2 ?_
            refine lv_aload_n hx hb dL_law_1238 rfl (lv_at hl 6 rfl) ?_
            refine lv_iload hx hb dL_law_1239 (lv_at hl 1 rfl) ?_
            refine lv_iconst (v := 3) hx hb dL_law_1241 (by decide) ?_
            refine lv_iadd hx hb dL_law_1242 ?_
            refine tp_i 3 (by decide) ?_
            refine va_sld hx hb hX hbl hbA hS (by unfold vp_in; decide) dL_law_1243 ?_
            refine tp_i x3 e3 ?_
            refine ca_i (isC := [4]) (isR := [0, 1, 2, 3, 5, 6]) (wr := [((xa 18), .inr (8, [.ref (xa 19), .ref (xa 20), .ref (xa 21), .int 0, .int 0, .ref (xa 22), .ref (xa 28), .int 0, .int 0])), ((xa 19), .inl (cy 0, 8, .inl (fun _ => 0))), ((xa 20), .inl (cy 1, 8, .inl (fun _ => 0))), ((xa 21), .inl (cy 1, 8, .inl (fun _ => 0))), ((ma 2), .inr (4, [.int 0, .ref (g 0), .int 0])), (aj, .inl (cy 2, 1, .inr (.inl (fun _ => 0))))]) (rn_V (ci := 15) (q0 := 4) (isC := [4]) (wc := [(am, .inr (15, [.int 0, .ref (ma 0), .int 0, .int 0, .int 0, .int 0, .ref (ma 1), .ref (ma 2), .null, .int 1, .int 10, .int 900, .ref (ma 3), .ref (ma 4), .int 0, .int 0, .int 0, .ref (ma 5), .int 1000, .int 50, .int 50, .int 1000, .int 10, .int 0, .int 3000, .int 0, .int 0, .int 0]))]) (As := [.int 112, .int x2, .int x3]) (rest := []) (n := 3) hx hb hml hown hts hE hS hP hD hA hl.1 (k268_X10_addPart l D cy g x2 x3 am (.int 0) (.ref (ma 0)) (.int 0) (.int 0) (.int 0) (.int 0) (.ref (ma 1)) (.ref (ma 2)) (.null) (.int 1) (.int 10) (.int 900) (.ref (ma 3)) (.ref (ma 4)) (.int 0) (.int 0) (.int 0) (.ref (ma 5)) (.int 1000) (.int 50) (.int 50) (.int 1000) (.int 10) (.int 0) (.int 3000) (.int 0) (.int 0) (.int 0) H.size c4) rfl rfl rfl rfl rfl ax_202 rfl rfl ax_203 ⟨Nat.le_of_ble_eq_true rfl, Nat.le_of_ble_eq_true rfl⟩ rfl rfl (Nat.le_of_ble_eq_true rfl) dL_law_1244 ⟨(Nat.le_of_ble_eq_true rfl), (Nat.le_of_ble_eq_true rfl)⟩) hP hD hS hA rfl rfl rfl (by decide) (fun ad1244 H locs hP hD hS => ?_)
            have hP : va_P D vwCl [((xa 18), .inr (8, [.ref (xa 19), .ref (xa 20), .ref (xa 21), .int 0, .int 0, .ref (xa 22), .ref (xa 28), .int 0, .int 0])), ((xa 19), .inl (cy 0, 8, .inl (fun _ => 0))), ((xa 20), .inl (cy 1, 8, .inl (fun _ => 0))), ((xa 21), .inl (cy 1, 8, .inl (fun _ => 0))), ((ma 2), .inr (4, [.int 0, .ref (g 0), .int 0])), (aj, .inl (cy 2, 1, .inr (.inl (fun _ => 0)))), (am, .inr (15, [.int 1, .ref (ma 0), .int 0, .int 0, .int 0, .int 0, .ref (ma 1), .ref (ma 2), .null, .int 1, .int 10, .int 900, .ref (ma 3), .ref (ma 4), .int 0, .int 0, .int 0, .ref (ma 5), .int 1000, .int 50, .int 50, .int 1000, .int 10, .int 0, .int 3000, .int 0, .int 0, .int 0]))] H := hP
            have hD : va_D (AL s) [((xa 18), .inr (8, [.ref (xa 19), .ref (xa 20), .ref (xa 21), .int 0, .int 0, .ref (xa 22), .ref (xa 28), .int 0, .int 0])), ((xa 19), .inl (cy 0, 8, .inl (fun _ => 0))), ((xa 20), .inl (cy 1, 8, .inl (fun _ => 0))), ((xa 21), .inl (cy 1, 8, .inl (fun _ => 0))), ((ma 2), .inr (4, [.int 0, .ref (g 0), .int 0])), (aj, .inl (cy 2, 1, .inr (.inl (fun _ => 0)))), (am, .inr (15, [.int 1, .ref (ma 0), .int 0, .int 0, .int 0, .int 0, .ref (ma 1), .ref (ma 2), .null, .int 1, .int 10, .int 900, .ref (ma 3), .ref (ma 4), .int 0, .int 0, .int 0, .ref (ma 5), .int 1000, .int 50, .int 50, .int 1000, .int 10, .int 0, .int 3000, .int 0, .int 0, .int 0]))] := hD
            refine lv_istore (lv' := [(7, .int (-1)), (6, .int 1), (5, .int 0), (4, .ref ao), (3, .ref aj), (2, .ref am), (1, .ref ax), (0, .ref b)]) hx hb dL_law_1247 hl (Nat.le_of_ble_eq_true rfl) rfl (fun ls hl => ?_)
            refine lv_aload_n hx hb dL_law_1249 rfl (lv_at hl 5 rfl) ?_
            refine ca_i (isC := [6]) (isR := [0, 1, 2, 3, 4, 5]) (wr := [((xa 18), .inr (8, [.ref (xa 19), .ref (xa 20), .ref (xa 21), .int 0, .int 0, .ref (xa 22), .ref (xa 28), .int 0, .int 0])), ((xa 19), .inl (cy 0, 8, .inl (fun _ => 0))), ((xa 20), .inl (cy 1, 8, .inl (fun _ => 0))), ((xa 21), .inl (cy 1, 8, .inl (fun _ => 0))), ((ma 2), .inr (4, [.int 0, .ref (g 0), .int 0])), (aj, .inl (cy 2, 1, .inr (.inl (fun _ => 0))))]) (rn_V (ci := 15) (q0 := 6) (isC := [6]) (wc := [(am, .inr (15, [.int 1, .ref (ma 0), .int 0, .int 0, .int 0, .int 0, .ref (ma 1), .ref (ma 2), .null, .int 1, .int 10, .int 900, .ref (ma 3), .ref (ma 4), .int 0, .int 0, .int 0, .ref (ma 5), .int 1000, .int 50, .int 50, .int 1000, .int 10, .int 0, .int 3000, .int 0, .int 0, .int 0]))]) (As := []) (rest := []) (n := 0) hx hb hml hown hts hE hS hP hD hA hl.1 (k24_X10_thrown l D cy g am (.ref (ma 0)) (.int 0) (.int 0) (.int 0) (.int 0) (.ref (ma 1)) (.ref (ma 2)) (.null) (.int 1) (.int 10) (.int 900) (.ref (ma 3)) (.ref (ma 4)) (.int 0) (.int 0) (.int 0) (.ref (ma 5)) (.int 1000) (.int 50) (.int 50) (.int 1000) (.int 10) (.int 0) (.int 3000) (.int 0) (.int 0) (.int 0) H.size ) rfl rfl rfl rfl rfl ax_45 rfl rfl ax_46 ⟨Nat.le_of_ble_eq_true rfl, Nat.le_of_ble_eq_true rfl⟩ rfl rfl (Nat.le_of_ble_eq_true rfl) dL_law_1250 ⟨(Nat.le_of_ble_eq_true rfl), (Nat.le_of_ble_eq_true rfl)⟩) hP hD hS hA rfl rfl rfl (by decide) (fun ad1250 H locs hP hD hS => ?_)
            have hP : va_P D vwCl [((xa 18), .inr (8, [.ref (xa 19), .ref (xa 20), .ref (xa 21), .int 0, .int 0, .ref (xa 22), .ref (xa 28), .int 0, .int 0])), ((xa 19), .inl (cy 0, 8, .inl (fun _ => 0))), ((xa 20), .inl (cy 1, 8, .inl (fun _ => 0))), ((xa 21), .inl (cy 1, 8, .inl (fun _ => 0))), ((ma 2), .inr (4, [.int 0, .ref (g 0), .int 0])), (aj, .inl (cy 2, 1, .inr (.inl (fun _ => 0)))), (am, .inr (15, [.int 1, .ref (ma 0), .int 0, .int 0, .int 0, .int 0, .ref (ma 1), .ref (ma 2), .null, .int 1, .int 10, .int 900, .ref (ma 3), .ref (ma 4), .int 0, .int 0, .int 0, .ref (ma 5), .int 1000, .int 50, .int 50, .int 1000, .int 10, .int 0, .int 3000, .int 0, .int 0, .int 0]))] H := hP
            have hD : va_D (AL s) [((xa 18), .inr (8, [.ref (xa 19), .ref (xa 20), .ref (xa 21), .int 0, .int 0, .ref (xa 22), .ref (xa 28), .int 0, .int 0])), ((xa 19), .inl (cy 0, 8, .inl (fun _ => 0))), ((xa 20), .inl (cy 1, 8, .inl (fun _ => 0))), ((xa 21), .inl (cy 1, 8, .inl (fun _ => 0))), ((ma 2), .inr (4, [.int 0, .ref (g 0), .int 0])), (aj, .inl (cy 2, 1, .inr (.inl (fun _ => 0)))), (am, .inr (15, [.int 1, .ref (ma 0), .int 0, .int 0, .int 0, .int 0, .ref (ma 1), .ref (ma 2), .null, .int 1, .int 10, .int 900, .ref (ma 3), .ref (ma 4), .int 0, .int 0, .int 0, .ref (ma 5), .int 1000, .int 50, .int 50, .int 1000, .int 10, .int 0, .int 3000, .int 0, .int 0, .int 0]))] := hD
            refine lv_iload hx hb dL_law_1253 (lv_at hl 1 rfl) ?_
            refine lv_icmp_eq (tgt := 1260) hx hb dL_law_1255 (by decide) (fun _ => ?_) (fun z => absurd (by decide) z)
            refine lv_iload hx hb dL_law_1260 (lv_at hl 1 rfl) ?_
            refine lv_if_ne (tgt := 1277) hx hb dL_law_1262 (by decide) (fun _ => ?_) (fun z => absurd z (by decide))
            refine lv_goto (tgt := 2947) hx hb dL_law_1277 (by decide) ?_
            exact law_tail LC hS (Nat.le_of_ble_eq_true rfl) (Nat.le_of_ble_eq_true rfl) (lv_sub hl [2, 7] rfl)
          · by_cases c5 : (1000 : Int32) < x2
            · refine lv_aload_n hx hb dL_law_1198 rfl (lv_at hl 4 rfl) ?_
              refine lv_aload_n hx hb dL_law_1199 rfl (lv_at hl 5 rfl) ?_
              refine lv_iload hx hb dL_law_1200 (lv_at hl 0 rfl) ?_
              refine lv_iconst (v := 1) hx hb dL_law_1202 (by decide) ?_
              refine lv_iadd hx hb dL_law_1203 ?_
              refine tp_i 1 (by decide) ?_
              refine va_sld hx hb hX hbl hbA hS (by unfold vp_in; decide) dL_law_1204 ?_
              refine tp_i x1 e1 ?_
              refine lv_i2c (v := 112) hx hb dL_law_1205 ekc ?_
              refine lv_aload_n hx hb dL_law_1206 rfl (lv_at hl 5 rfl) ?_
              refine lv_iload hx hb dL_law_1207 (lv_at hl 0 rfl) ?_
              refine lv_iconst (v := 2) hx hb dL_law_1209 (by decide) ?_
              refine lv_iadd hx hb dL_law_1210 ?_
              refine tp_i 2 (by decide) ?_
              refine va_sld hx hb hX hbl hbA hS (by unfold vp_in; decide) dL_law_1211 ?_
              refine tp_i x2 e2 ?_
              refine lv_aload_n hx hb dL_law_1212 rfl (lv_at hl 5 rfl) ?_
              refine lv_iload hx hb dL_law_1213 (lv_at hl 0 rfl) ?_
              refine lv_iconst (v := 3) hx hb dL_law_1215 (by decide) ?_
              refine lv_iadd hx hb dL_law_1216 ?_
              refine tp_i 3 (by decide) ?_
              refine va_sld hx hb hX hbl hbA hS (by unfold vp_in; decide) dL_law_1217 ?_
              refine tp_i x3 e3 ?_
              refine lv_aload_n hx hb dL_law_1218 rfl (lv_at hl 2 rfl) ?_
              refine ca_i (isC := [0]) (isR := [1, 2, 3, 4, 5, 6, 7]) (wr := [((xa 18), .inr (8, [.ref (xa 19), .ref (xa 20), .ref (xa 21), .int 0, .int 0, .ref (xa 22), .ref (xa 28), .int 0, .int 0])), ((xa 19), .inl (cy 0, 8, .inl (fun _ => 0))), ((xa 20), .inl (cy 1, 8, .inl (fun _ => 0))), ((xa 21), .inl (cy 1, 8, .inl (fun _ => 0))), (am, .inr (15, [.int 0, .ref (ma 0), .int 0, .int 0, .int 0, .int 0, .ref (ma 1), .ref (ma 2), .null, .int 1, .int 10, .int 900, .ref (ma 3), .ref (ma 4), .int 0, .int 0, .int 0, .ref (ma 5), .int 1000, .int 50, .int 50, .int 1000, .int 10, .int 0, .int 3000, .int 0, .int 0, .int 0])), ((ma 2), .inr (4, [.int 0, .ref (g 0), .int 0])), (aj, .inl (cy 2, 1, .inr (.inl (fun _ => 0))))]) (rn_SW (isC := [0]) (wc := [(ax, .inr (14, [.ref (xa 0), .ref (xa 13), .ref (xa 18), .ref (xa 34), .ref (xa 45), .ref (xa 49), .ref (xa 50)]))]) (As := [.ref ax, .int 112, .int x2, .int x3, .ref aj]) (rest := []) (n := 5) hx hb hml hown hts hE hS hP hD hA hl.1 (k271_L_addPart l hst D cy g x2 x3 ax aj (.ref (xa 0)) (.ref (xa 13)) (.ref (xa 18)) (.ref (xa 34)) (.ref (xa 45)) (.ref (xa 49)) (.ref (xa 50)) H.size c4 c5) rfl rfl ax_184 rfl rfl ax_185 ⟨Nat.le_of_ble_eq_true rfl, Nat.le_of_ble_eq_true rfl⟩ rfl rfl (Nat.le_of_ble_eq_true rfl) dL_law_1219 ⟨(Nat.le_of_ble_eq_true rfl), (Nat.le_of_ble_eq_true rfl)⟩) hP hD hS hA rfl rfl rfl (by decide) (fun ad1219 H locs hP hD hS => ?_)
              have hP : va_P D vwCl [((xa 18), .inr (8, [.ref (xa 19), .ref (xa 20), .ref (xa 21), .int 0, .int 0, .ref (xa 22), .ref (xa 28), .int 0, .int 0])), ((xa 19), .inl (cy 0, 8, .inl (fun _ => 0))), ((xa 20), .inl (cy 1, 8, .inl (fun _ => 0))), ((xa 21), .inl (cy 1, 8, .inl (fun _ => 0))), (am, .inr (15, [.int 0, .ref (ma 0), .int 0, .int 0, .int 0, .int 0, .ref (ma 1), .ref (ma 2), .null, .int 1, .int 10, .int 900, .ref (ma 3), .ref (ma 4), .int 0, .int 0, .int 0, .ref (ma 5), .int 1000, .int 50, .int 50, .int 1000, .int 10, .int 0, .int 3000, .int 0, .int 0, .int 0])), ((ma 2), .inr (4, [.int 0, .ref (g 0), .int 0])), (aj, .inl (cy 2, 1, .inr (.inl (fun _ => 0))))] H := hP
              have hD : va_D (AL s) [((xa 18), .inr (8, [.ref (xa 19), .ref (xa 20), .ref (xa 21), .int 0, .int 0, .ref (xa 22), .ref (xa 28), .int 0, .int 0])), ((xa 19), .inl (cy 0, 8, .inl (fun _ => 0))), ((xa 20), .inl (cy 1, 8, .inl (fun _ => 0))), ((xa 21), .inl (cy 1, 8, .inl (fun _ => 0))), (am, .inr (15, [.int 0, .ref (ma 0), .int 0, .int 0, .int 0, .int 0, .ref (ma 1), .ref (ma 2), .null, .int 1, .int 10, .int 900, .ref (ma 3), .ref (ma 4), .int 0, .int 0, .int 0, .ref (ma 5), .int 1000, .int 50, .int 50, .int 1000, .int 10, .int 0, .int 3000, .int 0, .int 0, .int 0])), ((ma 2), .inr (4, [.int 0, .ref (g 0), .int 0])), (aj, .inl (cy 2, 1, .inr (.inl (fun _ => 0))))] := hD
              refine lv_istore (lv' := [(6, .int 1), (5, .int 0), (4, .ref ao), (3, .ref aj), (2, .ref am), (1, .ref ax), (0, .ref b)]) hx hb dL_law_1222 hl (Nat.le_of_ble_eq_true rfl) rfl (fun ls hl => ?_)
              refine lv_aload_n hx hb dL_law_1224 rfl (lv_at hl 4 rfl) ?_
              refine lv_aload_n hx hb dL_law_1225 rfl (lv_at hl 6 rfl) ?_
              refine lv_iload hx hb dL_law_1226 (lv_at hl 1 rfl) ?_
              refine lv_iconst (v := 1) hx hb dL_law_1228 (by decide) ?_
              refine lv_iadd hx hb dL_law_1229 ?_
              refine tp_i 1 (by decide) ?_
              refine va_sld hx hb hX hbl hbA hS (by unfold vp_in; decide) dL_law_1230 ?_
              refine tp_i x1 e1 ?_
              refine lv_i2c (v := 112) hx hb dL_law_1231 ekc ?_
              refine lv_aload_n hx hb dL_law_1232 rfl (lv_at hl 6 rfl) ?_
              refine lv_iload hx hb dL_law_1233 (lv_at hl 1 rfl) ?_
              refine lv_iconst (v := 2) hx hb dL_law_1235 (by decide) ?_
              refine lv_iadd hx hb dL_law_1236 ?_
              refine tp_i 2 (by decide) ?_
              refine va_sld hx hb hX hbl hbA hS (by unfold vp_in; decide) dL_law_1237 ?_
              refine tp_i x2 e2 ?_
              refine lv_aload_n hx hb dL_law_1238 rfl (lv_at hl 6 rfl) ?_
              refine lv_iload hx hb dL_law_1239 (lv_at hl 1 rfl) ?_
              refine lv_iconst (v := 3) hx hb dL_law_1241 (by decide) ?_
              refine lv_iadd hx hb dL_law_1242 ?_
              refine tp_i 3 (by decide) ?_
              refine va_sld hx hb hX hbl hbA hS (by unfold vp_in; decide) dL_law_1243 ?_
              refine tp_i x3 e3 ?_
              refine ca_i (isC := [4]) (isR := [0, 1, 2, 3, 5, 6]) (wr := [((xa 18), .inr (8, [.ref (xa 19), .ref (xa 20), .ref (xa 21), .int 0, .int 0, .ref (xa 22), .ref (xa 28), .int 0, .int 0])), ((xa 19), .inl (cy 0, 8, .inl (fun _ => 0))), ((xa 20), .inl (cy 1, 8, .inl (fun _ => 0))), ((xa 21), .inl (cy 1, 8, .inl (fun _ => 0))), ((ma 2), .inr (4, [.int 0, .ref (g 0), .int 0])), (aj, .inl (cy 2, 1, .inr (.inl (fun _ => 0))))]) (rn_V (ci := 15) (q0 := 4) (isC := [4]) (wc := [(am, .inr (15, [.int 0, .ref (ma 0), .int 0, .int 0, .int 0, .int 0, .ref (ma 1), .ref (ma 2), .null, .int 1, .int 10, .int 900, .ref (ma 3), .ref (ma 4), .int 0, .int 0, .int 0, .ref (ma 5), .int 1000, .int 50, .int 50, .int 1000, .int 10, .int 0, .int 3000, .int 0, .int 0, .int 0]))]) (As := [.int 112, .int x2, .int x3]) (rest := []) (n := 3) hx hb hml hown hts hE hS hP hD hA hl.1 (k272_X10_addPart l D cy g x2 x3 am (.int 0) (.ref (ma 0)) (.int 0) (.int 0) (.int 0) (.int 0) (.ref (ma 1)) (.ref (ma 2)) (.null) (.int 1) (.int 10) (.int 900) (.ref (ma 3)) (.ref (ma 4)) (.int 0) (.int 0) (.int 0) (.ref (ma 5)) (.int 1000) (.int 50) (.int 50) (.int 1000) (.int 10) (.int 0) (.int 3000) (.int 0) (.int 0) (.int 0) H.size c4 c5) rfl rfl rfl rfl rfl ax_202 rfl rfl ax_203 ⟨Nat.le_of_ble_eq_true rfl, Nat.le_of_ble_eq_true rfl⟩ rfl rfl (Nat.le_of_ble_eq_true rfl) dL_law_1244 ⟨(Nat.le_of_ble_eq_true rfl), (Nat.le_of_ble_eq_true rfl)⟩) hP hD hS hA rfl rfl rfl (by decide) (fun ad1244 H locs hP hD hS => ?_)
              have hP : va_P D vwCl [((xa 18), .inr (8, [.ref (xa 19), .ref (xa 20), .ref (xa 21), .int 0, .int 0, .ref (xa 22), .ref (xa 28), .int 0, .int 0])), ((xa 19), .inl (cy 0, 8, .inl (fun _ => 0))), ((xa 20), .inl (cy 1, 8, .inl (fun _ => 0))), ((xa 21), .inl (cy 1, 8, .inl (fun _ => 0))), ((ma 2), .inr (4, [.int 0, .ref (g 0), .int 0])), (aj, .inl (cy 2, 1, .inr (.inl (fun _ => 0)))), (am, .inr (15, [.int 1, .ref (ma 0), .int 0, .int 0, .int 0, .int 0, .ref (ma 1), .ref (ma 2), .null, .int 1, .int 10, .int 900, .ref (ma 3), .ref (ma 4), .int 0, .int 0, .int 0, .ref (ma 5), .int 1000, .int 50, .int 50, .int 1000, .int 10, .int 0, .int 3000, .int 0, .int 0, .int 0]))] H := hP
              have hD : va_D (AL s) [((xa 18), .inr (8, [.ref (xa 19), .ref (xa 20), .ref (xa 21), .int 0, .int 0, .ref (xa 22), .ref (xa 28), .int 0, .int 0])), ((xa 19), .inl (cy 0, 8, .inl (fun _ => 0))), ((xa 20), .inl (cy 1, 8, .inl (fun _ => 0))), ((xa 21), .inl (cy 1, 8, .inl (fun _ => 0))), ((ma 2), .inr (4, [.int 0, .ref (g 0), .int 0])), (aj, .inl (cy 2, 1, .inr (.inl (fun _ => 0)))), (am, .inr (15, [.int 1, .ref (ma 0), .int 0, .int 0, .int 0, .int 0, .ref (ma 1), .ref (ma 2), .null, .int 1, .int 10, .int 900, .ref (ma 3), .ref (ma 4), .int 0, .int 0, .int 0, .ref (ma 5), .int 1000, .int 50, .int 50, .int 1000, .int 10, .int 0, .int 3000, .int 0, .int 0, .int 0]))] := hD
              refine lv_istore (lv' := [(7, .int (-1)), (6, .int 1), (5, .int 0), (4, .ref ao), (3, .ref aj), (2, .ref am), (1, .ref ax), (0, .ref b)]) hx hb dL_law_1247 hl (Nat.le_of_ble_eq_true rfl) rfl (fun ls hl => ?_)
              refine lv_aload_n hx hb dL_law_1249 rfl (lv_at hl 5 rfl) ?_
              refine ca_i (isC := [6]) (isR := [0, 1, 2, 3, 4, 5]) (wr := [((xa 18), .inr (8, [.ref (xa 19), .ref (xa 20), .ref (xa 21), .int 0, .int 0, .ref (xa 22), .ref (xa 28), .int 0, .int 0])), ((xa 19), .inl (cy 0, 8, .inl (fun _ => 0))), ((xa 20), .inl (cy 1, 8, .inl (fun _ => 0))), ((xa 21), .inl (cy 1, 8, .inl (fun _ => 0))), ((ma 2), .inr (4, [.int 0, .ref (g 0), .int 0])), (aj, .inl (cy 2, 1, .inr (.inl (fun _ => 0))))]) (rn_V (ci := 15) (q0 := 6) (isC := [6]) (wc := [(am, .inr (15, [.int 1, .ref (ma 0), .int 0, .int 0, .int 0, .int 0, .ref (ma 1), .ref (ma 2), .null, .int 1, .int 10, .int 900, .ref (ma 3), .ref (ma 4), .int 0, .int 0, .int 0, .ref (ma 5), .int 1000, .int 50, .int 50, .int 1000, .int 10, .int 0, .int 3000, .int 0, .int 0, .int 0]))]) (As := []) (rest := []) (n := 0) hx hb hml hown hts hE hS hP hD hA hl.1 (k24_X10_thrown l D cy g am (.ref (ma 0)) (.int 0) (.int 0) (.int 0) (.int 0) (.ref (ma 1)) (.ref (ma 2)) (.null) (.int 1) (.int 10) (.int 900) (.ref (ma 3)) (.ref (ma 4)) (.int 0) (.int 0) (.int 0) (.ref (ma 5)) (.int 1000) (.int 50) (.int 50) (.int 1000) (.int 10) (.int 0) (.int 3000) (.int 0) (.int 0) (.int 0) H.size ) rfl rfl rfl rfl rfl ax_45 rfl rfl ax_46 ⟨Nat.le_of_ble_eq_true rfl, Nat.le_of_ble_eq_true rfl⟩ rfl rfl (Nat.le_of_ble_eq_true rfl) dL_law_1250 ⟨(Nat.le_of_ble_eq_true rfl), (Nat.le_of_ble_eq_true rfl)⟩) hP hD hS hA rfl rfl rfl (by decide) (fun ad1250 H locs hP hD hS => ?_)
              have hP : va_P D vwCl [((xa 18), .inr (8, [.ref (xa 19), .ref (xa 20), .ref (xa 21), .int 0, .int 0, .ref (xa 22), .ref (xa 28), .int 0, .int 0])), ((xa 19), .inl (cy 0, 8, .inl (fun _ => 0))), ((xa 20), .inl (cy 1, 8, .inl (fun _ => 0))), ((xa 21), .inl (cy 1, 8, .inl (fun _ => 0))), ((ma 2), .inr (4, [.int 0, .ref (g 0), .int 0])), (aj, .inl (cy 2, 1, .inr (.inl (fun _ => 0)))), (am, .inr (15, [.int 1, .ref (ma 0), .int 0, .int 0, .int 0, .int 0, .ref (ma 1), .ref (ma 2), .null, .int 1, .int 10, .int 900, .ref (ma 3), .ref (ma 4), .int 0, .int 0, .int 0, .ref (ma 5), .int 1000, .int 50, .int 50, .int 1000, .int 10, .int 0, .int 3000, .int 0, .int 0, .int 0]))] H := hP
              have hD : va_D (AL s) [((xa 18), .inr (8, [.ref (xa 19), .ref (xa 20), .ref (xa 21), .int 0, .int 0, .ref (xa 22), .ref (xa 28), .int 0, .int 0])), ((xa 19), .inl (cy 0, 8, .inl (fun _ => 0))), ((xa 20), .inl (cy 1, 8, .inl (fun _ => 0))), ((xa 21), .inl (cy 1, 8, .inl (fun _ => 0))), ((ma 2), .inr (4, [.int 0, .ref (g 0), .int 0])), (aj, .inl (cy 2, 1, .inr (.inl (fun _ => 0)))), (am, .inr (15, [.int 1, .ref (ma 0), .int 0, .int 0, .int 0, .int 0, .ref (ma 1), .ref (ma 2), .null, .int 1, .int 10, .int 900, .ref (ma 3), .ref (ma 4), .int 0, .int 0, .int 0, .ref (ma 5), .int 1000, .int 50, .int 50, .int 1000, .int 10, .int 0, .int 3000, .int 0, .int 0, .int 0]))] := hD
              refine lv_iload hx hb dL_law_1253 (lv_at hl 1 rfl) ?_
              refine lv_icmp_eq (tgt := 1260) hx hb dL_law_1255 (by decide) (fun _ => ?_) (fun z => absurd (by decide) z)
              refine lv_iload hx hb dL_law_1260 (lv_at hl 1 rfl) ?_
              refine lv_if_ne (tgt := 1277) hx hb dL_law_1262 (by decide) (fun _ => ?_) (fun z => absurd z (by decide))
              refine lv_goto (tgt := 2947) hx hb dL_law_1277 (by decide) ?_
              exact law_tail LC hS (Nat.le_of_ble_eq_true rfl) (Nat.le_of_ble_eq_true rfl) (lv_sub hl [2, 7] rfl)
            · refine lv_aload_n hx hb dL_law_1198 rfl (lv_at hl 4 rfl) ?_
              refine lv_aload_n hx hb dL_law_1199 rfl (lv_at hl 5 rfl) ?_
              refine lv_iload hx hb dL_law_1200 (lv_at hl 0 rfl) ?_
              refine lv_iconst (v := 1) hx hb dL_law_1202 (by decide) ?_
              refine lv_iadd hx hb dL_law_1203 ?_
              refine tp_i 1 (by decide) ?_
              refine va_sld hx hb hX hbl hbA hS (by unfold vp_in; decide) dL_law_1204 ?_
              refine tp_i x1 e1 ?_
              refine lv_i2c (v := 112) hx hb dL_law_1205 ekc ?_
              refine lv_aload_n hx hb dL_law_1206 rfl (lv_at hl 5 rfl) ?_
              refine lv_iload hx hb dL_law_1207 (lv_at hl 0 rfl) ?_
              refine lv_iconst (v := 2) hx hb dL_law_1209 (by decide) ?_
              refine lv_iadd hx hb dL_law_1210 ?_
              refine tp_i 2 (by decide) ?_
              refine va_sld hx hb hX hbl hbA hS (by unfold vp_in; decide) dL_law_1211 ?_
              refine tp_i x2 e2 ?_
              refine lv_aload_n hx hb dL_law_1212 rfl (lv_at hl 5 rfl) ?_
              refine lv_iload hx hb dL_law_1213 (lv_at hl 0 rfl) ?_
              refine lv_iconst (v := 3) hx hb dL_law_1215 (by decide) ?_
              refine lv_iadd hx hb dL_law_1216 ?_
              refine tp_i 3 (by decide) ?_
              refine va_sld hx hb hX hbl hbA hS (by unfold vp_in; decide) dL_law_1217 ?_
              refine tp_i x3 e3 ?_
              refine lv_aload_n hx hb dL_law_1218 rfl (lv_at hl 2 rfl) ?_
              refine ca_i (isC := [0, 1, 2, 3, 4, 7]) (isR := [5, 6]) (wr := [(am, .inr (15, [.int 0, .ref (ma 0), .int 0, .int 0, .int 0, .int 0, .ref (ma 1), .ref (ma 2), .null, .int 1, .int 10, .int 900, .ref (ma 3), .ref (ma 4), .int 0, .int 0, .int 0, .ref (ma 5), .int 1000, .int 50, .int 50, .int 1000, .int 10, .int 0, .int 3000, .int 0, .int 0, .int 0])), ((ma 2), .inr (4, [.int 0, .ref (g 0), .int 0]))]) (rn_SW (isC := [0, 1, 2, 3, 4, 7]) (wc := [(ax, .inr (14, [.ref (xa 0), .ref (xa 13), .ref (xa 18), .ref (xa 34), .ref (xa 45), .ref (xa 49), .ref (xa 50)])), ((xa 18), .inr (8, [.ref (xa 19), .ref (xa 20), .ref (xa 21), .int 0, .int 0, .ref (xa 22), .ref (xa 28), .int 0, .int 0])), ((xa 19), .inl (cy 0, 8, .inl (fun _ => 0))), ((xa 20), .inl (cy 1, 8, .inl (fun _ => 0))), ((xa 21), .inl (cy 1, 8, .inl (fun _ => 0))), (aj, .inl (cy 2, 1, .inr (.inl (fun _ => 0))))]) (As := [.ref ax, .int 112, .int x2, .int x3, .ref aj]) (rest := []) (n := 5) hx hb hml hown hts hE hS hP hD hA hl.1 (k276_L_addPart l D cy g x2 x3 ax (xa 18) (xa 19) (xa 20) (xa 21) aj (.ref (xa 0)) (.ref (xa 13)) (.ref (xa 34)) (.ref (xa 45)) (.ref (xa 49)) (.ref (xa 50)) (.int 0) (.ref (xa 22)) (.ref (xa 28)) (.int 0) (.int 0) (fun _ => 0) (fun _ => 0) (fun _ => 0) (fun _ => 0) H.size c4 c5) rfl rfl ax_184 rfl rfl ax_185 ⟨Nat.le_of_ble_eq_true rfl, Nat.le_of_ble_eq_true rfl⟩ rfl rfl (Nat.le_of_ble_eq_true rfl) dL_law_1219 ⟨(Nat.le_of_ble_eq_true rfl), (Nat.le_of_ble_eq_true rfl)⟩) hP hD hS hA rfl rfl rfl (by decide) (fun ad1219 H locs hP hD hS => ?_)
              have hP : va_P D vwCl [(am, .inr (15, [.int 0, .ref (ma 0), .int 0, .int 0, .int 0, .int 0, .ref (ma 1), .ref (ma 2), .null, .int 1, .int 10, .int 900, .ref (ma 3), .ref (ma 4), .int 0, .int 0, .int 0, .ref (ma 5), .int 1000, .int 50, .int 50, .int 1000, .int 10, .int 0, .int 3000, .int 0, .int 0, .int 0])), ((ma 2), .inr (4, [.int 0, .ref (g 0), .int 0])), (aj, .inl (cy 2, 1, .inr (.inl (vp_updL (fun _ => 0) (0 : Int32).toNatClampNeg 1))))] H := hP
              have hD : va_D (AL s) [(am, .inr (15, [.int 0, .ref (ma 0), .int 0, .int 0, .int 0, .int 0, .ref (ma 1), .ref (ma 2), .null, .int 1, .int 10, .int 900, .ref (ma 3), .ref (ma 4), .int 0, .int 0, .int 0, .ref (ma 5), .int 1000, .int 50, .int 50, .int 1000, .int 10, .int 0, .int 3000, .int 0, .int 0, .int 0])), ((ma 2), .inr (4, [.int 0, .ref (g 0), .int 0])), (aj, .inl (cy 2, 1, .inr (.inl (vp_updL (fun _ => 0) (0 : Int32).toNatClampNeg 1))))] := hD
              refine lv_istore (lv' := [(6, .int 0), (5, .int 0), (4, .ref ao), (3, .ref aj), (2, .ref am), (1, .ref ax), (0, .ref b)]) hx hb dL_law_1222 hl (Nat.le_of_ble_eq_true rfl) rfl (fun ls hl => ?_)
              refine lv_aload_n hx hb dL_law_1224 rfl (lv_at hl 4 rfl) ?_
              refine lv_aload_n hx hb dL_law_1225 rfl (lv_at hl 6 rfl) ?_
              refine lv_iload hx hb dL_law_1226 (lv_at hl 1 rfl) ?_
              refine lv_iconst (v := 1) hx hb dL_law_1228 (by decide) ?_
              refine lv_iadd hx hb dL_law_1229 ?_
              refine tp_i 1 (by decide) ?_
              refine va_sld hx hb hX hbl hbA hS (by unfold vp_in; decide) dL_law_1230 ?_
              refine tp_i x1 e1 ?_
              refine lv_i2c (v := 112) hx hb dL_law_1231 ekc ?_
              refine lv_aload_n hx hb dL_law_1232 rfl (lv_at hl 6 rfl) ?_
              refine lv_iload hx hb dL_law_1233 (lv_at hl 1 rfl) ?_
              refine lv_iconst (v := 2) hx hb dL_law_1235 (by decide) ?_
              refine lv_iadd hx hb dL_law_1236 ?_
              refine tp_i 2 (by decide) ?_
              refine va_sld hx hb hX hbl hbA hS (by unfold vp_in; decide) dL_law_1237 ?_
              refine tp_i x2 e2 ?_
              refine lv_aload_n hx hb dL_law_1238 rfl (lv_at hl 6 rfl) ?_
              refine lv_iload hx hb dL_law_1239 (lv_at hl 1 rfl) ?_
              refine lv_iconst (v := 3) hx hb dL_law_1241 (by decide) ?_
              refine lv_iadd hx hb dL_law_1242 ?_
              refine tp_i 3 (by decide) ?_
              refine va_sld hx hb hX hbl hbA hS (by unfold vp_in; decide) dL_law_1243 ?_
              refine tp_i x3 e3 ?_
              refine ca_i (isC := [0, 1]) (isR := [2]) (wr := [(aj, .inl (cy 2, 1, .inr (.inl (vp_updL (fun _ => 0) (0 : Int32).toNatClampNeg 1))))]) (rn_V (ci := 15) (q0 := 0) (isC := [0, 1]) (wc := [(am, .inr (15, [.int 0, .ref (ma 0), .int 0, .int 0, .int 0, .int 0, .ref (ma 1), .ref (ma 2), .null, .int 1, .int 10, .int 900, .ref (ma 3), .ref (ma 4), .int 0, .int 0, .int 0, .ref (ma 5), .int 1000, .int 50, .int 50, .int 1000, .int 10, .int 0, .int 3000, .int 0, .int 0, .int 0])), ((ma 2), .inr (4, [.int 0, .ref (g 0), .int 0]))]) (As := [.int 112, .int x2, .int x3]) (rest := []) (n := 3) hx hb hml hown hts hE hS hP hD hA hl.1 (k277_X10_addPart l D cy g x2 x3 am (ma 2) (.int 0) (.ref (ma 0)) (.int 0) (.int 0) (.int 0) (.int 0) (.ref (ma 1)) (.null) (.int 1) (.int 10) (.int 900) (.ref (ma 3)) (.ref (ma 4)) (.int 0) (.int 0) (.int 0) (.ref (ma 5)) (.int 1000) (.int 50) (.int 50) (.int 1000) (.int 10) (.int 0) (.int 3000) (.int 0) (.int 0) (.int 0) H.size c4 c5) rfl rfl rfl rfl rfl ax_202 rfl rfl ax_203 ⟨Nat.le_of_ble_eq_true rfl, Nat.le_of_ble_eq_true rfl⟩ rfl rfl (Nat.le_of_ble_eq_true rfl) dL_law_1244 ⟨(Nat.le_of_ble_eq_true rfl), (Nat.le_of_ble_eq_true rfl)⟩) hP hD hS hA rfl rfl rfl (by decide) (fun ad1244 H locs hP hD hS => ?_)
              have hP : va_P D vwCl [(aj, .inl (cy 2, 1, .inr (.inl (vp_updL (fun _ => 0) (0 : Int32).toNatClampNeg 1)))), (am, .inr (15, [.int 0, .ref (ma 0), .int 0, .int 0, .int 0, .int 0, .ref (ma 1), .ref (ma 2), .null, .int 1, .int 10, .int 900, .ref (ma 3), .ref (ma 4), .int 0, .int 0, .int 0, .ref (ma 5), .int 1000, .int 50, .int 50, .int 1000, .int 10, .int 0, .int 3000, .int 0, .int 0, .int 0]))] H := hP
              have hD : va_D (AL s) [(aj, .inl (cy 2, 1, .inr (.inl (vp_updL (fun _ => 0) (0 : Int32).toNatClampNeg 1)))), (am, .inr (15, [.int 0, .ref (ma 0), .int 0, .int 0, .int 0, .int 0, .ref (ma 1), .ref (ma 2), .null, .int 1, .int 10, .int 900, .ref (ma 3), .ref (ma 4), .int 0, .int 0, .int 0, .ref (ma 5), .int 1000, .int 50, .int 50, .int 1000, .int 10, .int 0, .int 3000, .int 0, .int 0, .int 0]))] := hD
              refine lv_istore (lv' := [(7, .int 1), (6, .int 0), (5, .int 0), (4, .ref ao), (3, .ref aj), (2, .ref am), (1, .ref ax), (0, .ref b)]) hx hb dL_law_1247 hl (Nat.le_of_ble_eq_true rfl) rfl (fun ls hl => ?_)
              refine lv_aload_n hx hb dL_law_1249 rfl (lv_at hl 5 rfl) ?_
              refine ca_i (isC := [1]) (isR := [0]) (wr := [(aj, .inl (cy 2, 1, .inr (.inl (vp_updL (fun _ => 0) (0 : Int32).toNatClampNeg 1))))]) (rn_V (ci := 15) (q0 := 1) (isC := [1]) (wc := [(am, .inr (15, [.int 0, .ref (ma 0), .int 0, .int 0, .int 0, .int 0, .ref (ma 1), .ref (ma 2), .null, .int 1, .int 10, .int 900, .ref (ma 3), .ref (ma 4), .int 0, .int 0, .int 0, .ref (ma 5), .int 1000, .int 50, .int 50, .int 1000, .int 10, .int 0, .int 3000, .int 0, .int 0, .int 0]))]) (As := []) (rest := []) (n := 0) hx hb hml hown hts hE hS hP hD hA hl.1 (k52_X10_thrown l D cy g am (.ref (ma 0)) (.int 0) (.int 0) (.int 0) (.int 0) (.ref (ma 1)) (.ref (ma 2)) (.null) (.int 1) (.int 10) (.int 900) (.ref (ma 3)) (.ref (ma 4)) (.int 0) (.int 0) (.int 0) (.ref (ma 5)) (.int 1000) (.int 50) (.int 50) (.int 1000) (.int 10) (.int 0) (.int 3000) (.int 0) (.int 0) (.int 0) H.size ) rfl rfl rfl rfl rfl ax_45 rfl rfl ax_46 ⟨Nat.le_of_ble_eq_true rfl, Nat.le_of_ble_eq_true rfl⟩ rfl rfl (Nat.le_of_ble_eq_true rfl) dL_law_1250 ⟨(Nat.le_of_ble_eq_true rfl), (Nat.le_of_ble_eq_true rfl)⟩) hP hD hS hA rfl rfl rfl (by decide) (fun ad1250 H locs hP hD hS => ?_)
              have hP : va_P D vwCl [(aj, .inl (cy 2, 1, .inr (.inl (vp_updL (fun _ => 0) (0 : Int32).toNatClampNeg 1)))), (am, .inr (15, [.int 0, .ref (ma 0), .int 0, .int 0, .int 0, .int 0, .ref (ma 1), .ref (ma 2), .null, .int 1, .int 10, .int 900, .ref (ma 3), .ref (ma 4), .int 0, .int 0, .int 0, .ref (ma 5), .int 1000, .int 50, .int 50, .int 1000, .int 10, .int 0, .int 3000, .int 0, .int 0, .int 0]))] H := hP
              have hD : va_D (AL s) [(aj, .inl (cy 2, 1, .inr (.inl (vp_updL (fun _ => 0) (0 : Int32).toNatClampNeg 1)))), (am, .inr (15, [.int 0, .ref (ma 0), .int 0, .int 0, .int 0, .int 0, .ref (ma 1), .ref (ma 2), .null, .int 1, .int 10, .int 900, .ref (ma 3), .ref (ma 4), .int 0, .int 0, .int 0, .ref (ma 5), .int 1000, .int 50, .int 50, .int 1000, .int 10, .int 0, .int 3000, .int 0, .int 0, .int 0]))] := hD
              refine lv_iload hx hb dL_law_1253 (lv_at hl 1 rfl) ?_
              refine lv_icmp_eq (tgt := 1260) hx hb dL_law_1255 (by decide) (fun _ => ?_) (fun z => absurd (by decide) z)
              refine lv_iload hx hb dL_law_1260 (lv_at hl 1 rfl) ?_
              refine lv_if_ne (tgt := 1277) hx hb dL_law_1262 (by decide) (fun z => absurd (by decide) z) (fun _ => ?_)
              refine lv_aload_n hx hb dL_law_1265 rfl (lv_at hl 4 rfl) ?_
              refine lv_iconst (v := 0) hx hb dL_law_1266 (by decide) ?_
              refine va_lald hx hb hE.1 hP 0 2 rfl rfl (by unfold vp_in; decide) dL_law_1267 ?_
              refine tp_l 1 rfl ?_
              refine lv_iload hx hb dL_law_1268 (lv_at hl 0 rfl) ?_
              refine lv_i2l (v := 1) hx hb dL_law_1270 (by decide) ?_
              refine W.lcmp hx hb dL_law_1271 ?_
              refine tp_i 0 (by decide) ?_
              refine lv_if_eq (tgt := 1277) hx hb dL_law_1272 (by decide) (fun _ => ?_) (fun z => absurd (by decide) z)
              refine lv_goto (tgt := 2947) hx hb dL_law_1277 (by decide) ?_
              exact law_tail LC hS (Nat.le_of_ble_eq_true rfl) (Nat.le_of_ble_eq_true rfl) (lv_sub hl [2, 7] rfl)
        · by_cases c4 : kc = 118
          · subst c4
            by_cases c5 : x2 < 1
            · refine lv_aload_n hx hb dL_law_1198 rfl (lv_at hl 4 rfl) ?_
              refine lv_aload_n hx hb dL_law_1199 rfl (lv_at hl 5 rfl) ?_
              refine lv_iload hx hb dL_law_1200 (lv_at hl 0 rfl) ?_
              refine lv_iconst (v := 1) hx hb dL_law_1202 (by decide) ?_
              refine lv_iadd hx hb dL_law_1203 ?_
              refine tp_i 1 (by decide) ?_
              refine va_sld hx hb hX hbl hbA hS (by unfold vp_in; decide) dL_law_1204 ?_
              refine tp_i x1 e1 ?_
              refine lv_i2c (v := 118) hx hb dL_law_1205 ekc ?_
              refine lv_aload_n hx hb dL_law_1206 rfl (lv_at hl 5 rfl) ?_
              refine lv_iload hx hb dL_law_1207 (lv_at hl 0 rfl) ?_
              refine lv_iconst (v := 2) hx hb dL_law_1209 (by decide) ?_
              refine lv_iadd hx hb dL_law_1210 ?_
              refine tp_i 2 (by decide) ?_
              refine va_sld hx hb hX hbl hbA hS (by unfold vp_in; decide) dL_law_1211 ?_
              refine tp_i x2 e2 ?_
              refine lv_aload_n hx hb dL_law_1212 rfl (lv_at hl 5 rfl) ?_
              refine lv_iload hx hb dL_law_1213 (lv_at hl 0 rfl) ?_
              refine lv_iconst (v := 3) hx hb dL_law_1215 (by decide) ?_
              refine lv_iadd hx hb dL_law_1216 ?_
              refine tp_i 3 (by decide) ?_
              refine va_sld hx hb hX hbl hbA hS (by unfold vp_in; decide) dL_law_1217 ?_
              refine tp_i x3 e3 ?_
              refine lv_aload_n hx hb dL_law_1218 rfl (lv_at hl 2 rfl) ?_
              refine ca_i (isC := [0]) (isR := [1, 2, 3, 4, 5, 6, 7]) (wr := [((xa 18), .inr (8, [.ref (xa 19), .ref (xa 20), .ref (xa 21), .int 0, .int 0, .ref (xa 22), .ref (xa 28), .int 0, .int 0])), ((xa 19), .inl (cy 0, 8, .inl (fun _ => 0))), ((xa 20), .inl (cy 1, 8, .inl (fun _ => 0))), ((xa 21), .inl (cy 1, 8, .inl (fun _ => 0))), (am, .inr (15, [.int 0, .ref (ma 0), .int 0, .int 0, .int 0, .int 0, .ref (ma 1), .ref (ma 2), .null, .int 1, .int 10, .int 900, .ref (ma 3), .ref (ma 4), .int 0, .int 0, .int 0, .ref (ma 5), .int 1000, .int 50, .int 50, .int 1000, .int 10, .int 0, .int 3000, .int 0, .int 0, .int 0])), ((ma 2), .inr (4, [.int 0, .ref (g 0), .int 0])), (aj, .inl (cy 2, 1, .inr (.inl (fun _ => 0))))]) (rn_SW (isC := [0]) (wc := [(ax, .inr (14, [.ref (xa 0), .ref (xa 13), .ref (xa 18), .ref (xa 34), .ref (xa 45), .ref (xa 49), .ref (xa 50)]))]) (As := [.ref ax, .int 118, .int x2, .int x3, .ref aj]) (rest := []) (n := 5) hx hb hml hown hts hE hS hP hD hA hl.1 (k280_L_addPart l hst D cy g x2 x3 ax aj (.ref (xa 0)) (.ref (xa 13)) (.ref (xa 18)) (.ref (xa 34)) (.ref (xa 45)) (.ref (xa 49)) (.ref (xa 50)) H.size c5) rfl rfl ax_184 rfl rfl ax_185 ⟨Nat.le_of_ble_eq_true rfl, Nat.le_of_ble_eq_true rfl⟩ rfl rfl (Nat.le_of_ble_eq_true rfl) dL_law_1219 ⟨(Nat.le_of_ble_eq_true rfl), (Nat.le_of_ble_eq_true rfl)⟩) hP hD hS hA rfl rfl rfl (by decide) (fun ad1219 H locs hP hD hS => ?_)
              have hP : va_P D vwCl [((xa 18), .inr (8, [.ref (xa 19), .ref (xa 20), .ref (xa 21), .int 0, .int 0, .ref (xa 22), .ref (xa 28), .int 0, .int 0])), ((xa 19), .inl (cy 0, 8, .inl (fun _ => 0))), ((xa 20), .inl (cy 1, 8, .inl (fun _ => 0))), ((xa 21), .inl (cy 1, 8, .inl (fun _ => 0))), (am, .inr (15, [.int 0, .ref (ma 0), .int 0, .int 0, .int 0, .int 0, .ref (ma 1), .ref (ma 2), .null, .int 1, .int 10, .int 900, .ref (ma 3), .ref (ma 4), .int 0, .int 0, .int 0, .ref (ma 5), .int 1000, .int 50, .int 50, .int 1000, .int 10, .int 0, .int 3000, .int 0, .int 0, .int 0])), ((ma 2), .inr (4, [.int 0, .ref (g 0), .int 0])), (aj, .inl (cy 2, 1, .inr (.inl (fun _ => 0))))] H := hP
              have hD : va_D (AL s) [((xa 18), .inr (8, [.ref (xa 19), .ref (xa 20), .ref (xa 21), .int 0, .int 0, .ref (xa 22), .ref (xa 28), .int 0, .int 0])), ((xa 19), .inl (cy 0, 8, .inl (fun _ => 0))), ((xa 20), .inl (cy 1, 8, .inl (fun _ => 0))), ((xa 21), .inl (cy 1, 8, .inl (fun _ => 0))), (am, .inr (15, [.int 0, .ref (ma 0), .int 0, .int 0, .int 0, .int 0, .ref (ma 1), .ref (ma 2), .null, .int 1, .int 10, .int 900, .ref (ma 3), .ref (ma 4), .int 0, .int 0, .int 0, .ref (ma 5), .int 1000, .int 50, .int 50, .int 1000, .int 10, .int 0, .int 3000, .int 0, .int 0, .int 0])), ((ma 2), .inr (4, [.int 0, .ref (g 0), .int 0])), (aj, .inl (cy 2, 1, .inr (.inl (fun _ => 0))))] := hD
              refine lv_istore (lv' := [(6, .int 1), (5, .int 0), (4, .ref ao), (3, .ref aj), (2, .ref am), (1, .ref ax), (0, .ref b)]) hx hb dL_law_1222 hl (Nat.le_of_ble_eq_true rfl) rfl (fun ls hl => ?_)
              refine lv_aload_n hx hb dL_law_1224 rfl (lv_at hl 4 rfl) ?_
              refine lv_aload_n hx hb dL_law_1225 rfl (lv_at hl 6 rfl) ?_
              refine lv_iload hx hb dL_law_1226 (lv_at hl 1 rfl) ?_
              refine lv_iconst (v := 1) hx hb dL_law_1228 (by decide) ?_
              refine lv_iadd hx hb dL_law_1229 ?_
              refine tp_i 1 (by decide) ?_
              refine va_sld hx hb hX hbl hbA hS (by unfold vp_in; decide) dL_law_1230 ?_
              refine tp_i x1 e1 ?_
              refine lv_i2c (v := 118) hx hb dL_law_1231 ekc ?_
              refine lv_aload_n hx hb dL_law_1232 rfl (lv_at hl 6 rfl) ?_
              refine lv_iload hx hb dL_law_1233 (lv_at hl 1 rfl) ?_
              refine lv_iconst (v := 2) hx hb dL_law_1235 (by decide) ?_
              refine lv_iadd hx hb dL_law_1236 ?_
              refine tp_i 2 (by decide) ?_
              refine va_sld hx hb hX hbl hbA hS (by unfold vp_in; decide) dL_law_1237 ?_
              refine tp_i x2 e2 ?_
              refine lv_aload_n hx hb dL_law_1238 rfl (lv_at hl 6 rfl) ?_
              refine lv_iload hx hb dL_law_1239 (lv_at hl 1 rfl) ?_
              refine lv_iconst (v := 3) hx hb dL_law_1241 (by decide) ?_
              refine lv_iadd hx hb dL_law_1242 ?_
              refine tp_i 3 (by decide) ?_
              refine va_sld hx hb hX hbl hbA hS (by unfold vp_in; decide) dL_law_1243 ?_
              refine tp_i x3 e3 ?_
              refine ca_i (isC := [4]) (isR := [0, 1, 2, 3, 5, 6]) (wr := [((xa 18), .inr (8, [.ref (xa 19), .ref (xa 20), .ref (xa 21), .int 0, .int 0, .ref (xa 22), .ref (xa 28), .int 0, .int 0])), ((xa 19), .inl (cy 0, 8, .inl (fun _ => 0))), ((xa 20), .inl (cy 1, 8, .inl (fun _ => 0))), ((xa 21), .inl (cy 1, 8, .inl (fun _ => 0))), ((ma 2), .inr (4, [.int 0, .ref (g 0), .int 0])), (aj, .inl (cy 2, 1, .inr (.inl (fun _ => 0))))]) (rn_V (ci := 15) (q0 := 4) (isC := [4]) (wc := [(am, .inr (15, [.int 0, .ref (ma 0), .int 0, .int 0, .int 0, .int 0, .ref (ma 1), .ref (ma 2), .null, .int 1, .int 10, .int 900, .ref (ma 3), .ref (ma 4), .int 0, .int 0, .int 0, .ref (ma 5), .int 1000, .int 50, .int 50, .int 1000, .int 10, .int 0, .int 3000, .int 0, .int 0, .int 0]))]) (As := [.int 118, .int x2, .int x3]) (rest := []) (n := 3) hx hb hml hown hts hE hS hP hD hA hl.1 (k286_X10_addPart l D cy g x2 x3 am (.int 0) (.ref (ma 0)) (.int 0) (.int 0) (.int 0) (.int 0) (.ref (ma 1)) (.ref (ma 2)) (.null) (.int 1) (.int 10) (.int 900) (.ref (ma 3)) (.ref (ma 4)) (.int 0) (.int 0) (.int 0) (.ref (ma 5)) (.int 1000) (.int 50) (.int 50) (.int 1000) (.int 10) (.int 0) (.int 3000) (.int 0) (.int 0) (.int 0) H.size c5) rfl rfl rfl rfl rfl ax_202 rfl rfl ax_203 ⟨Nat.le_of_ble_eq_true rfl, Nat.le_of_ble_eq_true rfl⟩ rfl rfl (Nat.le_of_ble_eq_true rfl) dL_law_1244 ⟨(Nat.le_of_ble_eq_true rfl), (Nat.le_of_ble_eq_true rfl)⟩) hP hD hS hA rfl rfl rfl (by decide) (fun ad1244 H locs hP hD hS => ?_)
              have hP : va_P D vwCl [((xa 18), .inr (8, [.ref (xa 19), .ref (xa 20), .ref (xa 21), .int 0, .int 0, .ref (xa 22), .ref (xa 28), .int 0, .int 0])), ((xa 19), .inl (cy 0, 8, .inl (fun _ => 0))), ((xa 20), .inl (cy 1, 8, .inl (fun _ => 0))), ((xa 21), .inl (cy 1, 8, .inl (fun _ => 0))), ((ma 2), .inr (4, [.int 0, .ref (g 0), .int 0])), (aj, .inl (cy 2, 1, .inr (.inl (fun _ => 0)))), (am, .inr (15, [.int 1, .ref (ma 0), .int 0, .int 0, .int 0, .int 0, .ref (ma 1), .ref (ma 2), .null, .int 1, .int 10, .int 900, .ref (ma 3), .ref (ma 4), .int 0, .int 0, .int 0, .ref (ma 5), .int 1000, .int 50, .int 50, .int 1000, .int 10, .int 0, .int 3000, .int 0, .int 0, .int 0]))] H := hP
              have hD : va_D (AL s) [((xa 18), .inr (8, [.ref (xa 19), .ref (xa 20), .ref (xa 21), .int 0, .int 0, .ref (xa 22), .ref (xa 28), .int 0, .int 0])), ((xa 19), .inl (cy 0, 8, .inl (fun _ => 0))), ((xa 20), .inl (cy 1, 8, .inl (fun _ => 0))), ((xa 21), .inl (cy 1, 8, .inl (fun _ => 0))), ((ma 2), .inr (4, [.int 0, .ref (g 0), .int 0])), (aj, .inl (cy 2, 1, .inr (.inl (fun _ => 0)))), (am, .inr (15, [.int 1, .ref (ma 0), .int 0, .int 0, .int 0, .int 0, .ref (ma 1), .ref (ma 2), .null, .int 1, .int 10, .int 900, .ref (ma 3), .ref (ma 4), .int 0, .int 0, .int 0, .ref (ma 5), .int 1000, .int 50, .int 50, .int 1000, .int 10, .int 0, .int 3000, .int 0, .int 0, .int 0]))] := hD
              refine lv_istore (lv' := [(7, .int (-1)), (6, .int 1), (5, .int 0), (4, .ref ao), (3, .ref aj), (2, .ref am), (1, .ref ax), (0, .ref b)]) hx hb dL_law_1247 hl (Nat.le_of_ble_eq_true rfl) rfl (fun ls hl => ?_)
              refine lv_aload_n hx hb dL_law_1249 rfl (lv_at hl 5 rfl) ?_
              refine ca_i (isC := [6]) (isR := [0, 1, 2, 3, 4, 5]) (wr := [((xa 18), .inr (8, [.ref (xa 19), .ref (xa 20), .ref (xa 21), .int 0, .int 0, .ref (xa 22), .ref (xa 28), .int 0, .int 0])), ((xa 19), .inl (cy 0, 8, .inl (fun _ => 0))), ((xa 20), .inl (cy 1, 8, .inl (fun _ => 0))), ((xa 21), .inl (cy 1, 8, .inl (fun _ => 0))), ((ma 2), .inr (4, [.int 0, .ref (g 0), .int 0])), (aj, .inl (cy 2, 1, .inr (.inl (fun _ => 0))))]) (rn_V (ci := 15) (q0 := 6) (isC := [6]) (wc := [(am, .inr (15, [.int 1, .ref (ma 0), .int 0, .int 0, .int 0, .int 0, .ref (ma 1), .ref (ma 2), .null, .int 1, .int 10, .int 900, .ref (ma 3), .ref (ma 4), .int 0, .int 0, .int 0, .ref (ma 5), .int 1000, .int 50, .int 50, .int 1000, .int 10, .int 0, .int 3000, .int 0, .int 0, .int 0]))]) (As := []) (rest := []) (n := 0) hx hb hml hown hts hE hS hP hD hA hl.1 (k24_X10_thrown l D cy g am (.ref (ma 0)) (.int 0) (.int 0) (.int 0) (.int 0) (.ref (ma 1)) (.ref (ma 2)) (.null) (.int 1) (.int 10) (.int 900) (.ref (ma 3)) (.ref (ma 4)) (.int 0) (.int 0) (.int 0) (.ref (ma 5)) (.int 1000) (.int 50) (.int 50) (.int 1000) (.int 10) (.int 0) (.int 3000) (.int 0) (.int 0) (.int 0) H.size ) rfl rfl rfl rfl rfl ax_45 rfl rfl ax_46 ⟨Nat.le_of_ble_eq_true rfl, Nat.le_of_ble_eq_true rfl⟩ rfl rfl (Nat.le_of_ble_eq_true rfl) dL_law_1250 ⟨(Nat.le_of_ble_eq_true rfl), (Nat.le_of_ble_eq_true rfl)⟩) hP hD hS hA rfl rfl rfl (by decide) (fun ad1250 H locs hP hD hS => ?_)
              have hP : va_P D vwCl [((xa 18), .inr (8, [.ref (xa 19), .ref (xa 20), .ref (xa 21), .int 0, .int 0, .ref (xa 22), .ref (xa 28), .int 0, .int 0])), ((xa 19), .inl (cy 0, 8, .inl (fun _ => 0))), ((xa 20), .inl (cy 1, 8, .inl (fun _ => 0))), ((xa 21), .inl (cy 1, 8, .inl (fun _ => 0))), ((ma 2), .inr (4, [.int 0, .ref (g 0), .int 0])), (aj, .inl (cy 2, 1, .inr (.inl (fun _ => 0)))), (am, .inr (15, [.int 1, .ref (ma 0), .int 0, .int 0, .int 0, .int 0, .ref (ma 1), .ref (ma 2), .null, .int 1, .int 10, .int 900, .ref (ma 3), .ref (ma 4), .int 0, .int 0, .int 0, .ref (ma 5), .int 1000, .int 50, .int 50, .int 1000, .int 10, .int 0, .int 3000, .int 0, .int 0, .int 0]))] H := hP
              have hD : va_D (AL s) [((xa 18), .inr (8, [.ref (xa 19), .ref (xa 20), .ref (xa 21), .int 0, .int 0, .ref (xa 22), .ref (xa 28), .int 0, .int 0])), ((xa 19), .inl (cy 0, 8, .inl (fun _ => 0))), ((xa 20), .inl (cy 1, 8, .inl (fun _ => 0))), ((xa 21), .inl (cy 1, 8, .inl (fun _ => 0))), ((ma 2), .inr (4, [.int 0, .ref (g 0), .int 0])), (aj, .inl (cy 2, 1, .inr (.inl (fun _ => 0)))), (am, .inr (15, [.int 1, .ref (ma 0), .int 0, .int 0, .int 0, .int 0, .ref (ma 1), .ref (ma 2), .null, .int 1, .int 10, .int 900, .ref (ma 3), .ref (ma 4), .int 0, .int 0, .int 0, .ref (ma 5), .int 1000, .int 50, .int 50, .int 1000, .int 10, .int 0, .int 3000, .int 0, .int 0, .int 0]))] := hD
              refine lv_iload hx hb dL_law_1253 (lv_at hl 1 rfl) ?_
              refine lv_icmp_eq (tgt := 1260) hx hb dL_law_1255 (by decide) (fun _ => ?_) (fun z => absurd (by decide) z)
              refine lv_iload hx hb dL_law_1260 (lv_at hl 1 rfl) ?_
              refine lv_if_ne (tgt := 1277) hx hb dL_law_1262 (by decide) (fun _ => ?_) (fun z => absurd z (by decide))
              refine lv_goto (tgt := 2947) hx hb dL_law_1277 (by decide) ?_
              exact law_tail LC hS (Nat.le_of_ble_eq_true rfl) (Nat.le_of_ble_eq_true rfl) (lv_sub hl [2, 7] rfl)
            · by_cases c6 : (1000 : Int32) < x2
              · refine lv_aload_n hx hb dL_law_1198 rfl (lv_at hl 4 rfl) ?_
                refine lv_aload_n hx hb dL_law_1199 rfl (lv_at hl 5 rfl) ?_
                refine lv_iload hx hb dL_law_1200 (lv_at hl 0 rfl) ?_
                refine lv_iconst (v := 1) hx hb dL_law_1202 (by decide) ?_
                refine lv_iadd hx hb dL_law_1203 ?_
                refine tp_i 1 (by decide) ?_
                refine va_sld hx hb hX hbl hbA hS (by unfold vp_in; decide) dL_law_1204 ?_
                refine tp_i x1 e1 ?_
                refine lv_i2c (v := 118) hx hb dL_law_1205 ekc ?_
                refine lv_aload_n hx hb dL_law_1206 rfl (lv_at hl 5 rfl) ?_
                refine lv_iload hx hb dL_law_1207 (lv_at hl 0 rfl) ?_
                refine lv_iconst (v := 2) hx hb dL_law_1209 (by decide) ?_
                refine lv_iadd hx hb dL_law_1210 ?_
                refine tp_i 2 (by decide) ?_
                refine va_sld hx hb hX hbl hbA hS (by unfold vp_in; decide) dL_law_1211 ?_
                refine tp_i x2 e2 ?_
                refine lv_aload_n hx hb dL_law_1212 rfl (lv_at hl 5 rfl) ?_
                refine lv_iload hx hb dL_law_1213 (lv_at hl 0 rfl) ?_
                refine lv_iconst (v := 3) hx hb dL_law_1215 (by decide) ?_
                refine lv_iadd hx hb dL_law_1216 ?_
                refine tp_i 3 (by decide) ?_
                refine va_sld hx hb hX hbl hbA hS (by unfold vp_in; decide) dL_law_1217 ?_
                refine tp_i x3 e3 ?_
                refine lv_aload_n hx hb dL_law_1218 rfl (lv_at hl 2 rfl) ?_
                refine ca_i (isC := [0]) (isR := [1, 2, 3, 4, 5, 6, 7]) (wr := [((xa 18), .inr (8, [.ref (xa 19), .ref (xa 20), .ref (xa 21), .int 0, .int 0, .ref (xa 22), .ref (xa 28), .int 0, .int 0])), ((xa 19), .inl (cy 0, 8, .inl (fun _ => 0))), ((xa 20), .inl (cy 1, 8, .inl (fun _ => 0))), ((xa 21), .inl (cy 1, 8, .inl (fun _ => 0))), (am, .inr (15, [.int 0, .ref (ma 0), .int 0, .int 0, .int 0, .int 0, .ref (ma 1), .ref (ma 2), .null, .int 1, .int 10, .int 900, .ref (ma 3), .ref (ma 4), .int 0, .int 0, .int 0, .ref (ma 5), .int 1000, .int 50, .int 50, .int 1000, .int 10, .int 0, .int 3000, .int 0, .int 0, .int 0])), ((ma 2), .inr (4, [.int 0, .ref (g 0), .int 0])), (aj, .inl (cy 2, 1, .inr (.inl (fun _ => 0))))]) (rn_SW (isC := [0]) (wc := [(ax, .inr (14, [.ref (xa 0), .ref (xa 13), .ref (xa 18), .ref (xa 34), .ref (xa 45), .ref (xa 49), .ref (xa 50)]))]) (As := [.ref ax, .int 118, .int x2, .int x3, .ref aj]) (rest := []) (n := 5) hx hb hml hown hts hE hS hP hD hA hl.1 (k289_L_addPart l hst D cy g x2 x3 ax aj (.ref (xa 0)) (.ref (xa 13)) (.ref (xa 18)) (.ref (xa 34)) (.ref (xa 45)) (.ref (xa 49)) (.ref (xa 50)) H.size c5 c6) rfl rfl ax_184 rfl rfl ax_185 ⟨Nat.le_of_ble_eq_true rfl, Nat.le_of_ble_eq_true rfl⟩ rfl rfl (Nat.le_of_ble_eq_true rfl) dL_law_1219 ⟨(Nat.le_of_ble_eq_true rfl), (Nat.le_of_ble_eq_true rfl)⟩) hP hD hS hA rfl rfl rfl (by decide) (fun ad1219 H locs hP hD hS => ?_)
                have hP : va_P D vwCl [((xa 18), .inr (8, [.ref (xa 19), .ref (xa 20), .ref (xa 21), .int 0, .int 0, .ref (xa 22), .ref (xa 28), .int 0, .int 0])), ((xa 19), .inl (cy 0, 8, .inl (fun _ => 0))), ((xa 20), .inl (cy 1, 8, .inl (fun _ => 0))), ((xa 21), .inl (cy 1, 8, .inl (fun _ => 0))), (am, .inr (15, [.int 0, .ref (ma 0), .int 0, .int 0, .int 0, .int 0, .ref (ma 1), .ref (ma 2), .null, .int 1, .int 10, .int 900, .ref (ma 3), .ref (ma 4), .int 0, .int 0, .int 0, .ref (ma 5), .int 1000, .int 50, .int 50, .int 1000, .int 10, .int 0, .int 3000, .int 0, .int 0, .int 0])), ((ma 2), .inr (4, [.int 0, .ref (g 0), .int 0])), (aj, .inl (cy 2, 1, .inr (.inl (fun _ => 0))))] H := hP
                have hD : va_D (AL s) [((xa 18), .inr (8, [.ref (xa 19), .ref (xa 20), .ref (xa 21), .int 0, .int 0, .ref (xa 22), .ref (xa 28), .int 0, .int 0])), ((xa 19), .inl (cy 0, 8, .inl (fun _ => 0))), ((xa 20), .inl (cy 1, 8, .inl (fun _ => 0))), ((xa 21), .inl (cy 1, 8, .inl (fun _ => 0))), (am, .inr (15, [.int 0, .ref (ma 0), .int 0, .int 0, .int 0, .int 0, .ref (ma 1), .ref (ma 2), .null, .int 1, .int 10, .int 900, .ref (ma 3), .ref (ma 4), .int 0, .int 0, .int 0, .ref (ma 5), .int 1000, .int 50, .int 50, .int 1000, .int 10, .int 0, .int 3000, .int 0, .int 0, .int 0])), ((ma 2), .inr (4, [.int 0, .ref (g 0), .int 0])), (aj, .inl (cy 2, 1, .inr (.inl (fun _ => 0))))] := hD
                refine lv_istore (lv' := [(6, .int 1), (5, .int 0), (4, .ref ao), (3, .ref aj), (2, .ref am), (1, .ref ax), (0, .ref b)]) hx hb dL_law_1222 hl (Nat.le_of_ble_eq_true rfl) rfl (fun ls hl => ?_)
                refine lv_aload_n hx hb dL_law_1224 rfl (lv_at hl 4 rfl) ?_
                refine lv_aload_n hx hb dL_law_1225 rfl (lv_at hl 6 rfl) ?_
                refine lv_iload hx hb dL_law_1226 (lv_at hl 1 rfl) ?_
                refine lv_iconst (v := 1) hx hb dL_law_1228 (by decide) ?_
                refine lv_iadd hx hb dL_law_1229 ?_
                refine tp_i 1 (by decide) ?_
                refine va_sld hx hb hX hbl hbA hS (by unfold vp_in; decide) dL_law_1230 ?_
                refine tp_i x1 e1 ?_
                refine lv_i2c (v := 118) hx hb dL_law_1231 ekc ?_
                refine lv_aload_n hx hb dL_law_1232 rfl (lv_at hl 6 rfl) ?_
                refine lv_iload hx hb dL_law_1233 (lv_at hl 1 rfl) ?_
                refine lv_iconst (v := 2) hx hb dL_law_1235 (by decide) ?_
                refine lv_iadd hx hb dL_law_1236 ?_
                refine tp_i 2 (by decide) ?_
                refine va_sld hx hb hX hbl hbA hS (by unfold vp_in; decide) dL_law_1237 ?_
                refine tp_i x2 e2 ?_
                refine lv_aload_n hx hb dL_law_1238 rfl (lv_at hl 6 rfl) ?_
                refine lv_iload hx hb dL_law_1239 (lv_at hl 1 rfl) ?_
                refine lv_iconst (v := 3) hx hb dL_law_1241 (by decide) ?_
                refine lv_iadd hx hb dL_law_1242 ?_
                refine tp_i 3 (by decide) ?_
                refine va_sld hx hb hX hbl hbA hS (by unfold vp_in; decide) dL_law_1243 ?_
                refine tp_i x3 e3 ?_
                refine ca_i (isC := [4]) (isR := [0, 1, 2, 3, 5, 6]) (wr := [((xa 18), .inr (8, [.ref (xa 19), .ref (xa 20), .ref (xa 21), .int 0, .int 0, .ref (xa 22), .ref (xa 28), .int 0, .int 0])), ((xa 19), .inl (cy 0, 8, .inl (fun _ => 0))), ((xa 20), .inl (cy 1, 8, .inl (fun _ => 0))), ((xa 21), .inl (cy 1, 8, .inl (fun _ => 0))), ((ma 2), .inr (4, [.int 0, .ref (g 0), .int 0])), (aj, .inl (cy 2, 1, .inr (.inl (fun _ => 0))))]) (rn_V (ci := 15) (q0 := 4) (isC := [4]) (wc := [(am, .inr (15, [.int 0, .ref (ma 0), .int 0, .int 0, .int 0, .int 0, .ref (ma 1), .ref (ma 2), .null, .int 1, .int 10, .int 900, .ref (ma 3), .ref (ma 4), .int 0, .int 0, .int 0, .ref (ma 5), .int 1000, .int 50, .int 50, .int 1000, .int 10, .int 0, .int 3000, .int 0, .int 0, .int 0]))]) (As := [.int 118, .int x2, .int x3]) (rest := []) (n := 3) hx hb hml hown hts hE hS hP hD hA hl.1 (k290_X10_addPart l D cy g x2 x3 am (.int 0) (.ref (ma 0)) (.int 0) (.int 0) (.int 0) (.int 0) (.ref (ma 1)) (.ref (ma 2)) (.null) (.int 1) (.int 10) (.int 900) (.ref (ma 3)) (.ref (ma 4)) (.int 0) (.int 0) (.int 0) (.ref (ma 5)) (.int 1000) (.int 50) (.int 50) (.int 1000) (.int 10) (.int 0) (.int 3000) (.int 0) (.int 0) (.int 0) H.size c5 c6) rfl rfl rfl rfl rfl ax_202 rfl rfl ax_203 ⟨Nat.le_of_ble_eq_true rfl, Nat.le_of_ble_eq_true rfl⟩ rfl rfl (Nat.le_of_ble_eq_true rfl) dL_law_1244 ⟨(Nat.le_of_ble_eq_true rfl), (Nat.le_of_ble_eq_true rfl)⟩) hP hD hS hA rfl rfl rfl (by decide) (fun ad1244 H locs hP hD hS => ?_)
                have hP : va_P D vwCl [((xa 18), .inr (8, [.ref (xa 19), .ref (xa 20), .ref (xa 21), .int 0, .int 0, .ref (xa 22), .ref (xa 28), .int 0, .int 0])), ((xa 19), .inl (cy 0, 8, .inl (fun _ => 0))), ((xa 20), .inl (cy 1, 8, .inl (fun _ => 0))), ((xa 21), .inl (cy 1, 8, .inl (fun _ => 0))), ((ma 2), .inr (4, [.int 0, .ref (g 0), .int 0])), (aj, .inl (cy 2, 1, .inr (.inl (fun _ => 0)))), (am, .inr (15, [.int 1, .ref (ma 0), .int 0, .int 0, .int 0, .int 0, .ref (ma 1), .ref (ma 2), .null, .int 1, .int 10, .int 900, .ref (ma 3), .ref (ma 4), .int 0, .int 0, .int 0, .ref (ma 5), .int 1000, .int 50, .int 50, .int 1000, .int 10, .int 0, .int 3000, .int 0, .int 0, .int 0]))] H := hP
                have hD : va_D (AL s) [((xa 18), .inr (8, [.ref (xa 19), .ref (xa 20), .ref (xa 21), .int 0, .int 0, .ref (xa 22), .ref (xa 28), .int 0, .int 0])), ((xa 19), .inl (cy 0, 8, .inl (fun _ => 0))), ((xa 20), .inl (cy 1, 8, .inl (fun _ => 0))), ((xa 21), .inl (cy 1, 8, .inl (fun _ => 0))), ((ma 2), .inr (4, [.int 0, .ref (g 0), .int 0])), (aj, .inl (cy 2, 1, .inr (.inl (fun _ => 0)))), (am, .inr (15, [.int 1, .ref (ma 0), .int 0, .int 0, .int 0, .int 0, .ref (ma 1), .ref (ma 2), .null, .int 1, .int 10, .int 900, .ref (ma 3), .ref (ma 4), .int 0, .int 0, .int 0, .ref (ma 5), .int 1000, .int 50, .int 50, .int 1000, .int 10, .int 0, .int 3000, .int 0, .int 0, .int 0]))] := hD
                refine lv_istore (lv' := [(7, .int (-1)), (6, .int 1), (5, .int 0), (4, .ref ao), (3, .ref aj), (2, .ref am), (1, .ref ax), (0, .ref b)]) hx hb dL_law_1247 hl (Nat.le_of_ble_eq_true rfl) rfl (fun ls hl => ?_)
                refine lv_aload_n hx hb dL_law_1249 rfl (lv_at hl 5 rfl) ?_
                refine ca_i (isC := [6]) (isR := [0, 1, 2, 3, 4, 5]) (wr := [((xa 18), .inr (8, [.ref (xa 19), .ref (xa 20), .ref (xa 21), .int 0, .int 0, .ref (xa 22), .ref (xa 28), .int 0, .int 0])), ((xa 19), .inl (cy 0, 8, .inl (fun _ => 0))), ((xa 20), .inl (cy 1, 8, .inl (fun _ => 0))), ((xa 21), .inl (cy 1, 8, .inl (fun _ => 0))), ((ma 2), .inr (4, [.int 0, .ref (g 0), .int 0])), (aj, .inl (cy 2, 1, .inr (.inl (fun _ => 0))))]) (rn_V (ci := 15) (q0 := 6) (isC := [6]) (wc := [(am, .inr (15, [.int 1, .ref (ma 0), .int 0, .int 0, .int 0, .int 0, .ref (ma 1), .ref (ma 2), .null, .int 1, .int 10, .int 900, .ref (ma 3), .ref (ma 4), .int 0, .int 0, .int 0, .ref (ma 5), .int 1000, .int 50, .int 50, .int 1000, .int 10, .int 0, .int 3000, .int 0, .int 0, .int 0]))]) (As := []) (rest := []) (n := 0) hx hb hml hown hts hE hS hP hD hA hl.1 (k24_X10_thrown l D cy g am (.ref (ma 0)) (.int 0) (.int 0) (.int 0) (.int 0) (.ref (ma 1)) (.ref (ma 2)) (.null) (.int 1) (.int 10) (.int 900) (.ref (ma 3)) (.ref (ma 4)) (.int 0) (.int 0) (.int 0) (.ref (ma 5)) (.int 1000) (.int 50) (.int 50) (.int 1000) (.int 10) (.int 0) (.int 3000) (.int 0) (.int 0) (.int 0) H.size ) rfl rfl rfl rfl rfl ax_45 rfl rfl ax_46 ⟨Nat.le_of_ble_eq_true rfl, Nat.le_of_ble_eq_true rfl⟩ rfl rfl (Nat.le_of_ble_eq_true rfl) dL_law_1250 ⟨(Nat.le_of_ble_eq_true rfl), (Nat.le_of_ble_eq_true rfl)⟩) hP hD hS hA rfl rfl rfl (by decide) (fun ad1250 H locs hP hD hS => ?_)
                have hP : va_P D vwCl [((xa 18), .inr (8, [.ref (xa 19), .ref (xa 20), .ref (xa 21), .int 0, .int 0, .ref (xa 22), .ref (xa 28), .int 0, .int 0])), ((xa 19), .inl (cy 0, 8, .inl (fun _ => 0))), ((xa 20), .inl (cy 1, 8, .inl (fun _ => 0))), ((xa 21), .inl (cy 1, 8, .inl (fun _ => 0))), ((ma 2), .inr (4, [.int 0, .ref (g 0), .int 0])), (aj, .inl (cy 2, 1, .inr (.inl (fun _ => 0)))), (am, .inr (15, [.int 1, .ref (ma 0), .int 0, .int 0, .int 0, .int 0, .ref (ma 1), .ref (ma 2), .null, .int 1, .int 10, .int 900, .ref (ma 3), .ref (ma 4), .int 0, .int 0, .int 0, .ref (ma 5), .int 1000, .int 50, .int 50, .int 1000, .int 10, .int 0, .int 3000, .int 0, .int 0, .int 0]))] H := hP
                have hD : va_D (AL s) [((xa 18), .inr (8, [.ref (xa 19), .ref (xa 20), .ref (xa 21), .int 0, .int 0, .ref (xa 22), .ref (xa 28), .int 0, .int 0])), ((xa 19), .inl (cy 0, 8, .inl (fun _ => 0))), ((xa 20), .inl (cy 1, 8, .inl (fun _ => 0))), ((xa 21), .inl (cy 1, 8, .inl (fun _ => 0))), ((ma 2), .inr (4, [.int 0, .ref (g 0), .int 0])), (aj, .inl (cy 2, 1, .inr (.inl (fun _ => 0)))), (am, .inr (15, [.int 1, .ref (ma 0), .int 0, .int 0, .int 0, .int 0, .ref (ma 1), .ref (ma 2), .null, .int 1, .int 10, .int 900, .ref (ma 3), .ref (ma 4), .int 0, .int 0, .int 0, .ref (ma 5), .int 1000, .int 50, .int 50, .int 1000, .int 10, .int 0, .int 3000, .int 0, .int 0, .int 0]))] := hD
                refine lv_iload hx hb dL_law_1253 (lv_at hl 1 rfl) ?_
                refine lv_icmp_eq (tgt := 1260) hx hb dL_law_1255 (by decide) (fun _ => ?_) (fun z => absurd (by decide) z)
                refine lv_iload hx hb dL_law_1260 (lv_at hl 1 rfl) ?_
                refine lv_if_ne (tgt := 1277) hx hb dL_law_1262 (by decide) (fun _ => ?_) (fun z => absurd z (by decide))
                refine lv_goto (tgt := 2947) hx hb dL_law_1277 (by decide) ?_
                exact law_tail LC hS (Nat.le_of_ble_eq_true rfl) (Nat.le_of_ble_eq_true rfl) (lv_sub hl [2, 7] rfl)
              · refine lv_aload_n hx hb dL_law_1198 rfl (lv_at hl 4 rfl) ?_
                refine lv_aload_n hx hb dL_law_1199 rfl (lv_at hl 5 rfl) ?_
                refine lv_iload hx hb dL_law_1200 (lv_at hl 0 rfl) ?_
                refine lv_iconst (v := 1) hx hb dL_law_1202 (by decide) ?_
                refine lv_iadd hx hb dL_law_1203 ?_
                refine tp_i 1 (by decide) ?_
                refine va_sld hx hb hX hbl hbA hS (by unfold vp_in; decide) dL_law_1204 ?_
                refine tp_i x1 e1 ?_
                refine lv_i2c (v := 118) hx hb dL_law_1205 ekc ?_
                refine lv_aload_n hx hb dL_law_1206 rfl (lv_at hl 5 rfl) ?_
                refine lv_iload hx hb dL_law_1207 (lv_at hl 0 rfl) ?_
                refine lv_iconst (v := 2) hx hb dL_law_1209 (by decide) ?_
                refine lv_iadd hx hb dL_law_1210 ?_
                refine tp_i 2 (by decide) ?_
                refine va_sld hx hb hX hbl hbA hS (by unfold vp_in; decide) dL_law_1211 ?_
                refine tp_i x2 e2 ?_
                refine lv_aload_n hx hb dL_law_1212 rfl (lv_at hl 5 rfl) ?_
                refine lv_iload hx hb dL_law_1213 (lv_at hl 0 rfl) ?_
                refine lv_iconst (v := 3) hx hb dL_law_1215 (by decide) ?_
                refine lv_iadd hx hb dL_law_1216 ?_
                refine tp_i 3 (by decide) ?_
                refine va_sld hx hb hX hbl hbA hS (by unfold vp_in; decide) dL_law_1217 ?_
                refine tp_i x3 e3 ?_
                refine lv_aload_n hx hb dL_law_1218 rfl (lv_at hl 2 rfl) ?_
                refine ca_i (isC := [0, 1, 2, 3, 4, 7]) (isR := [5, 6]) (wr := [(am, .inr (15, [.int 0, .ref (ma 0), .int 0, .int 0, .int 0, .int 0, .ref (ma 1), .ref (ma 2), .null, .int 1, .int 10, .int 900, .ref (ma 3), .ref (ma 4), .int 0, .int 0, .int 0, .ref (ma 5), .int 1000, .int 50, .int 50, .int 1000, .int 10, .int 0, .int 3000, .int 0, .int 0, .int 0])), ((ma 2), .inr (4, [.int 0, .ref (g 0), .int 0]))]) (rn_SW (isC := [0, 1, 2, 3, 4, 7]) (wc := [(ax, .inr (14, [.ref (xa 0), .ref (xa 13), .ref (xa 18), .ref (xa 34), .ref (xa 45), .ref (xa 49), .ref (xa 50)])), ((xa 18), .inr (8, [.ref (xa 19), .ref (xa 20), .ref (xa 21), .int 0, .int 0, .ref (xa 22), .ref (xa 28), .int 0, .int 0])), ((xa 19), .inl (cy 0, 8, .inl (fun _ => 0))), ((xa 20), .inl (cy 1, 8, .inl (fun _ => 0))), ((xa 21), .inl (cy 1, 8, .inl (fun _ => 0))), (aj, .inl (cy 2, 1, .inr (.inl (fun _ => 0))))]) (As := [.ref ax, .int 118, .int x2, .int x3, .ref aj]) (rest := []) (n := 5) hx hb hml hown hts hE hS hP hD hA hl.1 (k294_L_addPart l D cy g x2 x3 ax (xa 18) (xa 19) (xa 20) (xa 21) aj (.ref (xa 0)) (.ref (xa 13)) (.ref (xa 34)) (.ref (xa 45)) (.ref (xa 49)) (.ref (xa 50)) (.int 0) (.ref (xa 22)) (.ref (xa 28)) (.int 0) (.int 0) (fun _ => 0) (fun _ => 0) (fun _ => 0) (fun _ => 0) H.size c5 c6) rfl rfl ax_184 rfl rfl ax_185 ⟨Nat.le_of_ble_eq_true rfl, Nat.le_of_ble_eq_true rfl⟩ rfl rfl (Nat.le_of_ble_eq_true rfl) dL_law_1219 ⟨(Nat.le_of_ble_eq_true rfl), (Nat.le_of_ble_eq_true rfl)⟩) hP hD hS hA rfl rfl rfl (by decide) (fun ad1219 H locs hP hD hS => ?_)
                have hP : va_P D vwCl [(am, .inr (15, [.int 0, .ref (ma 0), .int 0, .int 0, .int 0, .int 0, .ref (ma 1), .ref (ma 2), .null, .int 1, .int 10, .int 900, .ref (ma 3), .ref (ma 4), .int 0, .int 0, .int 0, .ref (ma 5), .int 1000, .int 50, .int 50, .int 1000, .int 10, .int 0, .int 3000, .int 0, .int 0, .int 0])), ((ma 2), .inr (4, [.int 0, .ref (g 0), .int 0])), (aj, .inl (cy 2, 1, .inr (.inl (vp_updL (fun _ => 0) (0 : Int32).toNatClampNeg 1))))] H := hP
                have hD : va_D (AL s) [(am, .inr (15, [.int 0, .ref (ma 0), .int 0, .int 0, .int 0, .int 0, .ref (ma 1), .ref (ma 2), .null, .int 1, .int 10, .int 900, .ref (ma 3), .ref (ma 4), .int 0, .int 0, .int 0, .ref (ma 5), .int 1000, .int 50, .int 50, .int 1000, .int 10, .int 0, .int 3000, .int 0, .int 0, .int 0])), ((ma 2), .inr (4, [.int 0, .ref (g 0), .int 0])), (aj, .inl (cy 2, 1, .inr (.inl (vp_updL (fun _ => 0) (0 : Int32).toNatClampNeg 1))))] := hD
                refine lv_istore (lv' := [(6, .int 0), (5, .int 0), (4, .ref ao), (3, .ref aj), (2, .ref am), (1, .ref ax), (0, .ref b)]) hx hb dL_law_1222 hl (Nat.le_of_ble_eq_true rfl) rfl (fun ls hl => ?_)
                refine lv_aload_n hx hb dL_law_1224 rfl (lv_at hl 4 rfl) ?_
                refine lv_aload_n hx hb dL_law_1225 rfl (lv_at hl 6 rfl) ?_
                refine lv_iload hx hb dL_law_1226 (lv_at hl 1 rfl) ?_
                refine lv_iconst (v := 1) hx hb dL_law_1228 (by decide) ?_
                refine lv_iadd hx hb dL_law_1229 ?_
                refine tp_i 1 (by decide) ?_
                refine va_sld hx hb hX hbl hbA hS (by unfold vp_in; decide) dL_law_1230 ?_
                refine tp_i x1 e1 ?_
                refine lv_i2c (v := 118) hx hb dL_law_1231 ekc ?_
                refine lv_aload_n hx hb dL_law_1232 rfl (lv_at hl 6 rfl) ?_
                refine lv_iload hx hb dL_law_1233 (lv_at hl 1 rfl) ?_
                refine lv_iconst (v := 2) hx hb dL_law_1235 (by decide) ?_
                refine lv_iadd hx hb dL_law_1236 ?_
                refine tp_i 2 (by decide) ?_
                refine va_sld hx hb hX hbl hbA hS (by unfold vp_in; decide) dL_law_1237 ?_
                refine tp_i x2 e2 ?_
                refine lv_aload_n hx hb dL_law_1238 rfl (lv_at hl 6 rfl) ?_
                refine lv_iload hx hb dL_law_1239 (lv_at hl 1 rfl) ?_
                refine lv_iconst (v := 3) hx hb dL_law_1241 (by decide) ?_
                refine lv_iadd hx hb dL_law_1242 ?_
                refine tp_i 3 (by decide) ?_
                refine va_sld hx hb hX hbl hbA hS (by unfold vp_in; decide) dL_law_1243 ?_
                refine tp_i x3 e3 ?_
                refine ca_i (isC := [0, 1]) (isR := [2]) (wr := [(aj, .inl (cy 2, 1, .inr (.inl (vp_updL (fun _ => 0) (0 : Int32).toNatClampNeg 1))))]) (rn_V (ci := 15) (q0 := 0) (isC := [0, 1]) (wc := [(am, .inr (15, [.int 0, .ref (ma 0), .int 0, .int 0, .int 0, .int 0, .ref (ma 1), .ref (ma 2), .null, .int 1, .int 10, .int 900, .ref (ma 3), .ref (ma 4), .int 0, .int 0, .int 0, .ref (ma 5), .int 1000, .int 50, .int 50, .int 1000, .int 10, .int 0, .int 3000, .int 0, .int 0, .int 0])), ((ma 2), .inr (4, [.int 0, .ref (g 0), .int 0]))]) (As := [.int 118, .int x2, .int x3]) (rest := []) (n := 3) hx hb hml hown hts hE hS hP hD hA hl.1 (k295_X10_addPart l D cy g x2 x3 am (ma 2) (.int 0) (.ref (ma 0)) (.int 0) (.int 0) (.int 0) (.int 0) (.ref (ma 1)) (.null) (.int 1) (.int 10) (.int 900) (.ref (ma 3)) (.ref (ma 4)) (.int 0) (.int 0) (.int 0) (.ref (ma 5)) (.int 1000) (.int 50) (.int 50) (.int 1000) (.int 10) (.int 0) (.int 3000) (.int 0) (.int 0) (.int 0) H.size c5 c6) rfl rfl rfl rfl rfl ax_202 rfl rfl ax_203 ⟨Nat.le_of_ble_eq_true rfl, Nat.le_of_ble_eq_true rfl⟩ rfl rfl (Nat.le_of_ble_eq_true rfl) dL_law_1244 ⟨(Nat.le_of_ble_eq_true rfl), (Nat.le_of_ble_eq_true rfl)⟩) hP hD hS hA rfl rfl rfl (by decide) (fun ad1244 H locs hP hD hS => ?_)
                have hP : va_P D vwCl [(aj, .inl (cy 2, 1, .inr (.inl (vp_updL (fun _ => 0) (0 : Int32).toNatClampNeg 1)))), (am, .inr (15, [.int 0, .ref (ma 0), .int 0, .int 0, .int 0, .int 0, .ref (ma 1), .ref (ma 2), .null, .int 1, .int 10, .int 900, .ref (ma 3), .ref (ma 4), .int 0, .int 0, .int 0, .ref (ma 5), .int 1000, .int 50, .int 50, .int 1000, .int 10, .int 0, .int 3000, .int 0, .int 0, .int 0]))] H := hP
                have hD : va_D (AL s) [(aj, .inl (cy 2, 1, .inr (.inl (vp_updL (fun _ => 0) (0 : Int32).toNatClampNeg 1)))), (am, .inr (15, [.int 0, .ref (ma 0), .int 0, .int 0, .int 0, .int 0, .ref (ma 1), .ref (ma 2), .null, .int 1, .int 10, .int 900, .ref (ma 3), .ref (ma 4), .int 0, .int 0, .int 0, .ref (ma 5), .int 1000, .int 50, .int 50, .int 1000, .int 10, .int 0, .int 3000, .int 0, .int 0, .int 0]))] := hD
                refine lv_istore (lv' := [(7, .int 1), (6, .int 0), (5, .int 0), (4, .ref ao), (3, .ref aj), (2, .ref am), (1, .ref ax), (0, .ref b)]) hx hb dL_law_1247 hl (Nat.le_of_ble_eq_true rfl) rfl (fun ls hl => ?_)
                refine lv_aload_n hx hb dL_law_1249 rfl (lv_at hl 5 rfl) ?_
                refine ca_i (isC := [1]) (isR := [0]) (wr := [(aj, .inl (cy 2, 1, .inr (.inl (vp_updL (fun _ => 0) (0 : Int32).toNatClampNeg 1))))]) (rn_V (ci := 15) (q0 := 1) (isC := [1]) (wc := [(am, .inr (15, [.int 0, .ref (ma 0), .int 0, .int 0, .int 0, .int 0, .ref (ma 1), .ref (ma 2), .null, .int 1, .int 10, .int 900, .ref (ma 3), .ref (ma 4), .int 0, .int 0, .int 0, .ref (ma 5), .int 1000, .int 50, .int 50, .int 1000, .int 10, .int 0, .int 3000, .int 0, .int 0, .int 0]))]) (As := []) (rest := []) (n := 0) hx hb hml hown hts hE hS hP hD hA hl.1 (k52_X10_thrown l D cy g am (.ref (ma 0)) (.int 0) (.int 0) (.int 0) (.int 0) (.ref (ma 1)) (.ref (ma 2)) (.null) (.int 1) (.int 10) (.int 900) (.ref (ma 3)) (.ref (ma 4)) (.int 0) (.int 0) (.int 0) (.ref (ma 5)) (.int 1000) (.int 50) (.int 50) (.int 1000) (.int 10) (.int 0) (.int 3000) (.int 0) (.int 0) (.int 0) H.size ) rfl rfl rfl rfl rfl ax_45 rfl rfl ax_46 ⟨Nat.le_of_ble_eq_true rfl, Nat.le_of_ble_eq_true rfl⟩ rfl rfl (Nat.le_of_ble_eq_true rfl) dL_law_1250 ⟨(Nat.le_of_ble_eq_true rfl), (Nat.le_of_ble_eq_true rfl)⟩) hP hD hS hA rfl rfl rfl (by decide) (fun ad1250 H locs hP hD hS => ?_)
                have hP : va_P D vwCl [(aj, .inl (cy 2, 1, .inr (.inl (vp_updL (fun _ => 0) (0 : Int32).toNatClampNeg 1)))), (am, .inr (15, [.int 0, .ref (ma 0), .int 0, .int 0, .int 0, .int 0, .ref (ma 1), .ref (ma 2), .null, .int 1, .int 10, .int 900, .ref (ma 3), .ref (ma 4), .int 0, .int 0, .int 0, .ref (ma 5), .int 1000, .int 50, .int 50, .int 1000, .int 10, .int 0, .int 3000, .int 0, .int 0, .int 0]))] H := hP
                have hD : va_D (AL s) [(aj, .inl (cy 2, 1, .inr (.inl (vp_updL (fun _ => 0) (0 : Int32).toNatClampNeg 1)))), (am, .inr (15, [.int 0, .ref (ma 0), .int 0, .int 0, .int 0, .int 0, .ref (ma 1), .ref (ma 2), .null, .int 1, .int 10, .int 900, .ref (ma 3), .ref (ma 4), .int 0, .int 0, .int 0, .ref (ma 5), .int 1000, .int 50, .int 50, .int 1000, .int 10, .int 0, .int 3000, .int 0, .int 0, .int 0]))] := hD
                refine lv_iload hx hb dL_law_1253 (lv_at hl 1 rfl) ?_
                refine lv_icmp_eq (tgt := 1260) hx hb dL_law_1255 (by decide) (fun _ => ?_) (fun z => absurd (by decide) z)
                refine lv_iload hx hb dL_law_1260 (lv_at hl 1 rfl) ?_
                refine lv_if_ne (tgt := 1277) hx hb dL_law_1262 (by decide) (fun z => absurd (by decide) z) (fun _ => ?_)
                refine lv_aload_n hx hb dL_law_1265 rfl (lv_at hl 4 rfl) ?_
                refine lv_iconst (v := 0) hx hb dL_law_1266 (by decide) ?_
                refine va_lald hx hb hE.1 hP 0 2 rfl rfl (by unfold vp_in; decide) dL_law_1267 ?_
                refine tp_l 1 rfl ?_
                refine lv_iload hx hb dL_law_1268 (lv_at hl 0 rfl) ?_
                refine lv_i2l (v := 1) hx hb dL_law_1270 (by decide) ?_
                refine W.lcmp hx hb dL_law_1271 ?_
                refine tp_i 0 (by decide) ?_
                refine lv_if_eq (tgt := 1277) hx hb dL_law_1272 (by decide) (fun _ => ?_) (fun z => absurd (by decide) z)
                refine lv_goto (tgt := 2947) hx hb dL_law_1277 (by decide) ?_
                exact law_tail LC hS (Nat.le_of_ble_eq_true rfl) (Nat.le_of_ble_eq_true rfl) (lv_sub hl [2, 7] rfl)
          · by_cases c5 : kc < 0
            · refine lv_aload_n hx hb dL_law_1198 rfl (lv_at hl 4 rfl) ?_
              refine lv_aload_n hx hb dL_law_1199 rfl (lv_at hl 5 rfl) ?_
              refine lv_iload hx hb dL_law_1200 (lv_at hl 0 rfl) ?_
              refine lv_iconst (v := 1) hx hb dL_law_1202 (by decide) ?_
              refine lv_iadd hx hb dL_law_1203 ?_
              refine tp_i 1 (by decide) ?_
              refine va_sld hx hb hX hbl hbA hS (by unfold vp_in; decide) dL_law_1204 ?_
              refine tp_i x1 e1 ?_
              refine lv_i2c (v := kc) hx hb dL_law_1205 ekc ?_
              refine lv_aload_n hx hb dL_law_1206 rfl (lv_at hl 5 rfl) ?_
              refine lv_iload hx hb dL_law_1207 (lv_at hl 0 rfl) ?_
              refine lv_iconst (v := 2) hx hb dL_law_1209 (by decide) ?_
              refine lv_iadd hx hb dL_law_1210 ?_
              refine tp_i 2 (by decide) ?_
              refine va_sld hx hb hX hbl hbA hS (by unfold vp_in; decide) dL_law_1211 ?_
              refine tp_i x2 e2 ?_
              refine lv_aload_n hx hb dL_law_1212 rfl (lv_at hl 5 rfl) ?_
              refine lv_iload hx hb dL_law_1213 (lv_at hl 0 rfl) ?_
              refine lv_iconst (v := 3) hx hb dL_law_1215 (by decide) ?_
              refine lv_iadd hx hb dL_law_1216 ?_
              refine tp_i 3 (by decide) ?_
              refine va_sld hx hb hX hbl hbA hS (by unfold vp_in; decide) dL_law_1217 ?_
              refine tp_i x3 e3 ?_
              refine lv_aload_n hx hb dL_law_1218 rfl (lv_at hl 2 rfl) ?_
              refine ca_i (isC := [0]) (isR := [1, 2, 3, 4, 5, 6, 7]) (wr := [((xa 18), .inr (8, [.ref (xa 19), .ref (xa 20), .ref (xa 21), .int 0, .int 0, .ref (xa 22), .ref (xa 28), .int 0, .int 0])), ((xa 19), .inl (cy 0, 8, .inl (fun _ => 0))), ((xa 20), .inl (cy 1, 8, .inl (fun _ => 0))), ((xa 21), .inl (cy 1, 8, .inl (fun _ => 0))), (am, .inr (15, [.int 0, .ref (ma 0), .int 0, .int 0, .int 0, .int 0, .ref (ma 1), .ref (ma 2), .null, .int 1, .int 10, .int 900, .ref (ma 3), .ref (ma 4), .int 0, .int 0, .int 0, .ref (ma 5), .int 1000, .int 50, .int 50, .int 1000, .int 10, .int 0, .int 3000, .int 0, .int 0, .int 0])), ((ma 2), .inr (4, [.int 0, .ref (g 0), .int 0])), (aj, .inl (cy 2, 1, .inr (.inl (fun _ => 0))))]) (rn_SW (isC := [0]) (wc := [(ax, .inr (14, [.ref (xa 0), .ref (xa 13), .ref (xa 18), .ref (xa 34), .ref (xa 45), .ref (xa 49), .ref (xa 50)]))]) (As := [.ref ax, .int kc, .int x2, .int x3, .ref aj]) (rest := []) (n := 5) hx hb hml hown hts hE hS hP hD hA hl.1 (k298_L_addPart l hst D cy g kc x2 x3 ax aj (.ref (xa 0)) (.ref (xa 13)) (.ref (xa 18)) (.ref (xa 34)) (.ref (xa 45)) (.ref (xa 49)) (.ref (xa 50)) H.size c0 c1 c2 c3 c4) rfl rfl ax_184 rfl rfl ax_185 ⟨Nat.le_of_ble_eq_true rfl, Nat.le_of_ble_eq_true rfl⟩ rfl rfl (Nat.le_of_ble_eq_true rfl) dL_law_1219 ⟨(Nat.le_of_ble_eq_true rfl), (Nat.le_of_ble_eq_true rfl)⟩) hP hD hS hA rfl rfl rfl (by decide) (fun ad1219 H locs hP hD hS => ?_)
              have hP : va_P D vwCl [((xa 18), .inr (8, [.ref (xa 19), .ref (xa 20), .ref (xa 21), .int 0, .int 0, .ref (xa 22), .ref (xa 28), .int 0, .int 0])), ((xa 19), .inl (cy 0, 8, .inl (fun _ => 0))), ((xa 20), .inl (cy 1, 8, .inl (fun _ => 0))), ((xa 21), .inl (cy 1, 8, .inl (fun _ => 0))), (am, .inr (15, [.int 0, .ref (ma 0), .int 0, .int 0, .int 0, .int 0, .ref (ma 1), .ref (ma 2), .null, .int 1, .int 10, .int 900, .ref (ma 3), .ref (ma 4), .int 0, .int 0, .int 0, .ref (ma 5), .int 1000, .int 50, .int 50, .int 1000, .int 10, .int 0, .int 3000, .int 0, .int 0, .int 0])), ((ma 2), .inr (4, [.int 0, .ref (g 0), .int 0])), (aj, .inl (cy 2, 1, .inr (.inl (fun _ => 0))))] H := hP
              have hD : va_D (AL s) [((xa 18), .inr (8, [.ref (xa 19), .ref (xa 20), .ref (xa 21), .int 0, .int 0, .ref (xa 22), .ref (xa 28), .int 0, .int 0])), ((xa 19), .inl (cy 0, 8, .inl (fun _ => 0))), ((xa 20), .inl (cy 1, 8, .inl (fun _ => 0))), ((xa 21), .inl (cy 1, 8, .inl (fun _ => 0))), (am, .inr (15, [.int 0, .ref (ma 0), .int 0, .int 0, .int 0, .int 0, .ref (ma 1), .ref (ma 2), .null, .int 1, .int 10, .int 900, .ref (ma 3), .ref (ma 4), .int 0, .int 0, .int 0, .ref (ma 5), .int 1000, .int 50, .int 50, .int 1000, .int 10, .int 0, .int 3000, .int 0, .int 0, .int 0])), ((ma 2), .inr (4, [.int 0, .ref (g 0), .int 0])), (aj, .inl (cy 2, 1, .inr (.inl (fun _ => 0))))] := hD
              refine lv_istore (lv' := [(6, .int 1), (5, .int 0), (4, .ref ao), (3, .ref aj), (2, .ref am), (1, .ref ax), (0, .ref b)]) hx hb dL_law_1222 hl (Nat.le_of_ble_eq_true rfl) rfl (fun ls hl => ?_)
              refine lv_aload_n hx hb dL_law_1224 rfl (lv_at hl 4 rfl) ?_
              refine lv_aload_n hx hb dL_law_1225 rfl (lv_at hl 6 rfl) ?_
              refine lv_iload hx hb dL_law_1226 (lv_at hl 1 rfl) ?_
              refine lv_iconst (v := 1) hx hb dL_law_1228 (by decide) ?_
              refine lv_iadd hx hb dL_law_1229 ?_
              refine tp_i 1 (by decide) ?_
              refine va_sld hx hb hX hbl hbA hS (by unfold vp_in; decide) dL_law_1230 ?_
              refine tp_i x1 e1 ?_
              refine lv_i2c (v := kc) hx hb dL_law_1231 ekc ?_
              refine lv_aload_n hx hb dL_law_1232 rfl (lv_at hl 6 rfl) ?_
              refine lv_iload hx hb dL_law_1233 (lv_at hl 1 rfl) ?_
              refine lv_iconst (v := 2) hx hb dL_law_1235 (by decide) ?_
              refine lv_iadd hx hb dL_law_1236 ?_
              refine tp_i 2 (by decide) ?_
              refine va_sld hx hb hX hbl hbA hS (by unfold vp_in; decide) dL_law_1237 ?_
              refine tp_i x2 e2 ?_
              refine lv_aload_n hx hb dL_law_1238 rfl (lv_at hl 6 rfl) ?_
              refine lv_iload hx hb dL_law_1239 (lv_at hl 1 rfl) ?_
              refine lv_iconst (v := 3) hx hb dL_law_1241 (by decide) ?_
              refine lv_iadd hx hb dL_law_1242 ?_
              refine tp_i 3 (by decide) ?_
              refine va_sld hx hb hX hbl hbA hS (by unfold vp_in; decide) dL_law_1243 ?_
              refine tp_i x3 e3 ?_
              refine ca_i (isC := [4]) (isR := [0, 1, 2, 3, 5, 6]) (wr := [((xa 18), .inr (8, [.ref (xa 19), .ref (xa 20), .ref (xa 21), .int 0, .int 0, .ref (xa 22), .ref (xa 28), .int 0, .int 0])), ((xa 19), .inl (cy 0, 8, .inl (fun _ => 0))), ((xa 20), .inl (cy 1, 8, .inl (fun _ => 0))), ((xa 21), .inl (cy 1, 8, .inl (fun _ => 0))), ((ma 2), .inr (4, [.int 0, .ref (g 0), .int 0])), (aj, .inl (cy 2, 1, .inr (.inl (fun _ => 0))))]) (rn_V (ci := 15) (q0 := 4) (isC := [4]) (wc := [(am, .inr (15, [.int 0, .ref (ma 0), .int 0, .int 0, .int 0, .int 0, .ref (ma 1), .ref (ma 2), .null, .int 1, .int 10, .int 900, .ref (ma 3), .ref (ma 4), .int 0, .int 0, .int 0, .ref (ma 5), .int 1000, .int 50, .int 50, .int 1000, .int 10, .int 0, .int 3000, .int 0, .int 0, .int 0]))]) (As := [.int kc, .int x2, .int x3]) (rest := []) (n := 3) hx hb hml hown hts hE hS hP hD hA hl.1 (k303_X10_addPart l D cy g kc x2 x3 am (.int 0) (.ref (ma 0)) (.int 0) (.int 0) (.int 0) (.int 0) (.ref (ma 1)) (.ref (ma 2)) (.null) (.int 1) (.int 10) (.int 900) (.ref (ma 3)) (.ref (ma 4)) (.int 0) (.int 0) (.int 0) (.ref (ma 5)) (.int 1000) (.int 50) (.int 50) (.int 1000) (.int 10) (.int 0) (.int 3000) (.int 0) (.int 0) (.int 0) H.size c5) rfl rfl rfl rfl rfl ax_202 rfl rfl ax_203 ⟨Nat.le_of_ble_eq_true rfl, Nat.le_of_ble_eq_true rfl⟩ rfl rfl (Nat.le_of_ble_eq_true rfl) dL_law_1244 ⟨(Nat.le_of_ble_eq_true rfl), (Nat.le_of_ble_eq_true rfl)⟩) hP hD hS hA rfl rfl rfl (by decide) (fun ad1244 H locs hP hD hS => ?_)
              have hP : va_P D vwCl [((xa 18), .inr (8, [.ref (xa 19), .ref (xa 20), .ref (xa 21), .int 0, .int 0, .ref (xa 22), .ref (xa 28), .int 0, .int 0])), ((xa 19), .inl (cy 0, 8, .inl (fun _ => 0))), ((xa 20), .inl (cy 1, 8, .inl (fun _ => 0))), ((xa 21), .inl (cy 1, 8, .inl (fun _ => 0))), ((ma 2), .inr (4, [.int 0, .ref (g 0), .int 0])), (aj, .inl (cy 2, 1, .inr (.inl (fun _ => 0)))), (am, .inr (15, [.int 1, .ref (ma 0), .int 0, .int 0, .int 0, .int 0, .ref (ma 1), .ref (ma 2), .null, .int 1, .int 10, .int 900, .ref (ma 3), .ref (ma 4), .int 0, .int 0, .int 0, .ref (ma 5), .int 1000, .int 50, .int 50, .int 1000, .int 10, .int 0, .int 3000, .int 0, .int 0, .int 0]))] H := hP
              have hD : va_D (AL s) [((xa 18), .inr (8, [.ref (xa 19), .ref (xa 20), .ref (xa 21), .int 0, .int 0, .ref (xa 22), .ref (xa 28), .int 0, .int 0])), ((xa 19), .inl (cy 0, 8, .inl (fun _ => 0))), ((xa 20), .inl (cy 1, 8, .inl (fun _ => 0))), ((xa 21), .inl (cy 1, 8, .inl (fun _ => 0))), ((ma 2), .inr (4, [.int 0, .ref (g 0), .int 0])), (aj, .inl (cy 2, 1, .inr (.inl (fun _ => 0)))), (am, .inr (15, [.int 1, .ref (ma 0), .int 0, .int 0, .int 0, .int 0, .ref (ma 1), .ref (ma 2), .null, .int 1, .int 10, .int 900, .ref (ma 3), .ref (ma 4), .int 0, .int 0, .int 0, .ref (ma 5), .int 1000, .int 50, .int 50, .int 1000, .int 10, .int 0, .int 3000, .int 0, .int 0, .int 0]))] := hD
              refine lv_istore (lv' := [(7, .int (-1)), (6, .int 1), (5, .int 0), (4, .ref ao), (3, .ref aj), (2, .ref am), (1, .ref ax), (0, .ref b)]) hx hb dL_law_1247 hl (Nat.le_of_ble_eq_true rfl) rfl (fun ls hl => ?_)
              refine lv_aload_n hx hb dL_law_1249 rfl (lv_at hl 5 rfl) ?_
              refine ca_i (isC := [6]) (isR := [0, 1, 2, 3, 4, 5]) (wr := [((xa 18), .inr (8, [.ref (xa 19), .ref (xa 20), .ref (xa 21), .int 0, .int 0, .ref (xa 22), .ref (xa 28), .int 0, .int 0])), ((xa 19), .inl (cy 0, 8, .inl (fun _ => 0))), ((xa 20), .inl (cy 1, 8, .inl (fun _ => 0))), ((xa 21), .inl (cy 1, 8, .inl (fun _ => 0))), ((ma 2), .inr (4, [.int 0, .ref (g 0), .int 0])), (aj, .inl (cy 2, 1, .inr (.inl (fun _ => 0))))]) (rn_V (ci := 15) (q0 := 6) (isC := [6]) (wc := [(am, .inr (15, [.int 1, .ref (ma 0), .int 0, .int 0, .int 0, .int 0, .ref (ma 1), .ref (ma 2), .null, .int 1, .int 10, .int 900, .ref (ma 3), .ref (ma 4), .int 0, .int 0, .int 0, .ref (ma 5), .int 1000, .int 50, .int 50, .int 1000, .int 10, .int 0, .int 3000, .int 0, .int 0, .int 0]))]) (As := []) (rest := []) (n := 0) hx hb hml hown hts hE hS hP hD hA hl.1 (k24_X10_thrown l D cy g am (.ref (ma 0)) (.int 0) (.int 0) (.int 0) (.int 0) (.ref (ma 1)) (.ref (ma 2)) (.null) (.int 1) (.int 10) (.int 900) (.ref (ma 3)) (.ref (ma 4)) (.int 0) (.int 0) (.int 0) (.ref (ma 5)) (.int 1000) (.int 50) (.int 50) (.int 1000) (.int 10) (.int 0) (.int 3000) (.int 0) (.int 0) (.int 0) H.size ) rfl rfl rfl rfl rfl ax_45 rfl rfl ax_46 ⟨Nat.le_of_ble_eq_true rfl, Nat.le_of_ble_eq_true rfl⟩ rfl rfl (Nat.le_of_ble_eq_true rfl) dL_law_1250 ⟨(Nat.le_of_ble_eq_true rfl), (Nat.le_of_ble_eq_true rfl)⟩) hP hD hS hA rfl rfl rfl (by decide) (fun ad1250 H locs hP hD hS => ?_)
              have hP : va_P D vwCl [((xa 18), .inr (8, [.ref (xa 19), .ref (xa 20), .ref (xa 21), .int 0, .int 0, .ref (xa 22), .ref (xa 28), .int 0, .int 0])), ((xa 19), .inl (cy 0, 8, .inl (fun _ => 0))), ((xa 20), .inl (cy 1, 8, .inl (fun _ => 0))), ((xa 21), .inl (cy 1, 8, .inl (fun _ => 0))), ((ma 2), .inr (4, [.int 0, .ref (g 0), .int 0])), (aj, .inl (cy 2, 1, .inr (.inl (fun _ => 0)))), (am, .inr (15, [.int 1, .ref (ma 0), .int 0, .int 0, .int 0, .int 0, .ref (ma 1), .ref (ma 2), .null, .int 1, .int 10, .int 900, .ref (ma 3), .ref (ma 4), .int 0, .int 0, .int 0, .ref (ma 5), .int 1000, .int 50, .int 50, .int 1000, .int 10, .int 0, .int 3000, .int 0, .int 0, .int 0]))] H := hP
              have hD : va_D (AL s) [((xa 18), .inr (8, [.ref (xa 19), .ref (xa 20), .ref (xa 21), .int 0, .int 0, .ref (xa 22), .ref (xa 28), .int 0, .int 0])), ((xa 19), .inl (cy 0, 8, .inl (fun _ => 0))), ((xa 20), .inl (cy 1, 8, .inl (fun _ => 0))), ((xa 21), .inl (cy 1, 8, .inl (fun _ => 0))), ((ma 2), .inr (4, [.int 0, .ref (g 0), .int 0])), (aj, .inl (cy 2, 1, .inr (.inl (fun _ => 0)))), (am, .inr (15, [.int 1, .ref (ma 0), .int 0, .int 0, .int 0, .int 0, .ref (ma 1), .ref (ma 2), .null, .int 1, .int 10, .int 900, .ref (ma 3), .ref (ma 4), .int 0, .int 0, .int 0, .ref (ma 5), .int 1000, .int 50, .int 50, .int 1000, .int 10, .int 0, .int 3000, .int 0, .int 0, .int 0]))] := hD
              refine lv_iload hx hb dL_law_1253 (lv_at hl 1 rfl) ?_
              refine lv_icmp_eq (tgt := 1260) hx hb dL_law_1255 (by decide) (fun _ => ?_) (fun z => absurd (by decide) z)
              refine lv_iload hx hb dL_law_1260 (lv_at hl 1 rfl) ?_
              refine lv_if_ne (tgt := 1277) hx hb dL_law_1262 (by decide) (fun _ => ?_) (fun z => absurd z (by decide))
              refine lv_goto (tgt := 2947) hx hb dL_law_1277 (by decide) ?_
              exact law_tail LC hS (Nat.le_of_ble_eq_true rfl) (Nat.le_of_ble_eq_true rfl) (lv_sub hl [2, 7] rfl)
            · by_cases c6 : (255 : Int32) < kc
              · refine lv_aload_n hx hb dL_law_1198 rfl (lv_at hl 4 rfl) ?_
                refine lv_aload_n hx hb dL_law_1199 rfl (lv_at hl 5 rfl) ?_
                refine lv_iload hx hb dL_law_1200 (lv_at hl 0 rfl) ?_
                refine lv_iconst (v := 1) hx hb dL_law_1202 (by decide) ?_
                refine lv_iadd hx hb dL_law_1203 ?_
                refine tp_i 1 (by decide) ?_
                refine va_sld hx hb hX hbl hbA hS (by unfold vp_in; decide) dL_law_1204 ?_
                refine tp_i x1 e1 ?_
                refine lv_i2c (v := kc) hx hb dL_law_1205 ekc ?_
                refine lv_aload_n hx hb dL_law_1206 rfl (lv_at hl 5 rfl) ?_
                refine lv_iload hx hb dL_law_1207 (lv_at hl 0 rfl) ?_
                refine lv_iconst (v := 2) hx hb dL_law_1209 (by decide) ?_
                refine lv_iadd hx hb dL_law_1210 ?_
                refine tp_i 2 (by decide) ?_
                refine va_sld hx hb hX hbl hbA hS (by unfold vp_in; decide) dL_law_1211 ?_
                refine tp_i x2 e2 ?_
                refine lv_aload_n hx hb dL_law_1212 rfl (lv_at hl 5 rfl) ?_
                refine lv_iload hx hb dL_law_1213 (lv_at hl 0 rfl) ?_
                refine lv_iconst (v := 3) hx hb dL_law_1215 (by decide) ?_
                refine lv_iadd hx hb dL_law_1216 ?_
                refine tp_i 3 (by decide) ?_
                refine va_sld hx hb hX hbl hbA hS (by unfold vp_in; decide) dL_law_1217 ?_
                refine tp_i x3 e3 ?_
                refine lv_aload_n hx hb dL_law_1218 rfl (lv_at hl 2 rfl) ?_
                refine ca_i (isC := [0]) (isR := [1, 2, 3, 4, 5, 6, 7]) (wr := [((xa 18), .inr (8, [.ref (xa 19), .ref (xa 20), .ref (xa 21), .int 0, .int 0, .ref (xa 22), .ref (xa 28), .int 0, .int 0])), ((xa 19), .inl (cy 0, 8, .inl (fun _ => 0))), ((xa 20), .inl (cy 1, 8, .inl (fun _ => 0))), ((xa 21), .inl (cy 1, 8, .inl (fun _ => 0))), (am, .inr (15, [.int 0, .ref (ma 0), .int 0, .int 0, .int 0, .int 0, .ref (ma 1), .ref (ma 2), .null, .int 1, .int 10, .int 900, .ref (ma 3), .ref (ma 4), .int 0, .int 0, .int 0, .ref (ma 5), .int 1000, .int 50, .int 50, .int 1000, .int 10, .int 0, .int 3000, .int 0, .int 0, .int 0])), ((ma 2), .inr (4, [.int 0, .ref (g 0), .int 0])), (aj, .inl (cy 2, 1, .inr (.inl (fun _ => 0))))]) (rn_SW (isC := [0]) (wc := [(ax, .inr (14, [.ref (xa 0), .ref (xa 13), .ref (xa 18), .ref (xa 34), .ref (xa 45), .ref (xa 49), .ref (xa 50)]))]) (As := [.ref ax, .int kc, .int x2, .int x3, .ref aj]) (rest := []) (n := 5) hx hb hml hown hts hE hS hP hD hA hl.1 (k298_L_addPart l hst D cy g kc x2 x3 ax aj (.ref (xa 0)) (.ref (xa 13)) (.ref (xa 18)) (.ref (xa 34)) (.ref (xa 45)) (.ref (xa 49)) (.ref (xa 50)) H.size c0 c1 c2 c3 c4) rfl rfl ax_184 rfl rfl ax_185 ⟨Nat.le_of_ble_eq_true rfl, Nat.le_of_ble_eq_true rfl⟩ rfl rfl (Nat.le_of_ble_eq_true rfl) dL_law_1219 ⟨(Nat.le_of_ble_eq_true rfl), (Nat.le_of_ble_eq_true rfl)⟩) hP hD hS hA rfl rfl rfl (by decide) (fun ad1219 H locs hP hD hS => ?_)
                have hP : va_P D vwCl [((xa 18), .inr (8, [.ref (xa 19), .ref (xa 20), .ref (xa 21), .int 0, .int 0, .ref (xa 22), .ref (xa 28), .int 0, .int 0])), ((xa 19), .inl (cy 0, 8, .inl (fun _ => 0))), ((xa 20), .inl (cy 1, 8, .inl (fun _ => 0))), ((xa 21), .inl (cy 1, 8, .inl (fun _ => 0))), (am, .inr (15, [.int 0, .ref (ma 0), .int 0, .int 0, .int 0, .int 0, .ref (ma 1), .ref (ma 2), .null, .int 1, .int 10, .int 900, .ref (ma 3), .ref (ma 4), .int 0, .int 0, .int 0, .ref (ma 5), .int 1000, .int 50, .int 50, .int 1000, .int 10, .int 0, .int 3000, .int 0, .int 0, .int 0])), ((ma 2), .inr (4, [.int 0, .ref (g 0), .int 0])), (aj, .inl (cy 2, 1, .inr (.inl (fun _ => 0))))] H := hP
                have hD : va_D (AL s) [((xa 18), .inr (8, [.ref (xa 19), .ref (xa 20), .ref (xa 21), .int 0, .int 0, .ref (xa 22), .ref (xa 28), .int 0, .int 0])), ((xa 19), .inl (cy 0, 8, .inl (fun _ => 0))), ((xa 20), .inl (cy 1, 8, .inl (fun _ => 0))), ((xa 21), .inl (cy 1, 8, .inl (fun _ => 0))), (am, .inr (15, [.int 0, .ref (ma 0), .int 0, .int 0, .int 0, .int 0, .ref (ma 1), .ref (ma 2), .null, .int 1, .int 10, .int 900, .ref (ma 3), .ref (ma 4), .int 0, .int 0, .int 0, .ref (ma 5), .int 1000, .int 50, .int 50, .int 1000, .int 10, .int 0, .int 3000, .int 0, .int 0, .int 0])), ((ma 2), .inr (4, [.int 0, .ref (g 0), .int 0])), (aj, .inl (cy 2, 1, .inr (.inl (fun _ => 0))))] := hD
                refine lv_istore (lv' := [(6, .int 1), (5, .int 0), (4, .ref ao), (3, .ref aj), (2, .ref am), (1, .ref ax), (0, .ref b)]) hx hb dL_law_1222 hl (Nat.le_of_ble_eq_true rfl) rfl (fun ls hl => ?_)
                refine lv_aload_n hx hb dL_law_1224 rfl (lv_at hl 4 rfl) ?_
                refine lv_aload_n hx hb dL_law_1225 rfl (lv_at hl 6 rfl) ?_
                refine lv_iload hx hb dL_law_1226 (lv_at hl 1 rfl) ?_
                refine lv_iconst (v := 1) hx hb dL_law_1228 (by decide) ?_
                refine lv_iadd hx hb dL_law_1229 ?_
                refine tp_i 1 (by decide) ?_
                refine va_sld hx hb hX hbl hbA hS (by unfold vp_in; decide) dL_law_1230 ?_
                refine tp_i x1 e1 ?_
                refine lv_i2c (v := kc) hx hb dL_law_1231 ekc ?_
                refine lv_aload_n hx hb dL_law_1232 rfl (lv_at hl 6 rfl) ?_
                refine lv_iload hx hb dL_law_1233 (lv_at hl 1 rfl) ?_
                refine lv_iconst (v := 2) hx hb dL_law_1235 (by decide) ?_
                refine lv_iadd hx hb dL_law_1236 ?_
                refine tp_i 2 (by decide) ?_
                refine va_sld hx hb hX hbl hbA hS (by unfold vp_in; decide) dL_law_1237 ?_
                refine tp_i x2 e2 ?_
                refine lv_aload_n hx hb dL_law_1238 rfl (lv_at hl 6 rfl) ?_
                refine lv_iload hx hb dL_law_1239 (lv_at hl 1 rfl) ?_
                refine lv_iconst (v := 3) hx hb dL_law_1241 (by decide) ?_
                refine lv_iadd hx hb dL_law_1242 ?_
                refine tp_i 3 (by decide) ?_
                refine va_sld hx hb hX hbl hbA hS (by unfold vp_in; decide) dL_law_1243 ?_
                refine tp_i x3 e3 ?_
                refine ca_i (isC := [4]) (isR := [0, 1, 2, 3, 5, 6]) (wr := [((xa 18), .inr (8, [.ref (xa 19), .ref (xa 20), .ref (xa 21), .int 0, .int 0, .ref (xa 22), .ref (xa 28), .int 0, .int 0])), ((xa 19), .inl (cy 0, 8, .inl (fun _ => 0))), ((xa 20), .inl (cy 1, 8, .inl (fun _ => 0))), ((xa 21), .inl (cy 1, 8, .inl (fun _ => 0))), ((ma 2), .inr (4, [.int 0, .ref (g 0), .int 0])), (aj, .inl (cy 2, 1, .inr (.inl (fun _ => 0))))]) (rn_V (ci := 15) (q0 := 4) (isC := [4]) (wc := [(am, .inr (15, [.int 0, .ref (ma 0), .int 0, .int 0, .int 0, .int 0, .ref (ma 1), .ref (ma 2), .null, .int 1, .int 10, .int 900, .ref (ma 3), .ref (ma 4), .int 0, .int 0, .int 0, .ref (ma 5), .int 1000, .int 50, .int 50, .int 1000, .int 10, .int 0, .int 3000, .int 0, .int 0, .int 0]))]) (As := [.int kc, .int x2, .int x3]) (rest := []) (n := 3) hx hb hml hown hts hE hS hP hD hA hl.1 (k308_X10_addPart l D cy g kc x2 x3 am (.int 0) (.ref (ma 0)) (.int 0) (.int 0) (.int 0) (.int 0) (.ref (ma 1)) (.ref (ma 2)) (.null) (.int 1) (.int 10) (.int 900) (.ref (ma 3)) (.ref (ma 4)) (.int 0) (.int 0) (.int 0) (.ref (ma 5)) (.int 1000) (.int 50) (.int 50) (.int 1000) (.int 10) (.int 0) (.int 3000) (.int 0) (.int 0) (.int 0) H.size c5 c6) rfl rfl rfl rfl rfl ax_202 rfl rfl ax_203 ⟨Nat.le_of_ble_eq_true rfl, Nat.le_of_ble_eq_true rfl⟩ rfl rfl (Nat.le_of_ble_eq_true rfl) dL_law_1244 ⟨(Nat.le_of_ble_eq_true rfl), (Nat.le_of_ble_eq_true rfl)⟩) hP hD hS hA rfl rfl rfl (by decide) (fun ad1244 H locs hP hD hS => ?_)
                have hP : va_P D vwCl [((xa 18), .inr (8, [.ref (xa 19), .ref (xa 20), .ref (xa 21), .int 0, .int 0, .ref (xa 22), .ref (xa 28), .int 0, .int 0])), ((xa 19), .inl (cy 0, 8, .inl (fun _ => 0))), ((xa 20), .inl (cy 1, 8, .inl (fun _ => 0))), ((xa 21), .inl (cy 1, 8, .inl (fun _ => 0))), ((ma 2), .inr (4, [.int 0, .ref (g 0), .int 0])), (aj, .inl (cy 2, 1, .inr (.inl (fun _ => 0)))), (am, .inr (15, [.int 1, .ref (ma 0), .int 0, .int 0, .int 0, .int 0, .ref (ma 1), .ref (ma 2), .null, .int 1, .int 10, .int 900, .ref (ma 3), .ref (ma 4), .int 0, .int 0, .int 0, .ref (ma 5), .int 1000, .int 50, .int 50, .int 1000, .int 10, .int 0, .int 3000, .int 0, .int 0, .int 0]))] H := hP
                have hD : va_D (AL s) [((xa 18), .inr (8, [.ref (xa 19), .ref (xa 20), .ref (xa 21), .int 0, .int 0, .ref (xa 22), .ref (xa 28), .int 0, .int 0])), ((xa 19), .inl (cy 0, 8, .inl (fun _ => 0))), ((xa 20), .inl (cy 1, 8, .inl (fun _ => 0))), ((xa 21), .inl (cy 1, 8, .inl (fun _ => 0))), ((ma 2), .inr (4, [.int 0, .ref (g 0), .int 0])), (aj, .inl (cy 2, 1, .inr (.inl (fun _ => 0)))), (am, .inr (15, [.int 1, .ref (ma 0), .int 0, .int 0, .int 0, .int 0, .ref (ma 1), .ref (ma 2), .null, .int 1, .int 10, .int 900, .ref (ma 3), .ref (ma 4), .int 0, .int 0, .int 0, .ref (ma 5), .int 1000, .int 50, .int 50, .int 1000, .int 10, .int 0, .int 3000, .int 0, .int 0, .int 0]))] := hD
                refine lv_istore (lv' := [(7, .int (-1)), (6, .int 1), (5, .int 0), (4, .ref ao), (3, .ref aj), (2, .ref am), (1, .ref ax), (0, .ref b)]) hx hb dL_law_1247 hl (Nat.le_of_ble_eq_true rfl) rfl (fun ls hl => ?_)
                refine lv_aload_n hx hb dL_law_1249 rfl (lv_at hl 5 rfl) ?_
                refine ca_i (isC := [6]) (isR := [0, 1, 2, 3, 4, 5]) (wr := [((xa 18), .inr (8, [.ref (xa 19), .ref (xa 20), .ref (xa 21), .int 0, .int 0, .ref (xa 22), .ref (xa 28), .int 0, .int 0])), ((xa 19), .inl (cy 0, 8, .inl (fun _ => 0))), ((xa 20), .inl (cy 1, 8, .inl (fun _ => 0))), ((xa 21), .inl (cy 1, 8, .inl (fun _ => 0))), ((ma 2), .inr (4, [.int 0, .ref (g 0), .int 0])), (aj, .inl (cy 2, 1, .inr (.inl (fun _ => 0))))]) (rn_V (ci := 15) (q0 := 6) (isC := [6]) (wc := [(am, .inr (15, [.int 1, .ref (ma 0), .int 0, .int 0, .int 0, .int 0, .ref (ma 1), .ref (ma 2), .null, .int 1, .int 10, .int 900, .ref (ma 3), .ref (ma 4), .int 0, .int 0, .int 0, .ref (ma 5), .int 1000, .int 50, .int 50, .int 1000, .int 10, .int 0, .int 3000, .int 0, .int 0, .int 0]))]) (As := []) (rest := []) (n := 0) hx hb hml hown hts hE hS hP hD hA hl.1 (k24_X10_thrown l D cy g am (.ref (ma 0)) (.int 0) (.int 0) (.int 0) (.int 0) (.ref (ma 1)) (.ref (ma 2)) (.null) (.int 1) (.int 10) (.int 900) (.ref (ma 3)) (.ref (ma 4)) (.int 0) (.int 0) (.int 0) (.ref (ma 5)) (.int 1000) (.int 50) (.int 50) (.int 1000) (.int 10) (.int 0) (.int 3000) (.int 0) (.int 0) (.int 0) H.size ) rfl rfl rfl rfl rfl ax_45 rfl rfl ax_46 ⟨Nat.le_of_ble_eq_true rfl, Nat.le_of_ble_eq_true rfl⟩ rfl rfl (Nat.le_of_ble_eq_true rfl) dL_law_1250 ⟨(Nat.le_of_ble_eq_true rfl), (Nat.le_of_ble_eq_true rfl)⟩) hP hD hS hA rfl rfl rfl (by decide) (fun ad1250 H locs hP hD hS => ?_)
                have hP : va_P D vwCl [((xa 18), .inr (8, [.ref (xa 19), .ref (xa 20), .ref (xa 21), .int 0, .int 0, .ref (xa 22), .ref (xa 28), .int 0, .int 0])), ((xa 19), .inl (cy 0, 8, .inl (fun _ => 0))), ((xa 20), .inl (cy 1, 8, .inl (fun _ => 0))), ((xa 21), .inl (cy 1, 8, .inl (fun _ => 0))), ((ma 2), .inr (4, [.int 0, .ref (g 0), .int 0])), (aj, .inl (cy 2, 1, .inr (.inl (fun _ => 0)))), (am, .inr (15, [.int 1, .ref (ma 0), .int 0, .int 0, .int 0, .int 0, .ref (ma 1), .ref (ma 2), .null, .int 1, .int 10, .int 900, .ref (ma 3), .ref (ma 4), .int 0, .int 0, .int 0, .ref (ma 5), .int 1000, .int 50, .int 50, .int 1000, .int 10, .int 0, .int 3000, .int 0, .int 0, .int 0]))] H := hP
                have hD : va_D (AL s) [((xa 18), .inr (8, [.ref (xa 19), .ref (xa 20), .ref (xa 21), .int 0, .int 0, .ref (xa 22), .ref (xa 28), .int 0, .int 0])), ((xa 19), .inl (cy 0, 8, .inl (fun _ => 0))), ((xa 20), .inl (cy 1, 8, .inl (fun _ => 0))), ((xa 21), .inl (cy 1, 8, .inl (fun _ => 0))), ((ma 2), .inr (4, [.int 0, .ref (g 0), .int 0])), (aj, .inl (cy 2, 1, .inr (.inl (fun _ => 0)))), (am, .inr (15, [.int 1, .ref (ma 0), .int 0, .int 0, .int 0, .int 0, .ref (ma 1), .ref (ma 2), .null, .int 1, .int 10, .int 900, .ref (ma 3), .ref (ma 4), .int 0, .int 0, .int 0, .ref (ma 5), .int 1000, .int 50, .int 50, .int 1000, .int 10, .int 0, .int 3000, .int 0, .int 0, .int 0]))] := hD
                refine lv_iload hx hb dL_law_1253 (lv_at hl 1 rfl) ?_
                refine lv_icmp_eq (tgt := 1260) hx hb dL_law_1255 (by decide) (fun _ => ?_) (fun z => absurd (by decide) z)
                refine lv_iload hx hb dL_law_1260 (lv_at hl 1 rfl) ?_
                refine lv_if_ne (tgt := 1277) hx hb dL_law_1262 (by decide) (fun _ => ?_) (fun z => absurd z (by decide))
                refine lv_goto (tgt := 2947) hx hb dL_law_1277 (by decide) ?_
                exact law_tail LC hS (Nat.le_of_ble_eq_true rfl) (Nat.le_of_ble_eq_true rfl) (lv_sub hl [2, 7] rfl)
              · have d0 : ¬ kc.toInt8.toInt32 = 112 := i2b_ne (by decide +kernel) c5 c6 c3
                have d1 : ¬ kc.toInt8.toInt32 = 104 := i2b_ne (by decide +kernel) c5 c6 c0
                have d2 : ¬ kc.toInt8.toInt32 = 116 := i2b_ne (by decide +kernel) c5 c6 c1
                have d3 : ¬ kc.toInt8.toInt32 = 99 := i2b_ne (by decide +kernel) c5 c6 c2
                have d4 : ¬ kc.toInt8.toInt32 = 118 := i2b_ne (by decide +kernel) c5 c6 c4
                refine lv_aload_n hx hb dL_law_1198 rfl (lv_at hl 4 rfl) ?_
                refine lv_aload_n hx hb dL_law_1199 rfl (lv_at hl 5 rfl) ?_
                refine lv_iload hx hb dL_law_1200 (lv_at hl 0 rfl) ?_
                refine lv_iconst (v := 1) hx hb dL_law_1202 (by decide) ?_
                refine lv_iadd hx hb dL_law_1203 ?_
                refine tp_i 1 (by decide) ?_
                refine va_sld hx hb hX hbl hbA hS (by unfold vp_in; decide) dL_law_1204 ?_
                refine tp_i x1 e1 ?_
                refine lv_i2c (v := kc) hx hb dL_law_1205 ekc ?_
                refine lv_aload_n hx hb dL_law_1206 rfl (lv_at hl 5 rfl) ?_
                refine lv_iload hx hb dL_law_1207 (lv_at hl 0 rfl) ?_
                refine lv_iconst (v := 2) hx hb dL_law_1209 (by decide) ?_
                refine lv_iadd hx hb dL_law_1210 ?_
                refine tp_i 2 (by decide) ?_
                refine va_sld hx hb hX hbl hbA hS (by unfold vp_in; decide) dL_law_1211 ?_
                refine tp_i x2 e2 ?_
                refine lv_aload_n hx hb dL_law_1212 rfl (lv_at hl 5 rfl) ?_
                refine lv_iload hx hb dL_law_1213 (lv_at hl 0 rfl) ?_
                refine lv_iconst (v := 3) hx hb dL_law_1215 (by decide) ?_
                refine lv_iadd hx hb dL_law_1216 ?_
                refine tp_i 3 (by decide) ?_
                refine va_sld hx hb hX hbl hbA hS (by unfold vp_in; decide) dL_law_1217 ?_
                refine tp_i x3 e3 ?_
                refine lv_aload_n hx hb dL_law_1218 rfl (lv_at hl 2 rfl) ?_
                refine ca_i (isC := [0]) (isR := [1, 2, 3, 4, 5, 6, 7]) (wr := [((xa 18), .inr (8, [.ref (xa 19), .ref (xa 20), .ref (xa 21), .int 0, .int 0, .ref (xa 22), .ref (xa 28), .int 0, .int 0])), ((xa 19), .inl (cy 0, 8, .inl (fun _ => 0))), ((xa 20), .inl (cy 1, 8, .inl (fun _ => 0))), ((xa 21), .inl (cy 1, 8, .inl (fun _ => 0))), (am, .inr (15, [.int 0, .ref (ma 0), .int 0, .int 0, .int 0, .int 0, .ref (ma 1), .ref (ma 2), .null, .int 1, .int 10, .int 900, .ref (ma 3), .ref (ma 4), .int 0, .int 0, .int 0, .ref (ma 5), .int 1000, .int 50, .int 50, .int 1000, .int 10, .int 0, .int 3000, .int 0, .int 0, .int 0])), ((ma 2), .inr (4, [.int 0, .ref (g 0), .int 0])), (aj, .inl (cy 2, 1, .inr (.inl (fun _ => 0))))]) (rn_SW (isC := [0]) (wc := [(ax, .inr (14, [.ref (xa 0), .ref (xa 13), .ref (xa 18), .ref (xa 34), .ref (xa 45), .ref (xa 49), .ref (xa 50)]))]) (As := [.ref ax, .int kc, .int x2, .int x3, .ref aj]) (rest := []) (n := 5) hx hb hml hown hts hE hS hP hD hA hl.1 (k298_L_addPart l hst D cy g kc x2 x3 ax aj (.ref (xa 0)) (.ref (xa 13)) (.ref (xa 18)) (.ref (xa 34)) (.ref (xa 45)) (.ref (xa 49)) (.ref (xa 50)) H.size c0 c1 c2 c3 c4) rfl rfl ax_184 rfl rfl ax_185 ⟨Nat.le_of_ble_eq_true rfl, Nat.le_of_ble_eq_true rfl⟩ rfl rfl (Nat.le_of_ble_eq_true rfl) dL_law_1219 ⟨(Nat.le_of_ble_eq_true rfl), (Nat.le_of_ble_eq_true rfl)⟩) hP hD hS hA rfl rfl rfl (by decide) (fun ad1219 H locs hP hD hS => ?_)
                have hP : va_P D vwCl [((xa 18), .inr (8, [.ref (xa 19), .ref (xa 20), .ref (xa 21), .int 0, .int 0, .ref (xa 22), .ref (xa 28), .int 0, .int 0])), ((xa 19), .inl (cy 0, 8, .inl (fun _ => 0))), ((xa 20), .inl (cy 1, 8, .inl (fun _ => 0))), ((xa 21), .inl (cy 1, 8, .inl (fun _ => 0))), (am, .inr (15, [.int 0, .ref (ma 0), .int 0, .int 0, .int 0, .int 0, .ref (ma 1), .ref (ma 2), .null, .int 1, .int 10, .int 900, .ref (ma 3), .ref (ma 4), .int 0, .int 0, .int 0, .ref (ma 5), .int 1000, .int 50, .int 50, .int 1000, .int 10, .int 0, .int 3000, .int 0, .int 0, .int 0])), ((ma 2), .inr (4, [.int 0, .ref (g 0), .int 0])), (aj, .inl (cy 2, 1, .inr (.inl (fun _ => 0))))] H := hP
                have hD : va_D (AL s) [((xa 18), .inr (8, [.ref (xa 19), .ref (xa 20), .ref (xa 21), .int 0, .int 0, .ref (xa 22), .ref (xa 28), .int 0, .int 0])), ((xa 19), .inl (cy 0, 8, .inl (fun _ => 0))), ((xa 20), .inl (cy 1, 8, .inl (fun _ => 0))), ((xa 21), .inl (cy 1, 8, .inl (fun _ => 0))), (am, .inr (15, [.int 0, .ref (ma 0), .int 0, .int 0, .int 0, .int 0, .ref (ma 1), .ref (ma 2), .null, .int 1, .int 10, .int 900, .ref (ma 3), .ref (ma 4), .int 0, .int 0, .int 0, .ref (ma 5), .int 1000, .int 50, .int 50, .int 1000, .int 10, .int 0, .int 3000, .int 0, .int 0, .int 0])), ((ma 2), .inr (4, [.int 0, .ref (g 0), .int 0])), (aj, .inl (cy 2, 1, .inr (.inl (fun _ => 0))))] := hD
                refine lv_istore (lv' := [(6, .int 1), (5, .int 0), (4, .ref ao), (3, .ref aj), (2, .ref am), (1, .ref ax), (0, .ref b)]) hx hb dL_law_1222 hl (Nat.le_of_ble_eq_true rfl) rfl (fun ls hl => ?_)
                refine lv_aload_n hx hb dL_law_1224 rfl (lv_at hl 4 rfl) ?_
                refine lv_aload_n hx hb dL_law_1225 rfl (lv_at hl 6 rfl) ?_
                refine lv_iload hx hb dL_law_1226 (lv_at hl 1 rfl) ?_
                refine lv_iconst (v := 1) hx hb dL_law_1228 (by decide) ?_
                refine lv_iadd hx hb dL_law_1229 ?_
                refine tp_i 1 (by decide) ?_
                refine va_sld hx hb hX hbl hbA hS (by unfold vp_in; decide) dL_law_1230 ?_
                refine tp_i x1 e1 ?_
                refine lv_i2c (v := kc) hx hb dL_law_1231 ekc ?_
                refine lv_aload_n hx hb dL_law_1232 rfl (lv_at hl 6 rfl) ?_
                refine lv_iload hx hb dL_law_1233 (lv_at hl 1 rfl) ?_
                refine lv_iconst (v := 2) hx hb dL_law_1235 (by decide) ?_
                refine lv_iadd hx hb dL_law_1236 ?_
                refine tp_i 2 (by decide) ?_
                refine va_sld hx hb hX hbl hbA hS (by unfold vp_in; decide) dL_law_1237 ?_
                refine tp_i x2 e2 ?_
                refine lv_aload_n hx hb dL_law_1238 rfl (lv_at hl 6 rfl) ?_
                refine lv_iload hx hb dL_law_1239 (lv_at hl 1 rfl) ?_
                refine lv_iconst (v := 3) hx hb dL_law_1241 (by decide) ?_
                refine lv_iadd hx hb dL_law_1242 ?_
                refine tp_i 3 (by decide) ?_
                refine va_sld hx hb hX hbl hbA hS (by unfold vp_in; decide) dL_law_1243 ?_
                refine tp_i x3 e3 ?_
                refine ca_i (isC := [4]) (isR := [0, 1, 2, 3, 5, 6]) (wr := [((xa 18), .inr (8, [.ref (xa 19), .ref (xa 20), .ref (xa 21), .int 0, .int 0, .ref (xa 22), .ref (xa 28), .int 0, .int 0])), ((xa 19), .inl (cy 0, 8, .inl (fun _ => 0))), ((xa 20), .inl (cy 1, 8, .inl (fun _ => 0))), ((xa 21), .inl (cy 1, 8, .inl (fun _ => 0))), ((ma 2), .inr (4, [.int 0, .ref (g 0), .int 0])), (aj, .inl (cy 2, 1, .inr (.inl (fun _ => 0))))]) (rn_V (ci := 15) (q0 := 4) (isC := [4]) (wc := [(am, .inr (15, [.int 0, .ref (ma 0), .int 0, .int 0, .int 0, .int 0, .ref (ma 1), .ref (ma 2), .null, .int 1, .int 10, .int 900, .ref (ma 3), .ref (ma 4), .int 0, .int 0, .int 0, .ref (ma 5), .int 1000, .int 50, .int 50, .int 1000, .int 10, .int 0, .int 3000, .int 0, .int 0, .int 0]))]) (As := [.int kc, .int x2, .int x3]) (rest := []) (n := 3) hx hb hml hown hts hE hS hP hD hA hl.1 (k314_X10_addPart l D cy g kc x2 x3 am (.int 0) (.ref (ma 0)) (.int 0) (.int 0) (.int 0) (.int 0) (.ref (ma 1)) (.ref (ma 2)) (.null) (.int 1) (.int 10) (.int 900) (.ref (ma 3)) (.ref (ma 4)) (.int 0) (.int 0) (.int 0) (.ref (ma 5)) (.int 1000) (.int 50) (.int 50) (.int 1000) (.int 10) (.int 0) (.int 3000) (.int 0) (.int 0) (.int 0) H.size c5 c6 (Ne.symm d0) (Ne.symm d1) (Ne.symm d2) (Ne.symm d3) (Ne.symm d4)) rfl rfl rfl rfl rfl ax_202 rfl rfl ax_203 ⟨Nat.le_of_ble_eq_true rfl, Nat.le_of_ble_eq_true rfl⟩ rfl rfl (Nat.le_of_ble_eq_true rfl) dL_law_1244 ⟨(Nat.le_of_ble_eq_true rfl), (Nat.le_of_ble_eq_true rfl)⟩) hP hD hS hA rfl rfl rfl (by decide) (fun ad1244 H locs hP hD hS => ?_)
                have hP : va_P D vwCl [((xa 18), .inr (8, [.ref (xa 19), .ref (xa 20), .ref (xa 21), .int 0, .int 0, .ref (xa 22), .ref (xa 28), .int 0, .int 0])), ((xa 19), .inl (cy 0, 8, .inl (fun _ => 0))), ((xa 20), .inl (cy 1, 8, .inl (fun _ => 0))), ((xa 21), .inl (cy 1, 8, .inl (fun _ => 0))), ((ma 2), .inr (4, [.int 0, .ref (g 0), .int 0])), (aj, .inl (cy 2, 1, .inr (.inl (fun _ => 0)))), (am, .inr (15, [.int 1, .ref (ma 0), .int 0, .int 0, .int 0, .int 0, .ref (ma 1), .ref (ma 2), .null, .int 1, .int 10, .int 900, .ref (ma 3), .ref (ma 4), .int 0, .int 0, .int 0, .ref (ma 5), .int 1000, .int 50, .int 50, .int 1000, .int 10, .int 0, .int 3000, .int 0, .int 0, .int 0]))] H := hP
                have hD : va_D (AL s) [((xa 18), .inr (8, [.ref (xa 19), .ref (xa 20), .ref (xa 21), .int 0, .int 0, .ref (xa 22), .ref (xa 28), .int 0, .int 0])), ((xa 19), .inl (cy 0, 8, .inl (fun _ => 0))), ((xa 20), .inl (cy 1, 8, .inl (fun _ => 0))), ((xa 21), .inl (cy 1, 8, .inl (fun _ => 0))), ((ma 2), .inr (4, [.int 0, .ref (g 0), .int 0])), (aj, .inl (cy 2, 1, .inr (.inl (fun _ => 0)))), (am, .inr (15, [.int 1, .ref (ma 0), .int 0, .int 0, .int 0, .int 0, .ref (ma 1), .ref (ma 2), .null, .int 1, .int 10, .int 900, .ref (ma 3), .ref (ma 4), .int 0, .int 0, .int 0, .ref (ma 5), .int 1000, .int 50, .int 50, .int 1000, .int 10, .int 0, .int 3000, .int 0, .int 0, .int 0]))] := hD
                refine lv_istore (lv' := [(7, .int (-1)), (6, .int 1), (5, .int 0), (4, .ref ao), (3, .ref aj), (2, .ref am), (1, .ref ax), (0, .ref b)]) hx hb dL_law_1247 hl (Nat.le_of_ble_eq_true rfl) rfl (fun ls hl => ?_)
                refine lv_aload_n hx hb dL_law_1249 rfl (lv_at hl 5 rfl) ?_
                refine ca_i (isC := [6]) (isR := [0, 1, 2, 3, 4, 5]) (wr := [((xa 18), .inr (8, [.ref (xa 19), .ref (xa 20), .ref (xa 21), .int 0, .int 0, .ref (xa 22), .ref (xa 28), .int 0, .int 0])), ((xa 19), .inl (cy 0, 8, .inl (fun _ => 0))), ((xa 20), .inl (cy 1, 8, .inl (fun _ => 0))), ((xa 21), .inl (cy 1, 8, .inl (fun _ => 0))), ((ma 2), .inr (4, [.int 0, .ref (g 0), .int 0])), (aj, .inl (cy 2, 1, .inr (.inl (fun _ => 0))))]) (rn_V (ci := 15) (q0 := 6) (isC := [6]) (wc := [(am, .inr (15, [.int 1, .ref (ma 0), .int 0, .int 0, .int 0, .int 0, .ref (ma 1), .ref (ma 2), .null, .int 1, .int 10, .int 900, .ref (ma 3), .ref (ma 4), .int 0, .int 0, .int 0, .ref (ma 5), .int 1000, .int 50, .int 50, .int 1000, .int 10, .int 0, .int 3000, .int 0, .int 0, .int 0]))]) (As := []) (rest := []) (n := 0) hx hb hml hown hts hE hS hP hD hA hl.1 (k24_X10_thrown l D cy g am (.ref (ma 0)) (.int 0) (.int 0) (.int 0) (.int 0) (.ref (ma 1)) (.ref (ma 2)) (.null) (.int 1) (.int 10) (.int 900) (.ref (ma 3)) (.ref (ma 4)) (.int 0) (.int 0) (.int 0) (.ref (ma 5)) (.int 1000) (.int 50) (.int 50) (.int 1000) (.int 10) (.int 0) (.int 3000) (.int 0) (.int 0) (.int 0) H.size ) rfl rfl rfl rfl rfl ax_45 rfl rfl ax_46 ⟨Nat.le_of_ble_eq_true rfl, Nat.le_of_ble_eq_true rfl⟩ rfl rfl (Nat.le_of_ble_eq_true rfl) dL_law_1250 ⟨(Nat.le_of_ble_eq_true rfl), (Nat.le_of_ble_eq_true rfl)⟩) hP hD hS hA rfl rfl rfl (by decide) (fun ad1250 H locs hP hD hS => ?_)
                have hP : va_P D vwCl [((xa 18), .inr (8, [.ref (xa 19), .ref (xa 20), .ref (xa 21), .int 0, .int 0, .ref (xa 22), .ref (xa 28), .int 0, .int 0])), ((xa 19), .inl (cy 0, 8, .inl (fun _ => 0))), ((xa 20), .inl (cy 1, 8, .inl (fun _ => 0))), ((xa 21), .inl (cy 1, 8, .inl (fun _ => 0))), ((ma 2), .inr (4, [.int 0, .ref (g 0), .int 0])), (aj, .inl (cy 2, 1, .inr (.inl (fun _ => 0)))), (am, .inr (15, [.int 1, .ref (ma 0), .int 0, .int 0, .int 0, .int 0, .ref (ma 1), .ref (ma 2), .null, .int 1, .int 10, .int 900, .ref (ma 3), .ref (ma 4), .int 0, .int 0, .int 0, .ref (ma 5), .int 1000, .int 50, .int 50, .int 1000, .int 10, .int 0, .int 3000, .int 0, .int 0, .int 0]))] H := hP
                have hD : va_D (AL s) [((xa 18), .inr (8, [.ref (xa 19), .ref (xa 20), .ref (xa 21), .int 0, .int 0, .ref (xa 22), .ref (xa 28), .int 0, .int 0])), ((xa 19), .inl (cy 0, 8, .inl (fun _ => 0))), ((xa 20), .inl (cy 1, 8, .inl (fun _ => 0))), ((xa 21), .inl (cy 1, 8, .inl (fun _ => 0))), ((ma 2), .inr (4, [.int 0, .ref (g 0), .int 0])), (aj, .inl (cy 2, 1, .inr (.inl (fun _ => 0)))), (am, .inr (15, [.int 1, .ref (ma 0), .int 0, .int 0, .int 0, .int 0, .ref (ma 1), .ref (ma 2), .null, .int 1, .int 10, .int 900, .ref (ma 3), .ref (ma 4), .int 0, .int 0, .int 0, .ref (ma 5), .int 1000, .int 50, .int 50, .int 1000, .int 10, .int 0, .int 3000, .int 0, .int 0, .int 0]))] := hD
                refine lv_iload hx hb dL_law_1253 (lv_at hl 1 rfl) ?_
                refine lv_icmp_eq (tgt := 1260) hx hb dL_law_1255 (by decide) (fun _ => ?_) (fun z => absurd (by decide) z)
                refine lv_iload hx hb dL_law_1260 (lv_at hl 1 rfl) ?_
                refine lv_if_ne (tgt := 1277) hx hb dL_law_1262 (by decide) (fun _ => ?_) (fun z => absurd z (by decide))
                refine lv_goto (tgt := 2947) hx hb dL_law_1277 (by decide) ?_
                exact law_tail LC hS (Nat.le_of_ble_eq_true rfl) (Nat.le_of_ble_eq_true rfl) (lv_sub hl [2, 7] rfl)

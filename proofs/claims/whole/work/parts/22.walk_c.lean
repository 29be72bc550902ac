set_option maxHeartbeats 4000000 in
set_option maxRecDepth 100000 in
theorem c_TR_appendNode {l : Launch} {D : va_G} {cy : Nat → ClassId} {ad : Nat → Nat} (hj : gJ ad) {b0 : Nat} (hb0 : isTR b0) {a1 : Int32} {M : gM} {Q : gM → Prop} (h : wp_TR_appendNode Q b0 a1 M) : Cv l y_TR_appendNode b_TR_appendNode 3 none rm_TR_appendNode D cy ad [.ref (ad b0), .int a1] M Q := by
  refine gm (by decide +kernel) hj (Nat.le_of_ble_eq_true rfl) (fun p e s m args below meth c ls C hl hI => ?_)
  have hl : lv_has ls 3 [(0, .ref (ad b0)), (1, .int a1)] := hl
  obtain ⟨hx, hb, hml, hown, hts, hr, hlk, hK, hja⟩ := id C
  refine lv_aload_n hx hb d_TR_appendNode_0 rfl (lv_at hl 0 rfl) ?_
  refine gw_get (v := .int (M.1 b0 2)) C hI hb0.1 i_TR rfl 2 (by decide) kw_1_184 rfl rfl d_TR_appendNode_1 ?_
  refine lv_istore_n (lv' := [(2, .int (M.1 b0 2)), (0, .ref (ad b0)), (1, .int a1)]) hx hb d_TR_appendNode_4 rfl hl (by decide) rfl (fun ls hl => ?_)
  refine lv_aload_n hx hb d_TR_appendNode_5 rfl (lv_at hl 1 rfl) ?_
  refine gw_get (v := .ref (ad (b0 + 1))) C hI hb0.1 i_TR rfl 0 (by decide) kw_1_178 rfl rfl d_TR_appendNode_6 ?_
  refine lv_iconst (v := (0 : Int32)) hx hb d_TR_appendNode_9 (by decide) ?_
  refine gw_aald C hI hb0.2.1 rfl rfl (j := 0) (by decide) (k' := b0 + 2) (by omega) (vi_lit (0 : Int32) 7 (by decide)) d_TR_appendNode_10 ?_
  refine lv_iload_n hx hb d_TR_appendNode_11 rfl (lv_at hl 0 rfl) ?_
  refine lv_iconst (v := (-1 : Int32)) hx hb d_TR_appendNode_12 (by decide) ?_
  obtain ⟨g1, h⟩ := h
  refine gw_iast C hI (hb0.2.2.1 0 (by decide)) (j := (M.1 b0 2).toNatClampNeg) rfl g1 d_TR_appendNode_13 (fun H locs hI => ?_)
  refine lv_aload_n hx hb d_TR_appendNode_14 rfl (lv_at hl 1 rfl) ?_
  refine gw_get (v := .ref (ad (b0 + 1))) C hI hb0.1 i_TR rfl 0 (by decide) kw_1_178 rfl rfl d_TR_appendNode_15 ?_
  refine lv_iconst (v := (1 : Int32)) hx hb d_TR_appendNode_18 (by decide) ?_
  refine gw_aald C hI hb0.2.1 rfl rfl (j := 1) (by decide) (k' := b0 + 3) (by omega) (vi_lit (1 : Int32) 7 (by decide)) d_TR_appendNode_19 ?_
  refine lv_iload_n hx hb d_TR_appendNode_20 rfl (lv_at hl 0 rfl) ?_
  refine lv_iconst (v := (-1 : Int32)) hx hb d_TR_appendNode_21 (by decide) ?_
  refine gw_iast C hI (hb0.2.2.1 1 (by decide)) (j := (M.1 b0 2).toNatClampNeg) rfl g1 d_TR_appendNode_22 (fun H locs hI => ?_)
  refine lv_aload_n hx hb d_TR_appendNode_23 rfl (lv_at hl 1 rfl) ?_
  refine gw_get (v := .ref (ad (b0 + 1))) C hI hb0.1 i_TR rfl 0 (by decide) kw_1_178 rfl rfl d_TR_appendNode_24 ?_
  refine lv_iconst (v := (2 : Int32)) hx hb d_TR_appendNode_27 (by decide) ?_
  refine gw_aald C hI hb0.2.1 rfl rfl (j := 2) (by decide) (k' := b0 + 4) (by omega) (vi_lit (2 : Int32) 7 (by decide)) d_TR_appendNode_28 ?_
  refine lv_iload_n hx hb d_TR_appendNode_29 rfl (lv_at hl 0 rfl) ?_
  refine lv_iconst (v := (-1 : Int32)) hx hb d_TR_appendNode_30 (by decide) ?_
  refine gw_iast C hI (hb0.2.2.1 2 (by decide)) (j := (M.1 b0 2).toNatClampNeg) rfl g1 d_TR_appendNode_31 (fun H locs hI => ?_)
  refine lv_aload_n hx hb d_TR_appendNode_32 rfl (lv_at hl 1 rfl) ?_
  refine gw_get (v := .ref (ad (b0 + 1))) C hI hb0.1 i_TR rfl 0 (by decide) kw_1_178 rfl rfl d_TR_appendNode_33 ?_
  refine lv_iconst (v := (3 : Int32)) hx hb d_TR_appendNode_36 (by decide) ?_
  refine gw_aald C hI hb0.2.1 rfl rfl (j := 3) (by decide) (k' := b0 + 5) (by omega) (vi_lit (3 : Int32) 7 (by decide)) d_TR_appendNode_37 ?_
  refine lv_iload_n hx hb d_TR_appendNode_38 rfl (lv_at hl 0 rfl) ?_
  refine lv_iconst (v := (-1 : Int32)) hx hb d_TR_appendNode_39 (by decide) ?_
  refine gw_iast C hI (hb0.2.2.1 3 (by decide)) (j := (M.1 b0 2).toNatClampNeg) rfl g1 d_TR_appendNode_40 (fun H locs hI => ?_)
  refine lv_aload_n hx hb d_TR_appendNode_41 rfl (lv_at hl 1 rfl) ?_
  refine gw_get (v := .ref (ad (b0 + 1))) C hI hb0.1 i_TR rfl 0 (by decide) kw_1_178 rfl rfl d_TR_appendNode_42 ?_
  refine lv_bipush (v := (6 : Int32)) hx hb d_TR_appendNode_45 (by decide) ?_
  refine gw_aald C hI hb0.2.1 rfl rfl (j := 6) (by decide) (k' := b0 + 8) (by omega) (vi_lit (6 : Int32) 7 (by decide)) d_TR_appendNode_47 ?_
  refine lv_iload_n hx hb d_TR_appendNode_48 rfl (lv_at hl 0 rfl) ?_
  refine lv_iload_n hx hb d_TR_appendNode_49 rfl (lv_at hl 2 rfl) ?_
  refine gw_iast C hI (hb0.2.2.1 6 (by decide)) (j := (M.1 b0 2).toNatClampNeg) rfl g1 d_TR_appendNode_50 (fun H locs hI => ?_)
  refine lv_aload_n hx hb d_TR_appendNode_51 rfl (lv_at hl 1 rfl) ?_
  refine gw_get (v := .ref (ad (b0 + 9))) C hI hb0.1 i_TR rfl 1 (by decide) kw_1_181 rfl rfl d_TR_appendNode_52 ?_
  refine lv_iconst (v := (2 : Int32)) hx hb d_TR_appendNode_55 (by decide) ?_
  refine gw_aald C hI hb0.2.2.2.1 rfl rfl (j := 2) (by decide) (k' := b0 + 12) (by omega) (vi_lit (2 : Int32) 3 (by decide)) d_TR_appendNode_56 ?_
  refine lv_iload_n hx hb d_TR_appendNode_57 rfl (lv_at hl 0 rfl) ?_
  refine lv_lconst (v := 0) hx hb d_TR_appendNode_58 (by decide) ?_
  refine gw_last C hI (hb0.2.2.2.2 2 (by decide)) (j := (M.1 b0 2).toNatClampNeg) rfl g1 d_TR_appendNode_59 (fun H locs hI => ?_)
  refine lv_aload_n hx hb d_TR_appendNode_60 rfl (lv_at hl 1 rfl) ?_
  refine lv_iload_n hx hb d_TR_appendNode_61 rfl (lv_at hl 0 rfl) ?_
  refine lv_iconst (v := (1 : Int32)) hx hb d_TR_appendNode_62 (by decide) ?_
  refine lv_iadd hx hb d_TR_appendNode_63 ?_
  refine gw_puti C hI hb0.1 i_TR rfl t_TR_ok n_TR 2 (by decide) kw_1_184 rfl rfl rfl rfl rfl d_TR_appendNode_64 (fun H locs hI => ?_)
  exact gr_v C hI h d_TR_appendNode_67
set_option maxHeartbeats 4000000 in
set_option maxRecDepth 100000 in
theorem c_TR_keepSums {l : Launch} {D : va_G} {cy : Nat → ClassId} {ad : Nat → Nat} (hj : gJ ad) {b0 : Nat} {b2 : Nat} (hb0 : isTR b0) (hb2 : isSM b2) {a1 : Int32} {a3 : Int32} {M : gM} {Q : gM → Prop} (h : wp_TR_keepSums Q b0 b2 a1 a3 M) : Cv l y_TR_keepSums b_TR_keepSums 4 none rm_TR_keepSums D cy ad [.ref (ad b0), .int a1, .ref (ad b2), .int a3] M Q := by
  refine gm (by decide +kernel) hj (Nat.le_of_ble_eq_true rfl) (fun p e s m args below meth c ls C hl hI => ?_)
  have hl : lv_has ls 4 [(0, .ref (ad b0)), (1, .int a1), (2, .ref (ad b2)), (3, .int a3)] := hl
  obtain ⟨hx, hb, hml, hown, hts, hr, hlk, hK, hja⟩ := id C
  refine lv_aload_n hx hb d_TR_keepSums_0 rfl (lv_at hl 0 rfl) ?_
  refine gw_get (v := .ref (ad (b0 + 1))) C hI hb0.1 i_TR rfl 0 (by decide) kw_1_178 rfl rfl d_TR_keepSums_1 ?_
  refine lv_iconst (v := (4 : Int32)) hx hb d_TR_keepSums_4 (by decide) ?_
  refine gw_aald C hI hb0.2.1 rfl rfl (j := 4) (by decide) (k' := b0 + 6) (by omega) (vi_lit (4 : Int32) 7 (by decide)) d_TR_keepSums_5 ?_
  refine lv_iload_n hx hb d_TR_keepSums_6 rfl (lv_at hl 1 rfl) ?_
  refine lv_aload_n hx hb d_TR_keepSums_7 rfl (lv_at hl 2 rfl) ?_
  refine gw_get (v := .int (M.1 b2 0)) C hI hb2 i_SM rfl 0 (by decide) kw_1_89 rfl rfl d_TR_keepSums_8 ?_
  obtain ⟨g1, h⟩ := h
  refine gw_iast C hI (hb0.2.2.1 4 (by decide)) (j := a1.toNatClampNeg) rfl g1 d_TR_keepSums_11 (fun H locs hI => ?_)
  refine lv_aload_n hx hb d_TR_keepSums_12 rfl (lv_at hl 0 rfl) ?_
  refine gw_get (v := .ref (ad (b0 + 1))) C hI hb0.1 i_TR rfl 0 (by decide) kw_1_178 rfl rfl d_TR_keepSums_13 ?_
  refine lv_iconst (v := (5 : Int32)) hx hb d_TR_keepSums_16 (by decide) ?_
  refine gw_aald C hI hb0.2.1 rfl rfl (j := 5) (by decide) (k' := b0 + 7) (by omega) (vi_lit (5 : Int32) 7 (by decide)) d_TR_keepSums_17 ?_
  refine lv_iload_n hx hb d_TR_keepSums_18 rfl (lv_at hl 1 rfl) ?_
  refine lv_aload_n hx hb d_TR_keepSums_19 rfl (lv_at hl 2 rfl) ?_
  refine gw_get (v := .int ((wi M (b0 + 6) a1.toNatClampNeg (M.1 b2 0)).1 b2 1)) C hI hb2 i_SM rfl 1 (by decide) kw_1_92 rfl rfl d_TR_keepSums_20 ?_
  refine gw_iast C hI (hb0.2.2.1 5 (by decide)) (j := a1.toNatClampNeg) rfl g1 d_TR_keepSums_23 (fun H locs hI => ?_)
  refine lv_aload_n hx hb d_TR_keepSums_24 rfl (lv_at hl 0 rfl) ?_
  refine gw_get (v := .ref (ad (b0 + 9))) C hI hb0.1 i_TR rfl 1 (by decide) kw_1_181 rfl rfl d_TR_keepSums_25 ?_
  refine lv_iconst (v := (0 : Int32)) hx hb d_TR_keepSums_28 (by decide) ?_
  refine gw_aald C hI hb0.2.2.2.1 rfl rfl (j := 0) (by decide) (k' := b0 + 10) (by omega) (vi_lit (0 : Int32) 3 (by decide)) d_TR_keepSums_29 ?_
  refine lv_iload_n hx hb d_TR_keepSums_30 rfl (lv_at hl 1 rfl) ?_
  refine lv_aload_n hx hb d_TR_keepSums_31 rfl (lv_at hl 2 rfl) ?_
  refine gw_get (v := .long (M.2 b2 2)) C hI hb2 i_SM rfl 2 (by decide) kw_1_94 rfl rfl d_TR_keepSums_32 ?_
  refine gw_last C hI (hb0.2.2.2.2 0 (by decide)) (j := a1.toNatClampNeg) rfl g1 d_TR_keepSums_35 (fun H locs hI => ?_)
  refine lv_aload_n hx hb d_TR_keepSums_36 rfl (lv_at hl 0 rfl) ?_
  refine gw_get (v := .ref (ad (b0 + 9))) C hI hb0.1 i_TR rfl 1 (by decide) kw_1_181 rfl rfl d_TR_keepSums_37 ?_
  refine lv_iconst (v := (1 : Int32)) hx hb d_TR_keepSums_40 (by decide) ?_
  refine gw_aald C hI hb0.2.2.2.1 rfl rfl (j := 1) (by decide) (k' := b0 + 11) (by omega) (vi_lit (1 : Int32) 3 (by decide)) d_TR_keepSums_41 ?_
  refine lv_iload_n hx hb d_TR_keepSums_42 rfl (lv_at hl 1 rfl) ?_
  refine lv_aload_n hx hb d_TR_keepSums_43 rfl (lv_at hl 2 rfl) ?_
  refine lv_iload_n hx hb d_TR_keepSums_44 rfl (lv_at hl 3 rfl) ?_
  refine gw_Vl C hI hl.1 (As := [.int a3]) (rest := [.int a1, .ref (ad (b0 + 11))]) (c_SM_valueWith hja hb2 h) kV_TR_37 hb2 rfl rfl ⟨rfl, rfl⟩ ⟨Nat.le_of_ble_eq_true rfl, Nat.le_of_ble_eq_true rfl⟩ rfl (Nat.le_of_ble_eq_true rfl) ⟨Nat.zero_le _, Nat.zero_le _⟩ d_TR_keepSums_45 (fun r2 M3 H locs h hI => ?_)
  refine gw_last C hI (hb0.2.2.2.2 1 (by decide)) (j := a1.toNatClampNeg) rfl g1 d_TR_keepSums_48 (fun H locs hI => ?_)
  exact gr_v C hI h d_TR_keepSums_49
set_option maxHeartbeats 4000000 in
set_option maxRecDepth 100000 in
theorem L_TR_mayDivide_28 {p : Program} {l : Launch} {e : Env} {s : State} {m : MethodId} {args : Array Value} {below : List Frame} {meth : Method} {c : Code} {D : va_G} {cy : Nat → ClassId} {ad : Nat → Nat} (C : Cx p s m args meth c b_TR_mayDivide 3 (some .boolean) "BoostForests$Tree" D cy ad) {Q : Int32 → gM → Prop} {b0 : Nat} (hb0 : isTR b0) {M : gM} {H : Heap} {locs : List Loc} {ls : Array Slot} (h : wp_TR_mayDivide_28 Q b0 M) (hI : gI D cy ad s M H locs) (hl : lv_has ls 3 []) : W p l e rm_TR_mayDivide s m args below meth c H locs 0 0 (MQ below (va_Qi Q (gB D cy ad) (gA ad s.heap.size)) args s 0 0 (gA ad s.heap.size)) (F0 m 28 ls []) := by
  obtain ⟨hx, hb, hml, hown, hts, hr, hlk, hK, hja⟩ := id C
  refine lv_iconst (v := (0 : Int32)) hx hb d_TR_mayDivide_28 (by decide) ?_
  exact gr_z C hI rfl h d_TR_mayDivide_29
set_option maxHeartbeats 4000000 in
set_option maxRecDepth 100000 in
theorem c_TR_mayDivide {l : Launch} {D : va_G} {cy : Nat → ClassId} {ad : Nat → Nat} (hj : gJ ad) {b0 : Nat} (hb0 : isTR b0) {a1 : Int32} {a2 : Int32} {M : gM} {Q : Int32 → gM → Prop} (h : wp_TR_mayDivide Q b0 a1 a2 M) : Ci l y_TR_mayDivide b_TR_mayDivide 3 (some .boolean) rm_TR_mayDivide D cy ad [.ref (ad b0), .int a1, .int a2] M Q := by
  refine gm (by decide +kernel) hj (Nat.le_of_ble_eq_true rfl) (fun p e s m args below meth c ls C hl hI => ?_)
  have hl : lv_has ls 3 [(0, .ref (ad b0)), (1, .int a1), (2, .int a2)] := hl
  obtain ⟨hx, hb, hml, hown, hts, hr, hlk, hK, hja⟩ := id C
  refine lv_aload_n hx hb d_TR_mayDivide_0 rfl (lv_at hl 0 rfl) ?_
  refine gw_get (v := .ref (ad (b0 + 1))) C hI hb0.1 i_TR rfl 0 (by decide) kw_1_178 rfl rfl d_TR_mayDivide_1 ?_
  refine lv_bipush (v := (6 : Int32)) hx hb d_TR_mayDivide_4 (by decide) ?_
  refine gw_aald C hI hb0.2.1 rfl rfl (j := 6) (by decide) (k' := b0 + 8) (by omega) (vi_lit (6 : Int32) 7 (by decide)) d_TR_mayDivide_6 ?_
  refine lv_iload_n hx hb d_TR_mayDivide_7 rfl (lv_at hl 1 rfl) ?_
  obtain ⟨g1, h⟩ := h
  refine gw_iald C hI (hb0.2.2.1 6 (by decide)) (j := a1.toNatClampNeg) rfl (v := M.1 (b0 + 8) a1.toNatClampNeg) rfl g1 d_TR_mayDivide_8 ?_
  refine lv_iload_n hx hb d_TR_mayDivide_9 rfl (lv_at hl 2 rfl) ?_
  refine lv_icmp_ge (tgt := 28) hx hb d_TR_mayDivide_10 (by decide) (fun c3 => ?_) (fun c3 => ?_)
  · have h := h.1 c3
    exact L_TR_mayDivide_28 C hb0 h hI (lv_sub hl [] rfl)
  · have h := h.2 c3
    refine lv_aload_n hx hb d_TR_mayDivide_13 rfl (lv_at hl 0 rfl) ?_
    refine gw_get (v := .int (M.1 b0 2)) C hI hb0.1 i_TR rfl 2 (by decide) kw_1_184 rfl rfl d_TR_mayDivide_14 ?_
    refine lv_iconst (v := (2 : Int32)) hx hb d_TR_mayDivide_17 (by decide) ?_
    refine lv_iadd hx hb d_TR_mayDivide_18 ?_
    refine lv_bipush (v := (31 : Int32)) hx hb d_TR_mayDivide_19 (by decide) ?_
    refine lv_icmp_gt (tgt := 28) hx hb d_TR_mayDivide_21 (by decide) (fun c2 => ?_) (fun c2 => ?_)
    · have h := h.1 c2
      exact L_TR_mayDivide_28 C hb0 h hI (lv_sub hl [] rfl)
    · have h := h.2 c2
      refine lv_iconst (v := (1 : Int32)) hx hb d_TR_mayDivide_24 (by decide) ?_
      refine lv_goto (tgt := 29) hx hb d_TR_mayDivide_25 (by decide) ?_
      exact gr_z C hI rfl h d_TR_mayDivide_29
set_option maxHeartbeats 4000000 in
set_option maxRecDepth 100000 in
theorem c_TR_divide {l : Launch} {D : va_G} {cy : Nat → ClassId} {ad : Nat → Nat} (hj : gJ ad) {b0 : Nat} (hb0 : isTR b0) {a1 : Int32} {M : gM} {Q : gM → Prop} (h : wp_TR_divide Q b0 a1 M) : Cv l y_TR_divide b_TR_divide 3 none rm_TR_divide D cy ad [.ref (ad b0), .int a1, .ref (ad 108)] M Q := by
  refine gm (by decide +kernel) hj (Nat.le_of_ble_eq_true rfl) (fun p e s m args below meth c ls C hl hI => ?_)
  have hl : lv_has ls 3 [(0, .ref (ad b0)), (1, .int a1), (2, .ref (ad 108))] := hl
  obtain ⟨hx, hb, hml, hown, hts, hr, hlk, hK, hja⟩ := id C
  refine lv_aload_n hx hb d_TR_divide_0 rfl (lv_at hl 0 rfl) ?_
  refine gw_get (v := .ref (ad (b0 + 1))) C hI hb0.1 i_TR rfl 0 (by decide) kw_1_178 rfl rfl d_TR_divide_1 ?_
  refine lv_iconst (v := (0 : Int32)) hx hb d_TR_divide_4 (by decide) ?_
  refine gw_aald C hI hb0.2.1 rfl rfl (j := 0) (by decide) (k' := b0 + 2) (by omega) (vi_lit (0 : Int32) 7 (by decide)) d_TR_divide_5 ?_
  refine lv_iload_n hx hb d_TR_divide_6 rfl (lv_at hl 1 rfl) ?_
  refine lv_aload_n hx hb d_TR_divide_7 rfl (lv_at hl 2 rfl) ?_
  refine gw_get (v := .int (M.1 108 0)) C hI lay_108 i_SP rfl 0 (by decide) kw_1_111 rfl rfl d_TR_divide_8 ?_
  obtain ⟨g1, h⟩ := h
  refine gw_iast C hI (hb0.2.2.1 0 (by decide)) (j := a1.toNatClampNeg) rfl g1 d_TR_divide_11 (fun H locs hI => ?_)
  refine lv_aload_n hx hb d_TR_divide_12 rfl (lv_at hl 0 rfl) ?_
  refine gw_get (v := .ref (ad (b0 + 1))) C hI hb0.1 i_TR rfl 0 (by decide) kw_1_178 rfl rfl d_TR_divide_13 ?_
  refine lv_iconst (v := (1 : Int32)) hx hb d_TR_divide_16 (by decide) ?_
  refine gw_aald C hI hb0.2.1 rfl rfl (j := 1) (by decide) (k' := b0 + 3) (by omega) (vi_lit (1 : Int32) 7 (by decide)) d_TR_divide_17 ?_
  refine lv_iload_n hx hb d_TR_divide_18 rfl (lv_at hl 1 rfl) ?_
  refine lv_aload_n hx hb d_TR_divide_19 rfl (lv_at hl 2 rfl) ?_
  refine gw_get (v := .int ((wi M (b0 + 2) a1.toNatClampNeg (M.1 108 0)).1 108 1)) C hI lay_108 i_SP rfl 1 (by decide) kw_1_113 rfl rfl d_TR_divide_20 ?_
  refine gw_iast C hI (hb0.2.2.1 1 (by decide)) (j := a1.toNatClampNeg) rfl g1 d_TR_divide_23 (fun H locs hI => ?_)
  refine lv_aload_n hx hb d_TR_divide_24 rfl (lv_at hl 0 rfl) ?_
  refine gw_get (v := .ref (ad (b0 + 1))) C hI hb0.1 i_TR rfl 0 (by decide) kw_1_178 rfl rfl d_TR_divide_25 ?_
  refine lv_iconst (v := (2 : Int32)) hx hb d_TR_divide_28 (by decide) ?_
  refine gw_aald C hI hb0.2.1 rfl rfl (j := 2) (by decide) (k' := b0 + 4) (by omega) (vi_lit (2 : Int32) 7 (by decide)) d_TR_divide_29 ?_
  refine lv_iload_n hx hb d_TR_divide_30 rfl (lv_at hl 1 rfl) ?_
  refine lv_aload_n hx hb d_TR_divide_31 rfl (lv_at hl 2 rfl) ?_
  refine gw_get (v := .int ((wi (wi M (b0 + 2) a1.toNatClampNeg (M.1 108 0)) (b0 + 3) a1.toNatClampNeg ((wi M (b0 + 2) a1.toNatClampNeg (M.1 108 0)).1 108 1)).1 108 2)) C hI lay_108 i_SP rfl 2 (by decide) kw_1_115 rfl rfl d_TR_divide_32 ?_
  refine gw_iast C hI (hb0.2.2.1 2 (by decide)) (j := a1.toNatClampNeg) rfl g1 d_TR_divide_35 (fun H locs hI => ?_)
  refine lv_aload_n hx hb d_TR_divide_36 rfl (lv_at hl 0 rfl) ?_
  refine gw_get (v := .ref (ad (b0 + 1))) C hI hb0.1 i_TR rfl 0 (by decide) kw_1_178 rfl rfl d_TR_divide_37 ?_
  refine lv_iconst (v := (3 : Int32)) hx hb d_TR_divide_40 (by decide) ?_
  refine gw_aald C hI hb0.2.1 rfl rfl (j := 3) (by decide) (k' := b0 + 5) (by omega) (vi_lit (3 : Int32) 7 (by decide)) d_TR_divide_41 ?_
  refine lv_iload_n hx hb d_TR_divide_42 rfl (lv_at hl 1 rfl) ?_
  refine lv_aload_n hx hb d_TR_divide_43 rfl (lv_at hl 0 rfl) ?_
  refine gw_get (v := .int ((wi (wi (wi M (b0 + 2) a1.toNatClampNeg (M.1 108 0)) (b0 + 3) a1.toNatClampNeg ((wi M (b0 + 2) a1.toNatClampNeg (M.1 108 0)).1 108 1)) (b0 + 4) a1.toNatClampNeg ((wi (wi M (b0 + 2) a1.toNatClampNeg (M.1 108 0)) (b0 + 3) a1.toNatClampNeg ((wi M (b0 + 2) a1.toNatClampNeg (M.1 108 0)).1 108 1)).1 108 2)).1 b0 2)) C hI hb0.1 i_TR rfl 2 (by decide) kw_1_184 rfl rfl d_TR_divide_44 ?_
  refine gw_iast C hI (hb0.2.2.1 3 (by decide)) (j := a1.toNatClampNeg) rfl g1 d_TR_divide_47 (fun H locs hI => ?_)
  refine lv_aload_n hx hb d_TR_divide_48 rfl (lv_at hl 0 rfl) ?_
  refine gw_get (v := .ref (ad (b0 + 9))) C hI hb0.1 i_TR rfl 1 (by decide) kw_1_181 rfl rfl d_TR_divide_49 ?_
  refine lv_iconst (v := (2 : Int32)) hx hb d_TR_divide_52 (by decide) ?_
  refine gw_aald C hI hb0.2.2.2.1 rfl rfl (j := 2) (by decide) (k' := b0 + 12) (by omega) (vi_lit (2 : Int32) 3 (by decide)) d_TR_divide_53 ?_
  refine lv_iload_n hx hb d_TR_divide_54 rfl (lv_at hl 1 rfl) ?_
  refine lv_aload_n hx hb d_TR_divide_55 rfl (lv_at hl 2 rfl) ?_
  refine gw_get (v := .long (M.2 108 3)) C hI lay_108 i_SP rfl 3 (by decide) kw_1_117 rfl rfl d_TR_divide_56 ?_
  refine gw_last C hI (hb0.2.2.2.2 2 (by decide)) (j := a1.toNatClampNeg) rfl g1 d_TR_divide_59 (fun H locs hI => ?_)
  refine lv_aload_n hx hb d_TR_divide_60 rfl (lv_at hl 0 rfl) ?_
  refine lv_aload_n hx hb d_TR_divide_61 rfl (lv_at hl 0 rfl) ?_
  refine gw_get (v := .ref (ad (b0 + 1))) C hI hb0.1 i_TR rfl 0 (by decide) kw_1_178 rfl rfl d_TR_divide_62 ?_
  refine lv_bipush (v := (6 : Int32)) hx hb d_TR_divide_65 (by decide) ?_
  refine gw_aald C hI hb0.2.1 rfl rfl (j := 6) (by decide) (k' := b0 + 8) (by omega) (vi_lit (6 : Int32) 7 (by decide)) d_TR_divide_67 ?_
  refine lv_iload_n hx hb d_TR_divide_68 rfl (lv_at hl 1 rfl) ?_
  refine gw_iald C hI (hb0.2.2.1 6 (by decide)) (j := a1.toNatClampNeg) rfl (v := (wi (wi (wi (wi M (b0 + 2) a1.toNatClampNeg (M.1 108 0)) (b0 + 3) a1.toNatClampNeg ((wi M (b0 + 2) a1.toNatClampNeg (M.1 108 0)).1 108 1)) (b0 + 4) a1.toNatClampNeg ((wi (wi M (b0 + 2) a1.toNatClampNeg (M.1 108 0)) (b0 + 3) a1.toNatClampNeg ((wi M (b0 + 2) a1.toNatClampNeg (M.1 108 0)).1 108 1)).1 108 2)) (b0 + 5) a1.toNatClampNeg ((wi (wi (wi M (b0 + 2) a1.toNatClampNeg (M.1 108 0)) (b0 + 3) a1.toNatClampNeg ((wi M (b0 + 2) a1.toNatClampNeg (M.1 108 0)).1 108 1)) (b0 + 4) a1.toNatClampNeg ((wi (wi M (b0 + 2) a1.toNatClampNeg (M.1 108 0)) (b0 + 3) a1.toNatClampNeg ((wi M (b0 + 2) a1.toNatClampNeg (M.1 108 0)).1 108 1)).1 108 2)).1 b0 2)).1 (b0 + 8) a1.toNatClampNeg) rfl g1 d_TR_divide_69 ?_
  refine lv_iconst (v := (1 : Int32)) hx hb d_TR_divide_70 (by decide) ?_
  refine lv_iadd hx hb d_TR_divide_71 ?_
  refine gw_Vv C hI hl.1 (As := [.int (((wi (wi (wi (wi M (b0 + 2) a1.toNatClampNeg (M.1 108 0)) (b0 + 3) a1.toNatClampNeg ((wi M (b0 + 2) a1.toNatClampNeg (M.1 108 0)).1 108 1)) (b0 + 4) a1.toNatClampNeg ((wi (wi M (b0 + 2) a1.toNatClampNeg (M.1 108 0)) (b0 + 3) a1.toNatClampNeg ((wi M (b0 + 2) a1.toNatClampNeg (M.1 108 0)).1 108 1)).1 108 2)) (b0 + 5) a1.toNatClampNeg ((wi (wi (wi M (b0 + 2) a1.toNatClampNeg (M.1 108 0)) (b0 + 3) a1.toNatClampNeg ((wi M (b0 + 2) a1.toNatClampNeg (M.1 108 0)).1 108 1)) (b0 + 4) a1.toNatClampNeg ((wi (wi M (b0 + 2) a1.toNatClampNeg (M.1 108 0)) (b0 + 3) a1.toNatClampNeg ((wi M (b0 + 2) a1.toNatClampNeg (M.1 108 0)).1 108 1)).1 108 2)).1 b0 2)).1 (b0 + 8) a1.toNatClampNeg) + (1 : Int32))]) (rest := []) (c_TR_appendNode hja hb0 h) kV_TR_55 hb0.1 rfl rfl ⟨rfl, rfl⟩ ⟨Nat.le_of_ble_eq_true rfl, Nat.le_of_ble_eq_true rfl⟩ rfl (Nat.le_of_ble_eq_true rfl) ⟨Nat.zero_le _, Nat.zero_le _⟩ d_TR_divide_72 (fun M3 H locs h hI => ?_)
  refine lv_aload_n hx hb d_TR_divide_75 rfl (lv_at hl 0 rfl) ?_
  refine lv_aload_n hx hb d_TR_divide_76 rfl (lv_at hl 0 rfl) ?_
  refine gw_get (v := .ref (ad (b0 + 1))) C hI hb0.1 i_TR rfl 0 (by decide) kw_1_178 rfl rfl d_TR_divide_77 ?_
  refine lv_bipush (v := (6 : Int32)) hx hb d_TR_divide_80 (by decide) ?_
  refine gw_aald C hI hb0.2.1 rfl rfl (j := 6) (by decide) (k' := b0 + 8) (by omega) (vi_lit (6 : Int32) 7 (by decide)) d_TR_divide_82 ?_
  refine lv_iload_n hx hb d_TR_divide_83 rfl (lv_at hl 1 rfl) ?_
  refine gw_iald C hI (hb0.2.2.1 6 (by decide)) (j := a1.toNatClampNeg) rfl (v := M3.1 (b0 + 8) a1.toNatClampNeg) rfl g1 d_TR_divide_84 ?_
  refine lv_iconst (v := (1 : Int32)) hx hb d_TR_divide_85 (by decide) ?_
  refine lv_iadd hx hb d_TR_divide_86 ?_
  refine gw_Vv C hI hl.1 (As := [.int ((M3.1 (b0 + 8) a1.toNatClampNeg) + (1 : Int32))]) (rest := []) (c_TR_appendNode hja hb0 h) kV_TR_55 hb0.1 rfl rfl ⟨rfl, rfl⟩ ⟨Nat.le_of_ble_eq_true rfl, Nat.le_of_ble_eq_true rfl⟩ rfl (Nat.le_of_ble_eq_true rfl) ⟨Nat.zero_le _, Nat.zero_le _⟩ d_TR_divide_87 (fun M5 H locs h hI => ?_)
  exact gr_v C hI h d_TR_divide_90
set_option maxHeartbeats 4000000 in
set_option maxRecDepth 100000 in
theorem L_TR_stepFrom_85 {p : Program} {l : Launch} {e : Env} {s : State} {m : MethodId} {args : Array Value} {below : List Frame} {meth : Method} {c : Code} {D : va_G} {cy : Nat → ClassId} {ad : Nat → Nat} (C : Cx p s m args meth c b_TR_stepFrom 6 (some .int) "BoostForests$Tree" D cy ad) {Q : Int32 → gM → Prop} {b0 : Nat} {b2 : Nat} (hb0 : isTR b0) (hb2 : lay b2 = .inl (0, 4, 0, 0)) {s0 : Int32} {s1 : Int32} {M : gM} {H : Heap} {locs : List Loc} {ls : Array Slot} (h : wp_TR_stepFrom_85 Q b0 b2 s0 s1 M) (hI : gI D cy ad s M H locs) (hl : lv_has ls 6 []) : W p l e rm_TR_stepFrom s m args below meth c H locs 0 0 (MQ below (va_Qi Q (gB D cy ad) (gA ad s.heap.size)) args s 0 0 (gA ad s.heap.size)) (F0 m 85 ls [.int s0, .int s1]) := by
  obtain ⟨hx, hb, hml, hown, hts, hr, hlk, hK, hja⟩ := id C
  refine lv_iadd hx hb d_TR_stepFrom_85 ?_
  exact gr_i C hI h d_TR_stepFrom_86
set_option maxHeartbeats 4000000 in
set_option maxRecDepth 100000 in
theorem L_TR_stepFrom_65 {p : Program} {l : Launch} {e : Env} {s : State} {m : MethodId} {args : Array Value} {below : List Frame} {meth : Method} {c : Code} {D : va_G} {cy : Nat → ClassId} {ad : Nat → Nat} (C : Cx p s m args meth c b_TR_stepFrom 6 (some .int) "BoostForests$Tree" D cy ad) {Q : Int32 → gM → Prop} {b0 : Nat} {b2 : Nat} (hb0 : isTR b0) (hb2 : lay b2 = .inl (0, 4, 0, 0)) {x1 : Int32} {s0 : Int32} {M : gM} {H : Heap} {locs : List Loc} {ls : Array Slot} (h : wp_TR_stepFrom_65 Q b0 b2 x1 s0 M) (hI : gI D cy ad s M H locs) (hl : lv_has ls 6 [(0, .ref (ad b0)), (1, .int x1)]) : W p l e rm_TR_stepFrom s m args below meth c H locs 0 0 (MQ below (va_Qi Q (gB D cy ad) (gA ad s.heap.size)) args s 0 0 (gA ad s.heap.size)) (F0 m 65 ls [.int s0]) := by
  obtain ⟨hx, hb, hml, hown, hts, hr, hlk, hK, hja⟩ := id C
  refine lv_istore (lv' := [(5, .int s0), (0, .ref (ad b0)), (1, .int x1)]) hx hb d_TR_stepFrom_65 hl (by decide) rfl (fun ls hl => ?_)
  refine lv_aload_n hx hb d_TR_stepFrom_67 rfl (lv_at hl 1 rfl) ?_
  refine gw_get (v := .ref (ad (b0 + 1))) C hI hb0.1 i_TR rfl 0 (by decide) kw_1_178 rfl rfl d_TR_stepFrom_68 ?_
  refine lv_iconst (v := (3 : Int32)) hx hb d_TR_stepFrom_71 (by decide) ?_
  refine gw_aald C hI hb0.2.1 rfl rfl (j := 3) (by decide) (k' := b0 + 5) (by omega) (vi_lit (3 : Int32) 7 (by decide)) d_TR_stepFrom_72 ?_
  refine lv_iload_n hx hb d_TR_stepFrom_73 rfl (lv_at hl 2 rfl) ?_
  obtain ⟨g1, h⟩ := h
  refine gw_iald C hI (hb0.2.2.1 3 (by decide)) (j := x1.toNatClampNeg) rfl (v := M.1 (b0 + 5) x1.toNatClampNeg) rfl g1 d_TR_stepFrom_74 ?_
  refine lv_iload hx hb d_TR_stepFrom_75 (lv_at hl 0 rfl) ?_
  refine lv_if_eq (tgt := 84) hx hb d_TR_stepFrom_77 (by decide) (fun c2 => ?_) (fun c2 => ?_)
  · have h := h.1 c2
    refine lv_iconst (v := (0 : Int32)) hx hb d_TR_stepFrom_84 (by decide) ?_
    exact L_TR_stepFrom_85 C hb0 hb2 h hI (lv_sub hl [] rfl)
  · have h := h.2 c2
    refine lv_iconst (v := (1 : Int32)) hx hb d_TR_stepFrom_80 (by decide) ?_
    refine lv_goto (tgt := 85) hx hb d_TR_stepFrom_81 (by decide) ?_
    exact L_TR_stepFrom_85 C hb0 hb2 h hI (lv_sub hl [] rfl)
set_option maxHeartbeats 4000000 in
set_option maxRecDepth 100000 in
theorem c_TR_stepFrom {l : Launch} {D : va_G} {cy : Nat → ClassId} {ad : Nat → Nat} (hj : gJ ad) {b0 : Nat} {b2 : Nat} (hb0 : isTR b0) (hb2 : lay b2 = .inl (0, 4, 0, 0)) {a1 : Int32} {M : gM} {Q : Int32 → gM → Prop} (h : wp_TR_stepFrom Q b0 b2 a1 M) : Ci l y_TR_stepFrom b_TR_stepFrom 6 (some .int) rm_TR_stepFrom D cy ad [.ref (ad b0), .int a1, .ref (ad b2)] M Q := by
  refine gm (by decide +kernel) hj (Nat.le_of_ble_eq_true rfl) (fun p e s m args below meth c ls C hl hI => ?_)
  have hl : lv_has ls 6 [(0, .ref (ad b0)), (1, .int a1), (2, .ref (ad b2))] := hl
  obtain ⟨hx, hb, hml, hown, hts, hr, hlk, hK, hja⟩ := id C
  refine lv_aload_n hx hb d_TR_stepFrom_0 rfl (lv_at hl 0 rfl) ?_
  refine gw_get (v := .ref (ad (b0 + 1))) C hI hb0.1 i_TR rfl 0 (by decide) kw_1_178 rfl rfl d_TR_stepFrom_1 ?_
  refine lv_iconst (v := (0 : Int32)) hx hb d_TR_stepFrom_4 (by decide) ?_
  refine gw_aald C hI hb0.2.1 rfl rfl (j := 0) (by decide) (k' := b0 + 2) (by omega) (vi_lit (0 : Int32) 7 (by decide)) d_TR_stepFrom_5 ?_
  refine lv_iload_n hx hb d_TR_stepFrom_6 rfl (lv_at hl 1 rfl) ?_
  obtain ⟨g3, h⟩ := h
  refine gw_iald C hI (hb0.2.2.1 0 (by decide)) (j := a1.toNatClampNeg) rfl (v := M.1 (b0 + 2) a1.toNatClampNeg) rfl g3 d_TR_stepFrom_7 ?_
  refine lv_istore_n (lv' := [(3, .int (M.1 (b0 + 2) a1.toNatClampNeg)), (0, .ref (ad b0)), (1, .int a1), (2, .ref (ad b2))]) hx hb d_TR_stepFrom_8 rfl hl (by decide) rfl (fun ls hl => ?_)
  refine lv_iload_n hx hb d_TR_stepFrom_9 rfl (lv_at hl 0 rfl) ?_
  refine lv_iconst (v := (-1 : Int32)) hx hb d_TR_stepFrom_10 (by decide) ?_
  refine lv_icmp_ne (tgt := 16) hx hb d_TR_stepFrom_11 (by decide) (fun c8 => ?_) (fun c8 => ?_)
  · have h := h.1 c8
    refine lv_aload_n hx hb d_TR_stepFrom_16 rfl (lv_at hl 3 rfl) ?_
    refine lv_iload_n hx hb d_TR_stepFrom_17 rfl (lv_at hl 0 rfl) ?_
    obtain ⟨g4, h⟩ := h
    refine gw_iald C hI hb2 (j := (M.1 (b0 + 2) a1.toNatClampNeg).toNatClampNeg) rfl (v := M.1 b2 ((M.1 (b0 + 2) a1.toNatClampNeg).toNatClampNeg)) rfl g4 d_TR_stepFrom_18 ?_
    refine lv_istore (lv' := [(4, .int (M.1 b2 ((M.1 (b0 + 2) a1.toNatClampNeg).toNatClampNeg))), (3, .int (M.1 (b0 + 2) a1.toNatClampNeg)), (0, .ref (ad b0)), (1, .int a1), (2, .ref (ad b2))]) hx hb d_TR_stepFrom_19 hl (by decide) rfl (fun ls hl => ?_)
    refine lv_iload hx hb d_TR_stepFrom_21 (lv_at hl 0 rfl) ?_
    refine lv_iconst (v := (-1 : Int32)) hx hb d_TR_stepFrom_23 (by decide) ?_
    refine lv_icmp_ne (tgt := 47) hx hb d_TR_stepFrom_24 (by decide) (fun c7 => ?_) (fun c7 => ?_)
    · have h := h.1 c7
      refine lv_iload hx hb d_TR_stepFrom_47 (lv_at hl 0 rfl) ?_
      refine lv_aload_n hx hb d_TR_stepFrom_49 rfl (lv_at hl 2 rfl) ?_
      refine gw_get (v := .ref (ad (b0 + 1))) C hI hb0.1 i_TR rfl 0 (by decide) kw_1_178 rfl rfl d_TR_stepFrom_50 ?_
      refine lv_iconst (v := (1 : Int32)) hx hb d_TR_stepFrom_53 (by decide) ?_
      refine gw_aald C hI hb0.2.1 rfl rfl (j := 1) (by decide) (k' := b0 + 3) (by omega) (vi_lit (1 : Int32) 7 (by decide)) d_TR_stepFrom_54 ?_
      refine lv_iload_n hx hb d_TR_stepFrom_55 rfl (lv_at hl 3 rfl) ?_
      refine gw_iald C hI (hb0.2.2.1 1 (by decide)) (j := a1.toNatClampNeg) rfl (v := M.1 (b0 + 3) a1.toNatClampNeg) rfl g3 d_TR_stepFrom_56 ?_
      refine lv_icmp_le (tgt := 64) hx hb d_TR_stepFrom_57 (by decide) (fun c5 => ?_) (fun c5 => ?_)
      · have h := h.1 c5
        refine lv_iconst (v := (0 : Int32)) hx hb d_TR_stepFrom_64 (by decide) ?_
        exact L_TR_stepFrom_65 C hb0 hb2 h hI (lv_sub hl [2, 3] rfl)
      · have h := h.2 c5
        refine lv_iconst (v := (1 : Int32)) hx hb d_TR_stepFrom_60 (by decide) ?_
        refine lv_goto (tgt := 65) hx hb d_TR_stepFrom_61 (by decide) ?_
        exact L_TR_stepFrom_65 C hb0 hb2 h hI (lv_sub hl [2, 3] rfl)
    · have h := h.2 c7
      refine lv_aload_n hx hb d_TR_stepFrom_27 rfl (lv_at hl 2 rfl) ?_
      refine gw_get (v := .ref (ad (b0 + 1))) C hI hb0.1 i_TR rfl 0 (by decide) kw_1_178 rfl rfl d_TR_stepFrom_28 ?_
      refine lv_iconst (v := (2 : Int32)) hx hb d_TR_stepFrom_31 (by decide) ?_
      refine gw_aald C hI hb0.2.1 rfl rfl (j := 2) (by decide) (k' := b0 + 4) (by omega) (vi_lit (2 : Int32) 7 (by decide)) d_TR_stepFrom_32 ?_
      refine lv_iload_n hx hb d_TR_stepFrom_33 rfl (lv_at hl 3 rfl) ?_
      refine gw_iald C hI (hb0.2.2.1 2 (by decide)) (j := a1.toNatClampNeg) rfl (v := M.1 (b0 + 4) a1.toNatClampNeg) rfl g3 d_TR_stepFrom_34 ?_
      refine lv_iconst (v := (1 : Int32)) hx hb d_TR_stepFrom_35 (by decide) ?_
      refine lv_icmp_ne (tgt := 43) hx hb d_TR_stepFrom_36 (by decide) (fun c6 => ?_) (fun c6 => ?_)
      · have h := h.1 c6
        refine lv_iconst (v := (0 : Int32)) hx hb d_TR_stepFrom_43 (by decide) ?_
        refine lv_goto (tgt := 65) hx hb d_TR_stepFrom_44 (by decide) ?_
        exact L_TR_stepFrom_65 C hb0 hb2 h hI (lv_sub hl [2, 3] rfl)
      · have h := h.2 c6
        refine lv_iconst (v := (1 : Int32)) hx hb d_TR_stepFrom_39 (by decide) ?_
        refine lv_goto (tgt := 65) hx hb d_TR_stepFrom_40 (by decide) ?_
        exact L_TR_stepFrom_65 C hb0 hb2 h hI (lv_sub hl [2, 3] rfl)
  · have h := h.2 c8
    refine lv_iload_n hx hb d_TR_stepFrom_14 rfl (lv_at hl 2 rfl) ?_
    exact gr_i C hI h d_TR_stepFrom_15
set_option maxHeartbeats 4000000 in
set_option maxRecDepth 100000 in
theorem L_TR_leafOf_4 {p : Program} {l : Launch} {e : Env} {s : State} {m : MethodId} {args : Array Value} {below : List Frame} {meth : Method} {c : Code} {D : va_G} {cy : Nat → ClassId} {ad : Nat → Nat} (C : Cx p s m args meth c b_TR_leafOf 4 (some .int) "BoostForests$Tree" D cy ad) {Q : Int32 → gM → Prop} {b0 : Nat} {b1 : Nat} (hb0 : isTR b0) (hb1 : lay b1 = .inl (0, 4, 0, 0)) (n : Nat) : ∀ (x2 : Int32) (x3 : Int32) (M : gM) (H : Heap) (locs : List Loc) (ls : Array Slot), wp_TR_leafOf_4 Q b0 b1 n x2 x3 M → gI D cy ad s M H locs → lv_has ls 4 [(0, .ref (ad b0)), (1, .ref (ad b1)), (2, .int x2), (3, .int x3)] → W p l e rm_TR_leafOf s m args below meth c H locs 0 0 (MQ below (va_Qi Q (gB D cy ad) (gA ad s.heap.size)) args s 0 0 (gA ad s.heap.size)) (F0 m 4 ls []) := by
  obtain ⟨hx, hb, hml, hown, hts, hr, hlk, hK, hja⟩ := id C
  induction n with
  | zero => exact fun _ _ _ _ _ _ h _ _ => h.elim
  | succ n ih =>
    intro x2 x3 M H locs ls h hI hl
    have h := h
    refine lv_iload_n hx hb d_TR_leafOf_4 rfl (lv_at hl 3 rfl) ?_
    refine lv_iconst (v := (4 : Int32)) hx hb d_TR_leafOf_5 (by decide) ?_
    refine lv_icmp_ge (tgt := 22) hx hb d_TR_leafOf_6 (by decide) (fun c3 => ?_) (fun c3 => ?_)
    · have h := h.1 c3
      refine lv_iload_n hx hb d_TR_leafOf_22 rfl (lv_at hl 2 rfl) ?_
      exact gr_i C hI h d_TR_leafOf_23
    · have h := h.2 c3
      refine lv_aload_n hx hb d_TR_leafOf_9 rfl (lv_at hl 0 rfl) ?_
      refine lv_iload_n hx hb d_TR_leafOf_10 rfl (lv_at hl 2 rfl) ?_
      refine lv_aload_n hx hb d_TR_leafOf_11 rfl (lv_at hl 1 rfl) ?_
      refine gw_Vi C hI hl.1 (As := [.int x2, .ref (ad b1)]) (rest := []) (c_TR_stepFrom hja hb0 hb1 h) kV_TR_59 hb0.1 rfl rfl ⟨rfl, rfl⟩ ⟨Nat.le_of_ble_eq_true rfl, Nat.le_of_ble_eq_true rfl⟩ rfl (Nat.le_of_ble_eq_true rfl) ⟨Nat.zero_le _, Nat.zero_le _⟩ d_TR_leafOf_12 (fun r1 M2 H locs h hI => ?_)
      refine lv_istore_n (lv' := [(2, .int r1), (0, .ref (ad b0)), (1, .ref (ad b1)), (3, .int x3)]) hx hb d_TR_leafOf_15 rfl hl (by decide) rfl (fun ls hl => ?_)
      refine lv_iinc (v := x3 + 1) (lv' := [(3, .int (x3 + 1)), (2, .int r1), (0, .ref (ad b0)), (1, .ref (ad b1))]) hx hb d_TR_leafOf_16 hl (k := 3) rfl rfl (by decide) rfl (fun ls hl => ?_)
      refine lv_goto (tgt := 4) hx hb d_TR_leafOf_19 (by decide) ?_
      exact ih r1 (x3 + 1) M2 _ _ _ h hI (lv_sub hl [2, 3, 1, 0] rfl)
set_option maxHeartbeats 4000000 in
set_option maxRecDepth 100000 in
theorem c_TR_leafOf {l : Launch} {D : va_G} {cy : Nat → ClassId} {ad : Nat → Nat} (hj : gJ ad) {b0 : Nat} {b1 : Nat} (hb0 : isTR b0) (hb1 : lay b1 = .inl (0, 4, 0, 0)) {M : gM} {Q : Int32 → gM → Prop} (h : wp_TR_leafOf Q b0 b1 M) : Ci l y_TR_leafOf b_TR_leafOf 4 (some .int) rm_TR_leafOf D cy ad [.ref (ad b0), .ref (ad b1)] M Q := by
  refine gm (by decide +kernel) hj (Nat.le_of_ble_eq_true rfl) (fun p e s m args below meth c ls C hl hI => ?_)
  have hl : lv_has ls 4 [(0, .ref (ad b0)), (1, .ref (ad b1))] := hl
  obtain ⟨hx, hb, hml, hown, hts, hr, hlk, hK, hja⟩ := id C
  refine lv_iconst (v := (0 : Int32)) hx hb d_TR_leafOf_0 (by decide) ?_
  refine lv_istore_n (lv' := [(2, .int (0 : Int32)), (0, .ref (ad b0)), (1, .ref (ad b1))]) hx hb d_TR_leafOf_1 rfl hl (by decide) rfl (fun ls hl => ?_)
  refine lv_iconst (v := (0 : Int32)) hx hb d_TR_leafOf_2 (by decide) ?_
  refine lv_istore_n (lv' := [(3, .int (0 : Int32)), (2, .int (0 : Int32)), (0, .ref (ad b0)), (1, .ref (ad b1))]) hx hb d_TR_leafOf_3 rfl hl (by decide) rfl (fun ls hl => ?_)
  obtain ⟨n4, h⟩ := h
  exact L_TR_leafOf_4 C hb0 hb1 n4 (0 : Int32) (0 : Int32) M _ _ _ h hI (lv_sub hl [2, 3, 1, 0] rfl)
